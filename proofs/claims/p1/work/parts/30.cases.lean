set_option maxHeartbeats 4000000 in
set_option maxRecDepth 100000 in
theorem lc_28 {p : Program} {e : Env} {s : State} {m : MethodId} {below : List Frame} {meth : Method} {c : Code} (l : Launch) (hst : l.stackTraces = false) {b : Nat} {xs : Nat → Int32} (C0 : lw_At p s m meth c b 5 xs) (dC : Nat → ClassId) (dI : Nat → Nat → Nat) (g : Nat → Nat) (a0 a1 a2 a3 a4 a5 a6 a7 a8 a9 a10 a11 a12 a13 a14 a15 a16 a17 a18 a19 a20 a21 a22 a23 a24 a25 a26 a27 a28 a29 a30 a31 a32 a33 a34 : Nat) {A : Nat → Prop} (hAe : (fun q : Nat => s.heap.size ≤ q) = A) (hE : EV dC dI g A s) (hA : ∀ q : Nat, s.heap.size ≤ q → A q) (hbA : ¬ A b) (H : Heap) (locs : List Loc) (hP : va_P (dC, dI) CL [(a3, .inr (12, [.ref a4, .ref a5, .ref a6, .ref a7, .ref a8, .ref a9, .ref a10, .ref a11, .null, .ref a12, .ref a13, .int (0), .int (100), .int (0), .int (0), .int (-1), .long (0), .int (1)])), (a6, .inr (11, [.int (0), .ref a14, .ref a15, .ref a16, .ref a17, .ref a18, .ref a19, .ref a20, .ref a21, .ref a22])), (a2, .inr (15, [.int (0), .int (0), .int (100), .int (0), .int (0), .ref a23, .ref a24, .ref a25, .ref a26, .ref a27, .ref a28, .ref a29, .ref a30, .ref a31, .ref a32, .ref a33, .null, .int (-1), .ref a34, .long (0)])), (a31, .inr (1, [.int (0), .ref (g 21), .int (0)]))] H) (hD : va_D A [(a3, .inr (12, [.ref a4, .ref a5, .ref a6, .ref a7, .ref a8, .ref a9, .ref a10, .ref a11, .null, .ref a12, .ref a13, .int (0), .int (100), .int (0), .int (0), .int (-1), .long (0), .int (1)])), (a6, .inr (11, [.int (0), .ref a14, .ref a15, .ref a16, .ref a17, .ref a18, .ref a19, .ref a20, .ref a21, .ref a22])), (a2, .inr (15, [.int (0), .int (0), .int (100), .int (0), .int (0), .ref a23, .ref a24, .ref a25, .ref a26, .ref a27, .ref a28, .ref a29, .ref a30, .ref a31, .ref a32, .ref a33, .null, .int (-1), .ref a34, .long (0)])), (a31, .inr (1, [.int (0), .ref (g 21), .int (0)]))]) (hS : va_S A s.heap H locs) (ls : Array Slot) (hl : lv_has ls 9 [(5, .int (0)), (4, .ref a0), (3, .ref a1), (2, .ref a2), (1, .ref a3), (0, .ref b)]) :
    W p l e room_1 s m #[Value.ref b] below meth c H locs 243 2771 (lw_Z below #[Value.ref b] s) (F0 m 44 ls [.int (28)]) := by
  obtain ⟨hx, hb, hr, hml, hown, hts0, hXs, hbl, hlk, hgv⟩ := id C0
  have hts : ∀ w ∈ AW, w.before #[Value.ref b] s = true := fun w h => hts0 w (aw_tbl h)
  have hown : s.vm.findClass "MinestrataLaw" = some m.cls := hown
  have hK := hE.1
  obtain ⟨s1, es1⟩ : ∃ y : Int32, xs (Int32.toNatClampNeg (1)) = y := ⟨_, rfl⟩
  obtain ⟨s2, es2⟩ : ∃ y : Int32, xs (Int32.toNatClampNeg (2)) = y := ⟨_, rfl⟩
  obtain ⟨s3, es3⟩ : ∃ y : Int32, xs (Int32.toNatClampNeg (3)) = y := ⟨_, rfl⟩
  obtain ⟨s4, es4⟩ : ∃ y : Int32, xs (Int32.toNatClampNeg (4)) = y := ⟨_, rfl⟩
  refine lv_tableIn (tgt := 1975) (off := 1931) hx hb dL_law_44 (by decide +kernel) (by decide +kernel) rfl (by decide +kernel) ?_
  refine lv_aload_n hx hb dL_law_1975 rfl (lv_at hl 4 rfl) ?_
  refine lv_aload_n hx hb dL_law_1976 rfl (lv_at hl 5 rfl) ?_
  refine lv_iload hx hb dL_law_1977 (lv_at hl 0 rfl) ?_
  refine lv_iconst (v := (1)) hx hb dL_law_1979 (by decide +kernel) ?_
  refine lv_iadd hx hb dL_law_1980 ?_
  refine nt_i (v := (1)) (by decide +kernel) ?_
  refine va_sld hx hb hXs hbl hbA hS (show ¬ ((1 : Int32) < 0 ∨ 5 ≤ Int32.toNatClampNeg (1)) by decide +kernel) dL_law_1981 ?_
  refine nt_i (v := s1) es1 ?_
  refine lv_aload_n hx hb dL_law_1982 rfl (lv_at hl 2 rfl) ?_
  have hX : nCx p s m _ c code 9 "MinestrataLaw" dC dI g A [(a3, .inr (12, [.ref a4, .ref a5, .ref a6, .ref a7, .ref a8, .ref a9, .ref a10, .ref a11, .null, .ref a12, .ref a13, .int (0), .int (100), .int (0), .int (0), .int (-1), .long (0), .int (1)])), (a6, .inr (11, [.int (0), .ref a14, .ref a15, .ref a16, .ref a17, .ref a18, .ref a19, .ref a20, .ref a21, .ref a22])), (a2, .inr (15, [.int (0), .int (0), .int (100), .int (0), .int (0), .ref a23, .ref a24, .ref a25, .ref a26, .ref a27, .ref a28, .ref a29, .ref a30, .ref a31, .ref a32, .ref a33, .null, .int (-1), .ref a34, .long (0)])), (a31, .inr (1, [.int (0), .ref (g 21), .int (0)]))] _ _ := ⟨⟨hx, hb, hml, hown, hts⟩, hE, hS, hA, hP, hD⟩
  refine n_call (wr := [(a2, .inr (15, [.int (0), .int (0), .int (100), .int (0), .int (0), .ref a23, .ref a24, .ref a25, .ref a26, .ref a27, .ref a28, .ref a29, .ref a30, .ref a31, .ref a32, .ref a33, .null, .int (-1), .ref a34, .long (0)])), (a31, .inr (1, [.int (0), .ref (g 21), .int (0)]))]) hX (n_runSW (n := 3) (wc := [(a3, .inr (12, [.ref a4, .ref a5, .ref a6, .ref a7, .ref a8, .ref a9, .ref a10, .ref a11, .null, .ref a12, .ref a13, .int (0), .int (100), .int (0), .int (0), .int (-1), .long (0), .int (1)])), (a6, .inr (11, [.int (0), .ref a14, .ref a15, .ref a16, .ref a17, .ref a18, .ref a19, .ref a20, .ref a21, .ref a22]))]) (As := [.ref a3, .int s1, .ref a1]) (rest := []) hX (m379 l hst dC dI g a3 a1 a4 a5 a6 a7 a8 a9 a10 a11 a12 a13 a14 a15 a16 a17 a18 a19 a20 a21 a22 s1 _) [0, 1] rfl (by decide +kernel) q1342 q1343 q70 q1344 (by decide +kernel) ⟨(Nat.le_of_ble_eq_true rfl), (Nat.le_of_ble_eq_true rfl)⟩ ⟨(Nat.le_of_ble_eq_true rfl), (Nat.le_of_ble_eq_true rfl)⟩ hl.1 rfl rfl (Nat.le_of_ble_eq_true rfl) dL_law_1983) [0, 1] [2, 3] rfl rfl (by decide +kernel) (by decide +kernel) (fun f1 r2 H locs hP hD hS => ?_)
  have hP : va_P (dC, dI) CL [(a2, .inr (15, [.int (0), .int (0), .int (100), .int (0), .int (0), .ref a23, .ref a24, .ref a25, .ref a26, .ref a27, .ref a28, .ref a29, .ref a30, .ref a31, .ref a32, .ref a33, .null, .int (-1), .ref a34, .long (0)])), (a31, .inr (1, [.int (0), .ref (g 21), .int (0)]))] _ := hP
  have hD : va_D A [(a2, .inr (15, [.int (0), .int (0), .int (100), .int (0), .int (0), .ref a23, .ref a24, .ref a25, .ref a26, .ref a27, .ref a28, .ref a29, .ref a30, .ref a31, .ref a32, .ref a33, .null, .int (-1), .ref a34, .long (0)])), (a31, .inr (1, [.int (0), .ref (g 21), .int (0)]))] := hD
  refine W.widen (k := 244) (n := 2777) (Nat.le_of_ble_eq_true rfl) (Nat.le_of_ble_eq_true rfl) ?_
  refine W.eq (g2 := F0 m 1986 ls [.int (1)]) rfl ?_
  refine lv_istore (lv' := [(6, .int (1)), (5, .int (0)), (4, .ref a0), (3, .ref a1), (2, .ref a2), (1, .ref a3), (0, .ref b)]) hx hb dL_law_1986 hl (by decide) rfl (fun ls hl => ?_)
  refine lv_aload_n hx hb dL_law_1988 rfl (lv_at hl 4 rfl) ?_
  refine lv_aload_n hx hb dL_law_1989 rfl (lv_at hl 6 rfl) ?_
  refine lv_iload hx hb dL_law_1990 (lv_at hl 1 rfl) ?_
  refine lv_iconst (v := (1)) hx hb dL_law_1992 (by decide +kernel) ?_
  refine lv_iadd hx hb dL_law_1993 ?_
  refine nt_i (v := (1)) (by decide +kernel) ?_
  refine va_sld hx hb hXs hbl hbA hS (show ¬ ((1 : Int32) < 0 ∨ 5 ≤ Int32.toNatClampNeg (1)) by decide +kernel) dL_law_1994 ?_
  refine nt_i (v := s1) es1 ?_
  have hX : nCx p s m _ c code 9 "MinestrataLaw" dC dI g A [(a2, .inr (15, [.int (0), .int (0), .int (100), .int (0), .int (0), .ref a23, .ref a24, .ref a25, .ref a26, .ref a27, .ref a28, .ref a29, .ref a30, .ref a31, .ref a32, .ref a33, .null, .int (-1), .ref a34, .long (0)])), (a31, .inr (1, [.int (0), .ref (g 21), .int (0)]))] _ _ := ⟨⟨hx, hb, hml, hown, hts⟩, hE, hS, hA, hP, hD⟩
  refine n_call (wr := []) hX (n_runV (n := 1) (wc := [(a2, .inr (15, [.int (0), .int (0), .int (100), .int (0), .int (0), .ref a23, .ref a24, .ref a25, .ref a26, .ref a27, .ref a28, .ref a29, .ref a30, .ref a31, .ref a32, .ref a33, .null, .int (-1), .ref a34, .long (0)])), (a31, .inr (1, [.int (0), .ref (g 21), .int (0)]))]) (As := [.int s1]) (rest := []) hX (m380 l hst dC dI g a2 a23 a24 a25 a26 a27 a28 a29 a30 a31 a32 a33 a34 s1 _) [0, 1] rfl (by decide +kernel) 0 (ci := 15) rfl (T := TX16) (N := 20) (C := "MinestrataModel") rfl q2201 q2202 q2203 q82 q2204 (by decide +kernel) ⟨(Nat.le_of_ble_eq_true rfl), (Nat.le_of_ble_eq_true rfl)⟩ ⟨(Nat.le_of_ble_eq_true rfl), (Nat.le_of_ble_eq_true rfl)⟩ hl.1 rfl rfl (Nat.le_of_ble_eq_true rfl) dL_law_1995) [0, 1] [] rfl rfl (by decide +kernel) (by decide +kernel) (fun f3 r4 H locs hP hD hS => ?_)
  have hP : va_P (dC, dI) CL [(a2, .inr (15, [.int (1), .int (0), .int (100), .int (0), .int (0), .ref a23, .ref a24, .ref a25, .ref a26, .ref a27, .ref a28, .ref a29, .ref a30, .ref a31, .ref a32, .ref a33, .null, .int (-1), .ref a34, .long (0)])), (a31, .inr (1, [.int (0), .ref (g 21), .int (0)]))] _ := hP
  have hD : va_D A [(a2, .inr (15, [.int (1), .int (0), .int (100), .int (0), .int (0), .ref a23, .ref a24, .ref a25, .ref a26, .ref a27, .ref a28, .ref a29, .ref a30, .ref a31, .ref a32, .ref a33, .null, .int (-1), .ref a34, .long (0)])), (a31, .inr (1, [.int (0), .ref (g 21), .int (0)]))] := hD
  refine W.widen (k := 244) (n := 2777) (Nat.le_of_ble_eq_true rfl) (Nat.le_of_ble_eq_true rfl) ?_
  refine W.eq (g2 := F0 m 1998 ls [.int (0)]) rfl ?_
  refine lv_istore (lv' := [(7, .int (0)), (6, .int (1)), (5, .int (0)), (4, .ref a0), (3, .ref a1), (2, .ref a2), (1, .ref a3), (0, .ref b)]) hx hb dL_law_1998 hl (by decide) rfl (fun ls hl => ?_)
  refine lv_aload_n hx hb dL_law_2000 rfl (lv_at hl 5 rfl) ?_
  have hX : nCx p s m _ c code 9 "MinestrataLaw" dC dI g A [(a2, .inr (15, [.int (1), .int (0), .int (100), .int (0), .int (0), .ref a23, .ref a24, .ref a25, .ref a26, .ref a27, .ref a28, .ref a29, .ref a30, .ref a31, .ref a32, .ref a33, .null, .int (-1), .ref a34, .long (0)])), (a31, .inr (1, [.int (0), .ref (g 21), .int (0)]))] _ _ := ⟨⟨hx, hb, hml, hown, hts⟩, hE, hS, hA, hP, hD⟩
  refine n_call (wr := [(a31, .inr (1, [.int (0), .ref (g 21), .int (0)]))]) hX (n_runV (n := 0) (wc := [(a2, .inr (15, [.int (1), .int (0), .int (100), .int (0), .int (0), .ref a23, .ref a24, .ref a25, .ref a26, .ref a27, .ref a28, .ref a29, .ref a30, .ref a31, .ref a32, .ref a33, .null, .int (-1), .ref a34, .long (0)]))]) (As := []) (rest := []) hX (m33 l hst dC dI g a2 a23 a24 a25 a26 a27 a28 a29 a30 a31 a32 a33 a34 _) [0] rfl (by decide +kernel) 0 (ci := 15) rfl (T := TX16) (N := 20) (C := "MinestrataModel") rfl q1495 q1496 q1497 q82 q1498 (by decide +kernel) ⟨(Nat.le_of_ble_eq_true rfl), (Nat.le_of_ble_eq_true rfl)⟩ ⟨(Nat.le_of_ble_eq_true rfl), (Nat.le_of_ble_eq_true rfl)⟩ hl.1 rfl rfl (Nat.le_of_ble_eq_true rfl) dL_law_2001) [0] [1] rfl rfl (by decide +kernel) (by decide +kernel) (fun f5 r6 H locs hP hD hS => ?_)
  have hP : va_P (dC, dI) CL [(a31, .inr (1, [.int (0), .ref (g 21), .int (0)])), (a2, .inr (15, [.int (1), .int (0), .int (100), .int (0), .int (0), .ref a23, .ref a24, .ref a25, .ref a26, .ref a27, .ref a28, .ref a29, .ref a30, .ref a31, .ref a32, .ref a33, .null, .int (-1), .ref a34, .long (0)]))] _ := hP
  have hD : va_D A [(a31, .inr (1, [.int (0), .ref (g 21), .int (0)])), (a2, .inr (15, [.int (1), .int (0), .int (100), .int (0), .int (0), .ref a23, .ref a24, .ref a25, .ref a26, .ref a27, .ref a28, .ref a29, .ref a30, .ref a31, .ref a32, .ref a33, .null, .int (-1), .ref a34, .long (0)]))] := hD
  refine W.widen (k := 244) (n := 2777) (Nat.le_of_ble_eq_true rfl) (Nat.le_of_ble_eq_true rfl) ?_
  refine W.eq (g2 := F0 m 2004 ls [.int (1)]) rfl ?_
  refine lv_iload hx hb dL_law_2004 (lv_at hl 1 rfl) ?_
  refine lv_icmp_eq (tgt := 2011) hx hb dL_law_2006 (by decide +kernel) (fun _ => ?_) (fun h => absurd (by decide +kernel) h)
  refine lv_iload hx hb dL_law_2011 (lv_at hl 1 rfl) ?_
  refine lv_if_ne (tgt := 2028) hx hb dL_law_2013 (by decide +kernel) (fun _ => ?_) (fun h => absurd h (by decide +kernel))
  refine lv_goto (tgt := 2278) hx hb dL_law_2028 (by decide +kernel) ?_
  refine lv_iinc (v := (5)) (lv' := [(5, .int (5)), (7, .int (0)), (6, .int (1)), (4, .ref a0), (3, .ref a1), (2, .ref a2), (1, .ref a3), (0, .ref b)]) hx hb dL_law_2278 hl (k := 2) rfl (by decide +kernel) (by decide) rfl (fun ls hl => ?_)
  refine lv_goto (tgt := 28) hx hb dL_law_2281 (by decide +kernel) ?_
  refine lv_iload hx hb dL_law_28 (lv_at hl 0 rfl) ?_
  refine lv_aload_n hx hb dL_law_30 rfl (lv_at hl 7 rfl) ?_
  refine va_slen hx hb hXs hbl hbA hS dL_law_31 ?_
  refine nt_i (v := (5)) (by decide +kernel) ?_
  refine lv_iconst (v := (5)) hx hb dL_law_32 (by decide +kernel) ?_
  refine lv_isub hx hb dL_law_33 ?_
  refine nt_i (v := (0)) (by decide +kernel) ?_
  refine lv_icmp_gt (tgt := 2284) hx hb dL_law_34 (by decide +kernel) (fun _ => ?_) (fun h => absurd (by decide +kernel) h)
  refine lv_iconst (v := (1)) hx hb dL_law_2284 (by decide +kernel) ?_
  refine va_forget (fun q9 hq9 => by have h9 := hS.2.2 q9 hq9; rw [← hAe] at h9; exact h9) ?_
  refine W.widen (k := 600006) (n := 7302056) (Nat.le_of_ble_eq_true rfl) (Nat.le_of_ble_eq_true rfl) ?_
  refine W.base ?_
  exact lw_ret (Drawn.sameBut.refl s.drawn lw_cs) hx hb hr hlk dL_law_2285

set_option maxHeartbeats 4000000 in
set_option maxRecDepth 100000 in
theorem lc_29 {p : Program} {e : Env} {s : State} {m : MethodId} {below : List Frame} {meth : Method} {c : Code} (l : Launch) (hst : l.stackTraces = false) {b : Nat} {xs : Nat → Int32} (C0 : lw_At p s m meth c b 5 xs) (dC : Nat → ClassId) (dI : Nat → Nat → Nat) (g : Nat → Nat) (a0 a1 a2 a3 a4 a5 a6 a7 a8 a9 a10 a11 a12 a13 a14 a15 a16 a17 a18 a19 a20 a21 a22 a23 a24 a25 a26 a27 a28 a29 a30 a31 a32 a33 a34 a35 a36 : Nat) {A : Nat → Prop} (hAe : (fun q : Nat => s.heap.size ≤ q) = A) (hE : EV dC dI g A s) (hA : ∀ q : Nat, s.heap.size ≤ q → A q) (hbA : ¬ A b) (H : Heap) (locs : List Loc) (hP : va_P (dC, dI) CL [(a3, .inr (12, [.ref a4, .ref a5, .ref a6, .ref a7, .ref a8, .ref a9, .ref a10, .ref a11, .null, .ref a12, .ref a13, .int (0), .int (100), .int (0), .int (0), .int (-1), .long (0), .int (1)])), (a4, .inr (8, [.int (0), .ref a14, .ref a15, .ref a16, .ref a17, .int (0), .ref a18, .ref a19, .ref a20, .ref a21, .ref a22, .ref a23, .ref a24])), (a2, .inr (15, [.int (0), .int (0), .int (100), .int (0), .int (0), .ref a25, .ref a26, .ref a27, .ref a28, .ref a29, .ref a30, .ref a31, .ref a32, .ref a33, .ref a34, .ref a35, .null, .int (-1), .ref a36, .long (0)])), (a32, .inr (1, [.int (0), .ref (g 21), .int (0)]))] H) (hD : va_D A [(a3, .inr (12, [.ref a4, .ref a5, .ref a6, .ref a7, .ref a8, .ref a9, .ref a10, .ref a11, .null, .ref a12, .ref a13, .int (0), .int (100), .int (0), .int (0), .int (-1), .long (0), .int (1)])), (a4, .inr (8, [.int (0), .ref a14, .ref a15, .ref a16, .ref a17, .int (0), .ref a18, .ref a19, .ref a20, .ref a21, .ref a22, .ref a23, .ref a24])), (a2, .inr (15, [.int (0), .int (0), .int (100), .int (0), .int (0), .ref a25, .ref a26, .ref a27, .ref a28, .ref a29, .ref a30, .ref a31, .ref a32, .ref a33, .ref a34, .ref a35, .null, .int (-1), .ref a36, .long (0)])), (a32, .inr (1, [.int (0), .ref (g 21), .int (0)]))]) (hS : va_S A s.heap H locs) (ls : Array Slot) (hl : lv_has ls 9 [(5, .int (0)), (4, .ref a0), (3, .ref a1), (2, .ref a2), (1, .ref a3), (0, .ref b)]) :
    W p l e room_1 s m #[Value.ref b] below meth c H locs 243 2771 (lw_Z below #[Value.ref b] s) (F0 m 44 ls [.int (29)]) := by
  obtain ⟨hx, hb, hr, hml, hown, hts0, hXs, hbl, hlk, hgv⟩ := id C0
  have hts : ∀ w ∈ AW, w.before #[Value.ref b] s = true := fun w h => hts0 w (aw_tbl h)
  have hown : s.vm.findClass "MinestrataLaw" = some m.cls := hown
  have hK := hE.1
  obtain ⟨s1, es1⟩ : ∃ y : Int32, xs (Int32.toNatClampNeg (1)) = y := ⟨_, rfl⟩
  obtain ⟨s2, es2⟩ : ∃ y : Int32, xs (Int32.toNatClampNeg (2)) = y := ⟨_, rfl⟩
  obtain ⟨s3, es3⟩ : ∃ y : Int32, xs (Int32.toNatClampNeg (3)) = y := ⟨_, rfl⟩
  obtain ⟨s4, es4⟩ : ∃ y : Int32, xs (Int32.toNatClampNeg (4)) = y := ⟨_, rfl⟩
  refine lv_tableIn (tgt := 2031) (off := 1987) hx hb dL_law_44 (by decide +kernel) (by decide +kernel) rfl (by decide +kernel) ?_
  refine lv_aload_n hx hb dL_law_2031 rfl (lv_at hl 4 rfl) ?_
  refine lv_aload_n hx hb dL_law_2032 rfl (lv_at hl 5 rfl) ?_
  refine lv_iload hx hb dL_law_2033 (lv_at hl 0 rfl) ?_
  refine lv_iconst (v := (1)) hx hb dL_law_2035 (by decide +kernel) ?_
  refine lv_iadd hx hb dL_law_2036 ?_
  refine nt_i (v := (1)) (by decide +kernel) ?_
  refine va_sld hx hb hXs hbl hbA hS (show ¬ ((1 : Int32) < 0 ∨ 5 ≤ Int32.toNatClampNeg (1)) by decide +kernel) dL_law_2037 ?_
  refine nt_i (v := s1) es1 ?_
  refine lv_aload_n hx hb dL_law_2038 rfl (lv_at hl 2 rfl) ?_
  have hX : nCx p s m _ c code 9 "MinestrataLaw" dC dI g A [(a3, .inr (12, [.ref a4, .ref a5, .ref a6, .ref a7, .ref a8, .ref a9, .ref a10, .ref a11, .null, .ref a12, .ref a13, .int (0), .int (100), .int (0), .int (0), .int (-1), .long (0), .int (1)])), (a4, .inr (8, [.int (0), .ref a14, .ref a15, .ref a16, .ref a17, .int (0), .ref a18, .ref a19, .ref a20, .ref a21, .ref a22, .ref a23, .ref a24])), (a2, .inr (15, [.int (0), .int (0), .int (100), .int (0), .int (0), .ref a25, .ref a26, .ref a27, .ref a28, .ref a29, .ref a30, .ref a31, .ref a32, .ref a33, .ref a34, .ref a35, .null, .int (-1), .ref a36, .long (0)])), (a32, .inr (1, [.int (0), .ref (g 21), .int (0)]))] _ _ := ⟨⟨hx, hb, hml, hown, hts⟩, hE, hS, hA, hP, hD⟩
  refine n_call (wr := [(a2, .inr (15, [.int (0), .int (0), .int (100), .int (0), .int (0), .ref a25, .ref a26, .ref a27, .ref a28, .ref a29, .ref a30, .ref a31, .ref a32, .ref a33, .ref a34, .ref a35, .null, .int (-1), .ref a36, .long (0)])), (a32, .inr (1, [.int (0), .ref (g 21), .int (0)]))]) hX (n_runSW (n := 3) (wc := [(a3, .inr (12, [.ref a4, .ref a5, .ref a6, .ref a7, .ref a8, .ref a9, .ref a10, .ref a11, .null, .ref a12, .ref a13, .int (0), .int (100), .int (0), .int (0), .int (-1), .long (0), .int (1)])), (a4, .inr (8, [.int (0), .ref a14, .ref a15, .ref a16, .ref a17, .int (0), .ref a18, .ref a19, .ref a20, .ref a21, .ref a22, .ref a23, .ref a24]))]) (As := [.ref a3, .int s1, .ref a1]) (rest := []) hX (m382 l hst dC dI g a3 a1 a4 a5 a6 a7 a8 a9 a10 a11 a12 a13 a14 a15 a16 a17 a18 a19 a20 a21 a22 a23 a24 s1 _) [0, 1] rfl (by decide +kernel) q1349 q1350 q70 q1351 (by decide +kernel) ⟨(Nat.le_of_ble_eq_true rfl), (Nat.le_of_ble_eq_true rfl)⟩ ⟨(Nat.le_of_ble_eq_true rfl), (Nat.le_of_ble_eq_true rfl)⟩ hl.1 rfl rfl (Nat.le_of_ble_eq_true rfl) dL_law_2039) [0, 1] [2, 3] rfl rfl (by decide +kernel) (by decide +kernel) (fun f1 r2 H locs hP hD hS => ?_)
  have hP : va_P (dC, dI) CL [(a2, .inr (15, [.int (0), .int (0), .int (100), .int (0), .int (0), .ref a25, .ref a26, .ref a27, .ref a28, .ref a29, .ref a30, .ref a31, .ref a32, .ref a33, .ref a34, .ref a35, .null, .int (-1), .ref a36, .long (0)])), (a32, .inr (1, [.int (0), .ref (g 21), .int (0)]))] _ := hP
  have hD : va_D A [(a2, .inr (15, [.int (0), .int (0), .int (100), .int (0), .int (0), .ref a25, .ref a26, .ref a27, .ref a28, .ref a29, .ref a30, .ref a31, .ref a32, .ref a33, .ref a34, .ref a35, .null, .int (-1), .ref a36, .long (0)])), (a32, .inr (1, [.int (0), .ref (g 21), .int (0)]))] := hD
  refine W.widen (k := 244) (n := 2777) (Nat.le_of_ble_eq_true rfl) (Nat.le_of_ble_eq_true rfl) ?_
  refine W.eq (g2 := F0 m 2042 ls [.int (1)]) rfl ?_
  refine lv_istore (lv' := [(6, .int (1)), (5, .int (0)), (4, .ref a0), (3, .ref a1), (2, .ref a2), (1, .ref a3), (0, .ref b)]) hx hb dL_law_2042 hl (by decide) rfl (fun ls hl => ?_)
  refine lv_aload_n hx hb dL_law_2044 rfl (lv_at hl 4 rfl) ?_
  refine lv_aload_n hx hb dL_law_2045 rfl (lv_at hl 6 rfl) ?_
  refine lv_iload hx hb dL_law_2046 (lv_at hl 1 rfl) ?_
  refine lv_iconst (v := (1)) hx hb dL_law_2048 (by decide +kernel) ?_
  refine lv_iadd hx hb dL_law_2049 ?_
  refine nt_i (v := (1)) (by decide +kernel) ?_
  refine va_sld hx hb hXs hbl hbA hS (show ¬ ((1 : Int32) < 0 ∨ 5 ≤ Int32.toNatClampNeg (1)) by decide +kernel) dL_law_2050 ?_
  refine nt_i (v := s1) es1 ?_
  have hX : nCx p s m _ c code 9 "MinestrataLaw" dC dI g A [(a2, .inr (15, [.int (0), .int (0), .int (100), .int (0), .int (0), .ref a25, .ref a26, .ref a27, .ref a28, .ref a29, .ref a30, .ref a31, .ref a32, .ref a33, .ref a34, .ref a35, .null, .int (-1), .ref a36, .long (0)])), (a32, .inr (1, [.int (0), .ref (g 21), .int (0)]))] _ _ := ⟨⟨hx, hb, hml, hown, hts⟩, hE, hS, hA, hP, hD⟩
  refine n_call (wr := []) hX (n_runV (n := 1) (wc := [(a2, .inr (15, [.int (0), .int (0), .int (100), .int (0), .int (0), .ref a25, .ref a26, .ref a27, .ref a28, .ref a29, .ref a30, .ref a31, .ref a32, .ref a33, .ref a34, .ref a35, .null, .int (-1), .ref a36, .long (0)])), (a32, .inr (1, [.int (0), .ref (g 21), .int (0)]))]) (As := [.int s1]) (rest := []) hX (m384 l hst dC dI g a2 a25 a26 a27 a28 a29 a30 a31 a32 a33 a34 a35 a36 s1 _) [0, 1] rfl (by decide +kernel) 0 (ci := 15) rfl (T := TX16) (N := 20) (C := "MinestrataModel") rfl q2205 q2206 q2207 q82 q2208 (by decide +kernel) ⟨(Nat.le_of_ble_eq_true rfl), (Nat.le_of_ble_eq_true rfl)⟩ ⟨(Nat.le_of_ble_eq_true rfl), (Nat.le_of_ble_eq_true rfl)⟩ hl.1 rfl rfl (Nat.le_of_ble_eq_true rfl) dL_law_2051) [0, 1] [] rfl rfl (by decide +kernel) (by decide +kernel) (fun f3 r4 H locs hP hD hS => ?_)
  have hP : va_P (dC, dI) CL [(a2, .inr (15, [.int (1), .int (0), .int (100), .int (0), .int (0), .ref a25, .ref a26, .ref a27, .ref a28, .ref a29, .ref a30, .ref a31, .ref a32, .ref a33, .ref a34, .ref a35, .null, .int (-1), .ref a36, .long (0)]))] _ := hP
  have hD : va_D A [(a2, .inr (15, [.int (1), .int (0), .int (100), .int (0), .int (0), .ref a25, .ref a26, .ref a27, .ref a28, .ref a29, .ref a30, .ref a31, .ref a32, .ref a33, .ref a34, .ref a35, .null, .int (-1), .ref a36, .long (0)]))] := hD
  refine W.widen (k := 244) (n := 2777) (Nat.le_of_ble_eq_true rfl) (Nat.le_of_ble_eq_true rfl) ?_
  refine W.eq (g2 := F0 m 2054 ls [.int (0)]) rfl ?_
  refine lv_istore (lv' := [(7, .int (0)), (6, .int (1)), (5, .int (0)), (4, .ref a0), (3, .ref a1), (2, .ref a2), (1, .ref a3), (0, .ref b)]) hx hb dL_law_2054 hl (by decide) rfl (fun ls hl => ?_)
  refine lv_aload_n hx hb dL_law_2056 rfl (lv_at hl 5 rfl) ?_
  have hX : nCx p s m _ c code 9 "MinestrataLaw" dC dI g A [(a2, .inr (15, [.int (1), .int (0), .int (100), .int (0), .int (0), .ref a25, .ref a26, .ref a27, .ref a28, .ref a29, .ref a30, .ref a31, .ref a32, .ref a33, .ref a34, .ref a35, .null, .int (-1), .ref a36, .long (0)]))] _ _ := ⟨⟨hx, hb, hml, hown, hts⟩, hE, hS, hA, hP, hD⟩
  refine n_call (wr := []) hX (n_runV (n := 0) (wc := [(a2, .inr (15, [.int (1), .int (0), .int (100), .int (0), .int (0), .ref a25, .ref a26, .ref a27, .ref a28, .ref a29, .ref a30, .ref a31, .ref a32, .ref a33, .ref a34, .ref a35, .null, .int (-1), .ref a36, .long (0)]))]) (As := []) (rest := []) hX (m33 l hst dC dI g a2 a25 a26 a27 a28 a29 a30 a31 a32 a33 a34 a35 a36 _) [0] rfl (by decide +kernel) 0 (ci := 15) rfl (T := TX16) (N := 20) (C := "MinestrataModel") rfl q1495 q1496 q1497 q82 q1498 (by decide +kernel) ⟨(Nat.le_of_ble_eq_true rfl), (Nat.le_of_ble_eq_true rfl)⟩ ⟨(Nat.le_of_ble_eq_true rfl), (Nat.le_of_ble_eq_true rfl)⟩ hl.1 rfl rfl (Nat.le_of_ble_eq_true rfl) dL_law_2057) [0] [] rfl rfl (by decide +kernel) (by decide +kernel) (fun f5 r6 H locs hP hD hS => ?_)
  have hP : va_P (dC, dI) CL [(a2, .inr (15, [.int (1), .int (0), .int (100), .int (0), .int (0), .ref a25, .ref a26, .ref a27, .ref a28, .ref a29, .ref a30, .ref a31, .ref a32, .ref a33, .ref a34, .ref a35, .null, .int (-1), .ref a36, .long (0)]))] _ := hP
  have hD : va_D A [(a2, .inr (15, [.int (1), .int (0), .int (100), .int (0), .int (0), .ref a25, .ref a26, .ref a27, .ref a28, .ref a29, .ref a30, .ref a31, .ref a32, .ref a33, .ref a34, .ref a35, .null, .int (-1), .ref a36, .long (0)]))] := hD
  refine W.widen (k := 244) (n := 2777) (Nat.le_of_ble_eq_true rfl) (Nat.le_of_ble_eq_true rfl) ?_
  refine W.eq (g2 := F0 m 2060 ls [.int (1)]) rfl ?_
  refine lv_iload hx hb dL_law_2060 (lv_at hl 1 rfl) ?_
  refine lv_icmp_eq (tgt := 2067) hx hb dL_law_2062 (by decide +kernel) (fun _ => ?_) (fun h => absurd (by decide +kernel) h)
  refine lv_iload hx hb dL_law_2067 (lv_at hl 1 rfl) ?_
  refine lv_if_ne (tgt := 2091) hx hb dL_law_2069 (by decide +kernel) (fun _ => ?_) (fun h => absurd h (by decide +kernel))
  refine lv_goto (tgt := 2278) hx hb dL_law_2091 (by decide +kernel) ?_
  refine lv_iinc (v := (5)) (lv' := [(5, .int (5)), (7, .int (0)), (6, .int (1)), (4, .ref a0), (3, .ref a1), (2, .ref a2), (1, .ref a3), (0, .ref b)]) hx hb dL_law_2278 hl (k := 2) rfl (by decide +kernel) (by decide) rfl (fun ls hl => ?_)
  refine lv_goto (tgt := 28) hx hb dL_law_2281 (by decide +kernel) ?_
  refine lv_iload hx hb dL_law_28 (lv_at hl 0 rfl) ?_
  refine lv_aload_n hx hb dL_law_30 rfl (lv_at hl 7 rfl) ?_
  refine va_slen hx hb hXs hbl hbA hS dL_law_31 ?_
  refine nt_i (v := (5)) (by decide +kernel) ?_
  refine lv_iconst (v := (5)) hx hb dL_law_32 (by decide +kernel) ?_
  refine lv_isub hx hb dL_law_33 ?_
  refine nt_i (v := (0)) (by decide +kernel) ?_
  refine lv_icmp_gt (tgt := 2284) hx hb dL_law_34 (by decide +kernel) (fun _ => ?_) (fun h => absurd (by decide +kernel) h)
  refine lv_iconst (v := (1)) hx hb dL_law_2284 (by decide +kernel) ?_
  refine va_forget (fun q9 hq9 => by have h9 := hS.2.2 q9 hq9; rw [← hAe] at h9; exact h9) ?_
  refine W.widen (k := 600006) (n := 7302056) (Nat.le_of_ble_eq_true rfl) (Nat.le_of_ble_eq_true rfl) ?_
  refine W.base ?_
  exact lw_ret (Drawn.sameBut.refl s.drawn lw_cs) hx hb hr hlk dL_law_2285

set_option maxHeartbeats 4000000 in
set_option maxRecDepth 100000 in
theorem lc_30 {p : Program} {e : Env} {s : State} {m : MethodId} {below : List Frame} {meth : Method} {c : Code} (l : Launch) (hst : l.stackTraces = false) {b : Nat} {xs : Nat → Int32} (C0 : lw_At p s m meth c b 5 xs) (dC : Nat → ClassId) (dI : Nat → Nat → Nat) (g : Nat → Nat) (a0 a1 a2 a3 a4 a5 a6 a7 a8 a9 a10 a11 a12 a13 a14 a15 a16 a17 a18 a19 a20 a21 a22 a23 a24 a25 : Nat) {A : Nat → Prop} (hAe : (fun q : Nat => s.heap.size ≤ q) = A) (hE : EV dC dI g A s) (hA : ∀ q : Nat, s.heap.size ≤ q → A q) (hbA : ¬ A b) (H : Heap) (locs : List Loc) (hP : va_P (dC, dI) CL [(a3, .inr (12, [.ref a4, .ref a5, .ref a6, .ref a7, .ref a8, .ref a9, .ref a10, .ref a11, .null, .ref a12, .ref a13, .int (0), .int (100), .int (0), .int (0), .int (-1), .long (0), .int (1)])), (a2, .inr (15, [.int (0), .int (0), .int (100), .int (0), .int (0), .ref a14, .ref a15, .ref a16, .ref a17, .ref a18, .ref a19, .ref a20, .ref a21, .ref a22, .ref a23, .ref a24, .null, .int (-1), .ref a25, .long (0)]))] H) (hD : va_D A [(a3, .inr (12, [.ref a4, .ref a5, .ref a6, .ref a7, .ref a8, .ref a9, .ref a10, .ref a11, .null, .ref a12, .ref a13, .int (0), .int (100), .int (0), .int (0), .int (-1), .long (0), .int (1)])), (a2, .inr (15, [.int (0), .int (0), .int (100), .int (0), .int (0), .ref a14, .ref a15, .ref a16, .ref a17, .ref a18, .ref a19, .ref a20, .ref a21, .ref a22, .ref a23, .ref a24, .null, .int (-1), .ref a25, .long (0)]))]) (hS : va_S A s.heap H locs) (ls : Array Slot) (hl : lv_has ls 9 [(5, .int (0)), (4, .ref a0), (3, .ref a1), (2, .ref a2), (1, .ref a3), (0, .ref b)]) :
    W p l e room_1 s m #[Value.ref b] below meth c H locs 243 2771 (lw_Z below #[Value.ref b] s) (F0 m 44 ls [.int (30)]) := by
  obtain ⟨hx, hb, hr, hml, hown, hts0, hXs, hbl, hlk, hgv⟩ := id C0
  have hts : ∀ w ∈ AW, w.before #[Value.ref b] s = true := fun w h => hts0 w (aw_tbl h)
  have hown : s.vm.findClass "MinestrataLaw" = some m.cls := hown
  have hK := hE.1
  obtain ⟨s1, es1⟩ : ∃ y : Int32, xs (Int32.toNatClampNeg (1)) = y := ⟨_, rfl⟩
  obtain ⟨s2, es2⟩ : ∃ y : Int32, xs (Int32.toNatClampNeg (2)) = y := ⟨_, rfl⟩
  obtain ⟨s3, es3⟩ : ∃ y : Int32, xs (Int32.toNatClampNeg (3)) = y := ⟨_, rfl⟩
  obtain ⟨s4, es4⟩ : ∃ y : Int32, xs (Int32.toNatClampNeg (4)) = y := ⟨_, rfl⟩
  refine lv_tableIn (tgt := 2094) (off := 2050) hx hb dL_law_44 (by decide +kernel) (by decide +kernel) rfl (by decide +kernel) ?_
  refine lv_aload_n hx hb dL_law_2094 rfl (lv_at hl 4 rfl) ?_
  have hX : nCx p s m _ c code 9 "MinestrataLaw" dC dI g A [(a3, .inr (12, [.ref a4, .ref a5, .ref a6, .ref a7, .ref a8, .ref a9, .ref a10, .ref a11, .null, .ref a12, .ref a13, .int (0), .int (100), .int (0), .int (0), .int (-1), .long (0), .int (1)])), (a2, .inr (15, [.int (0), .int (0), .int (100), .int (0), .int (0), .ref a14, .ref a15, .ref a16, .ref a17, .ref a18, .ref a19, .ref a20, .ref a21, .ref a22, .ref a23, .ref a24, .null, .int (-1), .ref a25, .long (0)]))] _ _ := ⟨⟨hx, hb, hml, hown, hts⟩, hE, hS, hA, hP, hD⟩
  refine n_call (wr := [(a2, .inr (15, [.int (0), .int (0), .int (100), .int (0), .int (0), .ref a14, .ref a15, .ref a16, .ref a17, .ref a18, .ref a19, .ref a20, .ref a21, .ref a22, .ref a23, .ref a24, .null, .int (-1), .ref a25, .long (0)]))]) hX (n_runV (n := 0) (wc := [(a3, .inr (12, [.ref a4, .ref a5, .ref a6, .ref a7, .ref a8, .ref a9, .ref a10, .ref a11, .null, .ref a12, .ref a13, .int (0), .int (100), .int (0), .int (0), .int (-1), .long (0), .int (1)]))]) (As := []) (rest := []) hX (m385 l hst dC dI g a3 a4 a5 a6 a7 a8 a9 a10 a11 a12 a13 _) [0] rfl (by decide +kernel) 0 (ci := 12) rfl (T := TX11) (N := 18) (C := "Minestrata") rfl q748 q749 q750 q71 q751 (by decide +kernel) ⟨(Nat.le_of_ble_eq_true rfl), (Nat.le_of_ble_eq_true rfl)⟩ ⟨(Nat.le_of_ble_eq_true rfl), (Nat.le_of_ble_eq_true rfl)⟩ hl.1 rfl rfl (Nat.le_of_ble_eq_true rfl) dL_law_2095) [0] [1] rfl rfl (by decide +kernel) (by decide +kernel) (fun f1 r2 H locs hP hD hS => ?_)
  have hP : va_P (dC, dI) CL [(a2, .inr (15, [.int (0), .int (0), .int (100), .int (0), .int (0), .ref a14, .ref a15, .ref a16, .ref a17, .ref a18, .ref a19, .ref a20, .ref a21, .ref a22, .ref a23, .ref a24, .null, .int (-1), .ref a25, .long (0)])), (a3, .inr (12, [.ref a4, .ref a5, .ref a6, .ref a7, .ref a8, .ref a9, .ref a10, .ref a11, .null, .ref a12, .ref a13, .int (0), .int (100), .int (0), .int (0), .int (-1), .long (0), .int (1)]))] _ := hP
  have hD : va_D A [(a2, .inr (15, [.int (0), .int (0), .int (100), .int (0), .int (0), .ref a14, .ref a15, .ref a16, .ref a17, .ref a18, .ref a19, .ref a20, .ref a21, .ref a22, .ref a23, .ref a24, .null, .int (-1), .ref a25, .long (0)])), (a3, .inr (12, [.ref a4, .ref a5, .ref a6, .ref a7, .ref a8, .ref a9, .ref a10, .ref a11, .null, .ref a12, .ref a13, .int (0), .int (100), .int (0), .int (0), .int (-1), .long (0), .int (1)]))] := hD
  refine W.widen (k := 243) (n := 2771) (Nat.le_of_ble_eq_true rfl) (Nat.le_of_ble_eq_true rfl) ?_
  refine W.eq (g2 := F0 m 2098 ls [.int (0)]) rfl ?_
  refine lv_aload_n hx hb dL_law_2098 rfl (lv_at hl 3 rfl) ?_
  have hX : nCx p s m _ c code 9 "MinestrataLaw" dC dI g A [(a2, .inr (15, [.int (0), .int (0), .int (100), .int (0), .int (0), .ref a14, .ref a15, .ref a16, .ref a17, .ref a18, .ref a19, .ref a20, .ref a21, .ref a22, .ref a23, .ref a24, .null, .int (-1), .ref a25, .long (0)])), (a3, .inr (12, [.ref a4, .ref a5, .ref a6, .ref a7, .ref a8, .ref a9, .ref a10, .ref a11, .null, .ref a12, .ref a13, .int (0), .int (100), .int (0), .int (0), .int (-1), .long (0), .int (1)]))] _ _ := ⟨⟨hx, hb, hml, hown, hts⟩, hE, hS, hA, hP, hD⟩
  refine n_call (wr := [(a3, .inr (12, [.ref a4, .ref a5, .ref a6, .ref a7, .ref a8, .ref a9, .ref a10, .ref a11, .null, .ref a12, .ref a13, .int (0), .int (100), .int (0), .int (0), .int (-1), .long (0), .int (1)]))]) hX (n_runV (n := 0) (wc := [(a2, .inr (15, [.int (0), .int (0), .int (100), .int (0), .int (0), .ref a14, .ref a15, .ref a16, .ref a17, .ref a18, .ref a19, .ref a20, .ref a21, .ref a22, .ref a23, .ref a24, .null, .int (-1), .ref a25, .long (0)]))]) (As := []) (rest := [.int (0)]) hX (m387 l hst dC dI g a2 a14 a15 a16 a17 a18 a19 a20 a21 a22 a23 a24 a25 _) [0] rfl (by decide +kernel) 0 (ci := 15) rfl (T := TX16) (N := 20) (C := "MinestrataModel") rfl q2209 q2210 q2211 q82 q2212 (by decide +kernel) ⟨(Nat.le_of_ble_eq_true rfl), (Nat.le_of_ble_eq_true rfl)⟩ ⟨(Nat.le_of_ble_eq_true rfl), (Nat.le_of_ble_eq_true rfl)⟩ hl.1 rfl rfl (Nat.le_of_ble_eq_true rfl) dL_law_2099) [0] [1] rfl rfl (by decide +kernel) (by decide +kernel) (fun f3 r4 H locs hP hD hS => ?_)
  have hP : va_P (dC, dI) CL [(a3, .inr (12, [.ref a4, .ref a5, .ref a6, .ref a7, .ref a8, .ref a9, .ref a10, .ref a11, .null, .ref a12, .ref a13, .int (0), .int (100), .int (0), .int (0), .int (-1), .long (0), .int (1)])), (a2, .inr (15, [.int (0), .int (0), .int (100), .int (0), .int (0), .ref a14, .ref a15, .ref a16, .ref a17, .ref a18, .ref a19, .ref a20, .ref a21, .ref a22, .ref a23, .ref a24, .null, .int (-1), .ref a25, .long (0)]))] _ := hP
  have hD : va_D A [(a3, .inr (12, [.ref a4, .ref a5, .ref a6, .ref a7, .ref a8, .ref a9, .ref a10, .ref a11, .null, .ref a12, .ref a13, .int (0), .int (100), .int (0), .int (0), .int (-1), .long (0), .int (1)])), (a2, .inr (15, [.int (0), .int (0), .int (100), .int (0), .int (0), .ref a14, .ref a15, .ref a16, .ref a17, .ref a18, .ref a19, .ref a20, .ref a21, .ref a22, .ref a23, .ref a24, .null, .int (-1), .ref a25, .long (0)]))] := hD
  refine W.widen (k := 243) (n := 2771) (Nat.le_of_ble_eq_true rfl) (Nat.le_of_ble_eq_true rfl) ?_
  refine W.eq (g2 := F0 m 2102 ls [.int (0), .int (0)]) rfl ?_
  refine lv_icmp_eq (tgt := 2278) hx hb dL_law_2102 (by decide +kernel) (fun _ => ?_) (fun h => absurd (by decide +kernel) h)
  refine lv_iinc (v := (5)) (lv' := [(5, .int (5)), (4, .ref a0), (3, .ref a1), (2, .ref a2), (1, .ref a3), (0, .ref b)]) hx hb dL_law_2278 hl (k := 0) rfl (by decide +kernel) (by decide) rfl (fun ls hl => ?_)
  refine lv_goto (tgt := 28) hx hb dL_law_2281 (by decide +kernel) ?_
  refine lv_iload hx hb dL_law_28 (lv_at hl 0 rfl) ?_
  refine lv_aload_n hx hb dL_law_30 rfl (lv_at hl 5 rfl) ?_
  refine va_slen hx hb hXs hbl hbA hS dL_law_31 ?_
  refine nt_i (v := (5)) (by decide +kernel) ?_
  refine lv_iconst (v := (5)) hx hb dL_law_32 (by decide +kernel) ?_
  refine lv_isub hx hb dL_law_33 ?_
  refine nt_i (v := (0)) (by decide +kernel) ?_
  refine lv_icmp_gt (tgt := 2284) hx hb dL_law_34 (by decide +kernel) (fun _ => ?_) (fun h => absurd (by decide +kernel) h)
  refine lv_iconst (v := (1)) hx hb dL_law_2284 (by decide +kernel) ?_
  refine va_forget (fun q9 hq9 => by have h9 := hS.2.2 q9 hq9; rw [← hAe] at h9; exact h9) ?_
  refine W.widen (k := 600006) (n := 7302056) (Nat.le_of_ble_eq_true rfl) (Nat.le_of_ble_eq_true rfl) ?_
  refine W.base ?_
  exact lw_ret (Drawn.sameBut.refl s.drawn lw_cs) hx hb hr hlk dL_law_2285

set_option maxHeartbeats 4000000 in
set_option maxRecDepth 100000 in
theorem lc_31 {p : Program} {e : Env} {s : State} {m : MethodId} {below : List Frame} {meth : Method} {c : Code} (l : Launch) (hst : l.stackTraces = false) {b : Nat} {xs : Nat → Int32} (C0 : lw_At p s m meth c b 5 xs) (dC : Nat → ClassId) (dI : Nat → Nat → Nat) (g : Nat → Nat) (a0 a1 a2 a3 a4 a5 a6 a7 a8 a9 a10 a11 a12 a13 a14 a15 a16 a17 a18 a19 a20 a21 a22 a23 a24 a25 : Nat) {A : Nat → Prop} (hAe : (fun q : Nat => s.heap.size ≤ q) = A) (hE : EV dC dI g A s) (hA : ∀ q : Nat, s.heap.size ≤ q → A q) (hbA : ¬ A b) (H : Heap) (locs : List Loc) (hP : va_P (dC, dI) CL [(a3, .inr (12, [.ref a4, .ref a5, .ref a6, .ref a7, .ref a8, .ref a9, .ref a10, .ref a11, .null, .ref a12, .ref a13, .int (0), .int (100), .int (0), .int (0), .int (-1), .long (0), .int (1)])), (a2, .inr (15, [.int (0), .int (0), .int (100), .int (0), .int (0), .ref a14, .ref a15, .ref a16, .ref a17, .ref a18, .ref a19, .ref a20, .ref a21, .ref a22, .ref a23, .ref a24, .null, .int (-1), .ref a25, .long (0)])), (a24, .inr (1, [.int (0), .ref (g 21), .int (0)]))] H) (hD : va_D A [(a3, .inr (12, [.ref a4, .ref a5, .ref a6, .ref a7, .ref a8, .ref a9, .ref a10, .ref a11, .null, .ref a12, .ref a13, .int (0), .int (100), .int (0), .int (0), .int (-1), .long (0), .int (1)])), (a2, .inr (15, [.int (0), .int (0), .int (100), .int (0), .int (0), .ref a14, .ref a15, .ref a16, .ref a17, .ref a18, .ref a19, .ref a20, .ref a21, .ref a22, .ref a23, .ref a24, .null, .int (-1), .ref a25, .long (0)])), (a24, .inr (1, [.int (0), .ref (g 21), .int (0)]))]) (hS : va_S A s.heap H locs) (ls : Array Slot) (hl : lv_has ls 9 [(5, .int (0)), (4, .ref a0), (3, .ref a1), (2, .ref a2), (1, .ref a3), (0, .ref b)]) :
    W p l e room_1 s m #[Value.ref b] below meth c H locs 243 2771 (lw_Z below #[Value.ref b] s) (F0 m 44 ls [.int (31)]) := by
  obtain ⟨hx, hb, hr, hml, hown, hts0, hXs, hbl, hlk, hgv⟩ := id C0
  have hts : ∀ w ∈ AW, w.before #[Value.ref b] s = true := fun w h => hts0 w (aw_tbl h)
  have hown : s.vm.findClass "MinestrataLaw" = some m.cls := hown
  have hK := hE.1
  obtain ⟨s1, es1⟩ : ∃ y : Int32, xs (Int32.toNatClampNeg (1)) = y := ⟨_, rfl⟩
  obtain ⟨s2, es2⟩ : ∃ y : Int32, xs (Int32.toNatClampNeg (2)) = y := ⟨_, rfl⟩
  obtain ⟨s3, es3⟩ : ∃ y : Int32, xs (Int32.toNatClampNeg (3)) = y := ⟨_, rfl⟩
  obtain ⟨s4, es4⟩ : ∃ y : Int32, xs (Int32.toNatClampNeg (4)) = y := ⟨_, rfl⟩
  refine lv_tableIn (tgt := 2107) (off := 2063) hx hb dL_law_44 (by decide +kernel) (by decide +kernel) rfl (by decide +kernel) ?_
  refine lv_aload_n hx hb dL_law_2107 rfl (lv_at hl 4 rfl) ?_
  have hX : nCx p s m _ c code 9 "MinestrataLaw" dC dI g A [(a3, .inr (12, [.ref a4, .ref a5, .ref a6, .ref a7, .ref a8, .ref a9, .ref a10, .ref a11, .null, .ref a12, .ref a13, .int (0), .int (100), .int (0), .int (0), .int (-1), .long (0), .int (1)])), (a2, .inr (15, [.int (0), .int (0), .int (100), .int (0), .int (0), .ref a14, .ref a15, .ref a16, .ref a17, .ref a18, .ref a19, .ref a20, .ref a21, .ref a22, .ref a23, .ref a24, .null, .int (-1), .ref a25, .long (0)])), (a24, .inr (1, [.int (0), .ref (g 21), .int (0)]))] _ _ := ⟨⟨hx, hb, hml, hown, hts⟩, hE, hS, hA, hP, hD⟩
  refine n_call (wr := [(a2, .inr (15, [.int (0), .int (0), .int (100), .int (0), .int (0), .ref a14, .ref a15, .ref a16, .ref a17, .ref a18, .ref a19, .ref a20, .ref a21, .ref a22, .ref a23, .ref a24, .null, .int (-1), .ref a25, .long (0)])), (a24, .inr (1, [.int (0), .ref (g 21), .int (0)]))]) hX (n_runV (n := 0) (wc := [(a3, .inr (12, [.ref a4, .ref a5, .ref a6, .ref a7, .ref a8, .ref a9, .ref a10, .ref a11, .null, .ref a12, .ref a13, .int (0), .int (100), .int (0), .int (0), .int (-1), .long (0), .int (1)]))]) (As := []) (rest := []) hX (m388 l hst dC dI g a3 a4 a5 a6 a7 a8 a9 a10 a11 a12 a13 _) [0] rfl (by decide +kernel) 0 (ci := 12) rfl (T := TX11) (N := 18) (C := "Minestrata") rfl q752 q753 q754 q71 q755 (by decide +kernel) ⟨(Nat.le_of_ble_eq_true rfl), (Nat.le_of_ble_eq_true rfl)⟩ ⟨(Nat.le_of_ble_eq_true rfl), (Nat.le_of_ble_eq_true rfl)⟩ hl.1 rfl rfl (Nat.le_of_ble_eq_true rfl) dL_law_2108) [0] [1, 2] rfl rfl (by decide +kernel) (by decide +kernel) (fun f1 r2 H locs hP hD hS => ?_)
  have hP : va_P (dC, dI) CL [(a2, .inr (15, [.int (0), .int (0), .int (100), .int (0), .int (0), .ref a14, .ref a15, .ref a16, .ref a17, .ref a18, .ref a19, .ref a20, .ref a21, .ref a22, .ref a23, .ref a24, .null, .int (-1), .ref a25, .long (0)])), (a24, .inr (1, [.int (0), .ref (g 21), .int (0)])), (a3, .inr (12, [.ref a4, .ref a5, .ref a6, .ref a7, .ref a8, .ref a9, .ref a10, .ref a11, .null, .ref a12, .ref a13, .int (0), .int (100), .int (0), .int (0), .int (-1), .long (0), .int (1)]))] _ := hP
  have hD : va_D A [(a2, .inr (15, [.int (0), .int (0), .int (100), .int (0), .int (0), .ref a14, .ref a15, .ref a16, .ref a17, .ref a18, .ref a19, .ref a20, .ref a21, .ref a22, .ref a23, .ref a24, .null, .int (-1), .ref a25, .long (0)])), (a24, .inr (1, [.int (0), .ref (g 21), .int (0)])), (a3, .inr (12, [.ref a4, .ref a5, .ref a6, .ref a7, .ref a8, .ref a9, .ref a10, .ref a11, .null, .ref a12, .ref a13, .int (0), .int (100), .int (0), .int (0), .int (-1), .long (0), .int (1)]))] := hD
  refine W.widen (k := 243) (n := 2771) (Nat.le_of_ble_eq_true rfl) (Nat.le_of_ble_eq_true rfl) ?_
  refine W.eq (g2 := F0 m 2111 ls [.int (0)]) rfl ?_
  refine lv_aload_n hx hb dL_law_2111 rfl (lv_at hl 3 rfl) ?_
  have hX : nCx p s m _ c code 9 "MinestrataLaw" dC dI g A [(a2, .inr (15, [.int (0), .int (0), .int (100), .int (0), .int (0), .ref a14, .ref a15, .ref a16, .ref a17, .ref a18, .ref a19, .ref a20, .ref a21, .ref a22, .ref a23, .ref a24, .null, .int (-1), .ref a25, .long (0)])), (a24, .inr (1, [.int (0), .ref (g 21), .int (0)])), (a3, .inr (12, [.ref a4, .ref a5, .ref a6, .ref a7, .ref a8, .ref a9, .ref a10, .ref a11, .null, .ref a12, .ref a13, .int (0), .int (100), .int (0), .int (0), .int (-1), .long (0), .int (1)]))] _ _ := ⟨⟨hx, hb, hml, hown, hts⟩, hE, hS, hA, hP, hD⟩
  refine n_call (wr := [(a3, .inr (12, [.ref a4, .ref a5, .ref a6, .ref a7, .ref a8, .ref a9, .ref a10, .ref a11, .null, .ref a12, .ref a13, .int (0), .int (100), .int (0), .int (0), .int (-1), .long (0), .int (1)]))]) hX (n_runV (n := 0) (wc := [(a2, .inr (15, [.int (0), .int (0), .int (100), .int (0), .int (0), .ref a14, .ref a15, .ref a16, .ref a17, .ref a18, .ref a19, .ref a20, .ref a21, .ref a22, .ref a23, .ref a24, .null, .int (-1), .ref a25, .long (0)])), (a24, .inr (1, [.int (0), .ref (g 21), .int (0)]))]) (As := []) (rest := [.int (0)]) hX (m389 l hst dC dI g a2 a14 a15 a16 a17 a18 a19 a20 a21 a22 a23 a24 a25 _) [0, 1] rfl (by decide +kernel) 0 (ci := 15) rfl (T := TX16) (N := 20) (C := "MinestrataModel") rfl q2213 q2214 q2215 q82 q2216 (by decide +kernel) ⟨(Nat.le_of_ble_eq_true rfl), (Nat.le_of_ble_eq_true rfl)⟩ ⟨(Nat.le_of_ble_eq_true rfl), (Nat.le_of_ble_eq_true rfl)⟩ hl.1 rfl rfl (Nat.le_of_ble_eq_true rfl) dL_law_2112) [0, 1] [2] rfl rfl (by decide +kernel) (by decide +kernel) (fun f3 r4 H locs hP hD hS => ?_)
  have hP : va_P (dC, dI) CL [(a3, .inr (12, [.ref a4, .ref a5, .ref a6, .ref a7, .ref a8, .ref a9, .ref a10, .ref a11, .null, .ref a12, .ref a13, .int (0), .int (100), .int (0), .int (0), .int (-1), .long (0), .int (1)])), (a2, .inr (15, [.int (0), .int (0), .int (100), .int (0), .int (0), .ref a14, .ref a15, .ref a16, .ref a17, .ref a18, .ref a19, .ref a20, .ref a21, .ref a22, .ref a23, .ref a24, .null, .int (-1), .ref a25, .long (0)]))] _ := hP
  have hD : va_D A [(a3, .inr (12, [.ref a4, .ref a5, .ref a6, .ref a7, .ref a8, .ref a9, .ref a10, .ref a11, .null, .ref a12, .ref a13, .int (0), .int (100), .int (0), .int (0), .int (-1), .long (0), .int (1)])), (a2, .inr (15, [.int (0), .int (0), .int (100), .int (0), .int (0), .ref a14, .ref a15, .ref a16, .ref a17, .ref a18, .ref a19, .ref a20, .ref a21, .ref a22, .ref a23, .ref a24, .null, .int (-1), .ref a25, .long (0)]))] := hD
  refine W.widen (k := 243) (n := 2771) (Nat.le_of_ble_eq_true rfl) (Nat.le_of_ble_eq_true rfl) ?_
  refine W.eq (g2 := F0 m 2115 ls [.int (0), .int (0)]) rfl ?_
  refine lv_icmp_eq (tgt := 2278) hx hb dL_law_2115 (by decide +kernel) (fun _ => ?_) (fun h => absurd (by decide +kernel) h)
  refine lv_iinc (v := (5)) (lv' := [(5, .int (5)), (4, .ref a0), (3, .ref a1), (2, .ref a2), (1, .ref a3), (0, .ref b)]) hx hb dL_law_2278 hl (k := 0) rfl (by decide +kernel) (by decide) rfl (fun ls hl => ?_)
  refine lv_goto (tgt := 28) hx hb dL_law_2281 (by decide +kernel) ?_
  refine lv_iload hx hb dL_law_28 (lv_at hl 0 rfl) ?_
  refine lv_aload_n hx hb dL_law_30 rfl (lv_at hl 5 rfl) ?_
  refine va_slen hx hb hXs hbl hbA hS dL_law_31 ?_
  refine nt_i (v := (5)) (by decide +kernel) ?_
  refine lv_iconst (v := (5)) hx hb dL_law_32 (by decide +kernel) ?_
  refine lv_isub hx hb dL_law_33 ?_
  refine nt_i (v := (0)) (by decide +kernel) ?_
  refine lv_icmp_gt (tgt := 2284) hx hb dL_law_34 (by decide +kernel) (fun _ => ?_) (fun h => absurd (by decide +kernel) h)
  refine lv_iconst (v := (1)) hx hb dL_law_2284 (by decide +kernel) ?_
  refine va_forget (fun q9 hq9 => by have h9 := hS.2.2 q9 hq9; rw [← hAe] at h9; exact h9) ?_
  refine W.widen (k := 600006) (n := 7302056) (Nat.le_of_ble_eq_true rfl) (Nat.le_of_ble_eq_true rfl) ?_
  refine W.base ?_
  exact lw_ret (Drawn.sameBut.refl s.drawn lw_cs) hx hb hr hlk dL_law_2285

set_option maxHeartbeats 4000000 in
set_option maxRecDepth 100000 in
theorem lc_32 {p : Program} {e : Env} {s : State} {m : MethodId} {below : List Frame} {meth : Method} {c : Code} (l : Launch) (hst : l.stackTraces = false) {b : Nat} {xs : Nat → Int32} (C0 : lw_At p s m meth c b 5 xs) (dC : Nat → ClassId) (dI : Nat → Nat → Nat) (g : Nat → Nat) (a0 a1 a2 a3 a4 a5 a6 a7 a8 a9 a10 a11 a12 a13 a14 a15 a16 a17 a18 a19 a20 a21 a22 a23 a24 a25 : Nat) {A : Nat → Prop} (hAe : (fun q : Nat => s.heap.size ≤ q) = A) (hE : EV dC dI g A s) (hA : ∀ q : Nat, s.heap.size ≤ q → A q) (hbA : ¬ A b) (H : Heap) (locs : List Loc) (hP : va_P (dC, dI) CL [(a3, .inr (12, [.ref a4, .ref a5, .ref a6, .ref a7, .ref a8, .ref a9, .ref a10, .ref a11, .null, .ref a12, .ref a13, .int (0), .int (100), .int (0), .int (0), .int (-1), .long (0), .int (1)])), (a2, .inr (15, [.int (0), .int (0), .int (100), .int (0), .int (0), .ref a14, .ref a15, .ref a16, .ref a17, .ref a18, .ref a19, .ref a20, .ref a21, .ref a22, .ref a23, .ref a24, .null, .int (-1), .ref a25, .long (0)]))] H) (hD : va_D A [(a3, .inr (12, [.ref a4, .ref a5, .ref a6, .ref a7, .ref a8, .ref a9, .ref a10, .ref a11, .null, .ref a12, .ref a13, .int (0), .int (100), .int (0), .int (0), .int (-1), .long (0), .int (1)])), (a2, .inr (15, [.int (0), .int (0), .int (100), .int (0), .int (0), .ref a14, .ref a15, .ref a16, .ref a17, .ref a18, .ref a19, .ref a20, .ref a21, .ref a22, .ref a23, .ref a24, .null, .int (-1), .ref a25, .long (0)]))]) (hS : va_S A s.heap H locs) (ls : Array Slot) (hl : lv_has ls 9 [(5, .int (0)), (4, .ref a0), (3, .ref a1), (2, .ref a2), (1, .ref a3), (0, .ref b)]) :
    W p l e room_1 s m #[Value.ref b] below meth c H locs 243 2771 (lw_Z below #[Value.ref b] s) (F0 m 44 ls [.int (32)]) := by
  obtain ⟨hx, hb, hr, hml, hown, hts0, hXs, hbl, hlk, hgv⟩ := id C0
  have hts : ∀ w ∈ AW, w.before #[Value.ref b] s = true := fun w h => hts0 w (aw_tbl h)
  have hown : s.vm.findClass "MinestrataLaw" = some m.cls := hown
  have hK := hE.1
  obtain ⟨s1, es1⟩ : ∃ y : Int32, xs (Int32.toNatClampNeg (1)) = y := ⟨_, rfl⟩
  obtain ⟨s2, es2⟩ : ∃ y : Int32, xs (Int32.toNatClampNeg (2)) = y := ⟨_, rfl⟩
  obtain ⟨s3, es3⟩ : ∃ y : Int32, xs (Int32.toNatClampNeg (3)) = y := ⟨_, rfl⟩
  obtain ⟨s4, es4⟩ : ∃ y : Int32, xs (Int32.toNatClampNeg (4)) = y := ⟨_, rfl⟩
  refine lv_tableIn (tgt := 2120) (off := 2076) hx hb dL_law_44 (by decide +kernel) (by decide +kernel) rfl (by decide +kernel) ?_
  refine lv_aload_n hx hb dL_law_2120 rfl (lv_at hl 4 rfl) ?_
  have hX : nCx p s m _ c code 9 "MinestrataLaw" dC dI g A [(a3, .inr (12, [.ref a4, .ref a5, .ref a6, .ref a7, .ref a8, .ref a9, .ref a10, .ref a11, .null, .ref a12, .ref a13, .int (0), .int (100), .int (0), .int (0), .int (-1), .long (0), .int (1)])), (a2, .inr (15, [.int (0), .int (0), .int (100), .int (0), .int (0), .ref a14, .ref a15, .ref a16, .ref a17, .ref a18, .ref a19, .ref a20, .ref a21, .ref a22, .ref a23, .ref a24, .null, .int (-1), .ref a25, .long (0)]))] _ _ := ⟨⟨hx, hb, hml, hown, hts⟩, hE, hS, hA, hP, hD⟩
  refine n_call (wr := [(a2, .inr (15, [.int (0), .int (0), .int (100), .int (0), .int (0), .ref a14, .ref a15, .ref a16, .ref a17, .ref a18, .ref a19, .ref a20, .ref a21, .ref a22, .ref a23, .ref a24, .null, .int (-1), .ref a25, .long (0)]))]) hX (n_runV (n := 0) (wc := [(a3, .inr (12, [.ref a4, .ref a5, .ref a6, .ref a7, .ref a8, .ref a9, .ref a10, .ref a11, .null, .ref a12, .ref a13, .int (0), .int (100), .int (0), .int (0), .int (-1), .long (0), .int (1)]))]) (As := []) (rest := []) hX (m390 l hst dC dI g a3 a4 a5 a6 a7 a8 a9 a10 a11 a12 a13 _) [0] rfl (by decide +kernel) 0 (ci := 12) rfl (T := TX11) (N := 18) (C := "Minestrata") rfl q756 q757 q758 q71 q759 (by decide +kernel) ⟨(Nat.le_of_ble_eq_true rfl), (Nat.le_of_ble_eq_true rfl)⟩ ⟨(Nat.le_of_ble_eq_true rfl), (Nat.le_of_ble_eq_true rfl)⟩ hl.1 rfl rfl (Nat.le_of_ble_eq_true rfl) dL_law_2121) [0] [1] rfl rfl (by decide +kernel) (by decide +kernel) (fun f1 r2 H locs hP hD hS => ?_)
  have hP : va_P (dC, dI) CL [(a2, .inr (15, [.int (0), .int (0), .int (100), .int (0), .int (0), .ref a14, .ref a15, .ref a16, .ref a17, .ref a18, .ref a19, .ref a20, .ref a21, .ref a22, .ref a23, .ref a24, .null, .int (-1), .ref a25, .long (0)])), (a3, .inr (12, [.ref a4, .ref a5, .ref a6, .ref a7, .ref a8, .ref a9, .ref a10, .ref a11, .null, .ref a12, .ref a13, .int (0), .int (100), .int (0), .int (0), .int (-1), .long (0), .int (1)]))] _ := hP
  have hD : va_D A [(a2, .inr (15, [.int (0), .int (0), .int (100), .int (0), .int (0), .ref a14, .ref a15, .ref a16, .ref a17, .ref a18, .ref a19, .ref a20, .ref a21, .ref a22, .ref a23, .ref a24, .null, .int (-1), .ref a25, .long (0)])), (a3, .inr (12, [.ref a4, .ref a5, .ref a6, .ref a7, .ref a8, .ref a9, .ref a10, .ref a11, .null, .ref a12, .ref a13, .int (0), .int (100), .int (0), .int (0), .int (-1), .long (0), .int (1)]))] := hD
  refine W.widen (k := 243) (n := 2771) (Nat.le_of_ble_eq_true rfl) (Nat.le_of_ble_eq_true rfl) ?_
  refine W.eq (g2 := F0 m 2124 ls [.long (0)]) rfl ?_
  refine lv_aload_n hx hb dL_law_2124 rfl (lv_at hl 3 rfl) ?_
  have hX : nCx p s m _ c code 9 "MinestrataLaw" dC dI g A [(a2, .inr (15, [.int (0), .int (0), .int (100), .int (0), .int (0), .ref a14, .ref a15, .ref a16, .ref a17, .ref a18, .ref a19, .ref a20, .ref a21, .ref a22, .ref a23, .ref a24, .null, .int (-1), .ref a25, .long (0)])), (a3, .inr (12, [.ref a4, .ref a5, .ref a6, .ref a7, .ref a8, .ref a9, .ref a10, .ref a11, .null, .ref a12, .ref a13, .int (0), .int (100), .int (0), .int (0), .int (-1), .long (0), .int (1)]))] _ _ := ⟨⟨hx, hb, hml, hown, hts⟩, hE, hS, hA, hP, hD⟩
  refine n_call (wr := [(a3, .inr (12, [.ref a4, .ref a5, .ref a6, .ref a7, .ref a8, .ref a9, .ref a10, .ref a11, .null, .ref a12, .ref a13, .int (0), .int (100), .int (0), .int (0), .int (-1), .long (0), .int (1)]))]) hX (n_runV (n := 0) (wc := [(a2, .inr (15, [.int (0), .int (0), .int (100), .int (0), .int (0), .ref a14, .ref a15, .ref a16, .ref a17, .ref a18, .ref a19, .ref a20, .ref a21, .ref a22, .ref a23, .ref a24, .null, .int (-1), .ref a25, .long (0)]))]) (As := []) (rest := [.long (0)]) hX (m391 l hst dC dI g a2 a14 a15 a16 a17 a18 a19 a20 a21 a22 a23 a24 a25 _) [0] rfl (by decide +kernel) 0 (ci := 15) rfl (T := TX16) (N := 20) (C := "MinestrataModel") rfl q2217 q2218 q2219 q82 q2220 (by decide +kernel) ⟨(Nat.le_of_ble_eq_true rfl), (Nat.le_of_ble_eq_true rfl)⟩ ⟨(Nat.le_of_ble_eq_true rfl), (Nat.le_of_ble_eq_true rfl)⟩ hl.1 rfl rfl (Nat.le_of_ble_eq_true rfl) dL_law_2125) [0] [1] rfl rfl (by decide +kernel) (by decide +kernel) (fun f3 r4 H locs hP hD hS => ?_)
  have hP : va_P (dC, dI) CL [(a3, .inr (12, [.ref a4, .ref a5, .ref a6, .ref a7, .ref a8, .ref a9, .ref a10, .ref a11, .null, .ref a12, .ref a13, .int (0), .int (100), .int (0), .int (0), .int (-1), .long (0), .int (1)])), (a2, .inr (15, [.int (0), .int (0), .int (100), .int (0), .int (0), .ref a14, .ref a15, .ref a16, .ref a17, .ref a18, .ref a19, .ref a20, .ref a21, .ref a22, .ref a23, .ref a24, .null, .int (-1), .ref a25, .long (0)]))] _ := hP
  have hD : va_D A [(a3, .inr (12, [.ref a4, .ref a5, .ref a6, .ref a7, .ref a8, .ref a9, .ref a10, .ref a11, .null, .ref a12, .ref a13, .int (0), .int (100), .int (0), .int (0), .int (-1), .long (0), .int (1)])), (a2, .inr (15, [.int (0), .int (0), .int (100), .int (0), .int (0), .ref a14, .ref a15, .ref a16, .ref a17, .ref a18, .ref a19, .ref a20, .ref a21, .ref a22, .ref a23, .ref a24, .null, .int (-1), .ref a25, .long (0)]))] := hD
  refine W.widen (k := 243) (n := 2771) (Nat.le_of_ble_eq_true rfl) (Nat.le_of_ble_eq_true rfl) ?_
  refine W.eq (g2 := F0 m 2128 ls [.long (0), .long (0)]) rfl ?_
  refine W.lcmp hx hb dL_law_2128 ?_
  refine nt_i (v := (0)) (by decide +kernel) ?_
  refine lv_if_eq (tgt := 2278) hx hb dL_law_2129 (by decide +kernel) (fun _ => ?_) (fun h => absurd (by decide +kernel) h)
  refine lv_iinc (v := (5)) (lv' := [(5, .int (5)), (4, .ref a0), (3, .ref a1), (2, .ref a2), (1, .ref a3), (0, .ref b)]) hx hb dL_law_2278 hl (k := 0) rfl (by decide +kernel) (by decide) rfl (fun ls hl => ?_)
  refine lv_goto (tgt := 28) hx hb dL_law_2281 (by decide +kernel) ?_
  refine lv_iload hx hb dL_law_28 (lv_at hl 0 rfl) ?_
  refine lv_aload_n hx hb dL_law_30 rfl (lv_at hl 5 rfl) ?_
  refine va_slen hx hb hXs hbl hbA hS dL_law_31 ?_
  refine nt_i (v := (5)) (by decide +kernel) ?_
  refine lv_iconst (v := (5)) hx hb dL_law_32 (by decide +kernel) ?_
  refine lv_isub hx hb dL_law_33 ?_
  refine nt_i (v := (0)) (by decide +kernel) ?_
  refine lv_icmp_gt (tgt := 2284) hx hb dL_law_34 (by decide +kernel) (fun _ => ?_) (fun h => absurd (by decide +kernel) h)
  refine lv_iconst (v := (1)) hx hb dL_law_2284 (by decide +kernel) ?_
  refine va_forget (fun q9 hq9 => by have h9 := hS.2.2 q9 hq9; rw [← hAe] at h9; exact h9) ?_
  refine W.widen (k := 600006) (n := 7302056) (Nat.le_of_ble_eq_true rfl) (Nat.le_of_ble_eq_true rfl) ?_
  refine W.base ?_
  exact lw_ret (Drawn.sameBut.refl s.drawn lw_cs) hx hb hr hlk dL_law_2285

set_option maxHeartbeats 4000000 in
set_option maxRecDepth 100000 in
theorem lc_33 {p : Program} {e : Env} {s : State} {m : MethodId} {below : List Frame} {meth : Method} {c : Code} (l : Launch) (hst : l.stackTraces = false) {b : Nat} {xs : Nat → Int32} (C0 : lw_At p s m meth c b 5 xs) (dC : Nat → ClassId) (dI : Nat → Nat → Nat) (g : Nat → Nat) (a0 a1 a2 a3 a4 a5 a6 a7 a8 a9 a10 a11 a12 a13 a14 a15 a16 a17 a18 a19 a20 a21 a22 a23 a24 a25 a26 a27 a28 a29 a30 a31 a32 a33 a34 a35 a36 : Nat) {A : Nat → Prop} (hAe : (fun q : Nat => s.heap.size ≤ q) = A) (hE : EV dC dI g A s) (hA : ∀ q : Nat, s.heap.size ≤ q → A q) (hbA : ¬ A b) (H : Heap) (locs : List Loc) (hP : va_P (dC, dI) CL [(a3, .inr (12, [.ref a4, .ref a5, .ref a6, .ref a7, .ref a8, .ref a9, .ref a10, .ref a11, .null, .ref a12, .ref a13, .int (0), .int (100), .int (0), .int (0), .int (-1), .long (0), .int (1)])), (a4, .inr (8, [.int (0), .ref a14, .ref a15, .ref a16, .ref a17, .int (0), .ref a18, .ref a19, .ref a20, .ref a21, .ref a22, .ref a23, .ref a24])), (a2, .inr (15, [.int (0), .int (0), .int (100), .int (0), .int (0), .ref a25, .ref a26, .ref a27, .ref a28, .ref a29, .ref a30, .ref a31, .ref a32, .ref a33, .ref a34, .ref a35, .null, .int (-1), .ref a36, .long (0)]))] H) (hD : va_D A [(a3, .inr (12, [.ref a4, .ref a5, .ref a6, .ref a7, .ref a8, .ref a9, .ref a10, .ref a11, .null, .ref a12, .ref a13, .int (0), .int (100), .int (0), .int (0), .int (-1), .long (0), .int (1)])), (a4, .inr (8, [.int (0), .ref a14, .ref a15, .ref a16, .ref a17, .int (0), .ref a18, .ref a19, .ref a20, .ref a21, .ref a22, .ref a23, .ref a24])), (a2, .inr (15, [.int (0), .int (0), .int (100), .int (0), .int (0), .ref a25, .ref a26, .ref a27, .ref a28, .ref a29, .ref a30, .ref a31, .ref a32, .ref a33, .ref a34, .ref a35, .null, .int (-1), .ref a36, .long (0)]))]) (hS : va_S A s.heap H locs) (ls : Array Slot) (hl : lv_has ls 9 [(5, .int (0)), (4, .ref a0), (3, .ref a1), (2, .ref a2), (1, .ref a3), (0, .ref b)]) :
    W p l e room_1 s m #[Value.ref b] below meth c H locs 243 2771 (lw_Z below #[Value.ref b] s) (F0 m 44 ls [.int (33)]) := by
  obtain ⟨hx, hb, hr, hml, hown, hts0, hXs, hbl, hlk, hgv⟩ := id C0
  have hts : ∀ w ∈ AW, w.before #[Value.ref b] s = true := fun w h => hts0 w (aw_tbl h)
  have hown : s.vm.findClass "MinestrataLaw" = some m.cls := hown
  have hK := hE.1
  obtain ⟨s1, es1⟩ : ∃ y : Int32, xs (Int32.toNatClampNeg (1)) = y := ⟨_, rfl⟩
  obtain ⟨s2, es2⟩ : ∃ y : Int32, xs (Int32.toNatClampNeg (2)) = y := ⟨_, rfl⟩
  obtain ⟨s3, es3⟩ : ∃ y : Int32, xs (Int32.toNatClampNeg (3)) = y := ⟨_, rfl⟩
  obtain ⟨s4, es4⟩ : ∃ y : Int32, xs (Int32.toNatClampNeg (4)) = y := ⟨_, rfl⟩
  refine lv_tableIn (tgt := 2134) (off := 2090) hx hb dL_law_44 (by decide +kernel) (by decide +kernel) rfl (by decide +kernel) ?_
  refine lv_aload_n hx hb dL_law_2134 rfl (lv_at hl 4 rfl) ?_
  refine lv_aload hx hb dL_law_2135 (lv_at hl 1 rfl) ?_
  have hX : nCx p s m _ c code 9 "MinestrataLaw" dC dI g A [(a3, .inr (12, [.ref a4, .ref a5, .ref a6, .ref a7, .ref a8, .ref a9, .ref a10, .ref a11, .null, .ref a12, .ref a13, .int (0), .int (100), .int (0), .int (0), .int (-1), .long (0), .int (1)])), (a4, .inr (8, [.int (0), .ref a14, .ref a15, .ref a16, .ref a17, .int (0), .ref a18, .ref a19, .ref a20, .ref a21, .ref a22, .ref a23, .ref a24])), (a2, .inr (15, [.int (0), .int (0), .int (100), .int (0), .int (0), .ref a25, .ref a26, .ref a27, .ref a28, .ref a29, .ref a30, .ref a31, .ref a32, .ref a33, .ref a34, .ref a35, .null, .int (-1), .ref a36, .long (0)]))] _ _ := ⟨⟨hx, hb, hml, hown, hts⟩, hE, hS, hA, hP, hD⟩
  refine n_call (wr := [(a2, .inr (15, [.int (0), .int (0), .int (100), .int (0), .int (0), .ref a25, .ref a26, .ref a27, .ref a28, .ref a29, .ref a30, .ref a31, .ref a32, .ref a33, .ref a34, .ref a35, .null, .int (-1), .ref a36, .long (0)]))]) hX (n_runSW (n := 2) (wc := [(a3, .inr (12, [.ref a4, .ref a5, .ref a6, .ref a7, .ref a8, .ref a9, .ref a10, .ref a11, .null, .ref a12, .ref a13, .int (0), .int (100), .int (0), .int (0), .int (-1), .long (0), .int (1)])), (a4, .inr (8, [.int (0), .ref a14, .ref a15, .ref a16, .ref a17, .int (0), .ref a18, .ref a19, .ref a20, .ref a21, .ref a22, .ref a23, .ref a24]))]) (As := [.ref a3, .ref a0]) (rest := []) hX (m393 l hst dC dI g a3 a0 a4 a5 a6 a7 a8 a9 a10 a11 a12 a13 a14 a15 a16 a17 a18 a19 a20 a21 a22 a23 a24 _) [0, 1] rfl (by decide +kernel) q1356 q1357 q70 q1358 (by decide +kernel) ⟨(Nat.le_of_ble_eq_true rfl), (Nat.le_of_ble_eq_true rfl)⟩ ⟨(Nat.le_of_ble_eq_true rfl), (Nat.le_of_ble_eq_true rfl)⟩ hl.1 rfl rfl (Nat.le_of_ble_eq_true rfl) dL_law_2137) [0, 1] [2] rfl rfl (by decide +kernel) (by decide +kernel) (fun f1 r2 H locs hP hD hS => ?_)
  have hP : va_P (dC, dI) CL [(a2, .inr (15, [.int (0), .int (0), .int (100), .int (0), .int (0), .ref a25, .ref a26, .ref a27, .ref a28, .ref a29, .ref a30, .ref a31, .ref a32, .ref a33, .ref a34, .ref a35, .null, .int (-1), .ref a36, .long (0)]))] _ := hP
  have hD : va_D A [(a2, .inr (15, [.int (0), .int (0), .int (100), .int (0), .int (0), .ref a25, .ref a26, .ref a27, .ref a28, .ref a29, .ref a30, .ref a31, .ref a32, .ref a33, .ref a34, .ref a35, .null, .int (-1), .ref a36, .long (0)]))] := hD
  refine W.widen (k := 244) (n := 2777) (Nat.le_of_ble_eq_true rfl) (Nat.le_of_ble_eq_true rfl) ?_
  refine W.eq (g2 := F0 m 2140 ls [.int (1)]) rfl ?_
  refine lv_istore (lv' := [(6, .int (1)), (5, .int (0)), (4, .ref a0), (3, .ref a1), (2, .ref a2), (1, .ref a3), (0, .ref b)]) hx hb dL_law_2140 hl (by decide) rfl (fun ls hl => ?_)
  refine lv_aload_n hx hb dL_law_2142 rfl (lv_at hl 4 rfl) ?_
  have hX : nCx p s m _ c code 9 "MinestrataLaw" dC dI g A [(a2, .inr (15, [.int (0), .int (0), .int (100), .int (0), .int (0), .ref a25, .ref a26, .ref a27, .ref a28, .ref a29, .ref a30, .ref a31, .ref a32, .ref a33, .ref a34, .ref a35, .null, .int (-1), .ref a36, .long (0)]))] _ _ := ⟨⟨hx, hb, hml, hown, hts⟩, hE, hS, hA, hP, hD⟩
  refine n_call (wr := []) hX (n_runV (n := 0) (wc := [(a2, .inr (15, [.int (0), .int (0), .int (100), .int (0), .int (0), .ref a25, .ref a26, .ref a27, .ref a28, .ref a29, .ref a30, .ref a31, .ref a32, .ref a33, .ref a34, .ref a35, .null, .int (-1), .ref a36, .long (0)]))]) (As := []) (rest := []) hX (m394 l hst dC dI g a2 a25 a26 a27 a28 a29 a30 a31 a32 a33 a34 a35 a36 _) [0] rfl (by decide +kernel) 0 (ci := 15) rfl (T := TX16) (N := 20) (C := "MinestrataModel") rfl q2221 q2222 q2223 q82 q2224 (by decide +kernel) ⟨(Nat.le_of_ble_eq_true rfl), (Nat.le_of_ble_eq_true rfl)⟩ ⟨(Nat.le_of_ble_eq_true rfl), (Nat.le_of_ble_eq_true rfl)⟩ hl.1 rfl rfl (Nat.le_of_ble_eq_true rfl) dL_law_2143) [0] [] rfl rfl (by decide +kernel) (by decide +kernel) (fun f3 r4 H locs hP hD hS => ?_)
  have hP : va_P (dC, dI) CL [(a2, .inr (15, [.int (1), .int (0), .int (100), .int (0), .int (0), .ref a25, .ref a26, .ref a27, .ref a28, .ref a29, .ref a30, .ref a31, .ref a32, .ref a33, .ref a34, .ref a35, .null, .int (-1), .ref a36, .long (0)]))] _ := hP
  have hD : va_D A [(a2, .inr (15, [.int (1), .int (0), .int (100), .int (0), .int (0), .ref a25, .ref a26, .ref a27, .ref a28, .ref a29, .ref a30, .ref a31, .ref a32, .ref a33, .ref a34, .ref a35, .null, .int (-1), .ref a36, .long (0)]))] := hD
  refine W.widen (k := 244) (n := 2777) (Nat.le_of_ble_eq_true rfl) (Nat.le_of_ble_eq_true rfl) ?_
  refine W.eq (g2 := F0 m 2146 ls [.float FP.fconst0]) rfl ?_
  refine lv_fstore (lv' := [(7, .float FP.fconst0), (6, .int (1)), (5, .int (0)), (4, .ref a0), (3, .ref a1), (2, .ref a2), (1, .ref a3), (0, .ref b)]) hx hb dL_law_2146 hl (by decide) rfl (fun ls hl => ?_)
  refine lv_aload_n hx hb dL_law_2148 rfl (lv_at hl 5 rfl) ?_
  have hX : nCx p s m _ c code 9 "MinestrataLaw" dC dI g A [(a2, .inr (15, [.int (1), .int (0), .int (100), .int (0), .int (0), .ref a25, .ref a26, .ref a27, .ref a28, .ref a29, .ref a30, .ref a31, .ref a32, .ref a33, .ref a34, .ref a35, .null, .int (-1), .ref a36, .long (0)]))] _ _ := ⟨⟨hx, hb, hml, hown, hts⟩, hE, hS, hA, hP, hD⟩
  refine n_call (wr := []) hX (n_runV (n := 0) (wc := [(a2, .inr (15, [.int (1), .int (0), .int (100), .int (0), .int (0), .ref a25, .ref a26, .ref a27, .ref a28, .ref a29, .ref a30, .ref a31, .ref a32, .ref a33, .ref a34, .ref a35, .null, .int (-1), .ref a36, .long (0)]))]) (As := []) (rest := []) hX (m33 l hst dC dI g a2 a25 a26 a27 a28 a29 a30 a31 a32 a33 a34 a35 a36 _) [0] rfl (by decide +kernel) 0 (ci := 15) rfl (T := TX16) (N := 20) (C := "MinestrataModel") rfl q1495 q1496 q1497 q82 q1498 (by decide +kernel) ⟨(Nat.le_of_ble_eq_true rfl), (Nat.le_of_ble_eq_true rfl)⟩ ⟨(Nat.le_of_ble_eq_true rfl), (Nat.le_of_ble_eq_true rfl)⟩ hl.1 rfl rfl (Nat.le_of_ble_eq_true rfl) dL_law_2149) [0] [] rfl rfl (by decide +kernel) (by decide +kernel) (fun f5 r6 H locs hP hD hS => ?_)
  have hP : va_P (dC, dI) CL [(a2, .inr (15, [.int (1), .int (0), .int (100), .int (0), .int (0), .ref a25, .ref a26, .ref a27, .ref a28, .ref a29, .ref a30, .ref a31, .ref a32, .ref a33, .ref a34, .ref a35, .null, .int (-1), .ref a36, .long (0)]))] _ := hP
  have hD : va_D A [(a2, .inr (15, [.int (1), .int (0), .int (100), .int (0), .int (0), .ref a25, .ref a26, .ref a27, .ref a28, .ref a29, .ref a30, .ref a31, .ref a32, .ref a33, .ref a34, .ref a35, .null, .int (-1), .ref a36, .long (0)]))] := hD
  refine W.widen (k := 244) (n := 2777) (Nat.le_of_ble_eq_true rfl) (Nat.le_of_ble_eq_true rfl) ?_
  refine W.eq (g2 := F0 m 2152 ls [.int (1)]) rfl ?_
  refine lv_iload hx hb dL_law_2152 (lv_at hl 1 rfl) ?_
  refine lv_icmp_eq (tgt := 2159) hx hb dL_law_2154 (by decide +kernel) (fun _ => ?_) (fun h => absurd (by decide +kernel) h)
  refine lv_iload hx hb dL_law_2159 (lv_at hl 1 rfl) ?_
  refine lv_if_ne (tgt := 2197) hx hb dL_law_2161 (by decide +kernel) (fun _ => ?_) (fun h => absurd h (by decide +kernel))
  refine lv_goto (tgt := 2278) hx hb dL_law_2197 (by decide +kernel) ?_
  refine lv_iinc (v := (5)) (lv' := [(5, .int (5)), (7, .float FP.fconst0), (6, .int (1)), (4, .ref a0), (3, .ref a1), (2, .ref a2), (1, .ref a3), (0, .ref b)]) hx hb dL_law_2278 hl (k := 2) rfl (by decide +kernel) (by decide) rfl (fun ls hl => ?_)
  refine lv_goto (tgt := 28) hx hb dL_law_2281 (by decide +kernel) ?_
  refine lv_iload hx hb dL_law_28 (lv_at hl 0 rfl) ?_
  refine lv_aload_n hx hb dL_law_30 rfl (lv_at hl 7 rfl) ?_
  refine va_slen hx hb hXs hbl hbA hS dL_law_31 ?_
  refine nt_i (v := (5)) (by decide +kernel) ?_
  refine lv_iconst (v := (5)) hx hb dL_law_32 (by decide +kernel) ?_
  refine lv_isub hx hb dL_law_33 ?_
  refine nt_i (v := (0)) (by decide +kernel) ?_
  refine lv_icmp_gt (tgt := 2284) hx hb dL_law_34 (by decide +kernel) (fun _ => ?_) (fun h => absurd (by decide +kernel) h)
  refine lv_iconst (v := (1)) hx hb dL_law_2284 (by decide +kernel) ?_
  refine va_forget (fun q9 hq9 => by have h9 := hS.2.2 q9 hq9; rw [← hAe] at h9; exact h9) ?_
  refine W.widen (k := 600006) (n := 7302056) (Nat.le_of_ble_eq_true rfl) (Nat.le_of_ble_eq_true rfl) ?_
  refine W.base ?_
  exact lw_ret (Drawn.sameBut.refl s.drawn lw_cs) hx hb hr hlk dL_law_2285

set_option maxHeartbeats 4000000 in
set_option maxRecDepth 100000 in
theorem lc_34 {p : Program} {e : Env} {s : State} {m : MethodId} {below : List Frame} {meth : Method} {c : Code} (l : Launch) (hst : l.stackTraces = false) {b : Nat} {xs : Nat → Int32} (C0 : lw_At p s m meth c b 5 xs) (dC : Nat → ClassId) (dI : Nat → Nat → Nat) (g : Nat → Nat) (a0 a1 a2 a3 a4 a5 a6 a7 a8 a9 a10 a11 a12 a13 a14 a15 a16 a17 a18 a19 a20 a21 a22 a23 a24 a25 a26 a27 a28 a29 a30 a31 a32 a33 a34 : Nat) {A : Nat → Prop} (hAe : (fun q : Nat => s.heap.size ≤ q) = A) (hE : EV dC dI g A s) (hA : ∀ q : Nat, s.heap.size ≤ q → A q) (hbA : ¬ A b) (H : Heap) (locs : List Loc) (hP : va_P (dC, dI) CL [(a3, .inr (12, [.ref a4, .ref a5, .ref a6, .ref a7, .ref a8, .ref a9, .ref a10, .ref a11, .null, .ref a12, .ref a13, .int (0), .int (100), .int (0), .int (0), .int (-1), .long (0), .int (1)])), (a6, .inr (11, [.int (0), .ref a14, .ref a15, .ref a16, .ref a17, .ref a18, .ref a19, .ref a20, .ref a21, .ref a22])), (a2, .inr (15, [.int (0), .int (0), .int (100), .int (0), .int (0), .ref a23, .ref a24, .ref a25, .ref a26, .ref a27, .ref a28, .ref a29, .ref a30, .ref a31, .ref a32, .ref a33, .null, .int (-1), .ref a34, .long (0)])), (a31, .inr (1, [.int (0), .ref (g 21), .int (0)]))] H) (hD : va_D A [(a3, .inr (12, [.ref a4, .ref a5, .ref a6, .ref a7, .ref a8, .ref a9, .ref a10, .ref a11, .null, .ref a12, .ref a13, .int (0), .int (100), .int (0), .int (0), .int (-1), .long (0), .int (1)])), (a6, .inr (11, [.int (0), .ref a14, .ref a15, .ref a16, .ref a17, .ref a18, .ref a19, .ref a20, .ref a21, .ref a22])), (a2, .inr (15, [.int (0), .int (0), .int (100), .int (0), .int (0), .ref a23, .ref a24, .ref a25, .ref a26, .ref a27, .ref a28, .ref a29, .ref a30, .ref a31, .ref a32, .ref a33, .null, .int (-1), .ref a34, .long (0)])), (a31, .inr (1, [.int (0), .ref (g 21), .int (0)]))]) (hS : va_S A s.heap H locs) (ls : Array Slot) (hl : lv_has ls 9 [(5, .int (0)), (4, .ref a0), (3, .ref a1), (2, .ref a2), (1, .ref a3), (0, .ref b)]) :
    W p l e room_1 s m #[Value.ref b] below meth c H locs 243 2771 (lw_Z below #[Value.ref b] s) (F0 m 44 ls [.int (34)]) := by
  obtain ⟨hx, hb, hr, hml, hown, hts0, hXs, hbl, hlk, hgv⟩ := id C0
  have hts : ∀ w ∈ AW, w.before #[Value.ref b] s = true := fun w h => hts0 w (aw_tbl h)
  have hown : s.vm.findClass "MinestrataLaw" = some m.cls := hown
  have hK := hE.1
  obtain ⟨s1, es1⟩ : ∃ y : Int32, xs (Int32.toNatClampNeg (1)) = y := ⟨_, rfl⟩
  obtain ⟨s2, es2⟩ : ∃ y : Int32, xs (Int32.toNatClampNeg (2)) = y := ⟨_, rfl⟩
  obtain ⟨s3, es3⟩ : ∃ y : Int32, xs (Int32.toNatClampNeg (3)) = y := ⟨_, rfl⟩
  obtain ⟨s4, es4⟩ : ∃ y : Int32, xs (Int32.toNatClampNeg (4)) = y := ⟨_, rfl⟩
  refine lv_tableIn (tgt := 2200) (off := 2156) hx hb dL_law_44 (by decide +kernel) (by decide +kernel) rfl (by decide +kernel) ?_
  refine lv_aload_n hx hb dL_law_2200 rfl (lv_at hl 4 rfl) ?_
  refine lv_aload hx hb dL_law_2201 (lv_at hl 1 rfl) ?_
  have hX : nCx p s m _ c code 9 "MinestrataLaw" dC dI g A [(a3, .inr (12, [.ref a4, .ref a5, .ref a6, .ref a7, .ref a8, .ref a9, .ref a10, .ref a11, .null, .ref a12, .ref a13, .int (0), .int (100), .int (0), .int (0), .int (-1), .long (0), .int (1)])), (a6, .inr (11, [.int (0), .ref a14, .ref a15, .ref a16, .ref a17, .ref a18, .ref a19, .ref a20, .ref a21, .ref a22])), (a2, .inr (15, [.int (0), .int (0), .int (100), .int (0), .int (0), .ref a23, .ref a24, .ref a25, .ref a26, .ref a27, .ref a28, .ref a29, .ref a30, .ref a31, .ref a32, .ref a33, .null, .int (-1), .ref a34, .long (0)])), (a31, .inr (1, [.int (0), .ref (g 21), .int (0)]))] _ _ := ⟨⟨hx, hb, hml, hown, hts⟩, hE, hS, hA, hP, hD⟩
  refine n_call (wr := [(a2, .inr (15, [.int (0), .int (0), .int (100), .int (0), .int (0), .ref a23, .ref a24, .ref a25, .ref a26, .ref a27, .ref a28, .ref a29, .ref a30, .ref a31, .ref a32, .ref a33, .null, .int (-1), .ref a34, .long (0)])), (a31, .inr (1, [.int (0), .ref (g 21), .int (0)]))]) hX (n_runSW (n := 2) (wc := [(a3, .inr (12, [.ref a4, .ref a5, .ref a6, .ref a7, .ref a8, .ref a9, .ref a10, .ref a11, .null, .ref a12, .ref a13, .int (0), .int (100), .int (0), .int (0), .int (-1), .long (0), .int (1)])), (a6, .inr (11, [.int (0), .ref a14, .ref a15, .ref a16, .ref a17, .ref a18, .ref a19, .ref a20, .ref a21, .ref a22]))]) (As := [.ref a3, .ref a0]) (rest := []) hX (m396 l hst dC dI g a3 a0 a4 a5 a6 a7 a8 a9 a10 a11 a12 a13 a14 a15 a16 a17 a18 a19 a20 a21 a22 _) [0, 1] rfl (by decide +kernel) q1382 q1383 q70 q1384 (by decide +kernel) ⟨(Nat.le_of_ble_eq_true rfl), (Nat.le_of_ble_eq_true rfl)⟩ ⟨(Nat.le_of_ble_eq_true rfl), (Nat.le_of_ble_eq_true rfl)⟩ hl.1 rfl rfl (Nat.le_of_ble_eq_true rfl) dL_law_2203) [0, 1] [2, 3] rfl rfl (by decide +kernel) (by decide +kernel) (fun f1 r2 H locs hP hD hS => ?_)
  have hP : va_P (dC, dI) CL [(a2, .inr (15, [.int (0), .int (0), .int (100), .int (0), .int (0), .ref a23, .ref a24, .ref a25, .ref a26, .ref a27, .ref a28, .ref a29, .ref a30, .ref a31, .ref a32, .ref a33, .null, .int (-1), .ref a34, .long (0)])), (a31, .inr (1, [.int (0), .ref (g 21), .int (0)]))] _ := hP
  have hD : va_D A [(a2, .inr (15, [.int (0), .int (0), .int (100), .int (0), .int (0), .ref a23, .ref a24, .ref a25, .ref a26, .ref a27, .ref a28, .ref a29, .ref a30, .ref a31, .ref a32, .ref a33, .null, .int (-1), .ref a34, .long (0)])), (a31, .inr (1, [.int (0), .ref (g 21), .int (0)]))] := hD
  refine W.widen (k := 244) (n := 2777) (Nat.le_of_ble_eq_true rfl) (Nat.le_of_ble_eq_true rfl) ?_
  refine W.eq (g2 := F0 m 2206 ls [.int (1)]) rfl ?_
  refine lv_istore (lv' := [(6, .int (1)), (5, .int (0)), (4, .ref a0), (3, .ref a1), (2, .ref a2), (1, .ref a3), (0, .ref b)]) hx hb dL_law_2206 hl (by decide) rfl (fun ls hl => ?_)
  refine lv_aload_n hx hb dL_law_2208 rfl (lv_at hl 4 rfl) ?_
  have hX : nCx p s m _ c code 9 "MinestrataLaw" dC dI g A [(a2, .inr (15, [.int (0), .int (0), .int (100), .int (0), .int (0), .ref a23, .ref a24, .ref a25, .ref a26, .ref a27, .ref a28, .ref a29, .ref a30, .ref a31, .ref a32, .ref a33, .null, .int (-1), .ref a34, .long (0)])), (a31, .inr (1, [.int (0), .ref (g 21), .int (0)]))] _ _ := ⟨⟨hx, hb, hml, hown, hts⟩, hE, hS, hA, hP, hD⟩
  refine n_call (wr := []) hX (n_runV (n := 0) (wc := [(a2, .inr (15, [.int (0), .int (0), .int (100), .int (0), .int (0), .ref a23, .ref a24, .ref a25, .ref a26, .ref a27, .ref a28, .ref a29, .ref a30, .ref a31, .ref a32, .ref a33, .null, .int (-1), .ref a34, .long (0)])), (a31, .inr (1, [.int (0), .ref (g 21), .int (0)]))]) (As := []) (rest := []) hX (m398 l hst dC dI g a2 a23 a24 a25 a26 a27 a28 a29 a30 a31 a32 a33 a34 _) [0, 1] rfl (by decide +kernel) 0 (ci := 15) rfl (T := TX16) (N := 20) (C := "MinestrataModel") rfl q2225 q2226 q2227 q82 q2228 (by decide +kernel) ⟨(Nat.le_of_ble_eq_true rfl), (Nat.le_of_ble_eq_true rfl)⟩ ⟨(Nat.le_of_ble_eq_true rfl), (Nat.le_of_ble_eq_true rfl)⟩ hl.1 rfl rfl (Nat.le_of_ble_eq_true rfl) dL_law_2209) [0, 1] [] rfl rfl (by decide +kernel) (by decide +kernel) (fun f3 r4 H locs hP hD hS => ?_)
  have hP : va_P (dC, dI) CL [(a2, .inr (15, [.int (1), .int (0), .int (100), .int (0), .int (0), .ref a23, .ref a24, .ref a25, .ref a26, .ref a27, .ref a28, .ref a29, .ref a30, .ref a31, .ref a32, .ref a33, .null, .int (-1), .ref a34, .long (0)]))] _ := hP
  have hD : va_D A [(a2, .inr (15, [.int (1), .int (0), .int (100), .int (0), .int (0), .ref a23, .ref a24, .ref a25, .ref a26, .ref a27, .ref a28, .ref a29, .ref a30, .ref a31, .ref a32, .ref a33, .null, .int (-1), .ref a34, .long (0)]))] := hD
  refine W.widen (k := 245) (n := 2781) (Nat.le_of_ble_eq_true rfl) (Nat.le_of_ble_eq_true rfl) ?_
  refine W.eq (g2 := F0 m 2212 ls [.double FP.dconst0]) rfl ?_
  refine lv_dstore (lv' := [(7, .double FP.dconst0), (6, .int (1)), (5, .int (0)), (4, .ref a0), (3, .ref a1), (2, .ref a2), (1, .ref a3), (0, .ref b)]) hx hb dL_law_2212 hl (by decide) rfl (fun ls hl => ?_)
  refine lv_aload_n hx hb dL_law_2214 rfl (lv_at hl 5 rfl) ?_
  have hX : nCx p s m _ c code 9 "MinestrataLaw" dC dI g A [(a2, .inr (15, [.int (1), .int (0), .int (100), .int (0), .int (0), .ref a23, .ref a24, .ref a25, .ref a26, .ref a27, .ref a28, .ref a29, .ref a30, .ref a31, .ref a32, .ref a33, .null, .int (-1), .ref a34, .long (0)]))] _ _ := ⟨⟨hx, hb, hml, hown, hts⟩, hE, hS, hA, hP, hD⟩
  refine n_call (wr := []) hX (n_runV (n := 0) (wc := [(a2, .inr (15, [.int (1), .int (0), .int (100), .int (0), .int (0), .ref a23, .ref a24, .ref a25, .ref a26, .ref a27, .ref a28, .ref a29, .ref a30, .ref a31, .ref a32, .ref a33, .null, .int (-1), .ref a34, .long (0)]))]) (As := []) (rest := []) hX (m33 l hst dC dI g a2 a23 a24 a25 a26 a27 a28 a29 a30 a31 a32 a33 a34 _) [0] rfl (by decide +kernel) 0 (ci := 15) rfl (T := TX16) (N := 20) (C := "MinestrataModel") rfl q1495 q1496 q1497 q82 q1498 (by decide +kernel) ⟨(Nat.le_of_ble_eq_true rfl), (Nat.le_of_ble_eq_true rfl)⟩ ⟨(Nat.le_of_ble_eq_true rfl), (Nat.le_of_ble_eq_true rfl)⟩ hl.1 rfl rfl (Nat.le_of_ble_eq_true rfl) dL_law_2215) [0] [] rfl rfl (by decide +kernel) (by decide +kernel) (fun f5 r6 H locs hP hD hS => ?_)
  have hP : va_P (dC, dI) CL [(a2, .inr (15, [.int (1), .int (0), .int (100), .int (0), .int (0), .ref a23, .ref a24, .ref a25, .ref a26, .ref a27, .ref a28, .ref a29, .ref a30, .ref a31, .ref a32, .ref a33, .null, .int (-1), .ref a34, .long (0)]))] _ := hP
  have hD : va_D A [(a2, .inr (15, [.int (1), .int (0), .int (100), .int (0), .int (0), .ref a23, .ref a24, .ref a25, .ref a26, .ref a27, .ref a28, .ref a29, .ref a30, .ref a31, .ref a32, .ref a33, .null, .int (-1), .ref a34, .long (0)]))] := hD
  refine W.widen (k := 245) (n := 2781) (Nat.le_of_ble_eq_true rfl) (Nat.le_of_ble_eq_true rfl) ?_
  refine W.eq (g2 := F0 m 2218 ls [.int (1)]) rfl ?_
  refine lv_iload hx hb dL_law_2218 (lv_at hl 1 rfl) ?_
  refine lv_icmp_eq (tgt := 2225) hx hb dL_law_2220 (by decide +kernel) (fun _ => ?_) (fun h => absurd (by decide +kernel) h)
  refine lv_iload hx hb dL_law_2225 (lv_at hl 1 rfl) ?_
  refine lv_if_ne (tgt := 2262) hx hb dL_law_2227 (by decide +kernel) (fun _ => ?_) (fun h => absurd h (by decide +kernel))
  refine lv_goto (tgt := 2278) hx hb dL_law_2262 (by decide +kernel) ?_
  refine lv_iinc (v := (5)) (lv' := [(5, .int (5)), (7, .double FP.dconst0), (6, .int (1)), (4, .ref a0), (3, .ref a1), (2, .ref a2), (1, .ref a3), (0, .ref b)]) hx hb dL_law_2278 hl (k := 2) rfl (by decide +kernel) (by decide) rfl (fun ls hl => ?_)
  refine lv_goto (tgt := 28) hx hb dL_law_2281 (by decide +kernel) ?_
  refine lv_iload hx hb dL_law_28 (lv_at hl 0 rfl) ?_
  refine lv_aload_n hx hb dL_law_30 rfl (lv_at hl 7 rfl) ?_
  refine va_slen hx hb hXs hbl hbA hS dL_law_31 ?_
  refine nt_i (v := (5)) (by decide +kernel) ?_
  refine lv_iconst (v := (5)) hx hb dL_law_32 (by decide +kernel) ?_
  refine lv_isub hx hb dL_law_33 ?_
  refine nt_i (v := (0)) (by decide +kernel) ?_
  refine lv_icmp_gt (tgt := 2284) hx hb dL_law_34 (by decide +kernel) (fun _ => ?_) (fun h => absurd (by decide +kernel) h)
  refine lv_iconst (v := (1)) hx hb dL_law_2284 (by decide +kernel) ?_
  refine va_forget (fun q9 hq9 => by have h9 := hS.2.2 q9 hq9; rw [← hAe] at h9; exact h9) ?_
  refine W.widen (k := 600006) (n := 7302056) (Nat.le_of_ble_eq_true rfl) (Nat.le_of_ble_eq_true rfl) ?_
  refine W.base ?_
  exact lw_ret (Drawn.sameBut.refl s.drawn lw_cs) hx hb hr hlk dL_law_2285

set_option maxHeartbeats 4000000 in
set_option maxRecDepth 100000 in
theorem lc_35 {p : Program} {e : Env} {s : State} {m : MethodId} {below : List Frame} {meth : Method} {c : Code} (l : Launch) (hst : l.stackTraces = false) {b : Nat} {xs : Nat → Int32} (C0 : lw_At p s m meth c b 5 xs) (dC : Nat → ClassId) (dI : Nat → Nat → Nat) (g : Nat → Nat) (a0 a1 a2 a3 a4 a5 a6 a7 a8 a9 a10 a11 a12 a13 a14 a15 a16 a17 a18 a19 a20 a21 a22 a23 a24 a25 a26 a27 a28 a29 a30 a31 a32 a33 a34 a35 a36 a37 a38 a39 a40 a41 a42 a43 a44 a45 a46 a47 a48 a49 a50 a51 a52 a53 a54 a55 a56 a57 a58 a59 a60 a61 a62 a63 a64 a65 a66 a67 a68 a69 a70 a71 a72 a73 a74 a75 a76 a77 a78 a79 a80 a81 a82 a83 : Nat) (rr : Nat → Nat) {A : Nat → Prop} (hAe : (fun q : Nat => s.heap.size ≤ q) = A) (hE : EV dC dI g A s) (hA : ∀ q : Nat, s.heap.size ≤ q → A q) (hbA : ¬ A b) (H : Heap) (locs : List Loc) (hP : va_P (dC, dI) CL [(a3, .inr (12, [.ref a4, .ref a5, .ref a6, .ref a7, .ref a8, .ref a9, .ref a10, .ref a11, .null, .ref a12, .ref a13, .int (0), .int (100), .int (0), .int (0), .int (-1), .long (0), .int (1)])), (a4, .inr (8, [.int (0), .ref a14, .ref a15, .ref a16, .ref a17, .int (0), .ref a18, .ref a19, .ref a20, .ref a21, .ref a22, .ref a23, .ref a24])), (a6, .inr (11, [.int (0), .ref a25, .ref a26, .ref a27, .ref a28, .ref a29, .ref a30, .ref a31, .ref a32, .ref a33])), (a8, .inr (2, [.ref a34, .ref a35, .ref a36, .ref a37, .ref a38, .ref a39, .int (0), .ref a40, .ref a41, .ref a42, .ref a43, .ref a44, .ref a45, .ref a46, .int (0), .int (0)])), (a34, .inr (9, [.int (0), .ref a47, .ref a48])), (a47, .inl (g 1, 32, .inr (.inl (fun _ => 0)))), (a48, .inl (g 1, 32, .inr (.inl (fun _ => 0)))), (a35, .inl (g 1, 32, .inr (.inl (fun _ => 0)))), (a40, .inl (g 5, 32, .inr (.inr (.inr (.inr (fun i => if i < 32 then some (rr i) else none)))))), (a41, .inr (7, [.ref a49, .ref a50, .ref a51])), (a42, .inr (3, [.ref a52, .long (2)])), (a43, .inr (5, [.ref a53, .ref a54, .int (0), .int (0), .ref a55, .ref a56])), (a54, .inl (g 1, 32, .inr (.inl (fun _ => 0)))), (a56, .inl (g 1, 32, .inr (.inl (fun _ => 0)))), (a9, .inr (6, [.ref a57, .ref a58, .ref a59, .ref a60, .ref a61, .ref a62, .ref a63, .ref a64, .ref a65, .ref a66, .ref a67, .ref a68, .int (0)])), (a64, .inr (7, [.ref a69, .ref a70, .ref a71])), (a2, .inr (15, [.int (0), .int (0), .int (100), .int (0), .int (0), .ref a72, .ref a73, .ref a74, .ref a75, .ref a76, .ref a77, .ref a78, .ref a79, .ref a80, .ref a81, .ref a82, .null, .int (-1), .ref a83, .long (0)]))] H) (hD : va_D A [(a3, .inr (12, [.ref a4, .ref a5, .ref a6, .ref a7, .ref a8, .ref a9, .ref a10, .ref a11, .null, .ref a12, .ref a13, .int (0), .int (100), .int (0), .int (0), .int (-1), .long (0), .int (1)])), (a4, .inr (8, [.int (0), .ref a14, .ref a15, .ref a16, .ref a17, .int (0), .ref a18, .ref a19, .ref a20, .ref a21, .ref a22, .ref a23, .ref a24])), (a6, .inr (11, [.int (0), .ref a25, .ref a26, .ref a27, .ref a28, .ref a29, .ref a30, .ref a31, .ref a32, .ref a33])), (a8, .inr (2, [.ref a34, .ref a35, .ref a36, .ref a37, .ref a38, .ref a39, .int (0), .ref a40, .ref a41, .ref a42, .ref a43, .ref a44, .ref a45, .ref a46, .int (0), .int (0)])), (a34, .inr (9, [.int (0), .ref a47, .ref a48])), (a47, .inl (g 1, 32, .inr (.inl (fun _ => 0)))), (a48, .inl (g 1, 32, .inr (.inl (fun _ => 0)))), (a35, .inl (g 1, 32, .inr (.inl (fun _ => 0)))), (a40, .inl (g 5, 32, .inr (.inr (.inr (.inr (fun i => if i < 32 then some (rr i) else none)))))), (a41, .inr (7, [.ref a49, .ref a50, .ref a51])), (a42, .inr (3, [.ref a52, .long (2)])), (a43, .inr (5, [.ref a53, .ref a54, .int (0), .int (0), .ref a55, .ref a56])), (a54, .inl (g 1, 32, .inr (.inl (fun _ => 0)))), (a56, .inl (g 1, 32, .inr (.inl (fun _ => 0)))), (a9, .inr (6, [.ref a57, .ref a58, .ref a59, .ref a60, .ref a61, .ref a62, .ref a63, .ref a64, .ref a65, .ref a66, .ref a67, .ref a68, .int (0)])), (a64, .inr (7, [.ref a69, .ref a70, .ref a71])), (a2, .inr (15, [.int (0), .int (0), .int (100), .int (0), .int (0), .ref a72, .ref a73, .ref a74, .ref a75, .ref a76, .ref a77, .ref a78, .ref a79, .ref a80, .ref a81, .ref a82, .null, .int (-1), .ref a83, .long (0)]))]) (hS : va_S A s.heap H locs) (ls : Array Slot) (hl : lv_has ls 9 [(5, .int (0)), (4, .ref a0), (3, .ref a1), (2, .ref a2), (1, .ref a3), (0, .ref b)]) :
    W p l e room_1 s m #[Value.ref b] below meth c H locs 243 2771 (lw_Z below #[Value.ref b] s) (F0 m 44 ls [.int (35)]) := by
  obtain ⟨hx, hb, hr, hml, hown, hts0, hXs, hbl, hlk, hgv⟩ := id C0
  have hts : ∀ w ∈ AW, w.before #[Value.ref b] s = true := fun w h => hts0 w (aw_tbl h)
  have hown : s.vm.findClass "MinestrataLaw" = some m.cls := hown
  have hK := hE.1
  obtain ⟨s1, es1⟩ : ∃ y : Int32, xs (Int32.toNatClampNeg (1)) = y := ⟨_, rfl⟩
  obtain ⟨s2, es2⟩ : ∃ y : Int32, xs (Int32.toNatClampNeg (2)) = y := ⟨_, rfl⟩
  obtain ⟨s3, es3⟩ : ∃ y : Int32, xs (Int32.toNatClampNeg (3)) = y := ⟨_, rfl⟩
  obtain ⟨s4, es4⟩ : ∃ y : Int32, xs (Int32.toNatClampNeg (4)) = y := ⟨_, rfl⟩
  refine lv_tableIn (tgt := 2265) (off := 2221) hx hb dL_law_44 (by decide +kernel) (by decide +kernel) rfl (by decide +kernel) ?_
  refine lv_aload_n hx hb dL_law_2265 rfl (lv_at hl 4 rfl) ?_
  have hX : nCx p s m _ c code 9 "MinestrataLaw" dC dI g A [(a3, .inr (12, [.ref a4, .ref a5, .ref a6, .ref a7, .ref a8, .ref a9, .ref a10, .ref a11, .null, .ref a12, .ref a13, .int (0), .int (100), .int (0), .int (0), .int (-1), .long (0), .int (1)])), (a4, .inr (8, [.int (0), .ref a14, .ref a15, .ref a16, .ref a17, .int (0), .ref a18, .ref a19, .ref a20, .ref a21, .ref a22, .ref a23, .ref a24])), (a6, .inr (11, [.int (0), .ref a25, .ref a26, .ref a27, .ref a28, .ref a29, .ref a30, .ref a31, .ref a32, .ref a33])), (a8, .inr (2, [.ref a34, .ref a35, .ref a36, .ref a37, .ref a38, .ref a39, .int (0), .ref a40, .ref a41, .ref a42, .ref a43, .ref a44, .ref a45, .ref a46, .int (0), .int (0)])), (a34, .inr (9, [.int (0), .ref a47, .ref a48])), (a47, .inl (g 1, 32, .inr (.inl (fun _ => 0)))), (a48, .inl (g 1, 32, .inr (.inl (fun _ => 0)))), (a35, .inl (g 1, 32, .inr (.inl (fun _ => 0)))), (a40, .inl (g 5, 32, .inr (.inr (.inr (.inr (fun i => if i < 32 then some (rr i) else none)))))), (a41, .inr (7, [.ref a49, .ref a50, .ref a51])), (a42, .inr (3, [.ref a52, .long (2)])), (a43, .inr (5, [.ref a53, .ref a54, .int (0), .int (0), .ref a55, .ref a56])), (a54, .inl (g 1, 32, .inr (.inl (fun _ => 0)))), (a56, .inl (g 1, 32, .inr (.inl (fun _ => 0)))), (a9, .inr (6, [.ref a57, .ref a58, .ref a59, .ref a60, .ref a61, .ref a62, .ref a63, .ref a64, .ref a65, .ref a66, .ref a67, .ref a68, .int (0)])), (a64, .inr (7, [.ref a69, .ref a70, .ref a71])), (a2, .inr (15, [.int (0), .int (0), .int (100), .int (0), .int (0), .ref a72, .ref a73, .ref a74, .ref a75, .ref a76, .ref a77, .ref a78, .ref a79, .ref a80, .ref a81, .ref a82, .null, .int (-1), .ref a83, .long (0)]))] _ _ := ⟨⟨hx, hb, hml, hown, hts⟩, hE, hS, hA, hP, hD⟩
  refine n_call (wr := [(a2, .inr (15, [.int (0), .int (0), .int (100), .int (0), .int (0), .ref a72, .ref a73, .ref a74, .ref a75, .ref a76, .ref a77, .ref a78, .ref a79, .ref a80, .ref a81, .ref a82, .null, .int (-1), .ref a83, .long (0)]))]) hX (n_runV (n := 0) (wc := [(a3, .inr (12, [.ref a4, .ref a5, .ref a6, .ref a7, .ref a8, .ref a9, .ref a10, .ref a11, .null, .ref a12, .ref a13, .int (0), .int (100), .int (0), .int (0), .int (-1), .long (0), .int (1)])), (a4, .inr (8, [.int (0), .ref a14, .ref a15, .ref a16, .ref a17, .int (0), .ref a18, .ref a19, .ref a20, .ref a21, .ref a22, .ref a23, .ref a24])), (a6, .inr (11, [.int (0), .ref a25, .ref a26, .ref a27, .ref a28, .ref a29, .ref a30, .ref a31, .ref a32, .ref a33])), (a8, .inr (2, [.ref a34, .ref a35, .ref a36, .ref a37, .ref a38, .ref a39, .int (0), .ref a40, .ref a41, .ref a42, .ref a43, .ref a44, .ref a45, .ref a46, .int (0), .int (0)])), (a34, .inr (9, [.int (0), .ref a47, .ref a48])), (a47, .inl (g 1, 32, .inr (.inl (fun _ => 0)))), (a48, .inl (g 1, 32, .inr (.inl (fun _ => 0)))), (a35, .inl (g 1, 32, .inr (.inl (fun _ => 0)))), (a40, .inl (g 5, 32, .inr (.inr (.inr (.inr (fun i => if i < 32 then some (rr i) else none)))))), (a41, .inr (7, [.ref a49, .ref a50, .ref a51])), (a42, .inr (3, [.ref a52, .long (2)])), (a43, .inr (5, [.ref a53, .ref a54, .int (0), .int (0), .ref a55, .ref a56])), (a54, .inl (g 1, 32, .inr (.inl (fun _ => 0)))), (a56, .inl (g 1, 32, .inr (.inl (fun _ => 0)))), (a9, .inr (6, [.ref a57, .ref a58, .ref a59, .ref a60, .ref a61, .ref a62, .ref a63, .ref a64, .ref a65, .ref a66, .ref a67, .ref a68, .int (0)])), (a64, .inr (7, [.ref a69, .ref a70, .ref a71]))]) (As := []) (rest := []) hX (m413 l hst dC dI g a3 a4 a5 a6 a7 a8 a9 a10 a11 a12 a13 a14 a15 a16 a17 a18 a19 a20 a21 a22 a23 a24 a25 a26 a27 a28 a29 a30 a31 a32 a33 a34 a35 a36 a37 a38 a39 a40 a41 a42 a43 a44 a45 a46 a47 a48 a49 a50 a51 a52 a53 a54 a55 a56 a57 a58 a59 a60 a61 a62 a63 a64 a65 a66 a67 a68 a69 a70 a71 rr _) [0, 1, 2, 3, 4, 5, 6, 7, 8, 9, 10, 11, 12, 13, 14, 15] rfl (by decide +kernel) 0 (ci := 12) rfl (T := TX11) (N := 18) (C := "Minestrata") rfl q760 q761 q762 q71 q763 (by decide +kernel) ⟨(Nat.le_of_ble_eq_true rfl), (Nat.le_of_ble_eq_true rfl)⟩ ⟨(Nat.le_of_ble_eq_true rfl), (Nat.le_of_ble_eq_true rfl)⟩ hl.1 rfl rfl (Nat.le_of_ble_eq_true rfl) dL_law_2266) [0, 1, 2, 3, 4, 5, 6, 7, 8, 9, 10, 11, 12, 13, 14, 15] [16] rfl rfl (by decide +kernel) (by decide +kernel) (fun f1 r2 H locs hP hD hS => ?_)
  have hP : va_P (dC, dI) CL [(a2, .inr (15, [.int (0), .int (0), .int (100), .int (0), .int (0), .ref a72, .ref a73, .ref a74, .ref a75, .ref a76, .ref a77, .ref a78, .ref a79, .ref a80, .ref a81, .ref a82, .null, .int (-1), .ref a83, .long (0)]))] _ := hP
  have hD : va_D A [(a2, .inr (15, [.int (0), .int (0), .int (100), .int (0), .int (0), .ref a72, .ref a73, .ref a74, .ref a75, .ref a76, .ref a77, .ref a78, .ref a79, .ref a80, .ref a81, .ref a82, .null, .int (-1), .ref a83, .long (0)]))] := hD
  refine W.widen (k := 243) (n := 2771) (Nat.le_of_ble_eq_true rfl) (Nat.le_of_ble_eq_true rfl) ?_
  refine W.eq (g2 := F0 m 2269 ls [.int (1)]) rfl ?_
  refine lv_aload_n hx hb dL_law_2269 rfl (lv_at hl 3 rfl) ?_
  have hX : nCx p s m _ c code 9 "MinestrataLaw" dC dI g A [(a2, .inr (15, [.int (0), .int (0), .int (100), .int (0), .int (0), .ref a72, .ref a73, .ref a74, .ref a75, .ref a76, .ref a77, .ref a78, .ref a79, .ref a80, .ref a81, .ref a82, .null, .int (-1), .ref a83, .long (0)]))] _ _ := ⟨⟨hx, hb, hml, hown, hts⟩, hE, hS, hA, hP, hD⟩
  refine n_call (wr := []) hX (n_runV (n := 0) (wc := [(a2, .inr (15, [.int (0), .int (0), .int (100), .int (0), .int (0), .ref a72, .ref a73, .ref a74, .ref a75, .ref a76, .ref a77, .ref a78, .ref a79, .ref a80, .ref a81, .ref a82, .null, .int (-1), .ref a83, .long (0)]))]) (As := []) (rest := [.int (1)]) hX (m414 l hst dC dI g a2 a72 a73 a74 a75 a76 a77 a78 a79 a80 a81 a82 a83 _) [0] rfl (by decide +kernel) 0 (ci := 15) rfl (T := TX16) (N := 20) (C := "MinestrataModel") rfl q2229 q2230 q2231 q82 q2232 (by decide +kernel) ⟨(Nat.le_of_ble_eq_true rfl), (Nat.le_of_ble_eq_true rfl)⟩ ⟨(Nat.le_of_ble_eq_true rfl), (Nat.le_of_ble_eq_true rfl)⟩ hl.1 rfl rfl (Nat.le_of_ble_eq_true rfl) dL_law_2270) [0] [] rfl rfl (by decide +kernel) (by decide +kernel) (fun f3 r4 H locs hP hD hS => ?_)
  have hP : va_P (dC, dI) CL [] _ := hP
  have hD : va_D A [] := hD
  refine W.widen (k := 243) (n := 2771) (Nat.le_of_ble_eq_true rfl) (Nat.le_of_ble_eq_true rfl) ?_
  refine W.eq (g2 := F0 m 2273 ls [.int (1), .int (1)]) rfl ?_
  refine lv_icmp_eq (tgt := 2278) hx hb dL_law_2273 (by decide +kernel) (fun _ => ?_) (fun h => absurd (by decide +kernel) h)
  refine lv_iinc (v := (5)) (lv' := [(5, .int (5)), (4, .ref a0), (3, .ref a1), (2, .ref a2), (1, .ref a3), (0, .ref b)]) hx hb dL_law_2278 hl (k := 0) rfl (by decide +kernel) (by decide) rfl (fun ls hl => ?_)
  refine lv_goto (tgt := 28) hx hb dL_law_2281 (by decide +kernel) ?_
  refine lv_iload hx hb dL_law_28 (lv_at hl 0 rfl) ?_
  refine lv_aload_n hx hb dL_law_30 rfl (lv_at hl 5 rfl) ?_
  refine va_slen hx hb hXs hbl hbA hS dL_law_31 ?_
  refine nt_i (v := (5)) (by decide +kernel) ?_
  refine lv_iconst (v := (5)) hx hb dL_law_32 (by decide +kernel) ?_
  refine lv_isub hx hb dL_law_33 ?_
  refine nt_i (v := (0)) (by decide +kernel) ?_
  refine lv_icmp_gt (tgt := 2284) hx hb dL_law_34 (by decide +kernel) (fun _ => ?_) (fun h => absurd (by decide +kernel) h)
  refine lv_iconst (v := (1)) hx hb dL_law_2284 (by decide +kernel) ?_
  refine va_forget (fun q9 hq9 => by have h9 := hS.2.2 q9 hq9; rw [← hAe] at h9; exact h9) ?_
  refine W.widen (k := 600006) (n := 7302056) (Nat.le_of_ble_eq_true rfl) (Nat.le_of_ble_eq_true rfl) ?_
  refine W.base ?_
  exact lw_ret (Drawn.sameBut.refl s.drawn lw_cs) hx hb hr hlk dL_law_2285

