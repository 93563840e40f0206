set_option maxHeartbeats 4000000 in
set_option maxRecDepth 100000 in
theorem lc_6 {p : Program} {e : Env} {s : State} {m : MethodId} {below : List Frame} {meth : Method} {c : Code} (l : Launch) (hst : l.stackTraces = false) {b : Nat} {xs : Nat → Int32} (C0 : lw_At p s m meth c b 5 xs) (dC : Nat → ClassId) (dI : Nat → Nat → Nat) (g : Nat → Nat) (a0 a1 a2 a3 a4 a5 a6 a7 a8 a9 a10 a11 a12 a13 a14 a15 a16 a17 a18 a19 a20 a21 a22 a23 a24 a25 a26 a27 a28 a29 a30 a31 a32 a33 a34 a35 a36 : Nat) {A : Nat → Prop} (hAe : (fun q : Nat => s.heap.size ≤ q) = A) (hE : EV dC dI g A s) (hA : ∀ q : Nat, s.heap.size ≤ q → A q) (hbA : ¬ A b) (H : Heap) (locs : List Loc) (hP : va_P (dC, dI) CL [(a3, .inr (12, [.ref a4, .ref a5, .ref a6, .ref a7, .ref a8, .ref a9, .ref a10, .ref a11, .null, .ref a12, .ref a13, .int (0), .int (100), .int (0), .int (0), .int (-1), .long (0), .int (1)])), (a4, .inr (8, [.int (0), .ref a14, .ref a15, .ref a16, .ref a17, .int (0), .ref a18, .ref a19, .ref a20, .ref a21, .ref a22, .ref a23, .ref a24])), (a2, .inr (15, [.int (0), .int (0), .int (100), .int (0), .int (0), .ref a25, .ref a26, .ref a27, .ref a28, .ref a29, .ref a30, .ref a31, .ref a32, .ref a33, .ref a34, .ref a35, .null, .int (-1), .ref a36, .long (0)]))] H) (hD : va_D A [(a3, .inr (12, [.ref a4, .ref a5, .ref a6, .ref a7, .ref a8, .ref a9, .ref a10, .ref a11, .null, .ref a12, .ref a13, .int (0), .int (100), .int (0), .int (0), .int (-1), .long (0), .int (1)])), (a4, .inr (8, [.int (0), .ref a14, .ref a15, .ref a16, .ref a17, .int (0), .ref a18, .ref a19, .ref a20, .ref a21, .ref a22, .ref a23, .ref a24])), (a2, .inr (15, [.int (0), .int (0), .int (100), .int (0), .int (0), .ref a25, .ref a26, .ref a27, .ref a28, .ref a29, .ref a30, .ref a31, .ref a32, .ref a33, .ref a34, .ref a35, .null, .int (-1), .ref a36, .long (0)]))]) (hS : va_S A s.heap H locs) (ls : Array Slot) (hl : lv_has ls 9 [(5, .int (0)), (4, .ref a0), (3, .ref a1), (2, .ref a2), (1, .ref a3), (0, .ref b)]) :
    W p l e room_1 s m #[Value.ref b] below meth c H locs 243 2771 (lw_Z below #[Value.ref b] s) (F0 m 44 ls [.int (6)]) := by
  obtain ⟨hx, hb, hr, hml, hown, hts0, hXs, hbl, hlk, hgv⟩ := id C0
  have hts : ∀ w ∈ AW, w.before #[Value.ref b] s = true := fun w h => hts0 w (aw_tbl h)
  have hown : s.vm.findClass "MinestrataLaw" = some m.cls := hown
  have hK := hE.1
  obtain ⟨s1, es1⟩ : ∃ y : Int32, xs (Int32.toNatClampNeg (1)) = y := ⟨_, rfl⟩
  obtain ⟨s2, es2⟩ : ∃ y : Int32, xs (Int32.toNatClampNeg (2)) = y := ⟨_, rfl⟩
  obtain ⟨s3, es3⟩ : ∃ y : Int32, xs (Int32.toNatClampNeg (3)) = y := ⟨_, rfl⟩
  obtain ⟨s4, es4⟩ : ∃ y : Int32, xs (Int32.toNatClampNeg (4)) = y := ⟨_, rfl⟩
  refine lv_tableIn (tgt := 694) (off := 650) hx hb dL_law_44 (by decide +kernel) (by decide +kernel) rfl (by decide +kernel) ?_
  refine lv_aload_n hx hb dL_law_694 rfl (lv_at hl 4 rfl) ?_
  refine lv_aload_n hx hb dL_law_695 rfl (lv_at hl 5 rfl) ?_
  refine lv_iload hx hb dL_law_696 (lv_at hl 0 rfl) ?_
  refine lv_iconst (v := (1)) hx hb dL_law_698 (by decide +kernel) ?_
  refine lv_iadd hx hb dL_law_699 ?_
  refine nt_i (v := (1)) (by decide +kernel) ?_
  refine va_sld hx hb hXs hbl hbA hS (show ¬ ((1 : Int32) < 0 ∨ 5 ≤ Int32.toNatClampNeg (1)) by decide +kernel) dL_law_700 ?_
  refine nt_i (v := s1) es1 ?_
  refine lv_aload_n hx hb dL_law_701 rfl (lv_at hl 2 rfl) ?_
  have hX : nCx p s m _ c code 9 "MinestrataLaw" dC dI g A [(a3, .inr (12, [.ref a4, .ref a5, .ref a6, .ref a7, .ref a8, .ref a9, .ref a10, .ref a11, .null, .ref a12, .ref a13, .int (0), .int (100), .int (0), .int (0), .int (-1), .long (0), .int (1)])), (a4, .inr (8, [.int (0), .ref a14, .ref a15, .ref a16, .ref a17, .int (0), .ref a18, .ref a19, .ref a20, .ref a21, .ref a22, .ref a23, .ref a24])), (a2, .inr (15, [.int (0), .int (0), .int (100), .int (0), .int (0), .ref a25, .ref a26, .ref a27, .ref a28, .ref a29, .ref a30, .ref a31, .ref a32, .ref a33, .ref a34, .ref a35, .null, .int (-1), .ref a36, .long (0)]))] _ _ := ⟨⟨hx, hb, hml, hown, hts⟩, hE, hS, hA, hP, hD⟩
  refine n_call (wr := [(a2, .inr (15, [.int (0), .int (0), .int (100), .int (0), .int (0), .ref a25, .ref a26, .ref a27, .ref a28, .ref a29, .ref a30, .ref a31, .ref a32, .ref a33, .ref a34, .ref a35, .null, .int (-1), .ref a36, .long (0)]))]) hX (n_runSW (n := 3) (wc := [(a3, .inr (12, [.ref a4, .ref a5, .ref a6, .ref a7, .ref a8, .ref a9, .ref a10, .ref a11, .null, .ref a12, .ref a13, .int (0), .int (100), .int (0), .int (0), .int (-1), .long (0), .int (1)])), (a4, .inr (8, [.int (0), .ref a14, .ref a15, .ref a16, .ref a17, .int (0), .ref a18, .ref a19, .ref a20, .ref a21, .ref a22, .ref a23, .ref a24]))]) (As := [.ref a3, .int s1, .ref a1]) (rest := []) hX (m84 l hst dC dI g a3 a1 a4 a5 a6 a7 a8 a9 a10 a11 a12 a13 a14 a15 a16 a17 a18 a19 a20 a21 a22 a23 a24 s1 _) [0, 1] rfl (by decide +kernel) q1015 q1016 q70 q1017 (by decide +kernel) ⟨(Nat.le_of_ble_eq_true rfl), (Nat.le_of_ble_eq_true rfl)⟩ ⟨(Nat.le_of_ble_eq_true rfl), (Nat.le_of_ble_eq_true rfl)⟩ hl.1 rfl rfl (Nat.le_of_ble_eq_true rfl) dL_law_702) [0, 1] [2] rfl rfl (by decide +kernel) (by decide +kernel) (fun f1 r2 H locs hP hD hS => ?_)
  have hP : va_P (dC, dI) CL [(a2, .inr (15, [.int (0), .int (0), .int (100), .int (0), .int (0), .ref a25, .ref a26, .ref a27, .ref a28, .ref a29, .ref a30, .ref a31, .ref a32, .ref a33, .ref a34, .ref a35, .null, .int (-1), .ref a36, .long (0)]))] _ := hP
  have hD : va_D A [(a2, .inr (15, [.int (0), .int (0), .int (100), .int (0), .int (0), .ref a25, .ref a26, .ref a27, .ref a28, .ref a29, .ref a30, .ref a31, .ref a32, .ref a33, .ref a34, .ref a35, .null, .int (-1), .ref a36, .long (0)]))] := hD
  refine W.widen (k := 244) (n := 2777) (Nat.le_of_ble_eq_true rfl) (Nat.le_of_ble_eq_true rfl) ?_
  refine W.eq (g2 := F0 m 705 ls [.int (1)]) rfl ?_
  refine lv_istore (lv' := [(6, .int (1)), (5, .int (0)), (4, .ref a0), (3, .ref a1), (2, .ref a2), (1, .ref a3), (0, .ref b)]) hx hb dL_law_705 hl (by decide) rfl (fun ls hl => ?_)
  refine lv_aload_n hx hb dL_law_707 rfl (lv_at hl 4 rfl) ?_
  refine lv_aload_n hx hb dL_law_708 rfl (lv_at hl 6 rfl) ?_
  refine lv_iload hx hb dL_law_709 (lv_at hl 1 rfl) ?_
  refine lv_iconst (v := (1)) hx hb dL_law_711 (by decide +kernel) ?_
  refine lv_iadd hx hb dL_law_712 ?_
  refine nt_i (v := (1)) (by decide +kernel) ?_
  refine va_sld hx hb hXs hbl hbA hS (show ¬ ((1 : Int32) < 0 ∨ 5 ≤ Int32.toNatClampNeg (1)) by decide +kernel) dL_law_713 ?_
  refine nt_i (v := s1) es1 ?_
  have hX : nCx p s m _ c code 9 "MinestrataLaw" dC dI g A [(a2, .inr (15, [.int (0), .int (0), .int (100), .int (0), .int (0), .ref a25, .ref a26, .ref a27, .ref a28, .ref a29, .ref a30, .ref a31, .ref a32, .ref a33, .ref a34, .ref a35, .null, .int (-1), .ref a36, .long (0)]))] _ _ := ⟨⟨hx, hb, hml, hown, hts⟩, hE, hS, hA, hP, hD⟩
  refine n_call (wr := []) hX (n_runV (n := 1) (wc := [(a2, .inr (15, [.int (0), .int (0), .int (100), .int (0), .int (0), .ref a25, .ref a26, .ref a27, .ref a28, .ref a29, .ref a30, .ref a31, .ref a32, .ref a33, .ref a34, .ref a35, .null, .int (-1), .ref a36, .long (0)]))]) (As := [.int s1]) (rest := []) hX (m85 l hst dC dI g a2 a25 a26 a27 a28 a29 a30 a31 a32 a33 a34 a35 a36 s1 _) [0] rfl (by decide +kernel) 0 (ci := 15) rfl (T := TX16) (N := 20) (C := "MinestrataModel") rfl q1981 q1982 q1983 q82 q1984 (by decide +kernel) ⟨(Nat.le_of_ble_eq_true rfl), (Nat.le_of_ble_eq_true rfl)⟩ ⟨(Nat.le_of_ble_eq_true rfl), (Nat.le_of_ble_eq_true rfl)⟩ hl.1 rfl rfl (Nat.le_of_ble_eq_true rfl) dL_law_714) [0] [] rfl rfl (by decide +kernel) (by decide +kernel) (fun f3 r4 H locs hP hD hS => ?_)
  have hP : va_P (dC, dI) CL [(a2, .inr (15, [.int (1), .int (0), .int (100), .int (0), .int (0), .ref a25, .ref a26, .ref a27, .ref a28, .ref a29, .ref a30, .ref a31, .ref a32, .ref a33, .ref a34, .ref a35, .null, .int (-1), .ref a36, .long (0)]))] _ := hP
  have hD : va_D A [(a2, .inr (15, [.int (1), .int (0), .int (100), .int (0), .int (0), .ref a25, .ref a26, .ref a27, .ref a28, .ref a29, .ref a30, .ref a31, .ref a32, .ref a33, .ref a34, .ref a35, .null, .int (-1), .ref a36, .long (0)]))] := hD
  refine W.widen (k := 244) (n := 2777) (Nat.le_of_ble_eq_true rfl) (Nat.le_of_ble_eq_true rfl) ?_
  refine W.eq (g2 := F0 m 717 ls [.int (0)]) rfl ?_
  refine lv_istore (lv' := [(7, .int (0)), (6, .int (1)), (5, .int (0)), (4, .ref a0), (3, .ref a1), (2, .ref a2), (1, .ref a3), (0, .ref b)]) hx hb dL_law_717 hl (by decide) rfl (fun ls hl => ?_)
  refine lv_aload_n hx hb dL_law_719 rfl (lv_at hl 5 rfl) ?_
  have hX : nCx p s m _ c code 9 "MinestrataLaw" dC dI g A [(a2, .inr (15, [.int (1), .int (0), .int (100), .int (0), .int (0), .ref a25, .ref a26, .ref a27, .ref a28, .ref a29, .ref a30, .ref a31, .ref a32, .ref a33, .ref a34, .ref a35, .null, .int (-1), .ref a36, .long (0)]))] _ _ := ⟨⟨hx, hb, hml, hown, hts⟩, hE, hS, hA, hP, hD⟩
  refine n_call (wr := []) hX (n_runV (n := 0) (wc := [(a2, .inr (15, [.int (1), .int (0), .int (100), .int (0), .int (0), .ref a25, .ref a26, .ref a27, .ref a28, .ref a29, .ref a30, .ref a31, .ref a32, .ref a33, .ref a34, .ref a35, .null, .int (-1), .ref a36, .long (0)]))]) (As := []) (rest := []) hX (m33 l hst dC dI g a2 a25 a26 a27 a28 a29 a30 a31 a32 a33 a34 a35 a36 _) [0] rfl (by decide +kernel) 0 (ci := 15) rfl (T := TX16) (N := 20) (C := "MinestrataModel") rfl q1495 q1496 q1497 q82 q1498 (by decide +kernel) ⟨(Nat.le_of_ble_eq_true rfl), (Nat.le_of_ble_eq_true rfl)⟩ ⟨(Nat.le_of_ble_eq_true rfl), (Nat.le_of_ble_eq_true rfl)⟩ hl.1 rfl rfl (Nat.le_of_ble_eq_true rfl) dL_law_720) [0] [] rfl rfl (by decide +kernel) (by decide +kernel) (fun f5 r6 H locs hP hD hS => ?_)
  have hP : va_P (dC, dI) CL [(a2, .inr (15, [.int (1), .int (0), .int (100), .int (0), .int (0), .ref a25, .ref a26, .ref a27, .ref a28, .ref a29, .ref a30, .ref a31, .ref a32, .ref a33, .ref a34, .ref a35, .null, .int (-1), .ref a36, .long (0)]))] _ := hP
  have hD : va_D A [(a2, .inr (15, [.int (1), .int (0), .int (100), .int (0), .int (0), .ref a25, .ref a26, .ref a27, .ref a28, .ref a29, .ref a30, .ref a31, .ref a32, .ref a33, .ref a34, .ref a35, .null, .int (-1), .ref a36, .long (0)]))] := hD
  refine W.widen (k := 244) (n := 2777) (Nat.le_of_ble_eq_true rfl) (Nat.le_of_ble_eq_true rfl) ?_
  refine W.eq (g2 := F0 m 723 ls [.int (1)]) rfl ?_
  refine lv_iload hx hb dL_law_723 (lv_at hl 1 rfl) ?_
  refine lv_icmp_eq (tgt := 730) hx hb dL_law_725 (by decide +kernel) (fun _ => ?_) (fun h => absurd (by decide +kernel) h)
  refine lv_iload hx hb dL_law_730 (lv_at hl 1 rfl) ?_
  refine lv_if_ne (tgt := 747) hx hb dL_law_732 (by decide +kernel) (fun _ => ?_) (fun h => absurd h (by decide +kernel))
  refine lv_goto (tgt := 2278) hx hb dL_law_747 (by decide +kernel) ?_
  refine lv_iinc (v := (5)) (lv' := [(5, .int (5)), (7, .int (0)), (6, .int (1)), (4, .ref a0), (3, .ref a1), (2, .ref a2), (1, .ref a3), (0, .ref b)]) hx hb dL_law_2278 hl (k := 2) rfl (by decide +kernel) (by decide) rfl (fun ls hl => ?_)
  refine lv_goto (tgt := 28) hx hb dL_law_2281 (by decide +kernel) ?_
  refine lv_iload hx hb dL_law_28 (lv_at hl 0 rfl) ?_
  refine lv_aload_n hx hb dL_law_30 rfl (lv_at hl 7 rfl) ?_
  refine va_slen hx hb hXs hbl hbA hS dL_law_31 ?_
  refine nt_i (v := (5)) (by decide +kernel) ?_
  refine lv_iconst (v := (5)) hx hb dL_law_32 (by decide +kernel) ?_
  refine lv_isub hx hb dL_law_33 ?_
  refine nt_i (v := (0)) (by decide +kernel) ?_
  refine lv_icmp_gt (tgt := 2284) hx hb dL_law_34 (by decide +kernel) (fun _ => ?_) (fun h => absurd (by decide +kernel) h)
  refine lv_iconst (v := (1)) hx hb dL_law_2284 (by decide +kernel) ?_
  refine va_forget (fun q9 hq9 => by have h9 := hS.2.2 q9 hq9; rw [← hAe] at h9; exact h9) ?_
  refine W.widen (k := 600006) (n := 7302056) (Nat.le_of_ble_eq_true rfl) (Nat.le_of_ble_eq_true rfl) ?_
  refine W.base ?_
  exact lw_ret (Drawn.sameBut.refl s.drawn lw_cs) hx hb hr hlk dL_law_2285

set_option maxHeartbeats 4000000 in
set_option maxRecDepth 100000 in
theorem lc_7 {p : Program} {e : Env} {s : State} {m : MethodId} {below : List Frame} {meth : Method} {c : Code} (l : Launch) (hst : l.stackTraces = false) {b : Nat} {xs : Nat → Int32} (C0 : lw_At p s m meth c b 5 xs) (dC : Nat → ClassId) (dI : Nat → Nat → Nat) (g : Nat → Nat) (a0 a1 a2 a3 a4 a5 a6 a7 a8 a9 a10 a11 a12 a13 a14 a15 a16 a17 a18 a19 a20 a21 a22 a23 a24 a25 a26 a27 a28 a29 a30 a31 a32 a33 a34 a35 a36 a37 a38 a39 a40 a41 a42 a43 a44 a45 : Nat) {A : Nat → Prop} (hAe : (fun q : Nat => s.heap.size ≤ q) = A) (hE : EV dC dI g A s) (hA : ∀ q : Nat, s.heap.size ≤ q → A q) (hbA : ¬ A b) (H : Heap) (locs : List Loc) (hP : va_P (dC, dI) CL [(a3, .inr (12, [.ref a4, .ref a5, .ref a6, .ref a7, .ref a8, .ref a9, .ref a10, .ref a11, .null, .ref a12, .ref a13, .int (0), .int (100), .int (0), .int (0), .int (-1), .long (0), .int (1)])), (a4, .inr (8, [.int (0), .ref a14, .ref a15, .ref a16, .ref a17, .int (0), .ref a18, .ref a19, .ref a20, .ref a21, .ref a22, .ref a23, .ref a24])), (a6, .inr (11, [.int (0), .ref a25, .ref a26, .ref a27, .ref a28, .ref a29, .ref a30, .ref a31, .ref a32, .ref a33])), (a2, .inr (15, [.int (0), .int (0), .int (100), .int (0), .int (0), .ref a34, .ref a35, .ref a36, .ref a37, .ref a38, .ref a39, .ref a40, .ref a41, .ref a42, .ref a43, .ref a44, .null, .int (-1), .ref a45, .long (0)])), (a41, .inr (1, [.int (0), .ref (g 21), .int (0)])), (a42, .inr (1, [.int (0), .ref (g 21), .int (0)]))] H) (hD : va_D A [(a3, .inr (12, [.ref a4, .ref a5, .ref a6, .ref a7, .ref a8, .ref a9, .ref a10, .ref a11, .null, .ref a12, .ref a13, .int (0), .int (100), .int (0), .int (0), .int (-1), .long (0), .int (1)])), (a4, .inr (8, [.int (0), .ref a14, .ref a15, .ref a16, .ref a17, .int (0), .ref a18, .ref a19, .ref a20, .ref a21, .ref a22, .ref a23, .ref a24])), (a6, .inr (11, [.int (0), .ref a25, .ref a26, .ref a27, .ref a28, .ref a29, .ref a30, .ref a31, .ref a32, .ref a33])), (a2, .inr (15, [.int (0), .int (0), .int (100), .int (0), .int (0), .ref a34, .ref a35, .ref a36, .ref a37, .ref a38, .ref a39, .ref a40, .ref a41, .ref a42, .ref a43, .ref a44, .null, .int (-1), .ref a45, .long (0)])), (a41, .inr (1, [.int (0), .ref (g 21), .int (0)])), (a42, .inr (1, [.int (0), .ref (g 21), .int (0)]))]) (hS : va_S A s.heap H locs) (ls : Array Slot) (hl : lv_has ls 9 [(5, .int (0)), (4, .ref a0), (3, .ref a1), (2, .ref a2), (1, .ref a3), (0, .ref b)]) :
    W p l e room_1 s m #[Value.ref b] below meth c H locs 243 2771 (lw_Z below #[Value.ref b] s) (F0 m 44 ls [.int (7)]) := by
  obtain ⟨hx, hb, hr, hml, hown, hts0, hXs, hbl, hlk, hgv⟩ := id C0
  have hts : ∀ w ∈ AW, w.before #[Value.ref b] s = true := fun w h => hts0 w (aw_tbl h)
  have hown : s.vm.findClass "MinestrataLaw" = some m.cls := hown
  have hK := hE.1
  obtain ⟨s1, es1⟩ : ∃ y : Int32, xs (Int32.toNatClampNeg (1)) = y := ⟨_, rfl⟩
  obtain ⟨s2, es2⟩ : ∃ y : Int32, xs (Int32.toNatClampNeg (2)) = y := ⟨_, rfl⟩
  obtain ⟨s3, es3⟩ : ∃ y : Int32, xs (Int32.toNatClampNeg (3)) = y := ⟨_, rfl⟩
  obtain ⟨s4, es4⟩ : ∃ y : Int32, xs (Int32.toNatClampNeg (4)) = y := ⟨_, rfl⟩
  refine lv_tableIn (tgt := 750) (off := 706) hx hb dL_law_44 (by decide +kernel) (by decide +kernel) rfl (by decide +kernel) ?_
  refine lv_aload_n hx hb dL_law_750 rfl (lv_at hl 4 rfl) ?_
  refine lv_aload_n hx hb dL_law_751 rfl (lv_at hl 5 rfl) ?_
  refine lv_iload hx hb dL_law_752 (lv_at hl 0 rfl) ?_
  refine lv_iconst (v := (1)) hx hb dL_law_754 (by decide +kernel) ?_
  refine lv_iadd hx hb dL_law_755 ?_
  refine nt_i (v := (1)) (by decide +kernel) ?_
  refine va_sld hx hb hXs hbl hbA hS (show ¬ ((1 : Int32) < 0 ∨ 5 ≤ Int32.toNatClampNeg (1)) by decide +kernel) dL_law_756 ?_
  refine nt_i (v := s1) es1 ?_
  obtain ⟨k1, ek1⟩ : ∃ y : Int32, y = (s1.toUInt32 % 65536).toInt32 := ⟨_, rfl⟩
  refine lv_i2c (v := k1) hx hb dL_law_757 ek1.symm ?_
  refine lv_aload_n hx hb dL_law_758 rfl (lv_at hl 5 rfl) ?_
  refine lv_iload hx hb dL_law_759 (lv_at hl 0 rfl) ?_
  refine lv_iconst (v := (2)) hx hb dL_law_761 (by decide +kernel) ?_
  refine lv_iadd hx hb dL_law_762 ?_
  refine nt_i (v := (2)) (by decide +kernel) ?_
  refine va_sld hx hb hXs hbl hbA hS (show ¬ ((2 : Int32) < 0 ∨ 5 ≤ Int32.toNatClampNeg (2)) by decide +kernel) dL_law_763 ?_
  refine nt_i (v := s2) es2 ?_
  refine lv_aload_n hx hb dL_law_764 rfl (lv_at hl 5 rfl) ?_
  refine lv_iload hx hb dL_law_765 (lv_at hl 0 rfl) ?_
  refine lv_iconst (v := (3)) hx hb dL_law_767 (by decide +kernel) ?_
  refine lv_iadd hx hb dL_law_768 ?_
  refine nt_i (v := (3)) (by decide +kernel) ?_
  refine va_sld hx hb hXs hbl hbA hS (show ¬ ((3 : Int32) < 0 ∨ 5 ≤ Int32.toNatClampNeg (3)) by decide +kernel) dL_law_769 ?_
  refine nt_i (v := s3) es3 ?_
  refine lv_aload_n hx hb dL_law_770 rfl (lv_at hl 2 rfl) ?_
  by_cases h1 : k1 = (100)
  · skip
    subst h1
    by_cases h2 : s3 < (0)
    · skip
      have hX : nCx p s m _ c code 9 "MinestrataLaw" dC dI g A [(a3, .inr (12, [.ref a4, .ref a5, .ref a6, .ref a7, .ref a8, .ref a9, .ref a10, .ref a11, .null, .ref a12, .ref a13, .int (0), .int (100), .int (0), .int (0), .int (-1), .long (0), .int (1)])), (a4, .inr (8, [.int (0), .ref a14, .ref a15, .ref a16, .ref a17, .int (0), .ref a18, .ref a19, .ref a20, .ref a21, .ref a22, .ref a23, .ref a24])), (a6, .inr (11, [.int (0), .ref a25, .ref a26, .ref a27, .ref a28, .ref a29, .ref a30, .ref a31, .ref a32, .ref a33])), (a2, .inr (15, [.int (0), .int (0), .int (100), .int (0), .int (0), .ref a34, .ref a35, .ref a36, .ref a37, .ref a38, .ref a39, .ref a40, .ref a41, .ref a42, .ref a43, .ref a44, .null, .int (-1), .ref a45, .long (0)])), (a41, .inr (1, [.int (0), .ref (g 21), .int (0)])), (a42, .inr (1, [.int (0), .ref (g 21), .int (0)]))] _ _ := ⟨⟨hx, hb, hml, hown, hts⟩, hE, hS, hA, hP, hD⟩
      refine n_call (wr := [(a2, .inr (15, [.int (0), .int (0), .int (100), .int (0), .int (0), .ref a34, .ref a35, .ref a36, .ref a37, .ref a38, .ref a39, .ref a40, .ref a41, .ref a42, .ref a43, .ref a44, .null, .int (-1), .ref a45, .long (0)])), (a41, .inr (1, [.int (0), .ref (g 21), .int (0)])), (a42, .inr (1, [.int (0), .ref (g 21), .int (0)]))]) hX (n_runSW (n := 5) (wc := [(a3, .inr (12, [.ref a4, .ref a5, .ref a6, .ref a7, .ref a8, .ref a9, .ref a10, .ref a11, .null, .ref a12, .ref a13, .int (0), .int (100), .int (0), .int (0), .int (-1), .long (0), .int (1)])), (a4, .inr (8, [.int (0), .ref a14, .ref a15, .ref a16, .ref a17, .int (0), .ref a18, .ref a19, .ref a20, .ref a21, .ref a22, .ref a23, .ref a24])), (a6, .inr (11, [.int (0), .ref a25, .ref a26, .ref a27, .ref a28, .ref a29, .ref a30, .ref a31, .ref a32, .ref a33]))]) (As := [.ref a3, .int (100), .int s2, .int s3, .ref a1]) (rest := []) hX (m89 l hst dC dI g a3 a1 a4 a5 a6 a7 a8 a9 a10 a11 a12 a13 a14 a15 a16 a17 a18 a19 a20 a21 a22 a23 a24 a25 a26 a27 a28 a29 a30 a31 a32 a33 s2 s3 h2 _) [0, 1, 2] rfl (by decide +kernel) q1038 q1039 q70 q1040 (by decide +kernel) ⟨(Nat.le_of_ble_eq_true rfl), (Nat.le_of_ble_eq_true rfl)⟩ ⟨(Nat.le_of_ble_eq_true rfl), (Nat.le_of_ble_eq_true rfl)⟩ hl.1 rfl rfl (Nat.le_of_ble_eq_true rfl) dL_law_771) [0, 1, 2] [3, 4, 5] rfl rfl (by decide +kernel) (by decide +kernel) (fun f3 r4 H locs hP hD hS => ?_)
      have hP : va_P (dC, dI) CL [(a2, .inr (15, [.int (0), .int (0), .int (100), .int (0), .int (0), .ref a34, .ref a35, .ref a36, .ref a37, .ref a38, .ref a39, .ref a40, .ref a41, .ref a42, .ref a43, .ref a44, .null, .int (-1), .ref a45, .long (0)])), (a41, .inr (1, [.int (0), .ref (g 21), .int (0)])), (a42, .inr (1, [.int (0), .ref (g 21), .int (0)]))] _ := hP
      have hD : va_D A [(a2, .inr (15, [.int (0), .int (0), .int (100), .int (0), .int (0), .ref a34, .ref a35, .ref a36, .ref a37, .ref a38, .ref a39, .ref a40, .ref a41, .ref a42, .ref a43, .ref a44, .null, .int (-1), .ref a45, .long (0)])), (a41, .inr (1, [.int (0), .ref (g 21), .int (0)])), (a42, .inr (1, [.int (0), .ref (g 21), .int (0)]))] := hD
      refine W.widen (k := 244) (n := 2777) (Nat.le_of_ble_eq_true rfl) (Nat.le_of_ble_eq_true rfl) ?_
      refine W.eq (g2 := F0 m 774 ls [.int (1)]) rfl ?_
      refine lv_istore (lv' := [(6, .int (1)), (5, .int (0)), (4, .ref a0), (3, .ref a1), (2, .ref a2), (1, .ref a3), (0, .ref b)]) hx hb dL_law_774 hl (by decide) rfl (fun ls hl => ?_)
      refine lv_aload_n hx hb dL_law_776 rfl (lv_at hl 4 rfl) ?_
      refine lv_aload_n hx hb dL_law_777 rfl (lv_at hl 6 rfl) ?_
      refine lv_iload hx hb dL_law_778 (lv_at hl 1 rfl) ?_
      refine lv_iconst (v := (1)) hx hb dL_law_780 (by decide +kernel) ?_
      refine lv_iadd hx hb dL_law_781 ?_
      refine nt_i (v := (1)) (by decide +kernel) ?_
      refine va_sld hx hb hXs hbl hbA hS (show ¬ ((1 : Int32) < 0 ∨ 5 ≤ Int32.toNatClampNeg (1)) by decide +kernel) dL_law_782 ?_
      refine nt_i (v := s1) es1 ?_
      refine lv_i2c (v := (100)) hx hb dL_law_783 ek1.symm ?_
      refine lv_aload_n hx hb dL_law_784 rfl (lv_at hl 6 rfl) ?_
      refine lv_iload hx hb dL_law_785 (lv_at hl 1 rfl) ?_
      refine lv_iconst (v := (2)) hx hb dL_law_787 (by decide +kernel) ?_
      refine lv_iadd hx hb dL_law_788 ?_
      refine nt_i (v := (2)) (by decide +kernel) ?_
      refine va_sld hx hb hXs hbl hbA hS (show ¬ ((2 : Int32) < 0 ∨ 5 ≤ Int32.toNatClampNeg (2)) by decide +kernel) dL_law_789 ?_
      refine nt_i (v := s2) es2 ?_
      refine lv_aload_n hx hb dL_law_790 rfl (lv_at hl 6 rfl) ?_
      refine lv_iload hx hb dL_law_791 (lv_at hl 1 rfl) ?_
      refine lv_iconst (v := (3)) hx hb dL_law_793 (by decide +kernel) ?_
      refine lv_iadd hx hb dL_law_794 ?_
      refine nt_i (v := (3)) (by decide +kernel) ?_
      refine va_sld hx hb hXs hbl hbA hS (show ¬ ((3 : Int32) < 0 ∨ 5 ≤ Int32.toNatClampNeg (3)) by decide +kernel) dL_law_795 ?_
      refine nt_i (v := s3) es3 ?_
      have hX : nCx p s m _ c code 9 "MinestrataLaw" dC dI g A [(a2, .inr (15, [.int (0), .int (0), .int (100), .int (0), .int (0), .ref a34, .ref a35, .ref a36, .ref a37, .ref a38, .ref a39, .ref a40, .ref a41, .ref a42, .ref a43, .ref a44, .null, .int (-1), .ref a45, .long (0)])), (a41, .inr (1, [.int (0), .ref (g 21), .int (0)])), (a42, .inr (1, [.int (0), .ref (g 21), .int (0)]))] _ _ := ⟨⟨hx, hb, hml, hown, hts⟩, hE, hS, hA, hP, hD⟩
      refine n_call (wr := [(a41, .inr (1, [.int (0), .ref (g 21), .int (0)])), (a42, .inr (1, [.int (0), .ref (g 21), .int (0)]))]) hX (n_runV (n := 3) (wc := [(a2, .inr (15, [.int (0), .int (0), .int (100), .int (0), .int (0), .ref a34, .ref a35, .ref a36, .ref a37, .ref a38, .ref a39, .ref a40, .ref a41, .ref a42, .ref a43, .ref a44, .null, .int (-1), .ref a45, .long (0)]))]) (As := [.int (100), .int s2, .int s3]) (rest := []) hX (m91 l hst dC dI g a2 a34 a35 a36 a37 a38 a39 a40 a41 a42 a43 a44 a45 s2 s3 h2 _) [0] rfl (by decide +kernel) 0 (ci := 15) rfl (T := TX16) (N := 20) (C := "MinestrataModel") rfl q2103 q2104 q2105 q82 q2106 (by decide +kernel) ⟨(Nat.le_of_ble_eq_true rfl), (Nat.le_of_ble_eq_true rfl)⟩ ⟨(Nat.le_of_ble_eq_true rfl), (Nat.le_of_ble_eq_true rfl)⟩ hl.1 rfl rfl (Nat.le_of_ble_eq_true rfl) dL_law_796) [0] [1, 2] rfl rfl (by decide +kernel) (by decide +kernel) (fun f5 r6 H locs hP hD hS => ?_)
      have hP : va_P (dC, dI) CL [(a41, .inr (1, [.int (0), .ref (g 21), .int (0)])), (a42, .inr (1, [.int (0), .ref (g 21), .int (0)])), (a2, .inr (15, [.int (1), .int (0), .int (100), .int (0), .int (0), .ref a34, .ref a35, .ref a36, .ref a37, .ref a38, .ref a39, .ref a40, .ref a41, .ref a42, .ref a43, .ref a44, .null, .int (-1), .ref a45, .long (0)]))] _ := hP
      have hD : va_D A [(a41, .inr (1, [.int (0), .ref (g 21), .int (0)])), (a42, .inr (1, [.int (0), .ref (g 21), .int (0)])), (a2, .inr (15, [.int (1), .int (0), .int (100), .int (0), .int (0), .ref a34, .ref a35, .ref a36, .ref a37, .ref a38, .ref a39, .ref a40, .ref a41, .ref a42, .ref a43, .ref a44, .null, .int (-1), .ref a45, .long (0)]))] := hD
      refine W.widen (k := 244) (n := 2777) (Nat.le_of_ble_eq_true rfl) (Nat.le_of_ble_eq_true rfl) ?_
      refine W.eq (g2 := F0 m 799 ls [.int (32)]) rfl ?_
      refine lv_istore (lv' := [(7, .int (32)), (6, .int (1)), (5, .int (0)), (4, .ref a0), (3, .ref a1), (2, .ref a2), (1, .ref a3), (0, .ref b)]) hx hb dL_law_799 hl (by decide) rfl (fun ls hl => ?_)
      refine lv_aload_n hx hb dL_law_801 rfl (lv_at hl 5 rfl) ?_
      have hX : nCx p s m _ c code 9 "MinestrataLaw" dC dI g A [(a41, .inr (1, [.int (0), .ref (g 21), .int (0)])), (a42, .inr (1, [.int (0), .ref (g 21), .int (0)])), (a2, .inr (15, [.int (1), .int (0), .int (100), .int (0), .int (0), .ref a34, .ref a35, .ref a36, .ref a37, .ref a38, .ref a39, .ref a40, .ref a41, .ref a42, .ref a43, .ref a44, .null, .int (-1), .ref a45, .long (0)]))] _ _ := ⟨⟨hx, hb, hml, hown, hts⟩, hE, hS, hA, hP, hD⟩
      refine n_call (wr := [(a41, .inr (1, [.int (0), .ref (g 21), .int (0)])), (a42, .inr (1, [.int (0), .ref (g 21), .int (0)]))]) hX (n_runV (n := 0) (wc := [(a2, .inr (15, [.int (1), .int (0), .int (100), .int (0), .int (0), .ref a34, .ref a35, .ref a36, .ref a37, .ref a38, .ref a39, .ref a40, .ref a41, .ref a42, .ref a43, .ref a44, .null, .int (-1), .ref a45, .long (0)]))]) (As := []) (rest := []) hX (m33 l hst dC dI g a2 a34 a35 a36 a37 a38 a39 a40 a41 a42 a43 a44 a45 _) [2] rfl (by decide +kernel) 2 (ci := 15) rfl (T := TX16) (N := 20) (C := "MinestrataModel") rfl q1495 q1496 q1497 q82 q1498 (by decide +kernel) ⟨(Nat.le_of_ble_eq_true rfl), (Nat.le_of_ble_eq_true rfl)⟩ ⟨(Nat.le_of_ble_eq_true rfl), (Nat.le_of_ble_eq_true rfl)⟩ hl.1 rfl rfl (Nat.le_of_ble_eq_true rfl) dL_law_802) [2] [0, 1] rfl rfl (by decide +kernel) (by decide +kernel) (fun f7 r8 H locs hP hD hS => ?_)
      have hP : va_P (dC, dI) CL [(a41, .inr (1, [.int (0), .ref (g 21), .int (0)])), (a42, .inr (1, [.int (0), .ref (g 21), .int (0)])), (a2, .inr (15, [.int (1), .int (0), .int (100), .int (0), .int (0), .ref a34, .ref a35, .ref a36, .ref a37, .ref a38, .ref a39, .ref a40, .ref a41, .ref a42, .ref a43, .ref a44, .null, .int (-1), .ref a45, .long (0)]))] _ := hP
      have hD : va_D A [(a41, .inr (1, [.int (0), .ref (g 21), .int (0)])), (a42, .inr (1, [.int (0), .ref (g 21), .int (0)])), (a2, .inr (15, [.int (1), .int (0), .int (100), .int (0), .int (0), .ref a34, .ref a35, .ref a36, .ref a37, .ref a38, .ref a39, .ref a40, .ref a41, .ref a42, .ref a43, .ref a44, .null, .int (-1), .ref a45, .long (0)]))] := hD
      refine W.widen (k := 244) (n := 2777) (Nat.le_of_ble_eq_true rfl) (Nat.le_of_ble_eq_true rfl) ?_
      refine W.eq (g2 := F0 m 805 ls [.int (1)]) rfl ?_
      refine lv_iload hx hb dL_law_805 (lv_at hl 1 rfl) ?_
      refine lv_icmp_eq (tgt := 812) hx hb dL_law_807 (by decide +kernel) (fun _ => ?_) (fun h => absurd (by decide +kernel) h)
      refine lv_iload hx hb dL_law_812 (lv_at hl 1 rfl) ?_
      refine lv_if_ne (tgt := 829) hx hb dL_law_814 (by decide +kernel) (fun _ => ?_) (fun h => absurd h (by decide +kernel))
      refine lv_goto (tgt := 2278) hx hb dL_law_829 (by decide +kernel) ?_
      refine lv_iinc (v := (5)) (lv' := [(5, .int (5)), (7, .int (32)), (6, .int (1)), (4, .ref a0), (3, .ref a1), (2, .ref a2), (1, .ref a3), (0, .ref b)]) hx hb dL_law_2278 hl (k := 2) rfl (by decide +kernel) (by decide) rfl (fun ls hl => ?_)
      refine lv_goto (tgt := 28) hx hb dL_law_2281 (by decide +kernel) ?_
      refine lv_iload hx hb dL_law_28 (lv_at hl 0 rfl) ?_
      refine lv_aload_n hx hb dL_law_30 rfl (lv_at hl 7 rfl) ?_
      refine va_slen hx hb hXs hbl hbA hS dL_law_31 ?_
      refine nt_i (v := (5)) (by decide +kernel) ?_
      refine lv_iconst (v := (5)) hx hb dL_law_32 (by decide +kernel) ?_
      refine lv_isub hx hb dL_law_33 ?_
      refine nt_i (v := (0)) (by decide +kernel) ?_
      refine lv_icmp_gt (tgt := 2284) hx hb dL_law_34 (by decide +kernel) (fun _ => ?_) (fun h => absurd (by decide +kernel) h)
      refine lv_iconst (v := (1)) hx hb dL_law_2284 (by decide +kernel) ?_
      refine va_forget (fun q9 hq9 => by have h9 := hS.2.2 q9 hq9; rw [← hAe] at h9; exact h9) ?_
      refine W.widen (k := 600006) (n := 7302056) (Nat.le_of_ble_eq_true rfl) (Nat.le_of_ble_eq_true rfl) ?_
      refine W.base ?_
      exact lw_ret (Drawn.sameBut.refl s.drawn lw_cs) hx hb hr hlk dL_law_2285
    · skip
      by_cases h9 : (1) < s3
      · skip
        have hX : nCx p s m _ c code 9 "MinestrataLaw" dC dI g A [(a3, .inr (12, [.ref a4, .ref a5, .ref a6, .ref a7, .ref a8, .ref a9, .ref a10, .ref a11, .null, .ref a12, .ref a13, .int (0), .int (100), .int (0), .int (0), .int (-1), .long (0), .int (1)])), (a4, .inr (8, [.int (0), .ref a14, .ref a15, .ref a16, .ref a17, .int (0), .ref a18, .ref a19, .ref a20, .ref a21, .ref a22, .ref a23, .ref a24])), (a6, .inr (11, [.int (0), .ref a25, .ref a26, .ref a27, .ref a28, .ref a29, .ref a30, .ref a31, .ref a32, .ref a33])), (a2, .inr (15, [.int (0), .int (0), .int (100), .int (0), .int (0), .ref a34, .ref a35, .ref a36, .ref a37, .ref a38, .ref a39, .ref a40, .ref a41, .ref a42, .ref a43, .ref a44, .null, .int (-1), .ref a45, .long (0)])), (a41, .inr (1, [.int (0), .ref (g 21), .int (0)])), (a42, .inr (1, [.int (0), .ref (g 21), .int (0)]))] _ _ := ⟨⟨hx, hb, hml, hown, hts⟩, hE, hS, hA, hP, hD⟩
        refine n_call (wr := [(a2, .inr (15, [.int (0), .int (0), .int (100), .int (0), .int (0), .ref a34, .ref a35, .ref a36, .ref a37, .ref a38, .ref a39, .ref a40, .ref a41, .ref a42, .ref a43, .ref a44, .null, .int (-1), .ref a45, .long (0)])), (a41, .inr (1, [.int (0), .ref (g 21), .int (0)])), (a42, .inr (1, [.int (0), .ref (g 21), .int (0)]))]) hX (n_runSW (n := 5) (wc := [(a3, .inr (12, [.ref a4, .ref a5, .ref a6, .ref a7, .ref a8, .ref a9, .ref a10, .ref a11, .null, .ref a12, .ref a13, .int (0), .int (100), .int (0), .int (0), .int (-1), .long (0), .int (1)])), (a4, .inr (8, [.int (0), .ref a14, .ref a15, .ref a16, .ref a17, .int (0), .ref a18, .ref a19, .ref a20, .ref a21, .ref a22, .ref a23, .ref a24])), (a6, .inr (11, [.int (0), .ref a25, .ref a26, .ref a27, .ref a28, .ref a29, .ref a30, .ref a31, .ref a32, .ref a33]))]) (As := [.ref a3, .int (100), .int s2, .int s3, .ref a1]) (rest := []) hX (m95 l hst dC dI g a3 a1 a4 a5 a6 a7 a8 a9 a10 a11 a12 a13 a14 a15 a16 a17 a18 a19 a20 a21 a22 a23 a24 a25 a26 a27 a28 a29 a30 a31 a32 a33 s2 s3 h2 h9 _) [0, 1, 2] rfl (by decide +kernel) q1038 q1039 q70 q1040 (by decide +kernel) ⟨(Nat.le_of_ble_eq_true rfl), (Nat.le_of_ble_eq_true rfl)⟩ ⟨(Nat.le_of_ble_eq_true rfl), (Nat.le_of_ble_eq_true rfl)⟩ hl.1 rfl rfl (Nat.le_of_ble_eq_true rfl) dL_law_771) [0, 1, 2] [3, 4, 5] rfl rfl (by decide +kernel) (by decide +kernel) (fun f10 r11 H locs hP hD hS => ?_)
        have hP : va_P (dC, dI) CL [(a2, .inr (15, [.int (0), .int (0), .int (100), .int (0), .int (0), .ref a34, .ref a35, .ref a36, .ref a37, .ref a38, .ref a39, .ref a40, .ref a41, .ref a42, .ref a43, .ref a44, .null, .int (-1), .ref a45, .long (0)])), (a41, .inr (1, [.int (0), .ref (g 21), .int (0)])), (a42, .inr (1, [.int (0), .ref (g 21), .int (0)]))] _ := hP
        have hD : va_D A [(a2, .inr (15, [.int (0), .int (0), .int (100), .int (0), .int (0), .ref a34, .ref a35, .ref a36, .ref a37, .ref a38, .ref a39, .ref a40, .ref a41, .ref a42, .ref a43, .ref a44, .null, .int (-1), .ref a45, .long (0)])), (a41, .inr (1, [.int (0), .ref (g 21), .int (0)])), (a42, .inr (1, [.int (0), .ref (g 21), .int (0)]))] := hD
        refine W.widen (k := 244) (n := 2777) (Nat.le_of_ble_eq_true rfl) (Nat.le_of_ble_eq_true rfl) ?_
        refine W.eq (g2 := F0 m 774 ls [.int (1)]) rfl ?_
        refine lv_istore (lv' := [(6, .int (1)), (5, .int (0)), (4, .ref a0), (3, .ref a1), (2, .ref a2), (1, .ref a3), (0, .ref b)]) hx hb dL_law_774 hl (by decide) rfl (fun ls hl => ?_)
        refine lv_aload_n hx hb dL_law_776 rfl (lv_at hl 4 rfl) ?_
        refine lv_aload_n hx hb dL_law_777 rfl (lv_at hl 6 rfl) ?_
        refine lv_iload hx hb dL_law_778 (lv_at hl 1 rfl) ?_
        refine lv_iconst (v := (1)) hx hb dL_law_780 (by decide +kernel) ?_
        refine lv_iadd hx hb dL_law_781 ?_
        refine nt_i (v := (1)) (by decide +kernel) ?_
        refine va_sld hx hb hXs hbl hbA hS (show ¬ ((1 : Int32) < 0 ∨ 5 ≤ Int32.toNatClampNeg (1)) by decide +kernel) dL_law_782 ?_
        refine nt_i (v := s1) es1 ?_
        refine lv_i2c (v := (100)) hx hb dL_law_783 ek1.symm ?_
        refine lv_aload_n hx hb dL_law_784 rfl (lv_at hl 6 rfl) ?_
        refine lv_iload hx hb dL_law_785 (lv_at hl 1 rfl) ?_
        refine lv_iconst (v := (2)) hx hb dL_law_787 (by decide +kernel) ?_
        refine lv_iadd hx hb dL_law_788 ?_
        refine nt_i (v := (2)) (by decide +kernel) ?_
        refine va_sld hx hb hXs hbl hbA hS (show ¬ ((2 : Int32) < 0 ∨ 5 ≤ Int32.toNatClampNeg (2)) by decide +kernel) dL_law_789 ?_
        refine nt_i (v := s2) es2 ?_
        refine lv_aload_n hx hb dL_law_790 rfl (lv_at hl 6 rfl) ?_
        refine lv_iload hx hb dL_law_791 (lv_at hl 1 rfl) ?_
        refine lv_iconst (v := (3)) hx hb dL_law_793 (by decide +kernel) ?_
        refine lv_iadd hx hb dL_law_794 ?_
        refine nt_i (v := (3)) (by decide +kernel) ?_
        refine va_sld hx hb hXs hbl hbA hS (show ¬ ((3 : Int32) < 0 ∨ 5 ≤ Int32.toNatClampNeg (3)) by decide +kernel) dL_law_795 ?_
        refine nt_i (v := s3) es3 ?_
        have hX : nCx p s m _ c code 9 "MinestrataLaw" dC dI g A [(a2, .inr (15, [.int (0), .int (0), .int (100), .int (0), .int (0), .ref a34, .ref a35, .ref a36, .ref a37, .ref a38, .ref a39, .ref a40, .ref a41, .ref a42, .ref a43, .ref a44, .null, .int (-1), .ref a45, .long (0)])), (a41, .inr (1, [.int (0), .ref (g 21), .int (0)])), (a42, .inr (1, [.int (0), .ref (g 21), .int (0)]))] _ _ := ⟨⟨hx, hb, hml, hown, hts⟩, hE, hS, hA, hP, hD⟩
        refine n_call (wr := [(a41, .inr (1, [.int (0), .ref (g 21), .int (0)])), (a42, .inr (1, [.int (0), .ref (g 21), .int (0)]))]) hX (n_runV (n := 3) (wc := [(a2, .inr (15, [.int (0), .int (0), .int (100), .int (0), .int (0), .ref a34, .ref a35, .ref a36, .ref a37, .ref a38, .ref a39, .ref a40, .ref a41, .ref a42, .ref a43, .ref a44, .null, .int (-1), .ref a45, .long (0)]))]) (As := [.int (100), .int s2, .int s3]) (rest := []) hX (m97 l hst dC dI g a2 a34 a35 a36 a37 a38 a39 a40 a41 a42 a43 a44 a45 s2 s3 h2 h9 _) [0] rfl (by decide +kernel) 0 (ci := 15) rfl (T := TX16) (N := 20) (C := "MinestrataModel") rfl q2103 q2104 q2105 q82 q2106 (by decide +kernel) ⟨(Nat.le_of_ble_eq_true rfl), (Nat.le_of_ble_eq_true rfl)⟩ ⟨(Nat.le_of_ble_eq_true rfl), (Nat.le_of_ble_eq_true rfl)⟩ hl.1 rfl rfl (Nat.le_of_ble_eq_true rfl) dL_law_796) [0] [1, 2] rfl rfl (by decide +kernel) (by decide +kernel) (fun f12 r13 H locs hP hD hS => ?_)
        have hP : va_P (dC, dI) CL [(a41, .inr (1, [.int (0), .ref (g 21), .int (0)])), (a42, .inr (1, [.int (0), .ref (g 21), .int (0)])), (a2, .inr (15, [.int (1), .int (0), .int (100), .int (0), .int (0), .ref a34, .ref a35, .ref a36, .ref a37, .ref a38, .ref a39, .ref a40, .ref a41, .ref a42, .ref a43, .ref a44, .null, .int (-1), .ref a45, .long (0)]))] _ := hP
        have hD : va_D A [(a41, .inr (1, [.int (0), .ref (g 21), .int (0)])), (a42, .inr (1, [.int (0), .ref (g 21), .int (0)])), (a2, .inr (15, [.int (1), .int (0), .int (100), .int (0), .int (0), .ref a34, .ref a35, .ref a36, .ref a37, .ref a38, .ref a39, .ref a40, .ref a41, .ref a42, .ref a43, .ref a44, .null, .int (-1), .ref a45, .long (0)]))] := hD
        refine W.widen (k := 244) (n := 2777) (Nat.le_of_ble_eq_true rfl) (Nat.le_of_ble_eq_true rfl) ?_
        refine W.eq (g2 := F0 m 799 ls [.int (32)]) rfl ?_
        refine lv_istore (lv' := [(7, .int (32)), (6, .int (1)), (5, .int (0)), (4, .ref a0), (3, .ref a1), (2, .ref a2), (1, .ref a3), (0, .ref b)]) hx hb dL_law_799 hl (by decide) rfl (fun ls hl => ?_)
        refine lv_aload_n hx hb dL_law_801 rfl (lv_at hl 5 rfl) ?_
        have hX : nCx p s m _ c code 9 "MinestrataLaw" dC dI g A [(a41, .inr (1, [.int (0), .ref (g 21), .int (0)])), (a42, .inr (1, [.int (0), .ref (g 21), .int (0)])), (a2, .inr (15, [.int (1), .int (0), .int (100), .int (0), .int (0), .ref a34, .ref a35, .ref a36, .ref a37, .ref a38, .ref a39, .ref a40, .ref a41, .ref a42, .ref a43, .ref a44, .null, .int (-1), .ref a45, .long (0)]))] _ _ := ⟨⟨hx, hb, hml, hown, hts⟩, hE, hS, hA, hP, hD⟩
        refine n_call (wr := [(a41, .inr (1, [.int (0), .ref (g 21), .int (0)])), (a42, .inr (1, [.int (0), .ref (g 21), .int (0)]))]) hX (n_runV (n := 0) (wc := [(a2, .inr (15, [.int (1), .int (0), .int (100), .int (0), .int (0), .ref a34, .ref a35, .ref a36, .ref a37, .ref a38, .ref a39, .ref a40, .ref a41, .ref a42, .ref a43, .ref a44, .null, .int (-1), .ref a45, .long (0)]))]) (As := []) (rest := []) hX (m33 l hst dC dI g a2 a34 a35 a36 a37 a38 a39 a40 a41 a42 a43 a44 a45 _) [2] rfl (by decide +kernel) 2 (ci := 15) rfl (T := TX16) (N := 20) (C := "MinestrataModel") rfl q1495 q1496 q1497 q82 q1498 (by decide +kernel) ⟨(Nat.le_of_ble_eq_true rfl), (Nat.le_of_ble_eq_true rfl)⟩ ⟨(Nat.le_of_ble_eq_true rfl), (Nat.le_of_ble_eq_true rfl)⟩ hl.1 rfl rfl (Nat.le_of_ble_eq_true rfl) dL_law_802) [2] [0, 1] rfl rfl (by decide +kernel) (by decide +kernel) (fun f14 r15 H locs hP hD hS => ?_)
        have hP : va_P (dC, dI) CL [(a41, .inr (1, [.int (0), .ref (g 21), .int (0)])), (a42, .inr (1, [.int (0), .ref (g 21), .int (0)])), (a2, .inr (15, [.int (1), .int (0), .int (100), .int (0), .int (0), .ref a34, .ref a35, .ref a36, .ref a37, .ref a38, .ref a39, .ref a40, .ref a41, .ref a42, .ref a43, .ref a44, .null, .int (-1), .ref a45, .long (0)]))] _ := hP
        have hD : va_D A [(a41, .inr (1, [.int (0), .ref (g 21), .int (0)])), (a42, .inr (1, [.int (0), .ref (g 21), .int (0)])), (a2, .inr (15, [.int (1), .int (0), .int (100), .int (0), .int (0), .ref a34, .ref a35, .ref a36, .ref a37, .ref a38, .ref a39, .ref a40, .ref a41, .ref a42, .ref a43, .ref a44, .null, .int (-1), .ref a45, .long (0)]))] := hD
        refine W.widen (k := 244) (n := 2777) (Nat.le_of_ble_eq_true rfl) (Nat.le_of_ble_eq_true rfl) ?_
        refine W.eq (g2 := F0 m 805 ls [.int (1)]) rfl ?_
        refine lv_iload hx hb dL_law_805 (lv_at hl 1 rfl) ?_
        refine lv_icmp_eq (tgt := 812) hx hb dL_law_807 (by decide +kernel) (fun _ => ?_) (fun h => absurd (by decide +kernel) h)
        refine lv_iload hx hb dL_law_812 (lv_at hl 1 rfl) ?_
        refine lv_if_ne (tgt := 829) hx hb dL_law_814 (by decide +kernel) (fun _ => ?_) (fun h => absurd h (by decide +kernel))
        refine lv_goto (tgt := 2278) hx hb dL_law_829 (by decide +kernel) ?_
        refine lv_iinc (v := (5)) (lv' := [(5, .int (5)), (7, .int (32)), (6, .int (1)), (4, .ref a0), (3, .ref a1), (2, .ref a2), (1, .ref a3), (0, .ref b)]) hx hb dL_law_2278 hl (k := 2) rfl (by decide +kernel) (by decide) rfl (fun ls hl => ?_)
        refine lv_goto (tgt := 28) hx hb dL_law_2281 (by decide +kernel) ?_
        refine lv_iload hx hb dL_law_28 (lv_at hl 0 rfl) ?_
        refine lv_aload_n hx hb dL_law_30 rfl (lv_at hl 7 rfl) ?_
        refine va_slen hx hb hXs hbl hbA hS dL_law_31 ?_
        refine nt_i (v := (5)) (by decide +kernel) ?_
        refine lv_iconst (v := (5)) hx hb dL_law_32 (by decide +kernel) ?_
        refine lv_isub hx hb dL_law_33 ?_
        refine nt_i (v := (0)) (by decide +kernel) ?_
        refine lv_icmp_gt (tgt := 2284) hx hb dL_law_34 (by decide +kernel) (fun _ => ?_) (fun h => absurd (by decide +kernel) h)
        refine lv_iconst (v := (1)) hx hb dL_law_2284 (by decide +kernel) ?_
        refine va_forget (fun q9 hq9 => by have h9 := hS.2.2 q9 hq9; rw [← hAe] at h9; exact h9) ?_
        refine W.widen (k := 600006) (n := 7302056) (Nat.le_of_ble_eq_true rfl) (Nat.le_of_ble_eq_true rfl) ?_
        refine W.base ?_
        exact lw_ret (Drawn.sameBut.refl s.drawn lw_cs) hx hb hr hlk dL_law_2285
      · skip
        have hX : nCx p s m _ c code 9 "MinestrataLaw" dC dI g A [(a3, .inr (12, [.ref a4, .ref a5, .ref a6, .ref a7, .ref a8, .ref a9, .ref a10, .ref a11, .null, .ref a12, .ref a13, .int (0), .int (100), .int (0), .int (0), .int (-1), .long (0), .int (1)])), (a4, .inr (8, [.int (0), .ref a14, .ref a15, .ref a16, .ref a17, .int (0), .ref a18, .ref a19, .ref a20, .ref a21, .ref a22, .ref a23, .ref a24])), (a6, .inr (11, [.int (0), .ref a25, .ref a26, .ref a27, .ref a28, .ref a29, .ref a30, .ref a31, .ref a32, .ref a33])), (a2, .inr (15, [.int (0), .int (0), .int (100), .int (0), .int (0), .ref a34, .ref a35, .ref a36, .ref a37, .ref a38, .ref a39, .ref a40, .ref a41, .ref a42, .ref a43, .ref a44, .null, .int (-1), .ref a45, .long (0)])), (a41, .inr (1, [.int (0), .ref (g 21), .int (0)])), (a42, .inr (1, [.int (0), .ref (g 21), .int (0)]))] _ _ := ⟨⟨hx, hb, hml, hown, hts⟩, hE, hS, hA, hP, hD⟩
        refine n_call (wr := [(a2, .inr (15, [.int (0), .int (0), .int (100), .int (0), .int (0), .ref a34, .ref a35, .ref a36, .ref a37, .ref a38, .ref a39, .ref a40, .ref a41, .ref a42, .ref a43, .ref a44, .null, .int (-1), .ref a45, .long (0)])), (a41, .inr (1, [.int (0), .ref (g 21), .int (0)])), (a42, .inr (1, [.int (0), .ref (g 21), .int (0)]))]) hX (n_runSW (n := 5) (wc := [(a3, .inr (12, [.ref a4, .ref a5, .ref a6, .ref a7, .ref a8, .ref a9, .ref a10, .ref a11, .null, .ref a12, .ref a13, .int (0), .int (100), .int (0), .int (0), .int (-1), .long (0), .int (1)])), (a4, .inr (8, [.int (0), .ref a14, .ref a15, .ref a16, .ref a17, .int (0), .ref a18, .ref a19, .ref a20, .ref a21, .ref a22, .ref a23, .ref a24])), (a6, .inr (11, [.int (0), .ref a25, .ref a26, .ref a27, .ref a28, .ref a29, .ref a30, .ref a31, .ref a32, .ref a33]))]) (As := [.ref a3, .int (100), .int s2, .int s3, .ref a1]) (rest := []) hX (m103 l hst dC dI g a3 a1 a4 a5 a6 a7 a8 a9 a10 a11 a12 a13 a14 a15 a16 a17 a18 a19 a20 a21 a22 a23 a24 a25 a26 a27 a28 a29 a30 a31 a32 a33 s2 s3 h2 h9 _) [0, 1, 2] rfl (by decide +kernel) q1038 q1039 q70 q1040 (by decide +kernel) ⟨(Nat.le_of_ble_eq_true rfl), (Nat.le_of_ble_eq_true rfl)⟩ ⟨(Nat.le_of_ble_eq_true rfl), (Nat.le_of_ble_eq_true rfl)⟩ hl.1 rfl rfl (Nat.le_of_ble_eq_true rfl) dL_law_771) [0, 1, 2] [3, 4, 5] rfl rfl (by decide +kernel) (by decide +kernel) (fun f16 r17 H locs hP hD hS => ?_)
        have hP : va_P (dC, dI) CL [(a2, .inr (15, [.int (0), .int (0), .int (100), .int (0), .int (0), .ref a34, .ref a35, .ref a36, .ref a37, .ref a38, .ref a39, .ref a40, .ref a41, .ref a42, .ref a43, .ref a44, .null, .int (-1), .ref a45, .long (0)])), (a41, .inr (1, [.int (0), .ref (g 21), .int (0)])), (a42, .inr (1, [.int (0), .ref (g 21), .int (0)]))] _ := hP
        have hD : va_D A [(a2, .inr (15, [.int (0), .int (0), .int (100), .int (0), .int (0), .ref a34, .ref a35, .ref a36, .ref a37, .ref a38, .ref a39, .ref a40, .ref a41, .ref a42, .ref a43, .ref a44, .null, .int (-1), .ref a45, .long (0)])), (a41, .inr (1, [.int (0), .ref (g 21), .int (0)])), (a42, .inr (1, [.int (0), .ref (g 21), .int (0)]))] := hD
        refine W.widen (k := 244) (n := 2777) (Nat.le_of_ble_eq_true rfl) (Nat.le_of_ble_eq_true rfl) ?_
        refine W.eq (g2 := F0 m 774 ls [.int (2)]) rfl ?_
        refine lv_istore (lv' := [(6, .int (2)), (5, .int (0)), (4, .ref a0), (3, .ref a1), (2, .ref a2), (1, .ref a3), (0, .ref b)]) hx hb dL_law_774 hl (by decide) rfl (fun ls hl => ?_)
        refine lv_aload_n hx hb dL_law_776 rfl (lv_at hl 4 rfl) ?_
        refine lv_aload_n hx hb dL_law_777 rfl (lv_at hl 6 rfl) ?_
        refine lv_iload hx hb dL_law_778 (lv_at hl 1 rfl) ?_
        refine lv_iconst (v := (1)) hx hb dL_law_780 (by decide +kernel) ?_
        refine lv_iadd hx hb dL_law_781 ?_
        refine nt_i (v := (1)) (by decide +kernel) ?_
        refine va_sld hx hb hXs hbl hbA hS (show ¬ ((1 : Int32) < 0 ∨ 5 ≤ Int32.toNatClampNeg (1)) by decide +kernel) dL_law_782 ?_
        refine nt_i (v := s1) es1 ?_
        refine lv_i2c (v := (100)) hx hb dL_law_783 ek1.symm ?_
        refine lv_aload_n hx hb dL_law_784 rfl (lv_at hl 6 rfl) ?_
        refine lv_iload hx hb dL_law_785 (lv_at hl 1 rfl) ?_
        refine lv_iconst (v := (2)) hx hb dL_law_787 (by decide +kernel) ?_
        refine lv_iadd hx hb dL_law_788 ?_
        refine nt_i (v := (2)) (by decide +kernel) ?_
        refine va_sld hx hb hXs hbl hbA hS (show ¬ ((2 : Int32) < 0 ∨ 5 ≤ Int32.toNatClampNeg (2)) by decide +kernel) dL_law_789 ?_
        refine nt_i (v := s2) es2 ?_
        refine lv_aload_n hx hb dL_law_790 rfl (lv_at hl 6 rfl) ?_
        refine lv_iload hx hb dL_law_791 (lv_at hl 1 rfl) ?_
        refine lv_iconst (v := (3)) hx hb dL_law_793 (by decide +kernel) ?_
        refine lv_iadd hx hb dL_law_794 ?_
        refine nt_i (v := (3)) (by decide +kernel) ?_
        refine va_sld hx hb hXs hbl hbA hS (show ¬ ((3 : Int32) < 0 ∨ 5 ≤ Int32.toNatClampNeg (3)) by decide +kernel) dL_law_795 ?_
        refine nt_i (v := s3) es3 ?_
        have hX : nCx p s m _ c code 9 "MinestrataLaw" dC dI g A [(a2, .inr (15, [.int (0), .int (0), .int (100), .int (0), .int (0), .ref a34, .ref a35, .ref a36, .ref a37, .ref a38, .ref a39, .ref a40, .ref a41, .ref a42, .ref a43, .ref a44, .null, .int (-1), .ref a45, .long (0)])), (a41, .inr (1, [.int (0), .ref (g 21), .int (0)])), (a42, .inr (1, [.int (0), .ref (g 21), .int (0)]))] _ _ := ⟨⟨hx, hb, hml, hown, hts⟩, hE, hS, hA, hP, hD⟩
        refine n_call (wr := [(a42, .inr (1, [.int (0), .ref (g 21), .int (0)]))]) hX (n_runV (n := 3) (wc := [(a2, .inr (15, [.int (0), .int (0), .int (100), .int (0), .int (0), .ref a34, .ref a35, .ref a36, .ref a37, .ref a38, .ref a39, .ref a40, .ref a41, .ref a42, .ref a43, .ref a44, .null, .int (-1), .ref a45, .long (0)])), (a41, .inr (1, [.int (0), .ref (g 21), .int (0)]))]) (As := [.int (100), .int s2, .int s3]) (rest := []) hX (m107 l hst dC dI g a2 a34 a35 a36 a37 a38 a39 a40 a41 a42 a43 a44 a45 s2 s3 h2 h9 _) [0, 1] rfl (by decide +kernel) 0 (ci := 15) rfl (T := TX16) (N := 20) (C := "MinestrataModel") rfl q2103 q2104 q2105 q82 q2106 (by decide +kernel) ⟨(Nat.le_of_ble_eq_true rfl), (Nat.le_of_ble_eq_true rfl)⟩ ⟨(Nat.le_of_ble_eq_true rfl), (Nat.le_of_ble_eq_true rfl)⟩ hl.1 rfl rfl (Nat.le_of_ble_eq_true rfl) dL_law_796) [0, 1] [2] rfl rfl (by decide +kernel) (by decide +kernel) (fun f18 r19 H locs hP hD hS => ?_)
        have hP : va_P (dC, dI) CL [(a42, .inr (1, [.int (0), .ref (g 21), .int (0)])), (a2, .inr (15, [.int (2), .int (0), .int (100), .int (0), .int (0), .ref a34, .ref a35, .ref a36, .ref a37, .ref a38, .ref a39, .ref a40, .ref a41, .ref a42, .ref a43, .ref a44, .null, .int (-1), .ref a45, .long (0)])), (a41, .inr (1, [.int (0), .ref (g 21), .int (0)]))] _ := hP
        have hD : va_D A [(a42, .inr (1, [.int (0), .ref (g 21), .int (0)])), (a2, .inr (15, [.int (2), .int (0), .int (100), .int (0), .int (0), .ref a34, .ref a35, .ref a36, .ref a37, .ref a38, .ref a39, .ref a40, .ref a41, .ref a42, .ref a43, .ref a44, .null, .int (-1), .ref a45, .long (0)])), (a41, .inr (1, [.int (0), .ref (g 21), .int (0)]))] := hD
        refine W.widen (k := 244) (n := 2777) (Nat.le_of_ble_eq_true rfl) (Nat.le_of_ble_eq_true rfl) ?_
        refine W.eq (g2 := F0 m 799 ls [.int (32)]) rfl ?_
        refine lv_istore (lv' := [(7, .int (32)), (6, .int (2)), (5, .int (0)), (4, .ref a0), (3, .ref a1), (2, .ref a2), (1, .ref a3), (0, .ref b)]) hx hb dL_law_799 hl (by decide) rfl (fun ls hl => ?_)
        refine lv_aload_n hx hb dL_law_801 rfl (lv_at hl 5 rfl) ?_
        have hX : nCx p s m _ c code 9 "MinestrataLaw" dC dI g A [(a42, .inr (1, [.int (0), .ref (g 21), .int (0)])), (a2, .inr (15, [.int (2), .int (0), .int (100), .int (0), .int (0), .ref a34, .ref a35, .ref a36, .ref a37, .ref a38, .ref a39, .ref a40, .ref a41, .ref a42, .ref a43, .ref a44, .null, .int (-1), .ref a45, .long (0)])), (a41, .inr (1, [.int (0), .ref (g 21), .int (0)]))] _ _ := ⟨⟨hx, hb, hml, hown, hts⟩, hE, hS, hA, hP, hD⟩
        refine n_call (wr := [(a42, .inr (1, [.int (0), .ref (g 21), .int (0)])), (a41, .inr (1, [.int (0), .ref (g 21), .int (0)]))]) hX (n_runV (n := 0) (wc := [(a2, .inr (15, [.int (2), .int (0), .int (100), .int (0), .int (0), .ref a34, .ref a35, .ref a36, .ref a37, .ref a38, .ref a39, .ref a40, .ref a41, .ref a42, .ref a43, .ref a44, .null, .int (-1), .ref a45, .long (0)]))]) (As := []) (rest := []) hX (m108 l hst dC dI g a2 a34 a35 a36 a37 a38 a39 a40 a41 a42 a43 a44 a45 _) [1] rfl (by decide +kernel) 1 (ci := 15) rfl (T := TX16) (N := 20) (C := "MinestrataModel") rfl q1495 q1496 q1497 q82 q1498 (by decide +kernel) ⟨(Nat.le_of_ble_eq_true rfl), (Nat.le_of_ble_eq_true rfl)⟩ ⟨(Nat.le_of_ble_eq_true rfl), (Nat.le_of_ble_eq_true rfl)⟩ hl.1 rfl rfl (Nat.le_of_ble_eq_true rfl) dL_law_802) [1] [0, 2] rfl rfl (by decide +kernel) (by decide +kernel) (fun f20 r21 H locs hP hD hS => ?_)
        have hP : va_P (dC, dI) CL [(a42, .inr (1, [.int (0), .ref (g 21), .int (0)])), (a41, .inr (1, [.int (0), .ref (g 21), .int (0)])), (a2, .inr (15, [.int (2), .int (0), .int (100), .int (0), .int (0), .ref a34, .ref a35, .ref a36, .ref a37, .ref a38, .ref a39, .ref a40, .ref a41, .ref a42, .ref a43, .ref a44, .null, .int (-1), .ref a45, .long (0)]))] _ := hP
        have hD : va_D A [(a42, .inr (1, [.int (0), .ref (g 21), .int (0)])), (a41, .inr (1, [.int (0), .ref (g 21), .int (0)])), (a2, .inr (15, [.int (2), .int (0), .int (100), .int (0), .int (0), .ref a34, .ref a35, .ref a36, .ref a37, .ref a38, .ref a39, .ref a40, .ref a41, .ref a42, .ref a43, .ref a44, .null, .int (-1), .ref a45, .long (0)]))] := hD
        refine W.widen (k := 244) (n := 2777) (Nat.le_of_ble_eq_true rfl) (Nat.le_of_ble_eq_true rfl) ?_
        refine W.eq (g2 := F0 m 805 ls [.int (2)]) rfl ?_
        refine lv_iload hx hb dL_law_805 (lv_at hl 1 rfl) ?_
        refine lv_icmp_eq (tgt := 812) hx hb dL_law_807 (by decide +kernel) (fun _ => ?_) (fun h => absurd (by decide +kernel) h)
        refine lv_iload hx hb dL_law_812 (lv_at hl 1 rfl) ?_
        refine lv_if_ne (tgt := 829) hx hb dL_law_814 (by decide +kernel) (fun _ => ?_) (fun h => absurd h (by decide +kernel))
        refine lv_goto (tgt := 2278) hx hb dL_law_829 (by decide +kernel) ?_
        refine lv_iinc (v := (5)) (lv' := [(5, .int (5)), (7, .int (32)), (6, .int (2)), (4, .ref a0), (3, .ref a1), (2, .ref a2), (1, .ref a3), (0, .ref b)]) hx hb dL_law_2278 hl (k := 2) rfl (by decide +kernel) (by decide) rfl (fun ls hl => ?_)
        refine lv_goto (tgt := 28) hx hb dL_law_2281 (by decide +kernel) ?_
        refine lv_iload hx hb dL_law_28 (lv_at hl 0 rfl) ?_
        refine lv_aload_n hx hb dL_law_30 rfl (lv_at hl 7 rfl) ?_
        refine va_slen hx hb hXs hbl hbA hS dL_law_31 ?_
        refine nt_i (v := (5)) (by decide +kernel) ?_
        refine lv_iconst (v := (5)) hx hb dL_law_32 (by decide +kernel) ?_
        refine lv_isub hx hb dL_law_33 ?_
        refine nt_i (v := (0)) (by decide +kernel) ?_
        refine lv_icmp_gt (tgt := 2284) hx hb dL_law_34 (by decide +kernel) (fun _ => ?_) (fun h => absurd (by decide +kernel) h)
        refine lv_iconst (v := (1)) hx hb dL_law_2284 (by decide +kernel) ?_
        refine va_forget (fun q9 hq9 => by have h9 := hS.2.2 q9 hq9; rw [← hAe] at h9; exact h9) ?_
        refine W.widen (k := 600006) (n := 7302056) (Nat.le_of_ble_eq_true rfl) (Nat.le_of_ble_eq_true rfl) ?_
        refine W.base ?_
        exact lw_ret (Drawn.sameBut.refl s.drawn lw_cs) hx hb hr hlk dL_law_2285
  · skip
    by_cases h22 : k1 = (98)
    · skip
      subst h22
      by_cases h23 : s3 < (0)
      · skip
        have hX : nCx p s m _ c code 9 "MinestrataLaw" dC dI g A [(a3, .inr (12, [.ref a4, .ref a5, .ref a6, .ref a7, .ref a8, .ref a9, .ref a10, .ref a11, .null, .ref a12, .ref a13, .int (0), .int (100), .int (0), .int (0), .int (-1), .long (0), .int (1)])), (a4, .inr (8, [.int (0), .ref a14, .ref a15, .ref a16, .ref a17, .int (0), .ref a18, .ref a19, .ref a20, .ref a21, .ref a22, .ref a23, .ref a24])), (a6, .inr (11, [.int (0), .ref a25, .ref a26, .ref a27, .ref a28, .ref a29, .ref a30, .ref a31, .ref a32, .ref a33])), (a2, .inr (15, [.int (0), .int (0), .int (100), .int (0), .int (0), .ref a34, .ref a35, .ref a36, .ref a37, .ref a38, .ref a39, .ref a40, .ref a41, .ref a42, .ref a43, .ref a44, .null, .int (-1), .ref a45, .long (0)])), (a41, .inr (1, [.int (0), .ref (g 21), .int (0)])), (a42, .inr (1, [.int (0), .ref (g 21), .int (0)]))] _ _ := ⟨⟨hx, hb, hml, hown, hts⟩, hE, hS, hA, hP, hD⟩
        refine n_call (wr := [(a2, .inr (15, [.int (0), .int (0), .int (100), .int (0), .int (0), .ref a34, .ref a35, .ref a36, .ref a37, .ref a38, .ref a39, .ref a40, .ref a41, .ref a42, .ref a43, .ref a44, .null, .int (-1), .ref a45, .long (0)])), (a41, .inr (1, [.int (0), .ref (g 21), .int (0)])), (a42, .inr (1, [.int (0), .ref (g 21), .int (0)]))]) hX (n_runSW (n := 5) (wc := [(a3, .inr (12, [.ref a4, .ref a5, .ref a6, .ref a7, .ref a8, .ref a9, .ref a10, .ref a11, .null, .ref a12, .ref a13, .int (0), .int (100), .int (0), .int (0), .int (-1), .long (0), .int (1)])), (a4, .inr (8, [.int (0), .ref a14, .ref a15, .ref a16, .ref a17, .int (0), .ref a18, .ref a19, .ref a20, .ref a21, .ref a22, .ref a23, .ref a24])), (a6, .inr (11, [.int (0), .ref a25, .ref a26, .ref a27, .ref a28, .ref a29, .ref a30, .ref a31, .ref a32, .ref a33]))]) (As := [.ref a3, .int (98), .int s2, .int s3, .ref a1]) (rest := []) hX (m111 l hst dC dI g a3 a1 a4 a5 a6 a7 a8 a9 a10 a11 a12 a13 a14 a15 a16 a17 a18 a19 a20 a21 a22 a23 a24 a25 a26 a27 a28 a29 a30 a31 a32 a33 s2 s3 h23 _) [0, 1, 2] rfl (by decide +kernel) q1038 q1039 q70 q1040 (by decide +kernel) ⟨(Nat.le_of_ble_eq_true rfl), (Nat.le_of_ble_eq_true rfl)⟩ ⟨(Nat.le_of_ble_eq_true rfl), (Nat.le_of_ble_eq_true rfl)⟩ hl.1 rfl rfl (Nat.le_of_ble_eq_true rfl) dL_law_771) [0, 1, 2] [3, 4, 5] rfl rfl (by decide +kernel) (by decide +kernel) (fun f24 r25 H locs hP hD hS => ?_)
        have hP : va_P (dC, dI) CL [(a2, .inr (15, [.int (0), .int (0), .int (100), .int (0), .int (0), .ref a34, .ref a35, .ref a36, .ref a37, .ref a38, .ref a39, .ref a40, .ref a41, .ref a42, .ref a43, .ref a44, .null, .int (-1), .ref a45, .long (0)])), (a41, .inr (1, [.int (0), .ref (g 21), .int (0)])), (a42, .inr (1, [.int (0), .ref (g 21), .int (0)]))] _ := hP
        have hD : va_D A [(a2, .inr (15, [.int (0), .int (0), .int (100), .int (0), .int (0), .ref a34, .ref a35, .ref a36, .ref a37, .ref a38, .ref a39, .ref a40, .ref a41, .ref a42, .ref a43, .ref a44, .null, .int (-1), .ref a45, .long (0)])), (a41, .inr (1, [.int (0), .ref (g 21), .int (0)])), (a42, .inr (1, [.int (0), .ref (g 21), .int (0)]))] := hD
        refine W.widen (k := 244) (n := 2777) (Nat.le_of_ble_eq_true rfl) (Nat.le_of_ble_eq_true rfl) ?_
        refine W.eq (g2 := F0 m 774 ls [.int (1)]) rfl ?_
        refine lv_istore (lv' := [(6, .int (1)), (5, .int (0)), (4, .ref a0), (3, .ref a1), (2, .ref a2), (1, .ref a3), (0, .ref b)]) hx hb dL_law_774 hl (by decide) rfl (fun ls hl => ?_)
        refine lv_aload_n hx hb dL_law_776 rfl (lv_at hl 4 rfl) ?_
        refine lv_aload_n hx hb dL_law_777 rfl (lv_at hl 6 rfl) ?_
        refine lv_iload hx hb dL_law_778 (lv_at hl 1 rfl) ?_
        refine lv_iconst (v := (1)) hx hb dL_law_780 (by decide +kernel) ?_
        refine lv_iadd hx hb dL_law_781 ?_
        refine nt_i (v := (1)) (by decide +kernel) ?_
        refine va_sld hx hb hXs hbl hbA hS (show ¬ ((1 : Int32) < 0 ∨ 5 ≤ Int32.toNatClampNeg (1)) by decide +kernel) dL_law_782 ?_
        refine nt_i (v := s1) es1 ?_
        refine lv_i2c (v := (98)) hx hb dL_law_783 ek1.symm ?_
        refine lv_aload_n hx hb dL_law_784 rfl (lv_at hl 6 rfl) ?_
        refine lv_iload hx hb dL_law_785 (lv_at hl 1 rfl) ?_
        refine lv_iconst (v := (2)) hx hb dL_law_787 (by decide +kernel) ?_
        refine lv_iadd hx hb dL_law_788 ?_
        refine nt_i (v := (2)) (by decide +kernel) ?_
        refine va_sld hx hb hXs hbl hbA hS (show ¬ ((2 : Int32) < 0 ∨ 5 ≤ Int32.toNatClampNeg (2)) by decide +kernel) dL_law_789 ?_
        refine nt_i (v := s2) es2 ?_
        refine lv_aload_n hx hb dL_law_790 rfl (lv_at hl 6 rfl) ?_
        refine lv_iload hx hb dL_law_791 (lv_at hl 1 rfl) ?_
        refine lv_iconst (v := (3)) hx hb dL_law_793 (by decide +kernel) ?_
        refine lv_iadd hx hb dL_law_794 ?_
        refine nt_i (v := (3)) (by decide +kernel) ?_
        refine va_sld hx hb hXs hbl hbA hS (show ¬ ((3 : Int32) < 0 ∨ 5 ≤ Int32.toNatClampNeg (3)) by decide +kernel) dL_law_795 ?_
        refine nt_i (v := s3) es3 ?_
        have hX : nCx p s m _ c code 9 "MinestrataLaw" dC dI g A [(a2, .inr (15, [.int (0), .int (0), .int (100), .int (0), .int (0), .ref a34, .ref a35, .ref a36, .ref a37, .ref a38, .ref a39, .ref a40, .ref a41, .ref a42, .ref a43, .ref a44, .null, .int (-1), .ref a45, .long (0)])), (a41, .inr (1, [.int (0), .ref (g 21), .int (0)])), (a42, .inr (1, [.int (0), .ref (g 21), .int (0)]))] _ _ := ⟨⟨hx, hb, hml, hown, hts⟩, hE, hS, hA, hP, hD⟩
        refine n_call (wr := [(a41, .inr (1, [.int (0), .ref (g 21), .int (0)])), (a42, .inr (1, [.int (0), .ref (g 21), .int (0)]))]) hX (n_runV (n := 3) (wc := [(a2, .inr (15, [.int (0), .int (0), .int (100), .int (0), .int (0), .ref a34, .ref a35, .ref a36, .ref a37, .ref a38, .ref a39, .ref a40, .ref a41, .ref a42, .ref a43, .ref a44, .null, .int (-1), .ref a45, .long (0)]))]) (As := [.int (98), .int s2, .int s3]) (rest := []) hX (m113 l hst dC dI g a2 a34 a35 a36 a37 a38 a39 a40 a41 a42 a43 a44 a45 s2 s3 h23 _) [0] rfl (by decide +kernel) 0 (ci := 15) rfl (T := TX16) (N := 20) (C := "MinestrataModel") rfl q2103 q2104 q2105 q82 q2106 (by decide +kernel) ⟨(Nat.le_of_ble_eq_true rfl), (Nat.le_of_ble_eq_true rfl)⟩ ⟨(Nat.le_of_ble_eq_true rfl), (Nat.le_of_ble_eq_true rfl)⟩ hl.1 rfl rfl (Nat.le_of_ble_eq_true rfl) dL_law_796) [0] [1, 2] rfl rfl (by decide +kernel) (by decide +kernel) (fun f26 r27 H locs hP hD hS => ?_)
        have hP : va_P (dC, dI) CL [(a41, .inr (1, [.int (0), .ref (g 21), .int (0)])), (a42, .inr (1, [.int (0), .ref (g 21), .int (0)])), (a2, .inr (15, [.int (1), .int (0), .int (100), .int (0), .int (0), .ref a34, .ref a35, .ref a36, .ref a37, .ref a38, .ref a39, .ref a40, .ref a41, .ref a42, .ref a43, .ref a44, .null, .int (-1), .ref a45, .long (0)]))] _ := hP
        have hD : va_D A [(a41, .inr (1, [.int (0), .ref (g 21), .int (0)])), (a42, .inr (1, [.int (0), .ref (g 21), .int (0)])), (a2, .inr (15, [.int (1), .int (0), .int (100), .int (0), .int (0), .ref a34, .ref a35, .ref a36, .ref a37, .ref a38, .ref a39, .ref a40, .ref a41, .ref a42, .ref a43, .ref a44, .null, .int (-1), .ref a45, .long (0)]))] := hD
        refine W.widen (k := 244) (n := 2777) (Nat.le_of_ble_eq_true rfl) (Nat.le_of_ble_eq_true rfl) ?_
        refine W.eq (g2 := F0 m 799 ls [.int (32)]) rfl ?_
        refine lv_istore (lv' := [(7, .int (32)), (6, .int (1)), (5, .int (0)), (4, .ref a0), (3, .ref a1), (2, .ref a2), (1, .ref a3), (0, .ref b)]) hx hb dL_law_799 hl (by decide) rfl (fun ls hl => ?_)
        refine lv_aload_n hx hb dL_law_801 rfl (lv_at hl 5 rfl) ?_
        have hX : nCx p s m _ c code 9 "MinestrataLaw" dC dI g A [(a41, .inr (1, [.int (0), .ref (g 21), .int (0)])), (a42, .inr (1, [.int (0), .ref (g 21), .int (0)])), (a2, .inr (15, [.int (1), .int (0), .int (100), .int (0), .int (0), .ref a34, .ref a35, .ref a36, .ref a37, .ref a38, .ref a39, .ref a40, .ref a41, .ref a42, .ref a43, .ref a44, .null, .int (-1), .ref a45, .long (0)]))] _ _ := ⟨⟨hx, hb, hml, hown, hts⟩, hE, hS, hA, hP, hD⟩
        refine n_call (wr := [(a41, .inr (1, [.int (0), .ref (g 21), .int (0)])), (a42, .inr (1, [.int (0), .ref (g 21), .int (0)]))]) hX (n_runV (n := 0) (wc := [(a2, .inr (15, [.int (1), .int (0), .int (100), .int (0), .int (0), .ref a34, .ref a35, .ref a36, .ref a37, .ref a38, .ref a39, .ref a40, .ref a41, .ref a42, .ref a43, .ref a44, .null, .int (-1), .ref a45, .long (0)]))]) (As := []) (rest := []) hX (m33 l hst dC dI g a2 a34 a35 a36 a37 a38 a39 a40 a41 a42 a43 a44 a45 _) [2] rfl (by decide +kernel) 2 (ci := 15) rfl (T := TX16) (N := 20) (C := "MinestrataModel") rfl q1495 q1496 q1497 q82 q1498 (by decide +kernel) ⟨(Nat.le_of_ble_eq_true rfl), (Nat.le_of_ble_eq_true rfl)⟩ ⟨(Nat.le_of_ble_eq_true rfl), (Nat.le_of_ble_eq_true rfl)⟩ hl.1 rfl rfl (Nat.le_of_ble_eq_true rfl) dL_law_802) [2] [0, 1] rfl rfl (by decide +kernel) (by decide +kernel) (fun f28 r29 H locs hP hD hS => ?_)
        have hP : va_P (dC, dI) CL [(a41, .inr (1, [.int (0), .ref (g 21), .int (0)])), (a42, .inr (1, [.int (0), .ref (g 21), .int (0)])), (a2, .inr (15, [.int (1), .int (0), .int (100), .int (0), .int (0), .ref a34, .ref a35, .ref a36, .ref a37, .ref a38, .ref a39, .ref a40, .ref a41, .ref a42, .ref a43, .ref a44, .null, .int (-1), .ref a45, .long (0)]))] _ := hP
        have hD : va_D A [(a41, .inr (1, [.int (0), .ref (g 21), .int (0)])), (a42, .inr (1, [.int (0), .ref (g 21), .int (0)])), (a2, .inr (15, [.int (1), .int (0), .int (100), .int (0), .int (0), .ref a34, .ref a35, .ref a36, .ref a37, .ref a38, .ref a39, .ref a40, .ref a41, .ref a42, .ref a43, .ref a44, .null, .int (-1), .ref a45, .long (0)]))] := hD
        refine W.widen (k := 244) (n := 2777) (Nat.le_of_ble_eq_true rfl) (Nat.le_of_ble_eq_true rfl) ?_
        refine W.eq (g2 := F0 m 805 ls [.int (1)]) rfl ?_
        refine lv_iload hx hb dL_law_805 (lv_at hl 1 rfl) ?_
        refine lv_icmp_eq (tgt := 812) hx hb dL_law_807 (by decide +kernel) (fun _ => ?_) (fun h => absurd (by decide +kernel) h)
        refine lv_iload hx hb dL_law_812 (lv_at hl 1 rfl) ?_
        refine lv_if_ne (tgt := 829) hx hb dL_law_814 (by decide +kernel) (fun _ => ?_) (fun h => absurd h (by decide +kernel))
        refine lv_goto (tgt := 2278) hx hb dL_law_829 (by decide +kernel) ?_
        refine lv_iinc (v := (5)) (lv' := [(5, .int (5)), (7, .int (32)), (6, .int (1)), (4, .ref a0), (3, .ref a1), (2, .ref a2), (1, .ref a3), (0, .ref b)]) hx hb dL_law_2278 hl (k := 2) rfl (by decide +kernel) (by decide) rfl (fun ls hl => ?_)
        refine lv_goto (tgt := 28) hx hb dL_law_2281 (by decide +kernel) ?_
        refine lv_iload hx hb dL_law_28 (lv_at hl 0 rfl) ?_
        refine lv_aload_n hx hb dL_law_30 rfl (lv_at hl 7 rfl) ?_
        refine va_slen hx hb hXs hbl hbA hS dL_law_31 ?_
        refine nt_i (v := (5)) (by decide +kernel) ?_
        refine lv_iconst (v := (5)) hx hb dL_law_32 (by decide +kernel) ?_
        refine lv_isub hx hb dL_law_33 ?_
        refine nt_i (v := (0)) (by decide +kernel) ?_
        refine lv_icmp_gt (tgt := 2284) hx hb dL_law_34 (by decide +kernel) (fun _ => ?_) (fun h => absurd (by decide +kernel) h)
        refine lv_iconst (v := (1)) hx hb dL_law_2284 (by decide +kernel) ?_
        refine va_forget (fun q9 hq9 => by have h9 := hS.2.2 q9 hq9; rw [← hAe] at h9; exact h9) ?_
        refine W.widen (k := 600006) (n := 7302056) (Nat.le_of_ble_eq_true rfl) (Nat.le_of_ble_eq_true rfl) ?_
        refine W.base ?_
        exact lw_ret (Drawn.sameBut.refl s.drawn lw_cs) hx hb hr hlk dL_law_2285
      · skip
        by_cases h30 : (1) < s3
        · skip
          have hX : nCx p s m _ c code 9 "MinestrataLaw" dC dI g A [(a3, .inr (12, [.ref a4, .ref a5, .ref a6, .ref a7, .ref a8, .ref a9, .ref a10, .ref a11, .null, .ref a12, .ref a13, .int (0), .int (100), .int (0), .int (0), .int (-1), .long (0), .int (1)])), (a4, .inr (8, [.int (0), .ref a14, .ref a15, .ref a16, .ref a17, .int (0), .ref a18, .ref a19, .ref a20, .ref a21, .ref a22, .ref a23, .ref a24])), (a6, .inr (11, [.int (0), .ref a25, .ref a26, .ref a27, .ref a28, .ref a29, .ref a30, .ref a31, .ref a32, .ref a33])), (a2, .inr (15, [.int (0), .int (0), .int (100), .int (0), .int (0), .ref a34, .ref a35, .ref a36, .ref a37, .ref a38, .ref a39, .ref a40, .ref a41, .ref a42, .ref a43, .ref a44, .null, .int (-1), .ref a45, .long (0)])), (a41, .inr (1, [.int (0), .ref (g 21), .int (0)])), (a42, .inr (1, [.int (0), .ref (g 21), .int (0)]))] _ _ := ⟨⟨hx, hb, hml, hown, hts⟩, hE, hS, hA, hP, hD⟩
          refine n_call (wr := [(a2, .inr (15, [.int (0), .int (0), .int (100), .int (0), .int (0), .ref a34, .ref a35, .ref a36, .ref a37, .ref a38, .ref a39, .ref a40, .ref a41, .ref a42, .ref a43, .ref a44, .null, .int (-1), .ref a45, .long (0)])), (a41, .inr (1, [.int (0), .ref (g 21), .int (0)])), (a42, .inr (1, [.int (0), .ref (g 21), .int (0)]))]) hX (n_runSW (n := 5) (wc := [(a3, .inr (12, [.ref a4, .ref a5, .ref a6, .ref a7, .ref a8, .ref a9, .ref a10, .ref a11, .null, .ref a12, .ref a13, .int (0), .int (100), .int (0), .int (0), .int (-1), .long (0), .int (1)])), (a4, .inr (8, [.int (0), .ref a14, .ref a15, .ref a16, .ref a17, .int (0), .ref a18, .ref a19, .ref a20, .ref a21, .ref a22, .ref a23, .ref a24])), (a6, .inr (11, [.int (0), .ref a25, .ref a26, .ref a27, .ref a28, .ref a29, .ref a30, .ref a31, .ref a32, .ref a33]))]) (As := [.ref a3, .int (98), .int s2, .int s3, .ref a1]) (rest := []) hX (m116 l hst dC dI g a3 a1 a4 a5 a6 a7 a8 a9 a10 a11 a12 a13 a14 a15 a16 a17 a18 a19 a20 a21 a22 a23 a24 a25 a26 a27 a28 a29 a30 a31 a32 a33 s2 s3 h23 h30 _) [0, 1, 2] rfl (by decide +kernel) q1038 q1039 q70 q1040 (by decide +kernel) ⟨(Nat.le_of_ble_eq_true rfl), (Nat.le_of_ble_eq_true rfl)⟩ ⟨(Nat.le_of_ble_eq_true rfl), (Nat.le_of_ble_eq_true rfl)⟩ hl.1 rfl rfl (Nat.le_of_ble_eq_true rfl) dL_law_771) [0, 1, 2] [3, 4, 5] rfl rfl (by decide +kernel) (by decide +kernel) (fun f31 r32 H locs hP hD hS => ?_)
          have hP : va_P (dC, dI) CL [(a2, .inr (15, [.int (0), .int (0), .int (100), .int (0), .int (0), .ref a34, .ref a35, .ref a36, .ref a37, .ref a38, .ref a39, .ref a40, .ref a41, .ref a42, .ref a43, .ref a44, .null, .int (-1), .ref a45, .long (0)])), (a41, .inr (1, [.int (0), .ref (g 21), .int (0)])), (a42, .inr (1, [.int (0), .ref (g 21), .int (0)]))] _ := hP
          have hD : va_D A [(a2, .inr (15, [.int (0), .int (0), .int (100), .int (0), .int (0), .ref a34, .ref a35, .ref a36, .ref a37, .ref a38, .ref a39, .ref a40, .ref a41, .ref a42, .ref a43, .ref a44, .null, .int (-1), .ref a45, .long (0)])), (a41, .inr (1, [.int (0), .ref (g 21), .int (0)])), (a42, .inr (1, [.int (0), .ref (g 21), .int (0)]))] := hD
          refine W.widen (k := 244) (n := 2777) (Nat.le_of_ble_eq_true rfl) (Nat.le_of_ble_eq_true rfl) ?_
          refine W.eq (g2 := F0 m 774 ls [.int (1)]) rfl ?_
          refine lv_istore (lv' := [(6, .int (1)), (5, .int (0)), (4, .ref a0), (3, .ref a1), (2, .ref a2), (1, .ref a3), (0, .ref b)]) hx hb dL_law_774 hl (by decide) rfl (fun ls hl => ?_)
          refine lv_aload_n hx hb dL_law_776 rfl (lv_at hl 4 rfl) ?_
          refine lv_aload_n hx hb dL_law_777 rfl (lv_at hl 6 rfl) ?_
          refine lv_iload hx hb dL_law_778 (lv_at hl 1 rfl) ?_
          refine lv_iconst (v := (1)) hx hb dL_law_780 (by decide +kernel) ?_
          refine lv_iadd hx hb dL_law_781 ?_
          refine nt_i (v := (1)) (by decide +kernel) ?_
          refine va_sld hx hb hXs hbl hbA hS (show ¬ ((1 : Int32) < 0 ∨ 5 ≤ Int32.toNatClampNeg (1)) by decide +kernel) dL_law_782 ?_
          refine nt_i (v := s1) es1 ?_
          refine lv_i2c (v := (98)) hx hb dL_law_783 ek1.symm ?_
          refine lv_aload_n hx hb dL_law_784 rfl (lv_at hl 6 rfl) ?_
          refine lv_iload hx hb dL_law_785 (lv_at hl 1 rfl) ?_
          refine lv_iconst (v := (2)) hx hb dL_law_787 (by decide +kernel) ?_
          refine lv_iadd hx hb dL_law_788 ?_
          refine nt_i (v := (2)) (by decide +kernel) ?_
          refine va_sld hx hb hXs hbl hbA hS (show ¬ ((2 : Int32) < 0 ∨ 5 ≤ Int32.toNatClampNeg (2)) by decide +kernel) dL_law_789 ?_
          refine nt_i (v := s2) es2 ?_
          refine lv_aload_n hx hb dL_law_790 rfl (lv_at hl 6 rfl) ?_
          refine lv_iload hx hb dL_law_791 (lv_at hl 1 rfl) ?_
          refine lv_iconst (v := (3)) hx hb dL_law_793 (by decide +kernel) ?_
          refine lv_iadd hx hb dL_law_794 ?_
          refine nt_i (v := (3)) (by decide +kernel) ?_
          refine va_sld hx hb hXs hbl hbA hS (show ¬ ((3 : Int32) < 0 ∨ 5 ≤ Int32.toNatClampNeg (3)) by decide +kernel) dL_law_795 ?_
          refine nt_i (v := s3) es3 ?_
          have hX : nCx p s m _ c code 9 "MinestrataLaw" dC dI g A [(a2, .inr (15, [.int (0), .int (0), .int (100), .int (0), .int (0), .ref a34, .ref a35, .ref a36, .ref a37, .ref a38, .ref a39, .ref a40, .ref a41, .ref a42, .ref a43, .ref a44, .null, .int (-1), .ref a45, .long (0)])), (a41, .inr (1, [.int (0), .ref (g 21), .int (0)])), (a42, .inr (1, [.int (0), .ref (g 21), .int (0)]))] _ _ := ⟨⟨hx, hb, hml, hown, hts⟩, hE, hS, hA, hP, hD⟩
          refine n_call (wr := [(a41, .inr (1, [.int (0), .ref (g 21), .int (0)])), (a42, .inr (1, [.int (0), .ref (g 21), .int (0)]))]) hX (n_runV (n := 3) (wc := [(a2, .inr (15, [.int (0), .int (0), .int (100), .int (0), .int (0), .ref a34, .ref a35, .ref a36, .ref a37, .ref a38, .ref a39, .ref a40, .ref a41, .ref a42, .ref a43, .ref a44, .null, .int (-1), .ref a45, .long (0)]))]) (As := [.int (98), .int s2, .int s3]) (rest := []) hX (m118 l hst dC dI g a2 a34 a35 a36 a37 a38 a39 a40 a41 a42 a43 a44 a45 s2 s3 h23 h30 _) [0] rfl (by decide +kernel) 0 (ci := 15) rfl (T := TX16) (N := 20) (C := "MinestrataModel") rfl q2103 q2104 q2105 q82 q2106 (by decide +kernel) ⟨(Nat.le_of_ble_eq_true rfl), (Nat.le_of_ble_eq_true rfl)⟩ ⟨(Nat.le_of_ble_eq_true rfl), (Nat.le_of_ble_eq_true rfl)⟩ hl.1 rfl rfl (Nat.le_of_ble_eq_true rfl) dL_law_796) [0] [1, 2] rfl rfl (by decide +kernel) (by decide +kernel) (fun f33 r34 H locs hP hD hS => ?_)
          have hP : va_P (dC, dI) CL [(a41, .inr (1, [.int (0), .ref (g 21), .int (0)])), (a42, .inr (1, [.int (0), .ref (g 21), .int (0)])), (a2, .inr (15, [.int (1), .int (0), .int (100), .int (0), .int (0), .ref a34, .ref a35, .ref a36, .ref a37, .ref a38, .ref a39, .ref a40, .ref a41, .ref a42, .ref a43, .ref a44, .null, .int (-1), .ref a45, .long (0)]))] _ := hP
          have hD : va_D A [(a41, .inr (1, [.int (0), .ref (g 21), .int (0)])), (a42, .inr (1, [.int (0), .ref (g 21), .int (0)])), (a2, .inr (15, [.int (1), .int (0), .int (100), .int (0), .int (0), .ref a34, .ref a35, .ref a36, .ref a37, .ref a38, .ref a39, .ref a40, .ref a41, .ref a42, .ref a43, .ref a44, .null, .int (-1), .ref a45, .long (0)]))] := hD
          refine W.widen (k := 244) (n := 2777) (Nat.le_of_ble_eq_true rfl) (Nat.le_of_ble_eq_true rfl) ?_
          refine W.eq (g2 := F0 m 799 ls [.int (32)]) rfl ?_
          refine lv_istore (lv' := [(7, .int (32)), (6, .int (1)), (5, .int (0)), (4, .ref a0), (3, .ref a1), (2, .ref a2), (1, .ref a3), (0, .ref b)]) hx hb dL_law_799 hl (by decide) rfl (fun ls hl => ?_)
          refine lv_aload_n hx hb dL_law_801 rfl (lv_at hl 5 rfl) ?_
          have hX : nCx p s m _ c code 9 "MinestrataLaw" dC dI g A [(a41, .inr (1, [.int (0), .ref (g 21), .int (0)])), (a42, .inr (1, [.int (0), .ref (g 21), .int (0)])), (a2, .inr (15, [.int (1), .int (0), .int (100), .int (0), .int (0), .ref a34, .ref a35, .ref a36, .ref a37, .ref a38, .ref a39, .ref a40, .ref a41, .ref a42, .ref a43, .ref a44, .null, .int (-1), .ref a45, .long (0)]))] _ _ := ⟨⟨hx, hb, hml, hown, hts⟩, hE, hS, hA, hP, hD⟩
          refine n_call (wr := [(a41, .inr (1, [.int (0), .ref (g 21), .int (0)])), (a42, .inr (1, [.int (0), .ref (g 21), .int (0)]))]) hX (n_runV (n := 0) (wc := [(a2, .inr (15, [.int (1), .int (0), .int (100), .int (0), .int (0), .ref a34, .ref a35, .ref a36, .ref a37, .ref a38, .ref a39, .ref a40, .ref a41, .ref a42, .ref a43, .ref a44, .null, .int (-1), .ref a45, .long (0)]))]) (As := []) (rest := []) hX (m33 l hst dC dI g a2 a34 a35 a36 a37 a38 a39 a40 a41 a42 a43 a44 a45 _) [2] rfl (by decide +kernel) 2 (ci := 15) rfl (T := TX16) (N := 20) (C := "MinestrataModel") rfl q1495 q1496 q1497 q82 q1498 (by decide +kernel) ⟨(Nat.le_of_ble_eq_true rfl), (Nat.le_of_ble_eq_true rfl)⟩ ⟨(Nat.le_of_ble_eq_true rfl), (Nat.le_of_ble_eq_true rfl)⟩ hl.1 rfl rfl (Nat.le_of_ble_eq_true rfl) dL_law_802) [2] [0, 1] rfl rfl (by decide +kernel) (by decide +kernel) (fun f35 r36 H locs hP hD hS => ?_)
          have hP : va_P (dC, dI) CL [(a41, .inr (1, [.int (0), .ref (g 21), .int (0)])), (a42, .inr (1, [.int (0), .ref (g 21), .int (0)])), (a2, .inr (15, [.int (1), .int (0), .int (100), .int (0), .int (0), .ref a34, .ref a35, .ref a36, .ref a37, .ref a38, .ref a39, .ref a40, .ref a41, .ref a42, .ref a43, .ref a44, .null, .int (-1), .ref a45, .long (0)]))] _ := hP
          have hD : va_D A [(a41, .inr (1, [.int (0), .ref (g 21), .int (0)])), (a42, .inr (1, [.int (0), .ref (g 21), .int (0)])), (a2, .inr (15, [.int (1), .int (0), .int (100), .int (0), .int (0), .ref a34, .ref a35, .ref a36, .ref a37, .ref a38, .ref a39, .ref a40, .ref a41, .ref a42, .ref a43, .ref a44, .null, .int (-1), .ref a45, .long (0)]))] := hD
          refine W.widen (k := 244) (n := 2777) (Nat.le_of_ble_eq_true rfl) (Nat.le_of_ble_eq_true rfl) ?_
          refine W.eq (g2 := F0 m 805 ls [.int (1)]) rfl ?_
          refine lv_iload hx hb dL_law_805 (lv_at hl 1 rfl) ?_
          refine lv_icmp_eq (tgt := 812) hx hb dL_law_807 (by decide +kernel) (fun _ => ?_) (fun h => absurd (by decide +kernel) h)
          refine lv_iload hx hb dL_law_812 (lv_at hl 1 rfl) ?_
          refine lv_if_ne (tgt := 829) hx hb dL_law_814 (by decide +kernel) (fun _ => ?_) (fun h => absurd h (by decide +kernel))
          refine lv_goto (tgt := 2278) hx hb dL_law_829 (by decide +kernel) ?_
          refine lv_iinc (v := (5)) (lv' := [(5, .int (5)), (7, .int (32)), (6, .int (1)), (4, .ref a0), (3, .ref a1), (2, .ref a2), (1, .ref a3), (0, .ref b)]) hx hb dL_law_2278 hl (k := 2) rfl (by decide +kernel) (by decide) rfl (fun ls hl => ?_)
          refine lv_goto (tgt := 28) hx hb dL_law_2281 (by decide +kernel) ?_
          refine lv_iload hx hb dL_law_28 (lv_at hl 0 rfl) ?_
          refine lv_aload_n hx hb dL_law_30 rfl (lv_at hl 7 rfl) ?_
          refine va_slen hx hb hXs hbl hbA hS dL_law_31 ?_
          refine nt_i (v := (5)) (by decide +kernel) ?_
          refine lv_iconst (v := (5)) hx hb dL_law_32 (by decide +kernel) ?_
          refine lv_isub hx hb dL_law_33 ?_
          refine nt_i (v := (0)) (by decide +kernel) ?_
          refine lv_icmp_gt (tgt := 2284) hx hb dL_law_34 (by decide +kernel) (fun _ => ?_) (fun h => absurd (by decide +kernel) h)
          refine lv_iconst (v := (1)) hx hb dL_law_2284 (by decide +kernel) ?_
          refine va_forget (fun q9 hq9 => by have h9 := hS.2.2 q9 hq9; rw [← hAe] at h9; exact h9) ?_
          refine W.widen (k := 600006) (n := 7302056) (Nat.le_of_ble_eq_true rfl) (Nat.le_of_ble_eq_true rfl) ?_
          refine W.base ?_
          exact lw_ret (Drawn.sameBut.refl s.drawn lw_cs) hx hb hr hlk dL_law_2285
        · skip
          have hX : nCx p s m _ c code 9 "MinestrataLaw" dC dI g A [(a3, .inr (12, [.ref a4, .ref a5, .ref a6, .ref a7, .ref a8, .ref a9, .ref a10, .ref a11, .null, .ref a12, .ref a13, .int (0), .int (100), .int (0), .int (0), .int (-1), .long (0), .int (1)])), (a4, .inr (8, [.int (0), .ref a14, .ref a15, .ref a16, .ref a17, .int (0), .ref a18, .ref a19, .ref a20, .ref a21, .ref a22, .ref a23, .ref a24])), (a6, .inr (11, [.int (0), .ref a25, .ref a26, .ref a27, .ref a28, .ref a29, .ref a30, .ref a31, .ref a32, .ref a33])), (a2, .inr (15, [.int (0), .int (0), .int (100), .int (0), .int (0), .ref a34, .ref a35, .ref a36, .ref a37, .ref a38, .ref a39, .ref a40, .ref a41, .ref a42, .ref a43, .ref a44, .null, .int (-1), .ref a45, .long (0)])), (a41, .inr (1, [.int (0), .ref (g 21), .int (0)])), (a42, .inr (1, [.int (0), .ref (g 21), .int (0)]))] _ _ := ⟨⟨hx, hb, hml, hown, hts⟩, hE, hS, hA, hP, hD⟩
          refine n_call (wr := [(a2, .inr (15, [.int (0), .int (0), .int (100), .int (0), .int (0), .ref a34, .ref a35, .ref a36, .ref a37, .ref a38, .ref a39, .ref a40, .ref a41, .ref a42, .ref a43, .ref a44, .null, .int (-1), .ref a45, .long (0)])), (a41, .inr (1, [.int (0), .ref (g 21), .int (0)])), (a42, .inr (1, [.int (0), .ref (g 21), .int (0)]))]) hX (n_runSW (n := 5) (wc := [(a3, .inr (12, [.ref a4, .ref a5, .ref a6, .ref a7, .ref a8, .ref a9, .ref a10, .ref a11, .null, .ref a12, .ref a13, .int (0), .int (100), .int (0), .int (0), .int (-1), .long (0), .int (1)])), (a4, .inr (8, [.int (0), .ref a14, .ref a15, .ref a16, .ref a17, .int (0), .ref a18, .ref a19, .ref a20, .ref a21, .ref a22, .ref a23, .ref a24])), (a6, .inr (11, [.int (0), .ref a25, .ref a26, .ref a27, .ref a28, .ref a29, .ref a30, .ref a31, .ref a32, .ref a33]))]) (As := [.ref a3, .int (98), .int s2, .int s3, .ref a1]) (rest := []) hX (m122 l hst dC dI g a3 a1 a4 a5 a6 a7 a8 a9 a10 a11 a12 a13 a14 a15 a16 a17 a18 a19 a20 a21 a22 a23 a24 a25 a26 a27 a28 a29 a30 a31 a32 a33 s2 s3 h23 h30 _) [0, 1, 2] rfl (by decide +kernel) q1038 q1039 q70 q1040 (by decide +kernel) ⟨(Nat.le_of_ble_eq_true rfl), (Nat.le_of_ble_eq_true rfl)⟩ ⟨(Nat.le_of_ble_eq_true rfl), (Nat.le_of_ble_eq_true rfl)⟩ hl.1 rfl rfl (Nat.le_of_ble_eq_true rfl) dL_law_771) [0, 1, 2] [3, 4, 5] rfl rfl (by decide +kernel) (by decide +kernel) (fun f37 r38 H locs hP hD hS => ?_)
          have hP : va_P (dC, dI) CL [(a2, .inr (15, [.int (0), .int (0), .int (100), .int (0), .int (0), .ref a34, .ref a35, .ref a36, .ref a37, .ref a38, .ref a39, .ref a40, .ref a41, .ref a42, .ref a43, .ref a44, .null, .int (-1), .ref a45, .long (0)])), (a41, .inr (1, [.int (0), .ref (g 21), .int (0)])), (a42, .inr (1, [.int (0), .ref (g 21), .int (0)]))] _ := hP
          have hD : va_D A [(a2, .inr (15, [.int (0), .int (0), .int (100), .int (0), .int (0), .ref a34, .ref a35, .ref a36, .ref a37, .ref a38, .ref a39, .ref a40, .ref a41, .ref a42, .ref a43, .ref a44, .null, .int (-1), .ref a45, .long (0)])), (a41, .inr (1, [.int (0), .ref (g 21), .int (0)])), (a42, .inr (1, [.int (0), .ref (g 21), .int (0)]))] := hD
          refine W.widen (k := 244) (n := 2777) (Nat.le_of_ble_eq_true rfl) (Nat.le_of_ble_eq_true rfl) ?_
          refine W.eq (g2 := F0 m 774 ls [.int (2)]) rfl ?_
          refine lv_istore (lv' := [(6, .int (2)), (5, .int (0)), (4, .ref a0), (3, .ref a1), (2, .ref a2), (1, .ref a3), (0, .ref b)]) hx hb dL_law_774 hl (by decide) rfl (fun ls hl => ?_)
          refine lv_aload_n hx hb dL_law_776 rfl (lv_at hl 4 rfl) ?_
          refine lv_aload_n hx hb dL_law_777 rfl (lv_at hl 6 rfl) ?_
          refine lv_iload hx hb dL_law_778 (lv_at hl 1 rfl) ?_
          refine lv_iconst (v := (1)) hx hb dL_law_780 (by decide +kernel) ?_
          refine lv_iadd hx hb dL_law_781 ?_
          refine nt_i (v := (1)) (by decide +kernel) ?_
          refine va_sld hx hb hXs hbl hbA hS (show ¬ ((1 : Int32) < 0 ∨ 5 ≤ Int32.toNatClampNeg (1)) by decide +kernel) dL_law_782 ?_
          refine nt_i (v := s1) es1 ?_
          refine lv_i2c (v := (98)) hx hb dL_law_783 ek1.symm ?_
          refine lv_aload_n hx hb dL_law_784 rfl (lv_at hl 6 rfl) ?_
          refine lv_iload hx hb dL_law_785 (lv_at hl 1 rfl) ?_
          refine lv_iconst (v := (2)) hx hb dL_law_787 (by decide +kernel) ?_
          refine lv_iadd hx hb dL_law_788 ?_
          refine nt_i (v := (2)) (by decide +kernel) ?_
          refine va_sld hx hb hXs hbl hbA hS (show ¬ ((2 : Int32) < 0 ∨ 5 ≤ Int32.toNatClampNeg (2)) by decide +kernel) dL_law_789 ?_
          refine nt_i (v := s2) es2 ?_
          refine lv_aload_n hx hb dL_law_790 rfl (lv_at hl 6 rfl) ?_
          refine lv_iload hx hb dL_law_791 (lv_at hl 1 rfl) ?_
          refine lv_iconst (v := (3)) hx hb dL_law_793 (by decide +kernel) ?_
          refine lv_iadd hx hb dL_law_794 ?_
          refine nt_i (v := (3)) (by decide +kernel) ?_
          refine va_sld hx hb hXs hbl hbA hS (show ¬ ((3 : Int32) < 0 ∨ 5 ≤ Int32.toNatClampNeg (3)) by decide +kernel) dL_law_795 ?_
          refine nt_i (v := s3) es3 ?_
          have hX : nCx p s m _ c code 9 "MinestrataLaw" dC dI g A [(a2, .inr (15, [.int (0), .int (0), .int (100), .int (0), .int (0), .ref a34, .ref a35, .ref a36, .ref a37, .ref a38, .ref a39, .ref a40, .ref a41, .ref a42, .ref a43, .ref a44, .null, .int (-1), .ref a45, .long (0)])), (a41, .inr (1, [.int (0), .ref (g 21), .int (0)])), (a42, .inr (1, [.int (0), .ref (g 21), .int (0)]))] _ _ := ⟨⟨hx, hb, hml, hown, hts⟩, hE, hS, hA, hP, hD⟩
          refine n_call (wr := [(a42, .inr (1, [.int (0), .ref (g 21), .int (0)]))]) hX (n_runV (n := 3) (wc := [(a2, .inr (15, [.int (0), .int (0), .int (100), .int (0), .int (0), .ref a34, .ref a35, .ref a36, .ref a37, .ref a38, .ref a39, .ref a40, .ref a41, .ref a42, .ref a43, .ref a44, .null, .int (-1), .ref a45, .long (0)])), (a41, .inr (1, [.int (0), .ref (g 21), .int (0)]))]) (As := [.int (98), .int s2, .int s3]) (rest := []) hX (m125 l hst dC dI g a2 a34 a35 a36 a37 a38 a39 a40 a41 a42 a43 a44 a45 s2 s3 h23 h30 _) [0, 1] rfl (by decide +kernel) 0 (ci := 15) rfl (T := TX16) (N := 20) (C := "MinestrataModel") rfl q2103 q2104 q2105 q82 q2106 (by decide +kernel) ⟨(Nat.le_of_ble_eq_true rfl), (Nat.le_of_ble_eq_true rfl)⟩ ⟨(Nat.le_of_ble_eq_true rfl), (Nat.le_of_ble_eq_true rfl)⟩ hl.1 rfl rfl (Nat.le_of_ble_eq_true rfl) dL_law_796) [0, 1] [2] rfl rfl (by decide +kernel) (by decide +kernel) (fun f39 r40 H locs hP hD hS => ?_)
          have hP : va_P (dC, dI) CL [(a42, .inr (1, [.int (0), .ref (g 21), .int (0)])), (a2, .inr (15, [.int (2), .int (0), .int (100), .int (0), .int (0), .ref a34, .ref a35, .ref a36, .ref a37, .ref a38, .ref a39, .ref a40, .ref a41, .ref a42, .ref a43, .ref a44, .null, .int (-1), .ref a45, .long (0)])), (a41, .inr (1, [.int (0), .ref (g 21), .int (0)]))] _ := hP
          have hD : va_D A [(a42, .inr (1, [.int (0), .ref (g 21), .int (0)])), (a2, .inr (15, [.int (2), .int (0), .int (100), .int (0), .int (0), .ref a34, .ref a35, .ref a36, .ref a37, .ref a38, .ref a39, .ref a40, .ref a41, .ref a42, .ref a43, .ref a44, .null, .int (-1), .ref a45, .long (0)])), (a41, .inr (1, [.int (0), .ref (g 21), .int (0)]))] := hD
          refine W.widen (k := 244) (n := 2777) (Nat.le_of_ble_eq_true rfl) (Nat.le_of_ble_eq_true rfl) ?_
          refine W.eq (g2 := F0 m 799 ls [.int (32)]) rfl ?_
          refine lv_istore (lv' := [(7, .int (32)), (6, .int (2)), (5, .int (0)), (4, .ref a0), (3, .ref a1), (2, .ref a2), (1, .ref a3), (0, .ref b)]) hx hb dL_law_799 hl (by decide) rfl (fun ls hl => ?_)
          refine lv_aload_n hx hb dL_law_801 rfl (lv_at hl 5 rfl) ?_
          have hX : nCx p s m _ c code 9 "MinestrataLaw" dC dI g A [(a42, .inr (1, [.int (0), .ref (g 21), .int (0)])), (a2, .inr (15, [.int (2), .int (0), .int (100), .int (0), .int (0), .ref a34, .ref a35, .ref a36, .ref a37, .ref a38, .ref a39, .ref a40, .ref a41, .ref a42, .ref a43, .ref a44, .null, .int (-1), .ref a45, .long (0)])), (a41, .inr (1, [.int (0), .ref (g 21), .int (0)]))] _ _ := ⟨⟨hx, hb, hml, hown, hts⟩, hE, hS, hA, hP, hD⟩
          refine n_call (wr := [(a42, .inr (1, [.int (0), .ref (g 21), .int (0)])), (a41, .inr (1, [.int (0), .ref (g 21), .int (0)]))]) hX (n_runV (n := 0) (wc := [(a2, .inr (15, [.int (2), .int (0), .int (100), .int (0), .int (0), .ref a34, .ref a35, .ref a36, .ref a37, .ref a38, .ref a39, .ref a40, .ref a41, .ref a42, .ref a43, .ref a44, .null, .int (-1), .ref a45, .long (0)]))]) (As := []) (rest := []) hX (m108 l hst dC dI g a2 a34 a35 a36 a37 a38 a39 a40 a41 a42 a43 a44 a45 _) [1] rfl (by decide +kernel) 1 (ci := 15) rfl (T := TX16) (N := 20) (C := "MinestrataModel") rfl q1495 q1496 q1497 q82 q1498 (by decide +kernel) ⟨(Nat.le_of_ble_eq_true rfl), (Nat.le_of_ble_eq_true rfl)⟩ ⟨(Nat.le_of_ble_eq_true rfl), (Nat.le_of_ble_eq_true rfl)⟩ hl.1 rfl rfl (Nat.le_of_ble_eq_true rfl) dL_law_802) [1] [0, 2] rfl rfl (by decide +kernel) (by decide +kernel) (fun f41 r42 H locs hP hD hS => ?_)
          have hP : va_P (dC, dI) CL [(a42, .inr (1, [.int (0), .ref (g 21), .int (0)])), (a41, .inr (1, [.int (0), .ref (g 21), .int (0)])), (a2, .inr (15, [.int (2), .int (0), .int (100), .int (0), .int (0), .ref a34, .ref a35, .ref a36, .ref a37, .ref a38, .ref a39, .ref a40, .ref a41, .ref a42, .ref a43, .ref a44, .null, .int (-1), .ref a45, .long (0)]))] _ := hP
          have hD : va_D A [(a42, .inr (1, [.int (0), .ref (g 21), .int (0)])), (a41, .inr (1, [.int (0), .ref (g 21), .int (0)])), (a2, .inr (15, [.int (2), .int (0), .int (100), .int (0), .int (0), .ref a34, .ref a35, .ref a36, .ref a37, .ref a38, .ref a39, .ref a40, .ref a41, .ref a42, .ref a43, .ref a44, .null, .int (-1), .ref a45, .long (0)]))] := hD
          refine W.widen (k := 244) (n := 2777) (Nat.le_of_ble_eq_true rfl) (Nat.le_of_ble_eq_true rfl) ?_
          refine W.eq (g2 := F0 m 805 ls [.int (2)]) rfl ?_
          refine lv_iload hx hb dL_law_805 (lv_at hl 1 rfl) ?_
          refine lv_icmp_eq (tgt := 812) hx hb dL_law_807 (by decide +kernel) (fun _ => ?_) (fun h => absurd (by decide +kernel) h)
          refine lv_iload hx hb dL_law_812 (lv_at hl 1 rfl) ?_
          refine lv_if_ne (tgt := 829) hx hb dL_law_814 (by decide +kernel) (fun _ => ?_) (fun h => absurd h (by decide +kernel))
          refine lv_goto (tgt := 2278) hx hb dL_law_829 (by decide +kernel) ?_
          refine lv_iinc (v := (5)) (lv' := [(5, .int (5)), (7, .int (32)), (6, .int (2)), (4, .ref a0), (3, .ref a1), (2, .ref a2), (1, .ref a3), (0, .ref b)]) hx hb dL_law_2278 hl (k := 2) rfl (by decide +kernel) (by decide) rfl (fun ls hl => ?_)
          refine lv_goto (tgt := 28) hx hb dL_law_2281 (by decide +kernel) ?_
          refine lv_iload hx hb dL_law_28 (lv_at hl 0 rfl) ?_
          refine lv_aload_n hx hb dL_law_30 rfl (lv_at hl 7 rfl) ?_
          refine va_slen hx hb hXs hbl hbA hS dL_law_31 ?_
          refine nt_i (v := (5)) (by decide +kernel) ?_
          refine lv_iconst (v := (5)) hx hb dL_law_32 (by decide +kernel) ?_
          refine lv_isub hx hb dL_law_33 ?_
          refine nt_i (v := (0)) (by decide +kernel) ?_
          refine lv_icmp_gt (tgt := 2284) hx hb dL_law_34 (by decide +kernel) (fun _ => ?_) (fun h => absurd (by decide +kernel) h)
          refine lv_iconst (v := (1)) hx hb dL_law_2284 (by decide +kernel) ?_
          refine va_forget (fun q9 hq9 => by have h9 := hS.2.2 q9 hq9; rw [← hAe] at h9; exact h9) ?_
          refine W.widen (k := 600006) (n := 7302056) (Nat.le_of_ble_eq_true rfl) (Nat.le_of_ble_eq_true rfl) ?_
          refine W.base ?_
          exact lw_ret (Drawn.sameBut.refl s.drawn lw_cs) hx hb hr hlk dL_law_2285
    · skip
      by_cases h43 : k1 = (102)
      · skip
        subst h43
        by_cases h44 : s3 < (-50)
        · skip
          have hX : nCx p s m _ c code 9 "MinestrataLaw" dC dI g A [(a3, .inr (12, [.ref a4, .ref a5, .ref a6, .ref a7, .ref a8, .ref a9, .ref a10, .ref a11, .null, .ref a12, .ref a13, .int (0), .int (100), .int (0), .int (0), .int (-1), .long (0), .int (1)])), (a4, .inr (8, [.int (0), .ref a14, .ref a15, .ref a16, .ref a17, .int (0), .ref a18, .ref a19, .ref a20, .ref a21, .ref a22, .ref a23, .ref a24])), (a6, .inr (11, [.int (0), .ref a25, .ref a26, .ref a27, .ref a28, .ref a29, .ref a30, .ref a31, .ref a32, .ref a33])), (a2, .inr (15, [.int (0), .int (0), .int (100), .int (0), .int (0), .ref a34, .ref a35, .ref a36, .ref a37, .ref a38, .ref a39, .ref a40, .ref a41, .ref a42, .ref a43, .ref a44, .null, .int (-1), .ref a45, .long (0)])), (a41, .inr (1, [.int (0), .ref (g 21), .int (0)])), (a42, .inr (1, [.int (0), .ref (g 21), .int (0)]))] _ _ := ⟨⟨hx, hb, hml, hown, hts⟩, hE, hS, hA, hP, hD⟩
          refine n_call (wr := [(a2, .inr (15, [.int (0), .int (0), .int (100), .int (0), .int (0), .ref a34, .ref a35, .ref a36, .ref a37, .ref a38, .ref a39, .ref a40, .ref a41, .ref a42, .ref a43, .ref a44, .null, .int (-1), .ref a45, .long (0)])), (a41, .inr (1, [.int (0), .ref (g 21), .int (0)])), (a42, .inr (1, [.int (0), .ref (g 21), .int (0)]))]) hX (n_runSW (n := 5) (wc := [(a3, .inr (12, [.ref a4, .ref a5, .ref a6, .ref a7, .ref a8, .ref a9, .ref a10, .ref a11, .null, .ref a12, .ref a13, .int (0), .int (100), .int (0), .int (0), .int (-1), .long (0), .int (1)])), (a4, .inr (8, [.int (0), .ref a14, .ref a15, .ref a16, .ref a17, .int (0), .ref a18, .ref a19, .ref a20, .ref a21, .ref a22, .ref a23, .ref a24])), (a6, .inr (11, [.int (0), .ref a25, .ref a26, .ref a27, .ref a28, .ref a29, .ref a30, .ref a31, .ref a32, .ref a33]))]) (As := [.ref a3, .int (102), .int s2, .int s3, .ref a1]) (rest := []) hX (m129 l hst dC dI g a3 a1 a4 a5 a6 a7 a8 a9 a10 a11 a12 a13 a14 a15 a16 a17 a18 a19 a20 a21 a22 a23 a24 a25 a26 a27 a28 a29 a30 a31 a32 a33 s2 s3 h44 _) [0, 1, 2] rfl (by decide +kernel) q1038 q1039 q70 q1040 (by decide +kernel) ⟨(Nat.le_of_ble_eq_true rfl), (Nat.le_of_ble_eq_true rfl)⟩ ⟨(Nat.le_of_ble_eq_true rfl), (Nat.le_of_ble_eq_true rfl)⟩ hl.1 rfl rfl (Nat.le_of_ble_eq_true rfl) dL_law_771) [0, 1, 2] [3, 4, 5] rfl rfl (by decide +kernel) (by decide +kernel) (fun f45 r46 H locs hP hD hS => ?_)
          have hP : va_P (dC, dI) CL [(a2, .inr (15, [.int (0), .int (0), .int (100), .int (0), .int (0), .ref a34, .ref a35, .ref a36, .ref a37, .ref a38, .ref a39, .ref a40, .ref a41, .ref a42, .ref a43, .ref a44, .null, .int (-1), .ref a45, .long (0)])), (a41, .inr (1, [.int (0), .ref (g 21), .int (0)])), (a42, .inr (1, [.int (0), .ref (g 21), .int (0)]))] _ := hP
          have hD : va_D A [(a2, .inr (15, [.int (0), .int (0), .int (100), .int (0), .int (0), .ref a34, .ref a35, .ref a36, .ref a37, .ref a38, .ref a39, .ref a40, .ref a41, .ref a42, .ref a43, .ref a44, .null, .int (-1), .ref a45, .long (0)])), (a41, .inr (1, [.int (0), .ref (g 21), .int (0)])), (a42, .inr (1, [.int (0), .ref (g 21), .int (0)]))] := hD
          refine W.widen (k := 244) (n := 2777) (Nat.le_of_ble_eq_true rfl) (Nat.le_of_ble_eq_true rfl) ?_
          refine W.eq (g2 := F0 m 774 ls [.int (1)]) rfl ?_
          refine lv_istore (lv' := [(6, .int (1)), (5, .int (0)), (4, .ref a0), (3, .ref a1), (2, .ref a2), (1, .ref a3), (0, .ref b)]) hx hb dL_law_774 hl (by decide) rfl (fun ls hl => ?_)
          refine lv_aload_n hx hb dL_law_776 rfl (lv_at hl 4 rfl) ?_
          refine lv_aload_n hx hb dL_law_777 rfl (lv_at hl 6 rfl) ?_
          refine lv_iload hx hb dL_law_778 (lv_at hl 1 rfl) ?_
          refine lv_iconst (v := (1)) hx hb dL_law_780 (by decide +kernel) ?_
          refine lv_iadd hx hb dL_law_781 ?_
          refine nt_i (v := (1)) (by decide +kernel) ?_
          refine va_sld hx hb hXs hbl hbA hS (show ¬ ((1 : Int32) < 0 ∨ 5 ≤ Int32.toNatClampNeg (1)) by decide +kernel) dL_law_782 ?_
          refine nt_i (v := s1) es1 ?_
          refine lv_i2c (v := (102)) hx hb dL_law_783 ek1.symm ?_
          refine lv_aload_n hx hb dL_law_784 rfl (lv_at hl 6 rfl) ?_
          refine lv_iload hx hb dL_law_785 (lv_at hl 1 rfl) ?_
          refine lv_iconst (v := (2)) hx hb dL_law_787 (by decide +kernel) ?_
          refine lv_iadd hx hb dL_law_788 ?_
          refine nt_i (v := (2)) (by decide +kernel) ?_
          refine va_sld hx hb hXs hbl hbA hS (show ¬ ((2 : Int32) < 0 ∨ 5 ≤ Int32.toNatClampNeg (2)) by decide +kernel) dL_law_789 ?_
          refine nt_i (v := s2) es2 ?_
          refine lv_aload_n hx hb dL_law_790 rfl (lv_at hl 6 rfl) ?_
          refine lv_iload hx hb dL_law_791 (lv_at hl 1 rfl) ?_
          refine lv_iconst (v := (3)) hx hb dL_law_793 (by decide +kernel) ?_
          refine lv_iadd hx hb dL_law_794 ?_
          refine nt_i (v := (3)) (by decide +kernel) ?_
          refine va_sld hx hb hXs hbl hbA hS (show ¬ ((3 : Int32) < 0 ∨ 5 ≤ Int32.toNatClampNeg (3)) by decide +kernel) dL_law_795 ?_
          refine nt_i (v := s3) es3 ?_
          have hX : nCx p s m _ c code 9 "MinestrataLaw" dC dI g A [(a2, .inr (15, [.int (0), .int (0), .int (100), .int (0), .int (0), .ref a34, .ref a35, .ref a36, .ref a37, .ref a38, .ref a39, .ref a40, .ref a41, .ref a42, .ref a43, .ref a44, .null, .int (-1), .ref a45, .long (0)])), (a41, .inr (1, [.int (0), .ref (g 21), .int (0)])), (a42, .inr (1, [.int (0), .ref (g 21), .int (0)]))] _ _ := ⟨⟨hx, hb, hml, hown, hts⟩, hE, hS, hA, hP, hD⟩
          refine n_call (wr := [(a41, .inr (1, [.int (0), .ref (g 21), .int (0)])), (a42, .inr (1, [.int (0), .ref (g 21), .int (0)]))]) hX (n_runV (n := 3) (wc := [(a2, .inr (15, [.int (0), .int (0), .int (100), .int (0), .int (0), .ref a34, .ref a35, .ref a36, .ref a37, .ref a38, .ref a39, .ref a40, .ref a41, .ref a42, .ref a43, .ref a44, .null, .int (-1), .ref a45, .long (0)]))]) (As := [.int (102), .int s2, .int s3]) (rest := []) hX (m132 l hst dC dI g a2 a34 a35 a36 a37 a38 a39 a40 a41 a42 a43 a44 a45 s2 s3 h44 _) [0] rfl (by decide +kernel) 0 (ci := 15) rfl (T := TX16) (N := 20) (C := "MinestrataModel") rfl q2103 q2104 q2105 q82 q2106 (by decide +kernel) ⟨(Nat.le_of_ble_eq_true rfl), (Nat.le_of_ble_eq_true rfl)⟩ ⟨(Nat.le_of_ble_eq_true rfl), (Nat.le_of_ble_eq_true rfl)⟩ hl.1 rfl rfl (Nat.le_of_ble_eq_true rfl) dL_law_796) [0] [1, 2] rfl rfl (by decide +kernel) (by decide +kernel) (fun f47 r48 H locs hP hD hS => ?_)
          have hP : va_P (dC, dI) CL [(a41, .inr (1, [.int (0), .ref (g 21), .int (0)])), (a42, .inr (1, [.int (0), .ref (g 21), .int (0)])), (a2, .inr (15, [.int (1), .int (0), .int (100), .int (0), .int (0), .ref a34, .ref a35, .ref a36, .ref a37, .ref a38, .ref a39, .ref a40, .ref a41, .ref a42, .ref a43, .ref a44, .null, .int (-1), .ref a45, .long (0)]))] _ := hP
          have hD : va_D A [(a41, .inr (1, [.int (0), .ref (g 21), .int (0)])), (a42, .inr (1, [.int (0), .ref (g 21), .int (0)])), (a2, .inr (15, [.int (1), .int (0), .int (100), .int (0), .int (0), .ref a34, .ref a35, .ref a36, .ref a37, .ref a38, .ref a39, .ref a40, .ref a41, .ref a42, .ref a43, .ref a44, .null, .int (-1), .ref a45, .long (0)]))] := hD
          refine W.widen (k := 244) (n := 2777) (Nat.le_of_ble_eq_true rfl) (Nat.le_of_ble_eq_true rfl) ?_
          refine W.eq (g2 := F0 m 799 ls [.int (32)]) rfl ?_
          refine lv_istore (lv' := [(7, .int (32)), (6, .int (1)), (5, .int (0)), (4, .ref a0), (3, .ref a1), (2, .ref a2), (1, .ref a3), (0, .ref b)]) hx hb dL_law_799 hl (by decide) rfl (fun ls hl => ?_)
          refine lv_aload_n hx hb dL_law_801 rfl (lv_at hl 5 rfl) ?_
          have hX : nCx p s m _ c code 9 "MinestrataLaw" dC dI g A [(a41, .inr (1, [.int (0), .ref (g 21), .int (0)])), (a42, .inr (1, [.int (0), .ref (g 21), .int (0)])), (a2, .inr (15, [.int (1), .int (0), .int (100), .int (0), .int (0), .ref a34, .ref a35, .ref a36, .ref a37, .ref a38, .ref a39, .ref a40, .ref a41, .ref a42, .ref a43, .ref a44, .null, .int (-1), .ref a45, .long (0)]))] _ _ := ⟨⟨hx, hb, hml, hown, hts⟩, hE, hS, hA, hP, hD⟩
          refine n_call (wr := [(a41, .inr (1, [.int (0), .ref (g 21), .int (0)])), (a42, .inr (1, [.int (0), .ref (g 21), .int (0)]))]) hX (n_runV (n := 0) (wc := [(a2, .inr (15, [.int (1), .int (0), .int (100), .int (0), .int (0), .ref a34, .ref a35, .ref a36, .ref a37, .ref a38, .ref a39, .ref a40, .ref a41, .ref a42, .ref a43, .ref a44, .null, .int (-1), .ref a45, .long (0)]))]) (As := []) (rest := []) hX (m33 l hst dC dI g a2 a34 a35 a36 a37 a38 a39 a40 a41 a42 a43 a44 a45 _) [2] rfl (by decide +kernel) 2 (ci := 15) rfl (T := TX16) (N := 20) (C := "MinestrataModel") rfl q1495 q1496 q1497 q82 q1498 (by decide +kernel) ⟨(Nat.le_of_ble_eq_true rfl), (Nat.le_of_ble_eq_true rfl)⟩ ⟨(Nat.le_of_ble_eq_true rfl), (Nat.le_of_ble_eq_true rfl)⟩ hl.1 rfl rfl (Nat.le_of_ble_eq_true rfl) dL_law_802) [2] [0, 1] rfl rfl (by decide +kernel) (by decide +kernel) (fun f49 r50 H locs hP hD hS => ?_)
          have hP : va_P (dC, dI) CL [(a41, .inr (1, [.int (0), .ref (g 21), .int (0)])), (a42, .inr (1, [.int (0), .ref (g 21), .int (0)])), (a2, .inr (15, [.int (1), .int (0), .int (100), .int (0), .int (0), .ref a34, .ref a35, .ref a36, .ref a37, .ref a38, .ref a39, .ref a40, .ref a41, .ref a42, .ref a43, .ref a44, .null, .int (-1), .ref a45, .long (0)]))] _ := hP
          have hD : va_D A [(a41, .inr (1, [.int (0), .ref (g 21), .int (0)])), (a42, .inr (1, [.int (0), .ref (g 21), .int (0)])), (a2, .inr (15, [.int (1), .int (0), .int (100), .int (0), .int (0), .ref a34, .ref a35, .ref a36, .ref a37, .ref a38, .ref a39, .ref a40, .ref a41, .ref a42, .ref a43, .ref a44, .null, .int (-1), .ref a45, .long (0)]))] := hD
          refine W.widen (k := 244) (n := 2777) (Nat.le_of_ble_eq_true rfl) (Nat.le_of_ble_eq_true rfl) ?_
          refine W.eq (g2 := F0 m 805 ls [.int (1)]) rfl ?_
          refine lv_iload hx hb dL_law_805 (lv_at hl 1 rfl) ?_
          refine lv_icmp_eq (tgt := 812) hx hb dL_law_807 (by decide +kernel) (fun _ => ?_) (fun h => absurd (by decide +kernel) h)
          refine lv_iload hx hb dL_law_812 (lv_at hl 1 rfl) ?_
          refine lv_if_ne (tgt := 829) hx hb dL_law_814 (by decide +kernel) (fun _ => ?_) (fun h => absurd h (by decide +kernel))
          refine lv_goto (tgt := 2278) hx hb dL_law_829 (by decide +kernel) ?_
          refine lv_iinc (v := (5)) (lv' := [(5, .int (5)), (7, .int (32)), (6, .int (1)), (4, .ref a0), (3, .ref a1), (2, .ref a2), (1, .ref a3), (0, .ref b)]) hx hb dL_law_2278 hl (k := 2) rfl (by decide +kernel) (by decide) rfl (fun ls hl => ?_)
          refine lv_goto (tgt := 28) hx hb dL_law_2281 (by decide +kernel) ?_
          refine lv_iload hx hb dL_law_28 (lv_at hl 0 rfl) ?_
          refine lv_aload_n hx hb dL_law_30 rfl (lv_at hl 7 rfl) ?_
          refine va_slen hx hb hXs hbl hbA hS dL_law_31 ?_
          refine nt_i (v := (5)) (by decide +kernel) ?_
          refine lv_iconst (v := (5)) hx hb dL_law_32 (by decide +kernel) ?_
          refine lv_isub hx hb dL_law_33 ?_
          refine nt_i (v := (0)) (by decide +kernel) ?_
          refine lv_icmp_gt (tgt := 2284) hx hb dL_law_34 (by decide +kernel) (fun _ => ?_) (fun h => absurd (by decide +kernel) h)
          refine lv_iconst (v := (1)) hx hb dL_law_2284 (by decide +kernel) ?_
          refine va_forget (fun q9 hq9 => by have h9 := hS.2.2 q9 hq9; rw [← hAe] at h9; exact h9) ?_
          refine W.widen (k := 600006) (n := 7302056) (Nat.le_of_ble_eq_true rfl) (Nat.le_of_ble_eq_true rfl) ?_
          refine W.base ?_
          exact lw_ret (Drawn.sameBut.refl s.drawn lw_cs) hx hb hr hlk dL_law_2285
        · skip
          by_cases h51 : (50) < s3
          · skip
            have hX : nCx p s m _ c code 9 "MinestrataLaw" dC dI g A [(a3, .inr (12, [.ref a4, .ref a5, .ref a6, .ref a7, .ref a8, .ref a9, .ref a10, .ref a11, .null, .ref a12, .ref a13, .int (0), .int (100), .int (0), .int (0), .int (-1), .long (0), .int (1)])), (a4, .inr (8, [.int (0), .ref a14, .ref a15, .ref a16, .ref a17, .int (0), .ref a18, .ref a19, .ref a20, .ref a21, .ref a22, .ref a23, .ref a24])), (a6, .inr (11, [.int (0), .ref a25, .ref a26, .ref a27, .ref a28, .ref a29, .ref a30, .ref a31, .ref a32, .ref a33])), (a2, .inr (15, [.int (0), .int (0), .int (100), .int (0), .int (0), .ref a34, .ref a35, .ref a36, .ref a37, .ref a38, .ref a39, .ref a40, .ref a41, .ref a42, .ref a43, .ref a44, .null, .int (-1), .ref a45, .long (0)])), (a41, .inr (1, [.int (0), .ref (g 21), .int (0)])), (a42, .inr (1, [.int (0), .ref (g 21), .int (0)]))] _ _ := ⟨⟨hx, hb, hml, hown, hts⟩, hE, hS, hA, hP, hD⟩
            refine n_call (wr := [(a2, .inr (15, [.int (0), .int (0), .int (100), .int (0), .int (0), .ref a34, .ref a35, .ref a36, .ref a37, .ref a38, .ref a39, .ref a40, .ref a41, .ref a42, .ref a43, .ref a44, .null, .int (-1), .ref a45, .long (0)])), (a41, .inr (1, [.int (0), .ref (g 21), .int (0)])), (a42, .inr (1, [.int (0), .ref (g 21), .int (0)]))]) hX (n_runSW (n := 5) (wc := [(a3, .inr (12, [.ref a4, .ref a5, .ref a6, .ref a7, .ref a8, .ref a9, .ref a10, .ref a11, .null, .ref a12, .ref a13, .int (0), .int (100), .int (0), .int (0), .int (-1), .long (0), .int (1)])), (a4, .inr (8, [.int (0), .ref a14, .ref a15, .ref a16, .ref a17, .int (0), .ref a18, .ref a19, .ref a20, .ref a21, .ref a22, .ref a23, .ref a24])), (a6, .inr (11, [.int (0), .ref a25, .ref a26, .ref a27, .ref a28, .ref a29, .ref a30, .ref a31, .ref a32, .ref a33]))]) (As := [.ref a3, .int (102), .int s2, .int s3, .ref a1]) (rest := []) hX (m136 l hst dC dI g a3 a1 a4 a5 a6 a7 a8 a9 a10 a11 a12 a13 a14 a15 a16 a17 a18 a19 a20 a21 a22 a23 a24 a25 a26 a27 a28 a29 a30 a31 a32 a33 s2 s3 h44 h51 _) [0, 1, 2] rfl (by decide +kernel) q1038 q1039 q70 q1040 (by decide +kernel) ⟨(Nat.le_of_ble_eq_true rfl), (Nat.le_of_ble_eq_true rfl)⟩ ⟨(Nat.le_of_ble_eq_true rfl), (Nat.le_of_ble_eq_true rfl)⟩ hl.1 rfl rfl (Nat.le_of_ble_eq_true rfl) dL_law_771) [0, 1, 2] [3, 4, 5] rfl rfl (by decide +kernel) (by decide +kernel) (fun f52 r53 H locs hP hD hS => ?_)
            have hP : va_P (dC, dI) CL [(a2, .inr (15, [.int (0), .int (0), .int (100), .int (0), .int (0), .ref a34, .ref a35, .ref a36, .ref a37, .ref a38, .ref a39, .ref a40, .ref a41, .ref a42, .ref a43, .ref a44, .null, .int (-1), .ref a45, .long (0)])), (a41, .inr (1, [.int (0), .ref (g 21), .int (0)])), (a42, .inr (1, [.int (0), .ref (g 21), .int (0)]))] _ := hP
            have hD : va_D A [(a2, .inr (15, [.int (0), .int (0), .int (100), .int (0), .int (0), .ref a34, .ref a35, .ref a36, .ref a37, .ref a38, .ref a39, .ref a40, .ref a41, .ref a42, .ref a43, .ref a44, .null, .int (-1), .ref a45, .long (0)])), (a41, .inr (1, [.int (0), .ref (g 21), .int (0)])), (a42, .inr (1, [.int (0), .ref (g 21), .int (0)]))] := hD
            refine W.widen (k := 244) (n := 2777) (Nat.le_of_ble_eq_true rfl) (Nat.le_of_ble_eq_true rfl) ?_
            refine W.eq (g2 := F0 m 774 ls [.int (1)]) rfl ?_
            refine lv_istore (lv' := [(6, .int (1)), (5, .int (0)), (4, .ref a0), (3, .ref a1), (2, .ref a2), (1, .ref a3), (0, .ref b)]) hx hb dL_law_774 hl (by decide) rfl (fun ls hl => ?_)
            refine lv_aload_n hx hb dL_law_776 rfl (lv_at hl 4 rfl) ?_
            refine lv_aload_n hx hb dL_law_777 rfl (lv_at hl 6 rfl) ?_
            refine lv_iload hx hb dL_law_778 (lv_at hl 1 rfl) ?_
            refine lv_iconst (v := (1)) hx hb dL_law_780 (by decide +kernel) ?_
            refine lv_iadd hx hb dL_law_781 ?_
            refine nt_i (v := (1)) (by decide +kernel) ?_
            refine va_sld hx hb hXs hbl hbA hS (show ¬ ((1 : Int32) < 0 ∨ 5 ≤ Int32.toNatClampNeg (1)) by decide +kernel) dL_law_782 ?_
            refine nt_i (v := s1) es1 ?_
            refine lv_i2c (v := (102)) hx hb dL_law_783 ek1.symm ?_
            refine lv_aload_n hx hb dL_law_784 rfl (lv_at hl 6 rfl) ?_
            refine lv_iload hx hb dL_law_785 (lv_at hl 1 rfl) ?_
            refine lv_iconst (v := (2)) hx hb dL_law_787 (by decide +kernel) ?_
            refine lv_iadd hx hb dL_law_788 ?_
            refine nt_i (v := (2)) (by decide +kernel) ?_
            refine va_sld hx hb hXs hbl hbA hS (show ¬ ((2 : Int32) < 0 ∨ 5 ≤ Int32.toNatClampNeg (2)) by decide +kernel) dL_law_789 ?_
            refine nt_i (v := s2) es2 ?_
            refine lv_aload_n hx hb dL_law_790 rfl (lv_at hl 6 rfl) ?_
            refine lv_iload hx hb dL_law_791 (lv_at hl 1 rfl) ?_
            refine lv_iconst (v := (3)) hx hb dL_law_793 (by decide +kernel) ?_
            refine lv_iadd hx hb dL_law_794 ?_
            refine nt_i (v := (3)) (by decide +kernel) ?_
            refine va_sld hx hb hXs hbl hbA hS (show ¬ ((3 : Int32) < 0 ∨ 5 ≤ Int32.toNatClampNeg (3)) by decide +kernel) dL_law_795 ?_
            refine nt_i (v := s3) es3 ?_
            have hX : nCx p s m _ c code 9 "MinestrataLaw" dC dI g A [(a2, .inr (15, [.int (0), .int (0), .int (100), .int (0), .int (0), .ref a34, .ref a35, .ref a36, .ref a37, .ref a38, .ref a39, .ref a40, .ref a41, .ref a42, .ref a43, .ref a44, .null, .int (-1), .ref a45, .long (0)])), (a41, .inr (1, [.int (0), .ref (g 21), .int (0)])), (a42, .inr (1, [.int (0), .ref (g 21), .int (0)]))] _ _ := ⟨⟨hx, hb, hml, hown, hts⟩, hE, hS, hA, hP, hD⟩
            refine n_call (wr := [(a41, .inr (1, [.int (0), .ref (g 21), .int (0)])), (a42, .inr (1, [.int (0), .ref (g 21), .int (0)]))]) hX (n_runV (n := 3) (wc := [(a2, .inr (15, [.int (0), .int (0), .int (100), .int (0), .int (0), .ref a34, .ref a35, .ref a36, .ref a37, .ref a38, .ref a39, .ref a40, .ref a41, .ref a42, .ref a43, .ref a44, .null, .int (-1), .ref a45, .long (0)]))]) (As := [.int (102), .int s2, .int s3]) (rest := []) hX (m139 l hst dC dI g a2 a34 a35 a36 a37 a38 a39 a40 a41 a42 a43 a44 a45 s2 s3 h44 h51 _) [0] rfl (by decide +kernel) 0 (ci := 15) rfl (T := TX16) (N := 20) (C := "MinestrataModel") rfl q2103 q2104 q2105 q82 q2106 (by decide +kernel) ⟨(Nat.le_of_ble_eq_true rfl), (Nat.le_of_ble_eq_true rfl)⟩ ⟨(Nat.le_of_ble_eq_true rfl), (Nat.le_of_ble_eq_true rfl)⟩ hl.1 rfl rfl (Nat.le_of_ble_eq_true rfl) dL_law_796) [0] [1, 2] rfl rfl (by decide +kernel) (by decide +kernel) (fun f54 r55 H locs hP hD hS => ?_)
            have hP : va_P (dC, dI) CL [(a41, .inr (1, [.int (0), .ref (g 21), .int (0)])), (a42, .inr (1, [.int (0), .ref (g 21), .int (0)])), (a2, .inr (15, [.int (1), .int (0), .int (100), .int (0), .int (0), .ref a34, .ref a35, .ref a36, .ref a37, .ref a38, .ref a39, .ref a40, .ref a41, .ref a42, .ref a43, .ref a44, .null, .int (-1), .ref a45, .long (0)]))] _ := hP
            have hD : va_D A [(a41, .inr (1, [.int (0), .ref (g 21), .int (0)])), (a42, .inr (1, [.int (0), .ref (g 21), .int (0)])), (a2, .inr (15, [.int (1), .int (0), .int (100), .int (0), .int (0), .ref a34, .ref a35, .ref a36, .ref a37, .ref a38, .ref a39, .ref a40, .ref a41, .ref a42, .ref a43, .ref a44, .null, .int (-1), .ref a45, .long (0)]))] := hD
            refine W.widen (k := 244) (n := 2777) (Nat.le_of_ble_eq_true rfl) (Nat.le_of_ble_eq_true rfl) ?_
            refine W.eq (g2 := F0 m 799 ls [.int (32)]) rfl ?_
            refine lv_istore (lv' := [(7, .int (32)), (6, .int (1)), (5, .int (0)), (4, .ref a0), (3, .ref a1), (2, .ref a2), (1, .ref a3), (0, .ref b)]) hx hb dL_law_799 hl (by decide) rfl (fun ls hl => ?_)
            refine lv_aload_n hx hb dL_law_801 rfl (lv_at hl 5 rfl) ?_
            have hX : nCx p s m _ c code 9 "MinestrataLaw" dC dI g A [(a41, .inr (1, [.int (0), .ref (g 21), .int (0)])), (a42, .inr (1, [.int (0), .ref (g 21), .int (0)])), (a2, .inr (15, [.int (1), .int (0), .int (100), .int (0), .int (0), .ref a34, .ref a35, .ref a36, .ref a37, .ref a38, .ref a39, .ref a40, .ref a41, .ref a42, .ref a43, .ref a44, .null, .int (-1), .ref a45, .long (0)]))] _ _ := ⟨⟨hx, hb, hml, hown, hts⟩, hE, hS, hA, hP, hD⟩
            refine n_call (wr := [(a41, .inr (1, [.int (0), .ref (g 21), .int (0)])), (a42, .inr (1, [.int (0), .ref (g 21), .int (0)]))]) hX (n_runV (n := 0) (wc := [(a2, .inr (15, [.int (1), .int (0), .int (100), .int (0), .int (0), .ref a34, .ref a35, .ref a36, .ref a37, .ref a38, .ref a39, .ref a40, .ref a41, .ref a42, .ref a43, .ref a44, .null, .int (-1), .ref a45, .long (0)]))]) (As := []) (rest := []) hX (m33 l hst dC dI g a2 a34 a35 a36 a37 a38 a39 a40 a41 a42 a43 a44 a45 _) [2] rfl (by decide +kernel) 2 (ci := 15) rfl (T := TX16) (N := 20) (C := "MinestrataModel") rfl q1495 q1496 q1497 q82 q1498 (by decide +kernel) ⟨(Nat.le_of_ble_eq_true rfl), (Nat.le_of_ble_eq_true rfl)⟩ ⟨(Nat.le_of_ble_eq_true rfl), (Nat.le_of_ble_eq_true rfl)⟩ hl.1 rfl rfl (Nat.le_of_ble_eq_true rfl) dL_law_802) [2] [0, 1] rfl rfl (by decide +kernel) (by decide +kernel) (fun f56 r57 H locs hP hD hS => ?_)
            have hP : va_P (dC, dI) CL [(a41, .inr (1, [.int (0), .ref (g 21), .int (0)])), (a42, .inr (1, [.int (0), .ref (g 21), .int (0)])), (a2, .inr (15, [.int (1), .int (0), .int (100), .int (0), .int (0), .ref a34, .ref a35, .ref a36, .ref a37, .ref a38, .ref a39, .ref a40, .ref a41, .ref a42, .ref a43, .ref a44, .null, .int (-1), .ref a45, .long (0)]))] _ := hP
            have hD : va_D A [(a41, .inr (1, [.int (0), .ref (g 21), .int (0)])), (a42, .inr (1, [.int (0), .ref (g 21), .int (0)])), (a2, .inr (15, [.int (1), .int (0), .int (100), .int (0), .int (0), .ref a34, .ref a35, .ref a36, .ref a37, .ref a38, .ref a39, .ref a40, .ref a41, .ref a42, .ref a43, .ref a44, .null, .int (-1), .ref a45, .long (0)]))] := hD
            refine W.widen (k := 244) (n := 2777) (Nat.le_of_ble_eq_true rfl) (Nat.le_of_ble_eq_true rfl) ?_
            refine W.eq (g2 := F0 m 805 ls [.int (1)]) rfl ?_
            refine lv_iload hx hb dL_law_805 (lv_at hl 1 rfl) ?_
            refine lv_icmp_eq (tgt := 812) hx hb dL_law_807 (by decide +kernel) (fun _ => ?_) (fun h => absurd (by decide +kernel) h)
            refine lv_iload hx hb dL_law_812 (lv_at hl 1 rfl) ?_
            refine lv_if_ne (tgt := 829) hx hb dL_law_814 (by decide +kernel) (fun _ => ?_) (fun h => absurd h (by decide +kernel))
            refine lv_goto (tgt := 2278) hx hb dL_law_829 (by decide +kernel) ?_
            refine lv_iinc (v := (5)) (lv' := [(5, .int (5)), (7, .int (32)), (6, .int (1)), (4, .ref a0), (3, .ref a1), (2, .ref a2), (1, .ref a3), (0, .ref b)]) hx hb dL_law_2278 hl (k := 2) rfl (by decide +kernel) (by decide) rfl (fun ls hl => ?_)
            refine lv_goto (tgt := 28) hx hb dL_law_2281 (by decide +kernel) ?_
            refine lv_iload hx hb dL_law_28 (lv_at hl 0 rfl) ?_
            refine lv_aload_n hx hb dL_law_30 rfl (lv_at hl 7 rfl) ?_
            refine va_slen hx hb hXs hbl hbA hS dL_law_31 ?_
            refine nt_i (v := (5)) (by decide +kernel) ?_
            refine lv_iconst (v := (5)) hx hb dL_law_32 (by decide +kernel) ?_
            refine lv_isub hx hb dL_law_33 ?_
            refine nt_i (v := (0)) (by decide +kernel) ?_
            refine lv_icmp_gt (tgt := 2284) hx hb dL_law_34 (by decide +kernel) (fun _ => ?_) (fun h => absurd (by decide +kernel) h)
            refine lv_iconst (v := (1)) hx hb dL_law_2284 (by decide +kernel) ?_
            refine va_forget (fun q9 hq9 => by have h9 := hS.2.2 q9 hq9; rw [← hAe] at h9; exact h9) ?_
            refine W.widen (k := 600006) (n := 7302056) (Nat.le_of_ble_eq_true rfl) (Nat.le_of_ble_eq_true rfl) ?_
            refine W.base ?_
            exact lw_ret (Drawn.sameBut.refl s.drawn lw_cs) hx hb hr hlk dL_law_2285
          · skip
            have hX : nCx p s m _ c code 9 "MinestrataLaw" dC dI g A [(a3, .inr (12, [.ref a4, .ref a5, .ref a6, .ref a7, .ref a8, .ref a9, .ref a10, .ref a11, .null, .ref a12, .ref a13, .int (0), .int (100), .int (0), .int (0), .int (-1), .long (0), .int (1)])), (a4, .inr (8, [.int (0), .ref a14, .ref a15, .ref a16, .ref a17, .int (0), .ref a18, .ref a19, .ref a20, .ref a21, .ref a22, .ref a23, .ref a24])), (a6, .inr (11, [.int (0), .ref a25, .ref a26, .ref a27, .ref a28, .ref a29, .ref a30, .ref a31, .ref a32, .ref a33])), (a2, .inr (15, [.int (0), .int (0), .int (100), .int (0), .int (0), .ref a34, .ref a35, .ref a36, .ref a37, .ref a38, .ref a39, .ref a40, .ref a41, .ref a42, .ref a43, .ref a44, .null, .int (-1), .ref a45, .long (0)])), (a41, .inr (1, [.int (0), .ref (g 21), .int (0)])), (a42, .inr (1, [.int (0), .ref (g 21), .int (0)]))] _ _ := ⟨⟨hx, hb, hml, hown, hts⟩, hE, hS, hA, hP, hD⟩
            refine n_call (wr := [(a2, .inr (15, [.int (0), .int (0), .int (100), .int (0), .int (0), .ref a34, .ref a35, .ref a36, .ref a37, .ref a38, .ref a39, .ref a40, .ref a41, .ref a42, .ref a43, .ref a44, .null, .int (-1), .ref a45, .long (0)])), (a41, .inr (1, [.int (0), .ref (g 21), .int (0)])), (a42, .inr (1, [.int (0), .ref (g 21), .int (0)]))]) hX (n_runSW (n := 5) (wc := [(a3, .inr (12, [.ref a4, .ref a5, .ref a6, .ref a7, .ref a8, .ref a9, .ref a10, .ref a11, .null, .ref a12, .ref a13, .int (0), .int (100), .int (0), .int (0), .int (-1), .long (0), .int (1)])), (a4, .inr (8, [.int (0), .ref a14, .ref a15, .ref a16, .ref a17, .int (0), .ref a18, .ref a19, .ref a20, .ref a21, .ref a22, .ref a23, .ref a24])), (a6, .inr (11, [.int (0), .ref a25, .ref a26, .ref a27, .ref a28, .ref a29, .ref a30, .ref a31, .ref a32, .ref a33]))]) (As := [.ref a3, .int (102), .int s2, .int s3, .ref a1]) (rest := []) hX (m144 l hst dC dI g a3 a1 a4 a5 a6 a7 a8 a9 a10 a11 a12 a13 a14 a15 a16 a17 a18 a19 a20 a21 a22 a23 a24 a25 a26 a27 a28 a29 a30 a31 a32 a33 s2 s3 h44 h51 _) [0, 1, 2] rfl (by decide +kernel) q1038 q1039 q70 q1040 (by decide +kernel) ⟨(Nat.le_of_ble_eq_true rfl), (Nat.le_of_ble_eq_true rfl)⟩ ⟨(Nat.le_of_ble_eq_true rfl), (Nat.le_of_ble_eq_true rfl)⟩ hl.1 rfl rfl (Nat.le_of_ble_eq_true rfl) dL_law_771) [0, 1, 2] [3, 4, 5] rfl rfl (by decide +kernel) (by decide +kernel) (fun f58 r59 H locs hP hD hS => ?_)
            have hP : va_P (dC, dI) CL [(a2, .inr (15, [.int (0), .int (0), .int (100), .int (0), .int (0), .ref a34, .ref a35, .ref a36, .ref a37, .ref a38, .ref a39, .ref a40, .ref a41, .ref a42, .ref a43, .ref a44, .null, .int (-1), .ref a45, .long (0)])), (a41, .inr (1, [.int (0), .ref (g 21), .int (0)])), (a42, .inr (1, [.int (0), .ref (g 21), .int (0)]))] _ := hP
            have hD : va_D A [(a2, .inr (15, [.int (0), .int (0), .int (100), .int (0), .int (0), .ref a34, .ref a35, .ref a36, .ref a37, .ref a38, .ref a39, .ref a40, .ref a41, .ref a42, .ref a43, .ref a44, .null, .int (-1), .ref a45, .long (0)])), (a41, .inr (1, [.int (0), .ref (g 21), .int (0)])), (a42, .inr (1, [.int (0), .ref (g 21), .int (0)]))] := hD
            refine W.widen (k := 244) (n := 2777) (Nat.le_of_ble_eq_true rfl) (Nat.le_of_ble_eq_true rfl) ?_
            refine W.eq (g2 := F0 m 774 ls [.int (2)]) rfl ?_
            refine lv_istore (lv' := [(6, .int (2)), (5, .int (0)), (4, .ref a0), (3, .ref a1), (2, .ref a2), (1, .ref a3), (0, .ref b)]) hx hb dL_law_774 hl (by decide) rfl (fun ls hl => ?_)
            refine lv_aload_n hx hb dL_law_776 rfl (lv_at hl 4 rfl) ?_
            refine lv_aload_n hx hb dL_law_777 rfl (lv_at hl 6 rfl) ?_
            refine lv_iload hx hb dL_law_778 (lv_at hl 1 rfl) ?_
            refine lv_iconst (v := (1)) hx hb dL_law_780 (by decide +kernel) ?_
            refine lv_iadd hx hb dL_law_781 ?_
            refine nt_i (v := (1)) (by decide +kernel) ?_
            refine va_sld hx hb hXs hbl hbA hS (show ¬ ((1 : Int32) < 0 ∨ 5 ≤ Int32.toNatClampNeg (1)) by decide +kernel) dL_law_782 ?_
            refine nt_i (v := s1) es1 ?_
            refine lv_i2c (v := (102)) hx hb dL_law_783 ek1.symm ?_
            refine lv_aload_n hx hb dL_law_784 rfl (lv_at hl 6 rfl) ?_
            refine lv_iload hx hb dL_law_785 (lv_at hl 1 rfl) ?_
            refine lv_iconst (v := (2)) hx hb dL_law_787 (by decide +kernel) ?_
            refine lv_iadd hx hb dL_law_788 ?_
            refine nt_i (v := (2)) (by decide +kernel) ?_
            refine va_sld hx hb hXs hbl hbA hS (show ¬ ((2 : Int32) < 0 ∨ 5 ≤ Int32.toNatClampNeg (2)) by decide +kernel) dL_law_789 ?_
            refine nt_i (v := s2) es2 ?_
            refine lv_aload_n hx hb dL_law_790 rfl (lv_at hl 6 rfl) ?_
            refine lv_iload hx hb dL_law_791 (lv_at hl 1 rfl) ?_
            refine lv_iconst (v := (3)) hx hb dL_law_793 (by decide +kernel) ?_
            refine lv_iadd hx hb dL_law_794 ?_
            refine nt_i (v := (3)) (by decide +kernel) ?_
            refine va_sld hx hb hXs hbl hbA hS (show ¬ ((3 : Int32) < 0 ∨ 5 ≤ Int32.toNatClampNeg (3)) by decide +kernel) dL_law_795 ?_
            refine nt_i (v := s3) es3 ?_
            have hX : nCx p s m _ c code 9 "MinestrataLaw" dC dI g A [(a2, .inr (15, [.int (0), .int (0), .int (100), .int (0), .int (0), .ref a34, .ref a35, .ref a36, .ref a37, .ref a38, .ref a39, .ref a40, .ref a41, .ref a42, .ref a43, .ref a44, .null, .int (-1), .ref a45, .long (0)])), (a41, .inr (1, [.int (0), .ref (g 21), .int (0)])), (a42, .inr (1, [.int (0), .ref (g 21), .int (0)]))] _ _ := ⟨⟨hx, hb, hml, hown, hts⟩, hE, hS, hA, hP, hD⟩
            refine n_call (wr := [(a42, .inr (1, [.int (0), .ref (g 21), .int (0)]))]) hX (n_runV (n := 3) (wc := [(a2, .inr (15, [.int (0), .int (0), .int (100), .int (0), .int (0), .ref a34, .ref a35, .ref a36, .ref a37, .ref a38, .ref a39, .ref a40, .ref a41, .ref a42, .ref a43, .ref a44, .null, .int (-1), .ref a45, .long (0)])), (a41, .inr (1, [.int (0), .ref (g 21), .int (0)]))]) (As := [.int (102), .int s2, .int s3]) (rest := []) hX (m148 l hst dC dI g a2 a34 a35 a36 a37 a38 a39 a40 a41 a42 a43 a44 a45 s2 s3 h44 h51 _) [0, 1] rfl (by decide +kernel) 0 (ci := 15) rfl (T := TX16) (N := 20) (C := "MinestrataModel") rfl q2103 q2104 q2105 q82 q2106 (by decide +kernel) ⟨(Nat.le_of_ble_eq_true rfl), (Nat.le_of_ble_eq_true rfl)⟩ ⟨(Nat.le_of_ble_eq_true rfl), (Nat.le_of_ble_eq_true rfl)⟩ hl.1 rfl rfl (Nat.le_of_ble_eq_true rfl) dL_law_796) [0, 1] [2] rfl rfl (by decide +kernel) (by decide +kernel) (fun f60 r61 H locs hP hD hS => ?_)
            have hP : va_P (dC, dI) CL [(a42, .inr (1, [.int (0), .ref (g 21), .int (0)])), (a2, .inr (15, [.int (2), .int (0), .int (100), .int (0), .int (0), .ref a34, .ref a35, .ref a36, .ref a37, .ref a38, .ref a39, .ref a40, .ref a41, .ref a42, .ref a43, .ref a44, .null, .int (-1), .ref a45, .long (0)])), (a41, .inr (1, [.int (0), .ref (g 21), .int (0)]))] _ := hP
            have hD : va_D A [(a42, .inr (1, [.int (0), .ref (g 21), .int (0)])), (a2, .inr (15, [.int (2), .int (0), .int (100), .int (0), .int (0), .ref a34, .ref a35, .ref a36, .ref a37, .ref a38, .ref a39, .ref a40, .ref a41, .ref a42, .ref a43, .ref a44, .null, .int (-1), .ref a45, .long (0)])), (a41, .inr (1, [.int (0), .ref (g 21), .int (0)]))] := hD
            refine W.widen (k := 244) (n := 2777) (Nat.le_of_ble_eq_true rfl) (Nat.le_of_ble_eq_true rfl) ?_
            refine W.eq (g2 := F0 m 799 ls [.int (32)]) rfl ?_
            refine lv_istore (lv' := [(7, .int (32)), (6, .int (2)), (5, .int (0)), (4, .ref a0), (3, .ref a1), (2, .ref a2), (1, .ref a3), (0, .ref b)]) hx hb dL_law_799 hl (by decide) rfl (fun ls hl => ?_)
            refine lv_aload_n hx hb dL_law_801 rfl (lv_at hl 5 rfl) ?_
            have hX : nCx p s m _ c code 9 "MinestrataLaw" dC dI g A [(a42, .inr (1, [.int (0), .ref (g 21), .int (0)])), (a2, .inr (15, [.int (2), .int (0), .int (100), .int (0), .int (0), .ref a34, .ref a35, .ref a36, .ref a37, .ref a38, .ref a39, .ref a40, .ref a41, .ref a42, .ref a43, .ref a44, .null, .int (-1), .ref a45, .long (0)])), (a41, .inr (1, [.int (0), .ref (g 21), .int (0)]))] _ _ := ⟨⟨hx, hb, hml, hown, hts⟩, hE, hS, hA, hP, hD⟩
            refine n_call (wr := [(a42, .inr (1, [.int (0), .ref (g 21), .int (0)])), (a41, .inr (1, [.int (0), .ref (g 21), .int (0)]))]) hX (n_runV (n := 0) (wc := [(a2, .inr (15, [.int (2), .int (0), .int (100), .int (0), .int (0), .ref a34, .ref a35, .ref a36, .ref a37, .ref a38, .ref a39, .ref a40, .ref a41, .ref a42, .ref a43, .ref a44, .null, .int (-1), .ref a45, .long (0)]))]) (As := []) (rest := []) hX (m108 l hst dC dI g a2 a34 a35 a36 a37 a38 a39 a40 a41 a42 a43 a44 a45 _) [1] rfl (by decide +kernel) 1 (ci := 15) rfl (T := TX16) (N := 20) (C := "MinestrataModel") rfl q1495 q1496 q1497 q82 q1498 (by decide +kernel) ⟨(Nat.le_of_ble_eq_true rfl), (Nat.le_of_ble_eq_true rfl)⟩ ⟨(Nat.le_of_ble_eq_true rfl), (Nat.le_of_ble_eq_true rfl)⟩ hl.1 rfl rfl (Nat.le_of_ble_eq_true rfl) dL_law_802) [1] [0, 2] rfl rfl (by decide +kernel) (by decide +kernel) (fun f62 r63 H locs hP hD hS => ?_)
            have hP : va_P (dC, dI) CL [(a42, .inr (1, [.int (0), .ref (g 21), .int (0)])), (a41, .inr (1, [.int (0), .ref (g 21), .int (0)])), (a2, .inr (15, [.int (2), .int (0), .int (100), .int (0), .int (0), .ref a34, .ref a35, .ref a36, .ref a37, .ref a38, .ref a39, .ref a40, .ref a41, .ref a42, .ref a43, .ref a44, .null, .int (-1), .ref a45, .long (0)]))] _ := hP
            have hD : va_D A [(a42, .inr (1, [.int (0), .ref (g 21), .int (0)])), (a41, .inr (1, [.int (0), .ref (g 21), .int (0)])), (a2, .inr (15, [.int (2), .int (0), .int (100), .int (0), .int (0), .ref a34, .ref a35, .ref a36, .ref a37, .ref a38, .ref a39, .ref a40, .ref a41, .ref a42, .ref a43, .ref a44, .null, .int (-1), .ref a45, .long (0)]))] := hD
            refine W.widen (k := 244) (n := 2777) (Nat.le_of_ble_eq_true rfl) (Nat.le_of_ble_eq_true rfl) ?_
            refine W.eq (g2 := F0 m 805 ls [.int (2)]) rfl ?_
            refine lv_iload hx hb dL_law_805 (lv_at hl 1 rfl) ?_
            refine lv_icmp_eq (tgt := 812) hx hb dL_law_807 (by decide +kernel) (fun _ => ?_) (fun h => absurd (by decide +kernel) h)
            refine lv_iload hx hb dL_law_812 (lv_at hl 1 rfl) ?_
            refine lv_if_ne (tgt := 829) hx hb dL_law_814 (by decide +kernel) (fun _ => ?_) (fun h => absurd h (by decide +kernel))
            refine lv_goto (tgt := 2278) hx hb dL_law_829 (by decide +kernel) ?_
            refine lv_iinc (v := (5)) (lv' := [(5, .int (5)), (7, .int (32)), (6, .int (2)), (4, .ref a0), (3, .ref a1), (2, .ref a2), (1, .ref a3), (0, .ref b)]) hx hb dL_law_2278 hl (k := 2) rfl (by decide +kernel) (by decide) rfl (fun ls hl => ?_)
            refine lv_goto (tgt := 28) hx hb dL_law_2281 (by decide +kernel) ?_
            refine lv_iload hx hb dL_law_28 (lv_at hl 0 rfl) ?_
            refine lv_aload_n hx hb dL_law_30 rfl (lv_at hl 7 rfl) ?_
            refine va_slen hx hb hXs hbl hbA hS dL_law_31 ?_
            refine nt_i (v := (5)) (by decide +kernel) ?_
            refine lv_iconst (v := (5)) hx hb dL_law_32 (by decide +kernel) ?_
            refine lv_isub hx hb dL_law_33 ?_
            refine nt_i (v := (0)) (by decide +kernel) ?_
            refine lv_icmp_gt (tgt := 2284) hx hb dL_law_34 (by decide +kernel) (fun _ => ?_) (fun h => absurd (by decide +kernel) h)
            refine lv_iconst (v := (1)) hx hb dL_law_2284 (by decide +kernel) ?_
            refine va_forget (fun q9 hq9 => by have h9 := hS.2.2 q9 hq9; rw [← hAe] at h9; exact h9) ?_
            refine W.widen (k := 600006) (n := 7302056) (Nat.le_of_ble_eq_true rfl) (Nat.le_of_ble_eq_true rfl) ?_
            refine W.base ?_
            exact lw_ret (Drawn.sameBut.refl s.drawn lw_cs) hx hb hr hlk dL_law_2285
      · skip
        by_cases h64 : k1 = (110)
        · skip
          subst h64
          by_cases h65 : s3 < (-50)
          · skip
            have hX : nCx p s m _ c code 9 "MinestrataLaw" dC dI g A [(a3, .inr (12, [.ref a4, .ref a5, .ref a6, .ref a7, .ref a8, .ref a9, .ref a10, .ref a11, .null, .ref a12, .ref a13, .int (0), .int (100), .int (0), .int (0), .int (-1), .long (0), .int (1)])), (a4, .inr (8, [.int (0), .ref a14, .ref a15, .ref a16, .ref a17, .int (0), .ref a18, .ref a19, .ref a20, .ref a21, .ref a22, .ref a23, .ref a24])), (a6, .inr (11, [.int (0), .ref a25, .ref a26, .ref a27, .ref a28, .ref a29, .ref a30, .ref a31, .ref a32, .ref a33])), (a2, .inr (15, [.int (0), .int (0), .int (100), .int (0), .int (0), .ref a34, .ref a35, .ref a36, .ref a37, .ref a38, .ref a39, .ref a40, .ref a41, .ref a42, .ref a43, .ref a44, .null, .int (-1), .ref a45, .long (0)])), (a41, .inr (1, [.int (0), .ref (g 21), .int (0)])), (a42, .inr (1, [.int (0), .ref (g 21), .int (0)]))] _ _ := ⟨⟨hx, hb, hml, hown, hts⟩, hE, hS, hA, hP, hD⟩
            refine n_call (wr := [(a2, .inr (15, [.int (0), .int (0), .int (100), .int (0), .int (0), .ref a34, .ref a35, .ref a36, .ref a37, .ref a38, .ref a39, .ref a40, .ref a41, .ref a42, .ref a43, .ref a44, .null, .int (-1), .ref a45, .long (0)])), (a41, .inr (1, [.int (0), .ref (g 21), .int (0)])), (a42, .inr (1, [.int (0), .ref (g 21), .int (0)]))]) hX (n_runSW (n := 5) (wc := [(a3, .inr (12, [.ref a4, .ref a5, .ref a6, .ref a7, .ref a8, .ref a9, .ref a10, .ref a11, .null, .ref a12, .ref a13, .int (0), .int (100), .int (0), .int (0), .int (-1), .long (0), .int (1)])), (a4, .inr (8, [.int (0), .ref a14, .ref a15, .ref a16, .ref a17, .int (0), .ref a18, .ref a19, .ref a20, .ref a21, .ref a22, .ref a23, .ref a24])), (a6, .inr (11, [.int (0), .ref a25, .ref a26, .ref a27, .ref a28, .ref a29, .ref a30, .ref a31, .ref a32, .ref a33]))]) (As := [.ref a3, .int (110), .int s2, .int s3, .ref a1]) (rest := []) hX (m151 l hst dC dI g a3 a1 a4 a5 a6 a7 a8 a9 a10 a11 a12 a13 a14 a15 a16 a17 a18 a19 a20 a21 a22 a23 a24 a25 a26 a27 a28 a29 a30 a31 a32 a33 s2 s3 h65 _) [0, 1, 2] rfl (by decide +kernel) q1038 q1039 q70 q1040 (by decide +kernel) ⟨(Nat.le_of_ble_eq_true rfl), (Nat.le_of_ble_eq_true rfl)⟩ ⟨(Nat.le_of_ble_eq_true rfl), (Nat.le_of_ble_eq_true rfl)⟩ hl.1 rfl rfl (Nat.le_of_ble_eq_true rfl) dL_law_771) [0, 1, 2] [3, 4, 5] rfl rfl (by decide +kernel) (by decide +kernel) (fun f66 r67 H locs hP hD hS => ?_)
            have hP : va_P (dC, dI) CL [(a2, .inr (15, [.int (0), .int (0), .int (100), .int (0), .int (0), .ref a34, .ref a35, .ref a36, .ref a37, .ref a38, .ref a39, .ref a40, .ref a41, .ref a42, .ref a43, .ref a44, .null, .int (-1), .ref a45, .long (0)])), (a41, .inr (1, [.int (0), .ref (g 21), .int (0)])), (a42, .inr (1, [.int (0), .ref (g 21), .int (0)]))] _ := hP
            have hD : va_D A [(a2, .inr (15, [.int (0), .int (0), .int (100), .int (0), .int (0), .ref a34, .ref a35, .ref a36, .ref a37, .ref a38, .ref a39, .ref a40, .ref a41, .ref a42, .ref a43, .ref a44, .null, .int (-1), .ref a45, .long (0)])), (a41, .inr (1, [.int (0), .ref (g 21), .int (0)])), (a42, .inr (1, [.int (0), .ref (g 21), .int (0)]))] := hD
            refine W.widen (k := 244) (n := 2777) (Nat.le_of_ble_eq_true rfl) (Nat.le_of_ble_eq_true rfl) ?_
            refine W.eq (g2 := F0 m 774 ls [.int (1)]) rfl ?_
            refine lv_istore (lv' := [(6, .int (1)), (5, .int (0)), (4, .ref a0), (3, .ref a1), (2, .ref a2), (1, .ref a3), (0, .ref b)]) hx hb dL_law_774 hl (by decide) rfl (fun ls hl => ?_)
            refine lv_aload_n hx hb dL_law_776 rfl (lv_at hl 4 rfl) ?_
            refine lv_aload_n hx hb dL_law_777 rfl (lv_at hl 6 rfl) ?_
            refine lv_iload hx hb dL_law_778 (lv_at hl 1 rfl) ?_
            refine lv_iconst (v := (1)) hx hb dL_law_780 (by decide +kernel) ?_
            refine lv_iadd hx hb dL_law_781 ?_
            refine nt_i (v := (1)) (by decide +kernel) ?_
            refine va_sld hx hb hXs hbl hbA hS (show ¬ ((1 : Int32) < 0 ∨ 5 ≤ Int32.toNatClampNeg (1)) by decide +kernel) dL_law_782 ?_
            refine nt_i (v := s1) es1 ?_
            refine lv_i2c (v := (110)) hx hb dL_law_783 ek1.symm ?_
            refine lv_aload_n hx hb dL_law_784 rfl (lv_at hl 6 rfl) ?_
            refine lv_iload hx hb dL_law_785 (lv_at hl 1 rfl) ?_
            refine lv_iconst (v := (2)) hx hb dL_law_787 (by decide +kernel) ?_
            refine lv_iadd hx hb dL_law_788 ?_
            refine nt_i (v := (2)) (by decide +kernel) ?_
            refine va_sld hx hb hXs hbl hbA hS (show ¬ ((2 : Int32) < 0 ∨ 5 ≤ Int32.toNatClampNeg (2)) by decide +kernel) dL_law_789 ?_
            refine nt_i (v := s2) es2 ?_
            refine lv_aload_n hx hb dL_law_790 rfl (lv_at hl 6 rfl) ?_
            refine lv_iload hx hb dL_law_791 (lv_at hl 1 rfl) ?_
            refine lv_iconst (v := (3)) hx hb dL_law_793 (by decide +kernel) ?_
            refine lv_iadd hx hb dL_law_794 ?_
            refine nt_i (v := (3)) (by decide +kernel) ?_
            refine va_sld hx hb hXs hbl hbA hS (show ¬ ((3 : Int32) < 0 ∨ 5 ≤ Int32.toNatClampNeg (3)) by decide +kernel) dL_law_795 ?_
            refine nt_i (v := s3) es3 ?_
            have hX : nCx p s m _ c code 9 "MinestrataLaw" dC dI g A [(a2, .inr (15, [.int (0), .int (0), .int (100), .int (0), .int (0), .ref a34, .ref a35, .ref a36, .ref a37, .ref a38, .ref a39, .ref a40, .ref a41, .ref a42, .ref a43, .ref a44, .null, .int (-1), .ref a45, .long (0)])), (a41, .inr (1, [.int (0), .ref (g 21), .int (0)])), (a42, .inr (1, [.int (0), .ref (g 21), .int (0)]))] _ _ := ⟨⟨hx, hb, hml, hown, hts⟩, hE, hS, hA, hP, hD⟩
            refine n_call (wr := [(a41, .inr (1, [.int (0), .ref (g 21), .int (0)])), (a42, .inr (1, [.int (0), .ref (g 21), .int (0)]))]) hX (n_runV (n := 3) (wc := [(a2, .inr (15, [.int (0), .int (0), .int (100), .int (0), .int (0), .ref a34, .ref a35, .ref a36, .ref a37, .ref a38, .ref a39, .ref a40, .ref a41, .ref a42, .ref a43, .ref a44, .null, .int (-1), .ref a45, .long (0)]))]) (As := [.int (110), .int s2, .int s3]) (rest := []) hX (m153 l hst dC dI g a2 a34 a35 a36 a37 a38 a39 a40 a41 a42 a43 a44 a45 s2 s3 h65 _) [0] rfl (by decide +kernel) 0 (ci := 15) rfl (T := TX16) (N := 20) (C := "MinestrataModel") rfl q2103 q2104 q2105 q82 q2106 (by decide +kernel) ⟨(Nat.le_of_ble_eq_true rfl), (Nat.le_of_ble_eq_true rfl)⟩ ⟨(Nat.le_of_ble_eq_true rfl), (Nat.le_of_ble_eq_true rfl)⟩ hl.1 rfl rfl (Nat.le_of_ble_eq_true rfl) dL_law_796) [0] [1, 2] rfl rfl (by decide +kernel) (by decide +kernel) (fun f68 r69 H locs hP hD hS => ?_)
            have hP : va_P (dC, dI) CL [(a41, .inr (1, [.int (0), .ref (g 21), .int (0)])), (a42, .inr (1, [.int (0), .ref (g 21), .int (0)])), (a2, .inr (15, [.int (1), .int (0), .int (100), .int (0), .int (0), .ref a34, .ref a35, .ref a36, .ref a37, .ref a38, .ref a39, .ref a40, .ref a41, .ref a42, .ref a43, .ref a44, .null, .int (-1), .ref a45, .long (0)]))] _ := hP
            have hD : va_D A [(a41, .inr (1, [.int (0), .ref (g 21), .int (0)])), (a42, .inr (1, [.int (0), .ref (g 21), .int (0)])), (a2, .inr (15, [.int (1), .int (0), .int (100), .int (0), .int (0), .ref a34, .ref a35, .ref a36, .ref a37, .ref a38, .ref a39, .ref a40, .ref a41, .ref a42, .ref a43, .ref a44, .null, .int (-1), .ref a45, .long (0)]))] := hD
            refine W.widen (k := 244) (n := 2777) (Nat.le_of_ble_eq_true rfl) (Nat.le_of_ble_eq_true rfl) ?_
            refine W.eq (g2 := F0 m 799 ls [.int (32)]) rfl ?_
            refine lv_istore (lv' := [(7, .int (32)), (6, .int (1)), (5, .int (0)), (4, .ref a0), (3, .ref a1), (2, .ref a2), (1, .ref a3), (0, .ref b)]) hx hb dL_law_799 hl (by decide) rfl (fun ls hl => ?_)
            refine lv_aload_n hx hb dL_law_801 rfl (lv_at hl 5 rfl) ?_
            have hX : nCx p s m _ c code 9 "MinestrataLaw" dC dI g A [(a41, .inr (1, [.int (0), .ref (g 21), .int (0)])), (a42, .inr (1, [.int (0), .ref (g 21), .int (0)])), (a2, .inr (15, [.int (1), .int (0), .int (100), .int (0), .int (0), .ref a34, .ref a35, .ref a36, .ref a37, .ref a38, .ref a39, .ref a40, .ref a41, .ref a42, .ref a43, .ref a44, .null, .int (-1), .ref a45, .long (0)]))] _ _ := ⟨⟨hx, hb, hml, hown, hts⟩, hE, hS, hA, hP, hD⟩
            refine n_call (wr := [(a41, .inr (1, [.int (0), .ref (g 21), .int (0)])), (a42, .inr (1, [.int (0), .ref (g 21), .int (0)]))]) hX (n_runV (n := 0) (wc := [(a2, .inr (15, [.int (1), .int (0), .int (100), .int (0), .int (0), .ref a34, .ref a35, .ref a36, .ref a37, .ref a38, .ref a39, .ref a40, .ref a41, .ref a42, .ref a43, .ref a44, .null, .int (-1), .ref a45, .long (0)]))]) (As := []) (rest := []) hX (m33 l hst dC dI g a2 a34 a35 a36 a37 a38 a39 a40 a41 a42 a43 a44 a45 _) [2] rfl (by decide +kernel) 2 (ci := 15) rfl (T := TX16) (N := 20) (C := "MinestrataModel") rfl q1495 q1496 q1497 q82 q1498 (by decide +kernel) ⟨(Nat.le_of_ble_eq_true rfl), (Nat.le_of_ble_eq_true rfl)⟩ ⟨(Nat.le_of_ble_eq_true rfl), (Nat.le_of_ble_eq_true rfl)⟩ hl.1 rfl rfl (Nat.le_of_ble_eq_true rfl) dL_law_802) [2] [0, 1] rfl rfl (by decide +kernel) (by decide +kernel) (fun f70 r71 H locs hP hD hS => ?_)
            have hP : va_P (dC, dI) CL [(a41, .inr (1, [.int (0), .ref (g 21), .int (0)])), (a42, .inr (1, [.int (0), .ref (g 21), .int (0)])), (a2, .inr (15, [.int (1), .int (0), .int (100), .int (0), .int (0), .ref a34, .ref a35, .ref a36, .ref a37, .ref a38, .ref a39, .ref a40, .ref a41, .ref a42, .ref a43, .ref a44, .null, .int (-1), .ref a45, .long (0)]))] _ := hP
            have hD : va_D A [(a41, .inr (1, [.int (0), .ref (g 21), .int (0)])), (a42, .inr (1, [.int (0), .ref (g 21), .int (0)])), (a2, .inr (15, [.int (1), .int (0), .int (100), .int (0), .int (0), .ref a34, .ref a35, .ref a36, .ref a37, .ref a38, .ref a39, .ref a40, .ref a41, .ref a42, .ref a43, .ref a44, .null, .int (-1), .ref a45, .long (0)]))] := hD
            refine W.widen (k := 244) (n := 2777) (Nat.le_of_ble_eq_true rfl) (Nat.le_of_ble_eq_true rfl) ?_
            refine W.eq (g2 := F0 m 805 ls [.int (1)]) rfl ?_
            refine lv_iload hx hb dL_law_805 (lv_at hl 1 rfl) ?_
            refine lv_icmp_eq (tgt := 812) hx hb dL_law_807 (by decide +kernel) (fun _ => ?_) (fun h => absurd (by decide +kernel) h)
            refine lv_iload hx hb dL_law_812 (lv_at hl 1 rfl) ?_
            refine lv_if_ne (tgt := 829) hx hb dL_law_814 (by decide +kernel) (fun _ => ?_) (fun h => absurd h (by decide +kernel))
            refine lv_goto (tgt := 2278) hx hb dL_law_829 (by decide +kernel) ?_
            refine lv_iinc (v := (5)) (lv' := [(5, .int (5)), (7, .int (32)), (6, .int (1)), (4, .ref a0), (3, .ref a1), (2, .ref a2), (1, .ref a3), (0, .ref b)]) hx hb dL_law_2278 hl (k := 2) rfl (by decide +kernel) (by decide) rfl (fun ls hl => ?_)
            refine lv_goto (tgt := 28) hx hb dL_law_2281 (by decide +kernel) ?_
            refine lv_iload hx hb dL_law_28 (lv_at hl 0 rfl) ?_
            refine lv_aload_n hx hb dL_law_30 rfl (lv_at hl 7 rfl) ?_
            refine va_slen hx hb hXs hbl hbA hS dL_law_31 ?_
            refine nt_i (v := (5)) (by decide +kernel) ?_
            refine lv_iconst (v := (5)) hx hb dL_law_32 (by decide +kernel) ?_
            refine lv_isub hx hb dL_law_33 ?_
            refine nt_i (v := (0)) (by decide +kernel) ?_
            refine lv_icmp_gt (tgt := 2284) hx hb dL_law_34 (by decide +kernel) (fun _ => ?_) (fun h => absurd (by decide +kernel) h)
            refine lv_iconst (v := (1)) hx hb dL_law_2284 (by decide +kernel) ?_
            refine va_forget (fun q9 hq9 => by have h9 := hS.2.2 q9 hq9; rw [← hAe] at h9; exact h9) ?_
            refine W.widen (k := 600006) (n := 7302056) (Nat.le_of_ble_eq_true rfl) (Nat.le_of_ble_eq_true rfl) ?_
            refine W.base ?_
            exact lw_ret (Drawn.sameBut.refl s.drawn lw_cs) hx hb hr hlk dL_law_2285
          · skip
            by_cases h72 : (50) < s3
            · skip
              have hX : nCx p s m _ c code 9 "MinestrataLaw" dC dI g A [(a3, .inr (12, [.ref a4, .ref a5, .ref a6, .ref a7, .ref a8, .ref a9, .ref a10, .ref a11, .null, .ref a12, .ref a13, .int (0), .int (100), .int (0), .int (0), .int (-1), .long (0), .int (1)])), (a4, .inr (8, [.int (0), .ref a14, .ref a15, .ref a16, .ref a17, .int (0), .ref a18, .ref a19, .ref a20, .ref a21, .ref a22, .ref a23, .ref a24])), (a6, .inr (11, [.int (0), .ref a25, .ref a26, .ref a27, .ref a28, .ref a29, .ref a30, .ref a31, .ref a32, .ref a33])), (a2, .inr (15, [.int (0), .int (0), .int (100), .int (0), .int (0), .ref a34, .ref a35, .ref a36, .ref a37, .ref a38, .ref a39, .ref a40, .ref a41, .ref a42, .ref a43, .ref a44, .null, .int (-1), .ref a45, .long (0)])), (a41, .inr (1, [.int (0), .ref (g 21), .int (0)])), (a42, .inr (1, [.int (0), .ref (g 21), .int (0)]))] _ _ := ⟨⟨hx, hb, hml, hown, hts⟩, hE, hS, hA, hP, hD⟩
              refine n_call (wr := [(a2, .inr (15, [.int (0), .int (0), .int (100), .int (0), .int (0), .ref a34, .ref a35, .ref a36, .ref a37, .ref a38, .ref a39, .ref a40, .ref a41, .ref a42, .ref a43, .ref a44, .null, .int (-1), .ref a45, .long (0)])), (a41, .inr (1, [.int (0), .ref (g 21), .int (0)])), (a42, .inr (1, [.int (0), .ref (g 21), .int (0)]))]) hX (n_runSW (n := 5) (wc := [(a3, .inr (12, [.ref a4, .ref a5, .ref a6, .ref a7, .ref a8, .ref a9, .ref a10, .ref a11, .null, .ref a12, .ref a13, .int (0), .int (100), .int (0), .int (0), .int (-1), .long (0), .int (1)])), (a4, .inr (8, [.int (0), .ref a14, .ref a15, .ref a16, .ref a17, .int (0), .ref a18, .ref a19, .ref a20, .ref a21, .ref a22, .ref a23, .ref a24])), (a6, .inr (11, [.int (0), .ref a25, .ref a26, .ref a27, .ref a28, .ref a29, .ref a30, .ref a31, .ref a32, .ref a33]))]) (As := [.ref a3, .int (110), .int s2, .int s3, .ref a1]) (rest := []) hX (m156 l hst dC dI g a3 a1 a4 a5 a6 a7 a8 a9 a10 a11 a12 a13 a14 a15 a16 a17 a18 a19 a20 a21 a22 a23 a24 a25 a26 a27 a28 a29 a30 a31 a32 a33 s2 s3 h65 h72 _) [0, 1, 2] rfl (by decide +kernel) q1038 q1039 q70 q1040 (by decide +kernel) ⟨(Nat.le_of_ble_eq_true rfl), (Nat.le_of_ble_eq_true rfl)⟩ ⟨(Nat.le_of_ble_eq_true rfl), (Nat.le_of_ble_eq_true rfl)⟩ hl.1 rfl rfl (Nat.le_of_ble_eq_true rfl) dL_law_771) [0, 1, 2] [3, 4, 5] rfl rfl (by decide +kernel) (by decide +kernel) (fun f73 r74 H locs hP hD hS => ?_)
              have hP : va_P (dC, dI) CL [(a2, .inr (15, [.int (0), .int (0), .int (100), .int (0), .int (0), .ref a34, .ref a35, .ref a36, .ref a37, .ref a38, .ref a39, .ref a40, .ref a41, .ref a42, .ref a43, .ref a44, .null, .int (-1), .ref a45, .long (0)])), (a41, .inr (1, [.int (0), .ref (g 21), .int (0)])), (a42, .inr (1, [.int (0), .ref (g 21), .int (0)]))] _ := hP
              have hD : va_D A [(a2, .inr (15, [.int (0), .int (0), .int (100), .int (0), .int (0), .ref a34, .ref a35, .ref a36, .ref a37, .ref a38, .ref a39, .ref a40, .ref a41, .ref a42, .ref a43, .ref a44, .null, .int (-1), .ref a45, .long (0)])), (a41, .inr (1, [.int (0), .ref (g 21), .int (0)])), (a42, .inr (1, [.int (0), .ref (g 21), .int (0)]))] := hD
              refine W.widen (k := 244) (n := 2777) (Nat.le_of_ble_eq_true rfl) (Nat.le_of_ble_eq_true rfl) ?_
              refine W.eq (g2 := F0 m 774 ls [.int (1)]) rfl ?_
              refine lv_istore (lv' := [(6, .int (1)), (5, .int (0)), (4, .ref a0), (3, .ref a1), (2, .ref a2), (1, .ref a3), (0, .ref b)]) hx hb dL_law_774 hl (by decide) rfl (fun ls hl => ?_)
              refine lv_aload_n hx hb dL_law_776 rfl (lv_at hl 4 rfl) ?_
              refine lv_aload_n hx hb dL_law_777 rfl (lv_at hl 6 rfl) ?_
              refine lv_iload hx hb dL_law_778 (lv_at hl 1 rfl) ?_
              refine lv_iconst (v := (1)) hx hb dL_law_780 (by decide +kernel) ?_
              refine lv_iadd hx hb dL_law_781 ?_
              refine nt_i (v := (1)) (by decide +kernel) ?_
              refine va_sld hx hb hXs hbl hbA hS (show ¬ ((1 : Int32) < 0 ∨ 5 ≤ Int32.toNatClampNeg (1)) by decide +kernel) dL_law_782 ?_
              refine nt_i (v := s1) es1 ?_
              refine lv_i2c (v := (110)) hx hb dL_law_783 ek1.symm ?_
              refine lv_aload_n hx hb dL_law_784 rfl (lv_at hl 6 rfl) ?_
              refine lv_iload hx hb dL_law_785 (lv_at hl 1 rfl) ?_
              refine lv_iconst (v := (2)) hx hb dL_law_787 (by decide +kernel) ?_
              refine lv_iadd hx hb dL_law_788 ?_
              refine nt_i (v := (2)) (by decide +kernel) ?_
              refine va_sld hx hb hXs hbl hbA hS (show ¬ ((2 : Int32) < 0 ∨ 5 ≤ Int32.toNatClampNeg (2)) by decide +kernel) dL_law_789 ?_
              refine nt_i (v := s2) es2 ?_
              refine lv_aload_n hx hb dL_law_790 rfl (lv_at hl 6 rfl) ?_
              refine lv_iload hx hb dL_law_791 (lv_at hl 1 rfl) ?_
              refine lv_iconst (v := (3)) hx hb dL_law_793 (by decide +kernel) ?_
              refine lv_iadd hx hb dL_law_794 ?_
              refine nt_i (v := (3)) (by decide +kernel) ?_
              refine va_sld hx hb hXs hbl hbA hS (show ¬ ((3 : Int32) < 0 ∨ 5 ≤ Int32.toNatClampNeg (3)) by decide +kernel) dL_law_795 ?_
              refine nt_i (v := s3) es3 ?_
              have hX : nCx p s m _ c code 9 "MinestrataLaw" dC dI g A [(a2, .inr (15, [.int (0), .int (0), .int (100), .int (0), .int (0), .ref a34, .ref a35, .ref a36, .ref a37, .ref a38, .ref a39, .ref a40, .ref a41, .ref a42, .ref a43, .ref a44, .null, .int (-1), .ref a45, .long (0)])), (a41, .inr (1, [.int (0), .ref (g 21), .int (0)])), (a42, .inr (1, [.int (0), .ref (g 21), .int (0)]))] _ _ := ⟨⟨hx, hb, hml, hown, hts⟩, hE, hS, hA, hP, hD⟩
              refine n_call (wr := [(a41, .inr (1, [.int (0), .ref (g 21), .int (0)])), (a42, .inr (1, [.int (0), .ref (g 21), .int (0)]))]) hX (n_runV (n := 3) (wc := [(a2, .inr (15, [.int (0), .int (0), .int (100), .int (0), .int (0), .ref a34, .ref a35, .ref a36, .ref a37, .ref a38, .ref a39, .ref a40, .ref a41, .ref a42, .ref a43, .ref a44, .null, .int (-1), .ref a45, .long (0)]))]) (As := [.int (110), .int s2, .int s3]) (rest := []) hX (m158 l hst dC dI g a2 a34 a35 a36 a37 a38 a39 a40 a41 a42 a43 a44 a45 s2 s3 h65 h72 _) [0] rfl (by decide +kernel) 0 (ci := 15) rfl (T := TX16) (N := 20) (C := "MinestrataModel") rfl q2103 q2104 q2105 q82 q2106 (by decide +kernel) ⟨(Nat.le_of_ble_eq_true rfl), (Nat.le_of_ble_eq_true rfl)⟩ ⟨(Nat.le_of_ble_eq_true rfl), (Nat.le_of_ble_eq_true rfl)⟩ hl.1 rfl rfl (Nat.le_of_ble_eq_true rfl) dL_law_796) [0] [1, 2] rfl rfl (by decide +kernel) (by decide +kernel) (fun f75 r76 H locs hP hD hS => ?_)
              have hP : va_P (dC, dI) CL [(a41, .inr (1, [.int (0), .ref (g 21), .int (0)])), (a42, .inr (1, [.int (0), .ref (g 21), .int (0)])), (a2, .inr (15, [.int (1), .int (0), .int (100), .int (0), .int (0), .ref a34, .ref a35, .ref a36, .ref a37, .ref a38, .ref a39, .ref a40, .ref a41, .ref a42, .ref a43, .ref a44, .null, .int (-1), .ref a45, .long (0)]))] _ := hP
              have hD : va_D A [(a41, .inr (1, [.int (0), .ref (g 21), .int (0)])), (a42, .inr (1, [.int (0), .ref (g 21), .int (0)])), (a2, .inr (15, [.int (1), .int (0), .int (100), .int (0), .int (0), .ref a34, .ref a35, .ref a36, .ref a37, .ref a38, .ref a39, .ref a40, .ref a41, .ref a42, .ref a43, .ref a44, .null, .int (-1), .ref a45, .long (0)]))] := hD
              refine W.widen (k := 244) (n := 2777) (Nat.le_of_ble_eq_true rfl) (Nat.le_of_ble_eq_true rfl) ?_
              refine W.eq (g2 := F0 m 799 ls [.int (32)]) rfl ?_
              refine lv_istore (lv' := [(7, .int (32)), (6, .int (1)), (5, .int (0)), (4, .ref a0), (3, .ref a1), (2, .ref a2), (1, .ref a3), (0, .ref b)]) hx hb dL_law_799 hl (by decide) rfl (fun ls hl => ?_)
              refine lv_aload_n hx hb dL_law_801 rfl (lv_at hl 5 rfl) ?_
              have hX : nCx p s m _ c code 9 "MinestrataLaw" dC dI g A [(a41, .inr (1, [.int (0), .ref (g 21), .int (0)])), (a42, .inr (1, [.int (0), .ref (g 21), .int (0)])), (a2, .inr (15, [.int (1), .int (0), .int (100), .int (0), .int (0), .ref a34, .ref a35, .ref a36, .ref a37, .ref a38, .ref a39, .ref a40, .ref a41, .ref a42, .ref a43, .ref a44, .null, .int (-1), .ref a45, .long (0)]))] _ _ := ⟨⟨hx, hb, hml, hown, hts⟩, hE, hS, hA, hP, hD⟩
              refine n_call (wr := [(a41, .inr (1, [.int (0), .ref (g 21), .int (0)])), (a42, .inr (1, [.int (0), .ref (g 21), .int (0)]))]) hX (n_runV (n := 0) (wc := [(a2, .inr (15, [.int (1), .int (0), .int (100), .int (0), .int (0), .ref a34, .ref a35, .ref a36, .ref a37, .ref a38, .ref a39, .ref a40, .ref a41, .ref a42, .ref a43, .ref a44, .null, .int (-1), .ref a45, .long (0)]))]) (As := []) (rest := []) hX (m33 l hst dC dI g a2 a34 a35 a36 a37 a38 a39 a40 a41 a42 a43 a44 a45 _) [2] rfl (by decide +kernel) 2 (ci := 15) rfl (T := TX16) (N := 20) (C := "MinestrataModel") rfl q1495 q1496 q1497 q82 q1498 (by decide +kernel) ⟨(Nat.le_of_ble_eq_true rfl), (Nat.le_of_ble_eq_true rfl)⟩ ⟨(Nat.le_of_ble_eq_true rfl), (Nat.le_of_ble_eq_true rfl)⟩ hl.1 rfl rfl (Nat.le_of_ble_eq_true rfl) dL_law_802) [2] [0, 1] rfl rfl (by decide +kernel) (by decide +kernel) (fun f77 r78 H locs hP hD hS => ?_)
              have hP : va_P (dC, dI) CL [(a41, .inr (1, [.int (0), .ref (g 21), .int (0)])), (a42, .inr (1, [.int (0), .ref (g 21), .int (0)])), (a2, .inr (15, [.int (1), .int (0), .int (100), .int (0), .int (0), .ref a34, .ref a35, .ref a36, .ref a37, .ref a38, .ref a39, .ref a40, .ref a41, .ref a42, .ref a43, .ref a44, .null, .int (-1), .ref a45, .long (0)]))] _ := hP
              have hD : va_D A [(a41, .inr (1, [.int (0), .ref (g 21), .int (0)])), (a42, .inr (1, [.int (0), .ref (g 21), .int (0)])), (a2, .inr (15, [.int (1), .int (0), .int (100), .int (0), .int (0), .ref a34, .ref a35, .ref a36, .ref a37, .ref a38, .ref a39, .ref a40, .ref a41, .ref a42, .ref a43, .ref a44, .null, .int (-1), .ref a45, .long (0)]))] := hD
              refine W.widen (k := 244) (n := 2777) (Nat.le_of_ble_eq_true rfl) (Nat.le_of_ble_eq_true rfl) ?_
              refine W.eq (g2 := F0 m 805 ls [.int (1)]) rfl ?_
              refine lv_iload hx hb dL_law_805 (lv_at hl 1 rfl) ?_
              refine lv_icmp_eq (tgt := 812) hx hb dL_law_807 (by decide +kernel) (fun _ => ?_) (fun h => absurd (by decide +kernel) h)
              refine lv_iload hx hb dL_law_812 (lv_at hl 1 rfl) ?_
              refine lv_if_ne (tgt := 829) hx hb dL_law_814 (by decide +kernel) (fun _ => ?_) (fun h => absurd h (by decide +kernel))
              refine lv_goto (tgt := 2278) hx hb dL_law_829 (by decide +kernel) ?_
              refine lv_iinc (v := (5)) (lv' := [(5, .int (5)), (7, .int (32)), (6, .int (1)), (4, .ref a0), (3, .ref a1), (2, .ref a2), (1, .ref a3), (0, .ref b)]) hx hb dL_law_2278 hl (k := 2) rfl (by decide +kernel) (by decide) rfl (fun ls hl => ?_)
              refine lv_goto (tgt := 28) hx hb dL_law_2281 (by decide +kernel) ?_
              refine lv_iload hx hb dL_law_28 (lv_at hl 0 rfl) ?_
              refine lv_aload_n hx hb dL_law_30 rfl (lv_at hl 7 rfl) ?_
              refine va_slen hx hb hXs hbl hbA hS dL_law_31 ?_
              refine nt_i (v := (5)) (by decide +kernel) ?_
              refine lv_iconst (v := (5)) hx hb dL_law_32 (by decide +kernel) ?_
              refine lv_isub hx hb dL_law_33 ?_
              refine nt_i (v := (0)) (by decide +kernel) ?_
              refine lv_icmp_gt (tgt := 2284) hx hb dL_law_34 (by decide +kernel) (fun _ => ?_) (fun h => absurd (by decide +kernel) h)
              refine lv_iconst (v := (1)) hx hb dL_law_2284 (by decide +kernel) ?_
              refine va_forget (fun q9 hq9 => by have h9 := hS.2.2 q9 hq9; rw [← hAe] at h9; exact h9) ?_
              refine W.widen (k := 600006) (n := 7302056) (Nat.le_of_ble_eq_true rfl) (Nat.le_of_ble_eq_true rfl) ?_
              refine W.base ?_
              exact lw_ret (Drawn.sameBut.refl s.drawn lw_cs) hx hb hr hlk dL_law_2285
            · skip
              have hX : nCx p s m _ c code 9 "MinestrataLaw" dC dI g A [(a3, .inr (12, [.ref a4, .ref a5, .ref a6, .ref a7, .ref a8, .ref a9, .ref a10, .ref a11, .null, .ref a12, .ref a13, .int (0), .int (100), .int (0), .int (0), .int (-1), .long (0), .int (1)])), (a4, .inr (8, [.int (0), .ref a14, .ref a15, .ref a16, .ref a17, .int (0), .ref a18, .ref a19, .ref a20, .ref a21, .ref a22, .ref a23, .ref a24])), (a6, .inr (11, [.int (0), .ref a25, .ref a26, .ref a27, .ref a28, .ref a29, .ref a30, .ref a31, .ref a32, .ref a33])), (a2, .inr (15, [.int (0), .int (0), .int (100), .int (0), .int (0), .ref a34, .ref a35, .ref a36, .ref a37, .ref a38, .ref a39, .ref a40, .ref a41, .ref a42, .ref a43, .ref a44, .null, .int (-1), .ref a45, .long (0)])), (a41, .inr (1, [.int (0), .ref (g 21), .int (0)])), (a42, .inr (1, [.int (0), .ref (g 21), .int (0)]))] _ _ := ⟨⟨hx, hb, hml, hown, hts⟩, hE, hS, hA, hP, hD⟩
              refine n_call (wr := [(a2, .inr (15, [.int (0), .int (0), .int (100), .int (0), .int (0), .ref a34, .ref a35, .ref a36, .ref a37, .ref a38, .ref a39, .ref a40, .ref a41, .ref a42, .ref a43, .ref a44, .null, .int (-1), .ref a45, .long (0)])), (a41, .inr (1, [.int (0), .ref (g 21), .int (0)])), (a42, .inr (1, [.int (0), .ref (g 21), .int (0)]))]) hX (n_runSW (n := 5) (wc := [(a3, .inr (12, [.ref a4, .ref a5, .ref a6, .ref a7, .ref a8, .ref a9, .ref a10, .ref a11, .null, .ref a12, .ref a13, .int (0), .int (100), .int (0), .int (0), .int (-1), .long (0), .int (1)])), (a4, .inr (8, [.int (0), .ref a14, .ref a15, .ref a16, .ref a17, .int (0), .ref a18, .ref a19, .ref a20, .ref a21, .ref a22, .ref a23, .ref a24])), (a6, .inr (11, [.int (0), .ref a25, .ref a26, .ref a27, .ref a28, .ref a29, .ref a30, .ref a31, .ref a32, .ref a33]))]) (As := [.ref a3, .int (110), .int s2, .int s3, .ref a1]) (rest := []) hX (m163 l hst dC dI g a3 a1 a4 a5 a6 a7 a8 a9 a10 a11 a12 a13 a14 a15 a16 a17 a18 a19 a20 a21 a22 a23 a24 a25 a26 a27 a28 a29 a30 a31 a32 a33 s2 s3 h65 h72 _) [0, 1, 2] rfl (by decide +kernel) q1038 q1039 q70 q1040 (by decide +kernel) ⟨(Nat.le_of_ble_eq_true rfl), (Nat.le_of_ble_eq_true rfl)⟩ ⟨(Nat.le_of_ble_eq_true rfl), (Nat.le_of_ble_eq_true rfl)⟩ hl.1 rfl rfl (Nat.le_of_ble_eq_true rfl) dL_law_771) [0, 1, 2] [3, 4, 5] rfl rfl (by decide +kernel) (by decide +kernel) (fun f79 r80 H locs hP hD hS => ?_)
              have hP : va_P (dC, dI) CL [(a2, .inr (15, [.int (0), .int (0), .int (100), .int (0), .int (0), .ref a34, .ref a35, .ref a36, .ref a37, .ref a38, .ref a39, .ref a40, .ref a41, .ref a42, .ref a43, .ref a44, .null, .int (-1), .ref a45, .long (0)])), (a41, .inr (1, [.int (0), .ref (g 21), .int (0)])), (a42, .inr (1, [.int (0), .ref (g 21), .int (0)]))] _ := hP
              have hD : va_D A [(a2, .inr (15, [.int (0), .int (0), .int (100), .int (0), .int (0), .ref a34, .ref a35, .ref a36, .ref a37, .ref a38, .ref a39, .ref a40, .ref a41, .ref a42, .ref a43, .ref a44, .null, .int (-1), .ref a45, .long (0)])), (a41, .inr (1, [.int (0), .ref (g 21), .int (0)])), (a42, .inr (1, [.int (0), .ref (g 21), .int (0)]))] := hD
              refine W.widen (k := 244) (n := 2777) (Nat.le_of_ble_eq_true rfl) (Nat.le_of_ble_eq_true rfl) ?_
              refine W.eq (g2 := F0 m 774 ls [.int (2)]) rfl ?_
              refine lv_istore (lv' := [(6, .int (2)), (5, .int (0)), (4, .ref a0), (3, .ref a1), (2, .ref a2), (1, .ref a3), (0, .ref b)]) hx hb dL_law_774 hl (by decide) rfl (fun ls hl => ?_)
              refine lv_aload_n hx hb dL_law_776 rfl (lv_at hl 4 rfl) ?_
              refine lv_aload_n hx hb dL_law_777 rfl (lv_at hl 6 rfl) ?_
              refine lv_iload hx hb dL_law_778 (lv_at hl 1 rfl) ?_
              refine lv_iconst (v := (1)) hx hb dL_law_780 (by decide +kernel) ?_
              refine lv_iadd hx hb dL_law_781 ?_
              refine nt_i (v := (1)) (by decide +kernel) ?_
              refine va_sld hx hb hXs hbl hbA hS (show ¬ ((1 : Int32) < 0 ∨ 5 ≤ Int32.toNatClampNeg (1)) by decide +kernel) dL_law_782 ?_
              refine nt_i (v := s1) es1 ?_
              refine lv_i2c (v := (110)) hx hb dL_law_783 ek1.symm ?_
              refine lv_aload_n hx hb dL_law_784 rfl (lv_at hl 6 rfl) ?_
              refine lv_iload hx hb dL_law_785 (lv_at hl 1 rfl) ?_
              refine lv_iconst (v := (2)) hx hb dL_law_787 (by decide +kernel) ?_
              refine lv_iadd hx hb dL_law_788 ?_
              refine nt_i (v := (2)) (by decide +kernel) ?_
              refine va_sld hx hb hXs hbl hbA hS (show ¬ ((2 : Int32) < 0 ∨ 5 ≤ Int32.toNatClampNeg (2)) by decide +kernel) dL_law_789 ?_
              refine nt_i (v := s2) es2 ?_
              refine lv_aload_n hx hb dL_law_790 rfl (lv_at hl 6 rfl) ?_
              refine lv_iload hx hb dL_law_791 (lv_at hl 1 rfl) ?_
              refine lv_iconst (v := (3)) hx hb dL_law_793 (by decide +kernel) ?_
              refine lv_iadd hx hb dL_law_794 ?_
              refine nt_i (v := (3)) (by decide +kernel) ?_
              refine va_sld hx hb hXs hbl hbA hS (show ¬ ((3 : Int32) < 0 ∨ 5 ≤ Int32.toNatClampNeg (3)) by decide +kernel) dL_law_795 ?_
              refine nt_i (v := s3) es3 ?_
              have hX : nCx p s m _ c code 9 "MinestrataLaw" dC dI g A [(a2, .inr (15, [.int (0), .int (0), .int (100), .int (0), .int (0), .ref a34, .ref a35, .ref a36, .ref a37, .ref a38, .ref a39, .ref a40, .ref a41, .ref a42, .ref a43, .ref a44, .null, .int (-1), .ref a45, .long (0)])), (a41, .inr (1, [.int (0), .ref (g 21), .int (0)])), (a42, .inr (1, [.int (0), .ref (g 21), .int (0)]))] _ _ := ⟨⟨hx, hb, hml, hown, hts⟩, hE, hS, hA, hP, hD⟩
              refine n_call (wr := [(a41, .inr (1, [.int (0), .ref (g 21), .int (0)])), (a42, .inr (1, [.int (0), .ref (g 21), .int (0)]))]) hX (n_runV (n := 3) (wc := [(a2, .inr (15, [.int (0), .int (0), .int (100), .int (0), .int (0), .ref a34, .ref a35, .ref a36, .ref a37, .ref a38, .ref a39, .ref a40, .ref a41, .ref a42, .ref a43, .ref a44, .null, .int (-1), .ref a45, .long (0)]))]) (As := [.int (110), .int s2, .int s3]) (rest := []) hX (m167 l hst dC dI g a2 a34 a35 a36 a37 a38 a39 a40 a41 a42 a43 a44 a45 s2 s3 h65 h72 _) [0] rfl (by decide +kernel) 0 (ci := 15) rfl (T := TX16) (N := 20) (C := "MinestrataModel") rfl q2103 q2104 q2105 q82 q2106 (by decide +kernel) ⟨(Nat.le_of_ble_eq_true rfl), (Nat.le_of_ble_eq_true rfl)⟩ ⟨(Nat.le_of_ble_eq_true rfl), (Nat.le_of_ble_eq_true rfl)⟩ hl.1 rfl rfl (Nat.le_of_ble_eq_true rfl) dL_law_796) [0] [1, 2] rfl rfl (by decide +kernel) (by decide +kernel) (fun f81 r82 H locs hP hD hS => ?_)
              have hP : va_P (dC, dI) CL [(a41, .inr (1, [.int (0), .ref (g 21), .int (0)])), (a42, .inr (1, [.int (0), .ref (g 21), .int (0)])), (a2, .inr (15, [.int (2), .int (0), .int (100), .int (0), .int (0), .ref a34, .ref a35, .ref a36, .ref a37, .ref a38, .ref a39, .ref a40, .ref a41, .ref a42, .ref a43, .ref a44, .null, .int (-1), .ref a45, .long (0)]))] _ := hP
              have hD : va_D A [(a41, .inr (1, [.int (0), .ref (g 21), .int (0)])), (a42, .inr (1, [.int (0), .ref (g 21), .int (0)])), (a2, .inr (15, [.int (2), .int (0), .int (100), .int (0), .int (0), .ref a34, .ref a35, .ref a36, .ref a37, .ref a38, .ref a39, .ref a40, .ref a41, .ref a42, .ref a43, .ref a44, .null, .int (-1), .ref a45, .long (0)]))] := hD
              refine W.widen (k := 244) (n := 2777) (Nat.le_of_ble_eq_true rfl) (Nat.le_of_ble_eq_true rfl) ?_
              refine W.eq (g2 := F0 m 799 ls [.int (32)]) rfl ?_
              refine lv_istore (lv' := [(7, .int (32)), (6, .int (2)), (5, .int (0)), (4, .ref a0), (3, .ref a1), (2, .ref a2), (1, .ref a3), (0, .ref b)]) hx hb dL_law_799 hl (by decide) rfl (fun ls hl => ?_)
              refine lv_aload_n hx hb dL_law_801 rfl (lv_at hl 5 rfl) ?_
              have hX : nCx p s m _ c code 9 "MinestrataLaw" dC dI g A [(a41, .inr (1, [.int (0), .ref (g 21), .int (0)])), (a42, .inr (1, [.int (0), .ref (g 21), .int (0)])), (a2, .inr (15, [.int (2), .int (0), .int (100), .int (0), .int (0), .ref a34, .ref a35, .ref a36, .ref a37, .ref a38, .ref a39, .ref a40, .ref a41, .ref a42, .ref a43, .ref a44, .null, .int (-1), .ref a45, .long (0)]))] _ _ := ⟨⟨hx, hb, hml, hown, hts⟩, hE, hS, hA, hP, hD⟩
              refine n_call (wr := [(a41, .inr (1, [.int (0), .ref (g 21), .int (0)])), (a42, .inr (1, [.int (0), .ref (g 21), .int (0)]))]) hX (n_runV (n := 0) (wc := [(a2, .inr (15, [.int (2), .int (0), .int (100), .int (0), .int (0), .ref a34, .ref a35, .ref a36, .ref a37, .ref a38, .ref a39, .ref a40, .ref a41, .ref a42, .ref a43, .ref a44, .null, .int (-1), .ref a45, .long (0)]))]) (As := []) (rest := []) hX (m108 l hst dC dI g a2 a34 a35 a36 a37 a38 a39 a40 a41 a42 a43 a44 a45 _) [2] rfl (by decide +kernel) 2 (ci := 15) rfl (T := TX16) (N := 20) (C := "MinestrataModel") rfl q1495 q1496 q1497 q82 q1498 (by decide +kernel) ⟨(Nat.le_of_ble_eq_true rfl), (Nat.le_of_ble_eq_true rfl)⟩ ⟨(Nat.le_of_ble_eq_true rfl), (Nat.le_of_ble_eq_true rfl)⟩ hl.1 rfl rfl (Nat.le_of_ble_eq_true rfl) dL_law_802) [2] [0, 1] rfl rfl (by decide +kernel) (by decide +kernel) (fun f83 r84 H locs hP hD hS => ?_)
              have hP : va_P (dC, dI) CL [(a41, .inr (1, [.int (0), .ref (g 21), .int (0)])), (a42, .inr (1, [.int (0), .ref (g 21), .int (0)])), (a2, .inr (15, [.int (2), .int (0), .int (100), .int (0), .int (0), .ref a34, .ref a35, .ref a36, .ref a37, .ref a38, .ref a39, .ref a40, .ref a41, .ref a42, .ref a43, .ref a44, .null, .int (-1), .ref a45, .long (0)]))] _ := hP
              have hD : va_D A [(a41, .inr (1, [.int (0), .ref (g 21), .int (0)])), (a42, .inr (1, [.int (0), .ref (g 21), .int (0)])), (a2, .inr (15, [.int (2), .int (0), .int (100), .int (0), .int (0), .ref a34, .ref a35, .ref a36, .ref a37, .ref a38, .ref a39, .ref a40, .ref a41, .ref a42, .ref a43, .ref a44, .null, .int (-1), .ref a45, .long (0)]))] := hD
              refine W.widen (k := 244) (n := 2777) (Nat.le_of_ble_eq_true rfl) (Nat.le_of_ble_eq_true rfl) ?_
              refine W.eq (g2 := F0 m 805 ls [.int (2)]) rfl ?_
              refine lv_iload hx hb dL_law_805 (lv_at hl 1 rfl) ?_
              refine lv_icmp_eq (tgt := 812) hx hb dL_law_807 (by decide +kernel) (fun _ => ?_) (fun h => absurd (by decide +kernel) h)
              refine lv_iload hx hb dL_law_812 (lv_at hl 1 rfl) ?_
              refine lv_if_ne (tgt := 829) hx hb dL_law_814 (by decide +kernel) (fun _ => ?_) (fun h => absurd h (by decide +kernel))
              refine lv_goto (tgt := 2278) hx hb dL_law_829 (by decide +kernel) ?_
              refine lv_iinc (v := (5)) (lv' := [(5, .int (5)), (7, .int (32)), (6, .int (2)), (4, .ref a0), (3, .ref a1), (2, .ref a2), (1, .ref a3), (0, .ref b)]) hx hb dL_law_2278 hl (k := 2) rfl (by decide +kernel) (by decide) rfl (fun ls hl => ?_)
              refine lv_goto (tgt := 28) hx hb dL_law_2281 (by decide +kernel) ?_
              refine lv_iload hx hb dL_law_28 (lv_at hl 0 rfl) ?_
              refine lv_aload_n hx hb dL_law_30 rfl (lv_at hl 7 rfl) ?_
              refine va_slen hx hb hXs hbl hbA hS dL_law_31 ?_
              refine nt_i (v := (5)) (by decide +kernel) ?_
              refine lv_iconst (v := (5)) hx hb dL_law_32 (by decide +kernel) ?_
              refine lv_isub hx hb dL_law_33 ?_
              refine nt_i (v := (0)) (by decide +kernel) ?_
              refine lv_icmp_gt (tgt := 2284) hx hb dL_law_34 (by decide +kernel) (fun _ => ?_) (fun h => absurd (by decide +kernel) h)
              refine lv_iconst (v := (1)) hx hb dL_law_2284 (by decide +kernel) ?_
              refine va_forget (fun q9 hq9 => by have h9 := hS.2.2 q9 hq9; rw [← hAe] at h9; exact h9) ?_
              refine W.widen (k := 600006) (n := 7302056) (Nat.le_of_ble_eq_true rfl) (Nat.le_of_ble_eq_true rfl) ?_
              refine W.base ?_
              exact lw_ret (Drawn.sameBut.refl s.drawn lw_cs) hx hb hr hlk dL_law_2285
        · skip
          by_cases h85 : k1 = (115)
          · skip
            subst h85
            by_cases h86 : s3 < (0)
            · skip
              have hX : nCx p s m _ c code 9 "MinestrataLaw" dC dI g A [(a3, .inr (12, [.ref a4, .ref a5, .ref a6, .ref a7, .ref a8, .ref a9, .ref a10, .ref a11, .null, .ref a12, .ref a13, .int (0), .int (100), .int (0), .int (0), .int (-1), .long (0), .int (1)])), (a4, .inr (8, [.int (0), .ref a14, .ref a15, .ref a16, .ref a17, .int (0), .ref a18, .ref a19, .ref a20, .ref a21, .ref a22, .ref a23, .ref a24])), (a6, .inr (11, [.int (0), .ref a25, .ref a26, .ref a27, .ref a28, .ref a29, .ref a30, .ref a31, .ref a32, .ref a33])), (a2, .inr (15, [.int (0), .int (0), .int (100), .int (0), .int (0), .ref a34, .ref a35, .ref a36, .ref a37, .ref a38, .ref a39, .ref a40, .ref a41, .ref a42, .ref a43, .ref a44, .null, .int (-1), .ref a45, .long (0)])), (a41, .inr (1, [.int (0), .ref (g 21), .int (0)])), (a42, .inr (1, [.int (0), .ref (g 21), .int (0)]))] _ _ := ⟨⟨hx, hb, hml, hown, hts⟩, hE, hS, hA, hP, hD⟩
              refine n_call (wr := [(a2, .inr (15, [.int (0), .int (0), .int (100), .int (0), .int (0), .ref a34, .ref a35, .ref a36, .ref a37, .ref a38, .ref a39, .ref a40, .ref a41, .ref a42, .ref a43, .ref a44, .null, .int (-1), .ref a45, .long (0)])), (a41, .inr (1, [.int (0), .ref (g 21), .int (0)])), (a42, .inr (1, [.int (0), .ref (g 21), .int (0)]))]) hX (n_runSW (n := 5) (wc := [(a3, .inr (12, [.ref a4, .ref a5, .ref a6, .ref a7, .ref a8, .ref a9, .ref a10, .ref a11, .null, .ref a12, .ref a13, .int (0), .int (100), .int (0), .int (0), .int (-1), .long (0), .int (1)])), (a4, .inr (8, [.int (0), .ref a14, .ref a15, .ref a16, .ref a17, .int (0), .ref a18, .ref a19, .ref a20, .ref a21, .ref a22, .ref a23, .ref a24])), (a6, .inr (11, [.int (0), .ref a25, .ref a26, .ref a27, .ref a28, .ref a29, .ref a30, .ref a31, .ref a32, .ref a33]))]) (As := [.ref a3, .int (115), .int s2, .int s3, .ref a1]) (rest := []) hX (m171 l hst dC dI g a3 a1 a4 a5 a6 a7 a8 a9 a10 a11 a12 a13 a14 a15 a16 a17 a18 a19 a20 a21 a22 a23 a24 a25 a26 a27 a28 a29 a30 a31 a32 a33 s2 s3 h86 _) [0, 1, 2] rfl (by decide +kernel) q1038 q1039 q70 q1040 (by decide +kernel) ⟨(Nat.le_of_ble_eq_true rfl), (Nat.le_of_ble_eq_true rfl)⟩ ⟨(Nat.le_of_ble_eq_true rfl), (Nat.le_of_ble_eq_true rfl)⟩ hl.1 rfl rfl (Nat.le_of_ble_eq_true rfl) dL_law_771) [0, 1, 2] [3, 4, 5] rfl rfl (by decide +kernel) (by decide +kernel) (fun f87 r88 H locs hP hD hS => ?_)
              have hP : va_P (dC, dI) CL [(a2, .inr (15, [.int (0), .int (0), .int (100), .int (0), .int (0), .ref a34, .ref a35, .ref a36, .ref a37, .ref a38, .ref a39, .ref a40, .ref a41, .ref a42, .ref a43, .ref a44, .null, .int (-1), .ref a45, .long (0)])), (a41, .inr (1, [.int (0), .ref (g 21), .int (0)])), (a42, .inr (1, [.int (0), .ref (g 21), .int (0)]))] _ := hP
              have hD : va_D A [(a2, .inr (15, [.int (0), .int (0), .int (100), .int (0), .int (0), .ref a34, .ref a35, .ref a36, .ref a37, .ref a38, .ref a39, .ref a40, .ref a41, .ref a42, .ref a43, .ref a44, .null, .int (-1), .ref a45, .long (0)])), (a41, .inr (1, [.int (0), .ref (g 21), .int (0)])), (a42, .inr (1, [.int (0), .ref (g 21), .int (0)]))] := hD
              refine W.widen (k := 244) (n := 2777) (Nat.le_of_ble_eq_true rfl) (Nat.le_of_ble_eq_true rfl) ?_
              refine W.eq (g2 := F0 m 774 ls [.int (1)]) rfl ?_
              refine lv_istore (lv' := [(6, .int (1)), (5, .int (0)), (4, .ref a0), (3, .ref a1), (2, .ref a2), (1, .ref a3), (0, .ref b)]) hx hb dL_law_774 hl (by decide) rfl (fun ls hl => ?_)
              refine lv_aload_n hx hb dL_law_776 rfl (lv_at hl 4 rfl) ?_
              refine lv_aload_n hx hb dL_law_777 rfl (lv_at hl 6 rfl) ?_
              refine lv_iload hx hb dL_law_778 (lv_at hl 1 rfl) ?_
              refine lv_iconst (v := (1)) hx hb dL_law_780 (by decide +kernel) ?_
              refine lv_iadd hx hb dL_law_781 ?_
              refine nt_i (v := (1)) (by decide +kernel) ?_
              refine va_sld hx hb hXs hbl hbA hS (show ¬ ((1 : Int32) < 0 ∨ 5 ≤ Int32.toNatClampNeg (1)) by decide +kernel) dL_law_782 ?_
              refine nt_i (v := s1) es1 ?_
              refine lv_i2c (v := (115)) hx hb dL_law_783 ek1.symm ?_
              refine lv_aload_n hx hb dL_law_784 rfl (lv_at hl 6 rfl) ?_
              refine lv_iload hx hb dL_law_785 (lv_at hl 1 rfl) ?_
              refine lv_iconst (v := (2)) hx hb dL_law_787 (by decide +kernel) ?_
              refine lv_iadd hx hb dL_law_788 ?_
              refine nt_i (v := (2)) (by decide +kernel) ?_
              refine va_sld hx hb hXs hbl hbA hS (show ¬ ((2 : Int32) < 0 ∨ 5 ≤ Int32.toNatClampNeg (2)) by decide +kernel) dL_law_789 ?_
              refine nt_i (v := s2) es2 ?_
              refine lv_aload_n hx hb dL_law_790 rfl (lv_at hl 6 rfl) ?_
              refine lv_iload hx hb dL_law_791 (lv_at hl 1 rfl) ?_
              refine lv_iconst (v := (3)) hx hb dL_law_793 (by decide +kernel) ?_
              refine lv_iadd hx hb dL_law_794 ?_
              refine nt_i (v := (3)) (by decide +kernel) ?_
              refine va_sld hx hb hXs hbl hbA hS (show ¬ ((3 : Int32) < 0 ∨ 5 ≤ Int32.toNatClampNeg (3)) by decide +kernel) dL_law_795 ?_
              refine nt_i (v := s3) es3 ?_
              have hX : nCx p s m _ c code 9 "MinestrataLaw" dC dI g A [(a2, .inr (15, [.int (0), .int (0), .int (100), .int (0), .int (0), .ref a34, .ref a35, .ref a36, .ref a37, .ref a38, .ref a39, .ref a40, .ref a41, .ref a42, .ref a43, .ref a44, .null, .int (-1), .ref a45, .long (0)])), (a41, .inr (1, [.int (0), .ref (g 21), .int (0)])), (a42, .inr (1, [.int (0), .ref (g 21), .int (0)]))] _ _ := ⟨⟨hx, hb, hml, hown, hts⟩, hE, hS, hA, hP, hD⟩
              refine n_call (wr := [(a41, .inr (1, [.int (0), .ref (g 21), .int (0)])), (a42, .inr (1, [.int (0), .ref (g 21), .int (0)]))]) hX (n_runV (n := 3) (wc := [(a2, .inr (15, [.int (0), .int (0), .int (100), .int (0), .int (0), .ref a34, .ref a35, .ref a36, .ref a37, .ref a38, .ref a39, .ref a40, .ref a41, .ref a42, .ref a43, .ref a44, .null, .int (-1), .ref a45, .long (0)]))]) (As := [.int (115), .int s2, .int s3]) (rest := []) hX (m174 l hst dC dI g a2 a34 a35 a36 a37 a38 a39 a40 a41 a42 a43 a44 a45 s2 s3 h86 _) [0] rfl (by decide +kernel) 0 (ci := 15) rfl (T := TX16) (N := 20) (C := "MinestrataModel") rfl q2103 q2104 q2105 q82 q2106 (by decide +kernel) ⟨(Nat.le_of_ble_eq_true rfl), (Nat.le_of_ble_eq_true rfl)⟩ ⟨(Nat.le_of_ble_eq_true rfl), (Nat.le_of_ble_eq_true rfl)⟩ hl.1 rfl rfl (Nat.le_of_ble_eq_true rfl) dL_law_796) [0] [1, 2] rfl rfl (by decide +kernel) (by decide +kernel) (fun f89 r90 H locs hP hD hS => ?_)
              have hP : va_P (dC, dI) CL [(a41, .inr (1, [.int (0), .ref (g 21), .int (0)])), (a42, .inr (1, [.int (0), .ref (g 21), .int (0)])), (a2, .inr (15, [.int (1), .int (0), .int (100), .int (0), .int (0), .ref a34, .ref a35, .ref a36, .ref a37, .ref a38, .ref a39, .ref a40, .ref a41, .ref a42, .ref a43, .ref a44, .null, .int (-1), .ref a45, .long (0)]))] _ := hP
              have hD : va_D A [(a41, .inr (1, [.int (0), .ref (g 21), .int (0)])), (a42, .inr (1, [.int (0), .ref (g 21), .int (0)])), (a2, .inr (15, [.int (1), .int (0), .int (100), .int (0), .int (0), .ref a34, .ref a35, .ref a36, .ref a37, .ref a38, .ref a39, .ref a40, .ref a41, .ref a42, .ref a43, .ref a44, .null, .int (-1), .ref a45, .long (0)]))] := hD
              refine W.widen (k := 244) (n := 2777) (Nat.le_of_ble_eq_true rfl) (Nat.le_of_ble_eq_true rfl) ?_
              refine W.eq (g2 := F0 m 799 ls [.int (32)]) rfl ?_
              refine lv_istore (lv' := [(7, .int (32)), (6, .int (1)), (5, .int (0)), (4, .ref a0), (3, .ref a1), (2, .ref a2), (1, .ref a3), (0, .ref b)]) hx hb dL_law_799 hl (by decide) rfl (fun ls hl => ?_)
              refine lv_aload_n hx hb dL_law_801 rfl (lv_at hl 5 rfl) ?_
              have hX : nCx p s m _ c code 9 "MinestrataLaw" dC dI g A [(a41, .inr (1, [.int (0), .ref (g 21), .int (0)])), (a42, .inr (1, [.int (0), .ref (g 21), .int (0)])), (a2, .inr (15, [.int (1), .int (0), .int (100), .int (0), .int (0), .ref a34, .ref a35, .ref a36, .ref a37, .ref a38, .ref a39, .ref a40, .ref a41, .ref a42, .ref a43, .ref a44, .null, .int (-1), .ref a45, .long (0)]))] _ _ := ⟨⟨hx, hb, hml, hown, hts⟩, hE, hS, hA, hP, hD⟩
              refine n_call (wr := [(a41, .inr (1, [.int (0), .ref (g 21), .int (0)])), (a42, .inr (1, [.int (0), .ref (g 21), .int (0)]))]) hX (n_runV (n := 0) (wc := [(a2, .inr (15, [.int (1), .int (0), .int (100), .int (0), .int (0), .ref a34, .ref a35, .ref a36, .ref a37, .ref a38, .ref a39, .ref a40, .ref a41, .ref a42, .ref a43, .ref a44, .null, .int (-1), .ref a45, .long (0)]))]) (As := []) (rest := []) hX (m33 l hst dC dI g a2 a34 a35 a36 a37 a38 a39 a40 a41 a42 a43 a44 a45 _) [2] rfl (by decide +kernel) 2 (ci := 15) rfl (T := TX16) (N := 20) (C := "MinestrataModel") rfl q1495 q1496 q1497 q82 q1498 (by decide +kernel) ⟨(Nat.le_of_ble_eq_true rfl), (Nat.le_of_ble_eq_true rfl)⟩ ⟨(Nat.le_of_ble_eq_true rfl), (Nat.le_of_ble_eq_true rfl)⟩ hl.1 rfl rfl (Nat.le_of_ble_eq_true rfl) dL_law_802) [2] [0, 1] rfl rfl (by decide +kernel) (by decide +kernel) (fun f91 r92 H locs hP hD hS => ?_)
              have hP : va_P (dC, dI) CL [(a41, .inr (1, [.int (0), .ref (g 21), .int (0)])), (a42, .inr (1, [.int (0), .ref (g 21), .int (0)])), (a2, .inr (15, [.int (1), .int (0), .int (100), .int (0), .int (0), .ref a34, .ref a35, .ref a36, .ref a37, .ref a38, .ref a39, .ref a40, .ref a41, .ref a42, .ref a43, .ref a44, .null, .int (-1), .ref a45, .long (0)]))] _ := hP
              have hD : va_D A [(a41, .inr (1, [.int (0), .ref (g 21), .int (0)])), (a42, .inr (1, [.int (0), .ref (g 21), .int (0)])), (a2, .inr (15, [.int (1), .int (0), .int (100), .int (0), .int (0), .ref a34, .ref a35, .ref a36, .ref a37, .ref a38, .ref a39, .ref a40, .ref a41, .ref a42, .ref a43, .ref a44, .null, .int (-1), .ref a45, .long (0)]))] := hD
              refine W.widen (k := 244) (n := 2777) (Nat.le_of_ble_eq_true rfl) (Nat.le_of_ble_eq_true rfl) ?_
              refine W.eq (g2 := F0 m 805 ls [.int (1)]) rfl ?_
              refine lv_iload hx hb dL_law_805 (lv_at hl 1 rfl) ?_
              refine lv_icmp_eq (tgt := 812) hx hb dL_law_807 (by decide +kernel) (fun _ => ?_) (fun h => absurd (by decide +kernel) h)
              refine lv_iload hx hb dL_law_812 (lv_at hl 1 rfl) ?_
              refine lv_if_ne (tgt := 829) hx hb dL_law_814 (by decide +kernel) (fun _ => ?_) (fun h => absurd h (by decide +kernel))
              refine lv_goto (tgt := 2278) hx hb dL_law_829 (by decide +kernel) ?_
              refine lv_iinc (v := (5)) (lv' := [(5, .int (5)), (7, .int (32)), (6, .int (1)), (4, .ref a0), (3, .ref a1), (2, .ref a2), (1, .ref a3), (0, .ref b)]) hx hb dL_law_2278 hl (k := 2) rfl (by decide +kernel) (by decide) rfl (fun ls hl => ?_)
              refine lv_goto (tgt := 28) hx hb dL_law_2281 (by decide +kernel) ?_
              refine lv_iload hx hb dL_law_28 (lv_at hl 0 rfl) ?_
              refine lv_aload_n hx hb dL_law_30 rfl (lv_at hl 7 rfl) ?_
              refine va_slen hx hb hXs hbl hbA hS dL_law_31 ?_
              refine nt_i (v := (5)) (by decide +kernel) ?_
              refine lv_iconst (v := (5)) hx hb dL_law_32 (by decide +kernel) ?_
              refine lv_isub hx hb dL_law_33 ?_
              refine nt_i (v := (0)) (by decide +kernel) ?_
              refine lv_icmp_gt (tgt := 2284) hx hb dL_law_34 (by decide +kernel) (fun _ => ?_) (fun h => absurd (by decide +kernel) h)
              refine lv_iconst (v := (1)) hx hb dL_law_2284 (by decide +kernel) ?_
              refine va_forget (fun q9 hq9 => by have h9 := hS.2.2 q9 hq9; rw [← hAe] at h9; exact h9) ?_
              refine W.widen (k := 600006) (n := 7302056) (Nat.le_of_ble_eq_true rfl) (Nat.le_of_ble_eq_true rfl) ?_
              refine W.base ?_
              exact lw_ret (Drawn.sameBut.refl s.drawn lw_cs) hx hb hr hlk dL_law_2285
            · skip
              by_cases h93 : (20) < s3
              · skip
                have hX : nCx p s m _ c code 9 "MinestrataLaw" dC dI g A [(a3, .inr (12, [.ref a4, .ref a5, .ref a6, .ref a7, .ref a8, .ref a9, .ref a10, .ref a11, .null, .ref a12, .ref a13, .int (0), .int (100), .int (0), .int (0), .int (-1), .long (0), .int (1)])), (a4, .inr (8, [.int (0), .ref a14, .ref a15, .ref a16, .ref a17, .int (0), .ref a18, .ref a19, .ref a20, .ref a21, .ref a22, .ref a23, .ref a24])), (a6, .inr (11, [.int (0), .ref a25, .ref a26, .ref a27, .ref a28, .ref a29, .ref a30, .ref a31, .ref a32, .ref a33])), (a2, .inr (15, [.int (0), .int (0), .int (100), .int (0), .int (0), .ref a34, .ref a35, .ref a36, .ref a37, .ref a38, .ref a39, .ref a40, .ref a41, .ref a42, .ref a43, .ref a44, .null, .int (-1), .ref a45, .long (0)])), (a41, .inr (1, [.int (0), .ref (g 21), .int (0)])), (a42, .inr (1, [.int (0), .ref (g 21), .int (0)]))] _ _ := ⟨⟨hx, hb, hml, hown, hts⟩, hE, hS, hA, hP, hD⟩
                refine n_call (wr := [(a2, .inr (15, [.int (0), .int (0), .int (100), .int (0), .int (0), .ref a34, .ref a35, .ref a36, .ref a37, .ref a38, .ref a39, .ref a40, .ref a41, .ref a42, .ref a43, .ref a44, .null, .int (-1), .ref a45, .long (0)])), (a41, .inr (1, [.int (0), .ref (g 21), .int (0)])), (a42, .inr (1, [.int (0), .ref (g 21), .int (0)]))]) hX (n_runSW (n := 5) (wc := [(a3, .inr (12, [.ref a4, .ref a5, .ref a6, .ref a7, .ref a8, .ref a9, .ref a10, .ref a11, .null, .ref a12, .ref a13, .int (0), .int (100), .int (0), .int (0), .int (-1), .long (0), .int (1)])), (a4, .inr (8, [.int (0), .ref a14, .ref a15, .ref a16, .ref a17, .int (0), .ref a18, .ref a19, .ref a20, .ref a21, .ref a22, .ref a23, .ref a24])), (a6, .inr (11, [.int (0), .ref a25, .ref a26, .ref a27, .ref a28, .ref a29, .ref a30, .ref a31, .ref a32, .ref a33]))]) (As := [.ref a3, .int (115), .int s2, .int s3, .ref a1]) (rest := []) hX (m178 l hst dC dI g a3 a1 a4 a5 a6 a7 a8 a9 a10 a11 a12 a13 a14 a15 a16 a17 a18 a19 a20 a21 a22 a23 a24 a25 a26 a27 a28 a29 a30 a31 a32 a33 s2 s3 h86 h93 _) [0, 1, 2] rfl (by decide +kernel) q1038 q1039 q70 q1040 (by decide +kernel) ⟨(Nat.le_of_ble_eq_true rfl), (Nat.le_of_ble_eq_true rfl)⟩ ⟨(Nat.le_of_ble_eq_true rfl), (Nat.le_of_ble_eq_true rfl)⟩ hl.1 rfl rfl (Nat.le_of_ble_eq_true rfl) dL_law_771) [0, 1, 2] [3, 4, 5] rfl rfl (by decide +kernel) (by decide +kernel) (fun f94 r95 H locs hP hD hS => ?_)
                have hP : va_P (dC, dI) CL [(a2, .inr (15, [.int (0), .int (0), .int (100), .int (0), .int (0), .ref a34, .ref a35, .ref a36, .ref a37, .ref a38, .ref a39, .ref a40, .ref a41, .ref a42, .ref a43, .ref a44, .null, .int (-1), .ref a45, .long (0)])), (a41, .inr (1, [.int (0), .ref (g 21), .int (0)])), (a42, .inr (1, [.int (0), .ref (g 21), .int (0)]))] _ := hP
                have hD : va_D A [(a2, .inr (15, [.int (0), .int (0), .int (100), .int (0), .int (0), .ref a34, .ref a35, .ref a36, .ref a37, .ref a38, .ref a39, .ref a40, .ref a41, .ref a42, .ref a43, .ref a44, .null, .int (-1), .ref a45, .long (0)])), (a41, .inr (1, [.int (0), .ref (g 21), .int (0)])), (a42, .inr (1, [.int (0), .ref (g 21), .int (0)]))] := hD
                refine W.widen (k := 244) (n := 2777) (Nat.le_of_ble_eq_true rfl) (Nat.le_of_ble_eq_true rfl) ?_
                refine W.eq (g2 := F0 m 774 ls [.int (1)]) rfl ?_
                refine lv_istore (lv' := [(6, .int (1)), (5, .int (0)), (4, .ref a0), (3, .ref a1), (2, .ref a2), (1, .ref a3), (0, .ref b)]) hx hb dL_law_774 hl (by decide) rfl (fun ls hl => ?_)
                refine lv_aload_n hx hb dL_law_776 rfl (lv_at hl 4 rfl) ?_
                refine lv_aload_n hx hb dL_law_777 rfl (lv_at hl 6 rfl) ?_
                refine lv_iload hx hb dL_law_778 (lv_at hl 1 rfl) ?_
                refine lv_iconst (v := (1)) hx hb dL_law_780 (by decide +kernel) ?_
                refine lv_iadd hx hb dL_law_781 ?_
                refine nt_i (v := (1)) (by decide +kernel) ?_
                refine va_sld hx hb hXs hbl hbA hS (show ¬ ((1 : Int32) < 0 ∨ 5 ≤ Int32.toNatClampNeg (1)) by decide +kernel) dL_law_782 ?_
                refine nt_i (v := s1) es1 ?_
                refine lv_i2c (v := (115)) hx hb dL_law_783 ek1.symm ?_
                refine lv_aload_n hx hb dL_law_784 rfl (lv_at hl 6 rfl) ?_
                refine lv_iload hx hb dL_law_785 (lv_at hl 1 rfl) ?_
                refine lv_iconst (v := (2)) hx hb dL_law_787 (by decide +kernel) ?_
                refine lv_iadd hx hb dL_law_788 ?_
                refine nt_i (v := (2)) (by decide +kernel) ?_
                refine va_sld hx hb hXs hbl hbA hS (show ¬ ((2 : Int32) < 0 ∨ 5 ≤ Int32.toNatClampNeg (2)) by decide +kernel) dL_law_789 ?_
                refine nt_i (v := s2) es2 ?_
                refine lv_aload_n hx hb dL_law_790 rfl (lv_at hl 6 rfl) ?_
                refine lv_iload hx hb dL_law_791 (lv_at hl 1 rfl) ?_
                refine lv_iconst (v := (3)) hx hb dL_law_793 (by decide +kernel) ?_
                refine lv_iadd hx hb dL_law_794 ?_
                refine nt_i (v := (3)) (by decide +kernel) ?_
                refine va_sld hx hb hXs hbl hbA hS (show ¬ ((3 : Int32) < 0 ∨ 5 ≤ Int32.toNatClampNeg (3)) by decide +kernel) dL_law_795 ?_
                refine nt_i (v := s3) es3 ?_
                have hX : nCx p s m _ c code 9 "MinestrataLaw" dC dI g A [(a2, .inr (15, [.int (0), .int (0), .int (100), .int (0), .int (0), .ref a34, .ref a35, .ref a36, .ref a37, .ref a38, .ref a39, .ref a40, .ref a41, .ref a42, .ref a43, .ref a44, .null, .int (-1), .ref a45, .long (0)])), (a41, .inr (1, [.int (0), .ref (g 21), .int (0)])), (a42, .inr (1, [.int (0), .ref (g 21), .int (0)]))] _ _ := ⟨⟨hx, hb, hml, hown, hts⟩, hE, hS, hA, hP, hD⟩
                refine n_call (wr := [(a41, .inr (1, [.int (0), .ref (g 21), .int (0)])), (a42, .inr (1, [.int (0), .ref (g 21), .int (0)]))]) hX (n_runV (n := 3) (wc := [(a2, .inr (15, [.int (0), .int (0), .int (100), .int (0), .int (0), .ref a34, .ref a35, .ref a36, .ref a37, .ref a38, .ref a39, .ref a40, .ref a41, .ref a42, .ref a43, .ref a44, .null, .int (-1), .ref a45, .long (0)]))]) (As := [.int (115), .int s2, .int s3]) (rest := []) hX (m181 l hst dC dI g a2 a34 a35 a36 a37 a38 a39 a40 a41 a42 a43 a44 a45 s2 s3 h86 h93 _) [0] rfl (by decide +kernel) 0 (ci := 15) rfl (T := TX16) (N := 20) (C := "MinestrataModel") rfl q2103 q2104 q2105 q82 q2106 (by decide +kernel) ⟨(Nat.le_of_ble_eq_true rfl), (Nat.le_of_ble_eq_true rfl)⟩ ⟨(Nat.le_of_ble_eq_true rfl), (Nat.le_of_ble_eq_true rfl)⟩ hl.1 rfl rfl (Nat.le_of_ble_eq_true rfl) dL_law_796) [0] [1, 2] rfl rfl (by decide +kernel) (by decide +kernel) (fun f96 r97 H locs hP hD hS => ?_)
                have hP : va_P (dC, dI) CL [(a41, .inr (1, [.int (0), .ref (g 21), .int (0)])), (a42, .inr (1, [.int (0), .ref (g 21), .int (0)])), (a2, .inr (15, [.int (1), .int (0), .int (100), .int (0), .int (0), .ref a34, .ref a35, .ref a36, .ref a37, .ref a38, .ref a39, .ref a40, .ref a41, .ref a42, .ref a43, .ref a44, .null, .int (-1), .ref a45, .long (0)]))] _ := hP
                have hD : va_D A [(a41, .inr (1, [.int (0), .ref (g 21), .int (0)])), (a42, .inr (1, [.int (0), .ref (g 21), .int (0)])), (a2, .inr (15, [.int (1), .int (0), .int (100), .int (0), .int (0), .ref a34, .ref a35, .ref a36, .ref a37, .ref a38, .ref a39, .ref a40, .ref a41, .ref a42, .ref a43, .ref a44, .null, .int (-1), .ref a45, .long (0)]))] := hD
                refine W.widen (k := 244) (n := 2777) (Nat.le_of_ble_eq_true rfl) (Nat.le_of_ble_eq_true rfl) ?_
                refine W.eq (g2 := F0 m 799 ls [.int (32)]) rfl ?_
                refine lv_istore (lv' := [(7, .int (32)), (6, .int (1)), (5, .int (0)), (4, .ref a0), (3, .ref a1), (2, .ref a2), (1, .ref a3), (0, .ref b)]) hx hb dL_law_799 hl (by decide) rfl (fun ls hl => ?_)
                refine lv_aload_n hx hb dL_law_801 rfl (lv_at hl 5 rfl) ?_
                have hX : nCx p s m _ c code 9 "MinestrataLaw" dC dI g A [(a41, .inr (1, [.int (0), .ref (g 21), .int (0)])), (a42, .inr (1, [.int (0), .ref (g 21), .int (0)])), (a2, .inr (15, [.int (1), .int (0), .int (100), .int (0), .int (0), .ref a34, .ref a35, .ref a36, .ref a37, .ref a38, .ref a39, .ref a40, .ref a41, .ref a42, .ref a43, .ref a44, .null, .int (-1), .ref a45, .long (0)]))] _ _ := ⟨⟨hx, hb, hml, hown, hts⟩, hE, hS, hA, hP, hD⟩
                refine n_call (wr := [(a41, .inr (1, [.int (0), .ref (g 21), .int (0)])), (a42, .inr (1, [.int (0), .ref (g 21), .int (0)]))]) hX (n_runV (n := 0) (wc := [(a2, .inr (15, [.int (1), .int (0), .int (100), .int (0), .int (0), .ref a34, .ref a35, .ref a36, .ref a37, .ref a38, .ref a39, .ref a40, .ref a41, .ref a42, .ref a43, .ref a44, .null, .int (-1), .ref a45, .long (0)]))]) (As := []) (rest := []) hX (m33 l hst dC dI g a2 a34 a35 a36 a37 a38 a39 a40 a41 a42 a43 a44 a45 _) [2] rfl (by decide +kernel) 2 (ci := 15) rfl (T := TX16) (N := 20) (C := "MinestrataModel") rfl q1495 q1496 q1497 q82 q1498 (by decide +kernel) ⟨(Nat.le_of_ble_eq_true rfl), (Nat.le_of_ble_eq_true rfl)⟩ ⟨(Nat.le_of_ble_eq_true rfl), (Nat.le_of_ble_eq_true rfl)⟩ hl.1 rfl rfl (Nat.le_of_ble_eq_true rfl) dL_law_802) [2] [0, 1] rfl rfl (by decide +kernel) (by decide +kernel) (fun f98 r99 H locs hP hD hS => ?_)
                have hP : va_P (dC, dI) CL [(a41, .inr (1, [.int (0), .ref (g 21), .int (0)])), (a42, .inr (1, [.int (0), .ref (g 21), .int (0)])), (a2, .inr (15, [.int (1), .int (0), .int (100), .int (0), .int (0), .ref a34, .ref a35, .ref a36, .ref a37, .ref a38, .ref a39, .ref a40, .ref a41, .ref a42, .ref a43, .ref a44, .null, .int (-1), .ref a45, .long (0)]))] _ := hP
                have hD : va_D A [(a41, .inr (1, [.int (0), .ref (g 21), .int (0)])), (a42, .inr (1, [.int (0), .ref (g 21), .int (0)])), (a2, .inr (15, [.int (1), .int (0), .int (100), .int (0), .int (0), .ref a34, .ref a35, .ref a36, .ref a37, .ref a38, .ref a39, .ref a40, .ref a41, .ref a42, .ref a43, .ref a44, .null, .int (-1), .ref a45, .long (0)]))] := hD
                refine W.widen (k := 244) (n := 2777) (Nat.le_of_ble_eq_true rfl) (Nat.le_of_ble_eq_true rfl) ?_
                refine W.eq (g2 := F0 m 805 ls [.int (1)]) rfl ?_
                refine lv_iload hx hb dL_law_805 (lv_at hl 1 rfl) ?_
                refine lv_icmp_eq (tgt := 812) hx hb dL_law_807 (by decide +kernel) (fun _ => ?_) (fun h => absurd (by decide +kernel) h)
                refine lv_iload hx hb dL_law_812 (lv_at hl 1 rfl) ?_
                refine lv_if_ne (tgt := 829) hx hb dL_law_814 (by decide +kernel) (fun _ => ?_) (fun h => absurd h (by decide +kernel))
                refine lv_goto (tgt := 2278) hx hb dL_law_829 (by decide +kernel) ?_
                refine lv_iinc (v := (5)) (lv' := [(5, .int (5)), (7, .int (32)), (6, .int (1)), (4, .ref a0), (3, .ref a1), (2, .ref a2), (1, .ref a3), (0, .ref b)]) hx hb dL_law_2278 hl (k := 2) rfl (by decide +kernel) (by decide) rfl (fun ls hl => ?_)
                refine lv_goto (tgt := 28) hx hb dL_law_2281 (by decide +kernel) ?_
                refine lv_iload hx hb dL_law_28 (lv_at hl 0 rfl) ?_
                refine lv_aload_n hx hb dL_law_30 rfl (lv_at hl 7 rfl) ?_
                refine va_slen hx hb hXs hbl hbA hS dL_law_31 ?_
                refine nt_i (v := (5)) (by decide +kernel) ?_
                refine lv_iconst (v := (5)) hx hb dL_law_32 (by decide +kernel) ?_
                refine lv_isub hx hb dL_law_33 ?_
                refine nt_i (v := (0)) (by decide +kernel) ?_
                refine lv_icmp_gt (tgt := 2284) hx hb dL_law_34 (by decide +kernel) (fun _ => ?_) (fun h => absurd (by decide +kernel) h)
                refine lv_iconst (v := (1)) hx hb dL_law_2284 (by decide +kernel) ?_
                refine va_forget (fun q9 hq9 => by have h9 := hS.2.2 q9 hq9; rw [← hAe] at h9; exact h9) ?_
                refine W.widen (k := 600006) (n := 7302056) (Nat.le_of_ble_eq_true rfl) (Nat.le_of_ble_eq_true rfl) ?_
                refine W.base ?_
                exact lw_ret (Drawn.sameBut.refl s.drawn lw_cs) hx hb hr hlk dL_law_2285
              · skip
                have hX : nCx p s m _ c code 9 "MinestrataLaw" dC dI g A [(a3, .inr (12, [.ref a4, .ref a5, .ref a6, .ref a7, .ref a8, .ref a9, .ref a10, .ref a11, .null, .ref a12, .ref a13, .int (0), .int (100), .int (0), .int (0), .int (-1), .long (0), .int (1)])), (a4, .inr (8, [.int (0), .ref a14, .ref a15, .ref a16, .ref a17, .int (0), .ref a18, .ref a19, .ref a20, .ref a21, .ref a22, .ref a23, .ref a24])), (a6, .inr (11, [.int (0), .ref a25, .ref a26, .ref a27, .ref a28, .ref a29, .ref a30, .ref a31, .ref a32, .ref a33])), (a2, .inr (15, [.int (0), .int (0), .int (100), .int (0), .int (0), .ref a34, .ref a35, .ref a36, .ref a37, .ref a38, .ref a39, .ref a40, .ref a41, .ref a42, .ref a43, .ref a44, .null, .int (-1), .ref a45, .long (0)])), (a41, .inr (1, [.int (0), .ref (g 21), .int (0)])), (a42, .inr (1, [.int (0), .ref (g 21), .int (0)]))] _ _ := ⟨⟨hx, hb, hml, hown, hts⟩, hE, hS, hA, hP, hD⟩
                refine n_call (wr := [(a2, .inr (15, [.int (0), .int (0), .int (100), .int (0), .int (0), .ref a34, .ref a35, .ref a36, .ref a37, .ref a38, .ref a39, .ref a40, .ref a41, .ref a42, .ref a43, .ref a44, .null, .int (-1), .ref a45, .long (0)])), (a41, .inr (1, [.int (0), .ref (g 21), .int (0)])), (a42, .inr (1, [.int (0), .ref (g 21), .int (0)]))]) hX (n_runSW (n := 5) (wc := [(a3, .inr (12, [.ref a4, .ref a5, .ref a6, .ref a7, .ref a8, .ref a9, .ref a10, .ref a11, .null, .ref a12, .ref a13, .int (0), .int (100), .int (0), .int (0), .int (-1), .long (0), .int (1)])), (a4, .inr (8, [.int (0), .ref a14, .ref a15, .ref a16, .ref a17, .int (0), .ref a18, .ref a19, .ref a20, .ref a21, .ref a22, .ref a23, .ref a24])), (a6, .inr (11, [.int (0), .ref a25, .ref a26, .ref a27, .ref a28, .ref a29, .ref a30, .ref a31, .ref a32, .ref a33]))]) (As := [.ref a3, .int (115), .int s2, .int s3, .ref a1]) (rest := []) hX (m186 l hst dC dI g a3 a1 a4 a5 a6 a7 a8 a9 a10 a11 a12 a13 a14 a15 a16 a17 a18 a19 a20 a21 a22 a23 a24 a25 a26 a27 a28 a29 a30 a31 a32 a33 s2 s3 h86 h93 _) [0, 1, 2] rfl (by decide +kernel) q1038 q1039 q70 q1040 (by decide +kernel) ⟨(Nat.le_of_ble_eq_true rfl), (Nat.le_of_ble_eq_true rfl)⟩ ⟨(Nat.le_of_ble_eq_true rfl), (Nat.le_of_ble_eq_true rfl)⟩ hl.1 rfl rfl (Nat.le_of_ble_eq_true rfl) dL_law_771) [0, 1, 2] [3, 4, 5] rfl rfl (by decide +kernel) (by decide +kernel) (fun f100 r101 H locs hP hD hS => ?_)
                have hP : va_P (dC, dI) CL [(a2, .inr (15, [.int (0), .int (0), .int (100), .int (0), .int (0), .ref a34, .ref a35, .ref a36, .ref a37, .ref a38, .ref a39, .ref a40, .ref a41, .ref a42, .ref a43, .ref a44, .null, .int (-1), .ref a45, .long (0)])), (a41, .inr (1, [.int (0), .ref (g 21), .int (0)])), (a42, .inr (1, [.int (0), .ref (g 21), .int (0)]))] _ := hP
                have hD : va_D A [(a2, .inr (15, [.int (0), .int (0), .int (100), .int (0), .int (0), .ref a34, .ref a35, .ref a36, .ref a37, .ref a38, .ref a39, .ref a40, .ref a41, .ref a42, .ref a43, .ref a44, .null, .int (-1), .ref a45, .long (0)])), (a41, .inr (1, [.int (0), .ref (g 21), .int (0)])), (a42, .inr (1, [.int (0), .ref (g 21), .int (0)]))] := hD
                refine W.widen (k := 244) (n := 2777) (Nat.le_of_ble_eq_true rfl) (Nat.le_of_ble_eq_true rfl) ?_
                refine W.eq (g2 := F0 m 774 ls [.int (2)]) rfl ?_
                refine lv_istore (lv' := [(6, .int (2)), (5, .int (0)), (4, .ref a0), (3, .ref a1), (2, .ref a2), (1, .ref a3), (0, .ref b)]) hx hb dL_law_774 hl (by decide) rfl (fun ls hl => ?_)
                refine lv_aload_n hx hb dL_law_776 rfl (lv_at hl 4 rfl) ?_
                refine lv_aload_n hx hb dL_law_777 rfl (lv_at hl 6 rfl) ?_
                refine lv_iload hx hb dL_law_778 (lv_at hl 1 rfl) ?_
                refine lv_iconst (v := (1)) hx hb dL_law_780 (by decide +kernel) ?_
                refine lv_iadd hx hb dL_law_781 ?_
                refine nt_i (v := (1)) (by decide +kernel) ?_
                refine va_sld hx hb hXs hbl hbA hS (show ¬ ((1 : Int32) < 0 ∨ 5 ≤ Int32.toNatClampNeg (1)) by decide +kernel) dL_law_782 ?_
                refine nt_i (v := s1) es1 ?_
                refine lv_i2c (v := (115)) hx hb dL_law_783 ek1.symm ?_
                refine lv_aload_n hx hb dL_law_784 rfl (lv_at hl 6 rfl) ?_
                refine lv_iload hx hb dL_law_785 (lv_at hl 1 rfl) ?_
                refine lv_iconst (v := (2)) hx hb dL_law_787 (by decide +kernel) ?_
                refine lv_iadd hx hb dL_law_788 ?_
                refine nt_i (v := (2)) (by decide +kernel) ?_
                refine va_sld hx hb hXs hbl hbA hS (show ¬ ((2 : Int32) < 0 ∨ 5 ≤ Int32.toNatClampNeg (2)) by decide +kernel) dL_law_789 ?_
                refine nt_i (v := s2) es2 ?_
                refine lv_aload_n hx hb dL_law_790 rfl (lv_at hl 6 rfl) ?_
                refine lv_iload hx hb dL_law_791 (lv_at hl 1 rfl) ?_
                refine lv_iconst (v := (3)) hx hb dL_law_793 (by decide +kernel) ?_
                refine lv_iadd hx hb dL_law_794 ?_
                refine nt_i (v := (3)) (by decide +kernel) ?_
                refine va_sld hx hb hXs hbl hbA hS (show ¬ ((3 : Int32) < 0 ∨ 5 ≤ Int32.toNatClampNeg (3)) by decide +kernel) dL_law_795 ?_
                refine nt_i (v := s3) es3 ?_
                have hX : nCx p s m _ c code 9 "MinestrataLaw" dC dI g A [(a2, .inr (15, [.int (0), .int (0), .int (100), .int (0), .int (0), .ref a34, .ref a35, .ref a36, .ref a37, .ref a38, .ref a39, .ref a40, .ref a41, .ref a42, .ref a43, .ref a44, .null, .int (-1), .ref a45, .long (0)])), (a41, .inr (1, [.int (0), .ref (g 21), .int (0)])), (a42, .inr (1, [.int (0), .ref (g 21), .int (0)]))] _ _ := ⟨⟨hx, hb, hml, hown, hts⟩, hE, hS, hA, hP, hD⟩
                refine n_call (wr := [(a41, .inr (1, [.int (0), .ref (g 21), .int (0)])), (a42, .inr (1, [.int (0), .ref (g 21), .int (0)]))]) hX (n_runV (n := 3) (wc := [(a2, .inr (15, [.int (0), .int (0), .int (100), .int (0), .int (0), .ref a34, .ref a35, .ref a36, .ref a37, .ref a38, .ref a39, .ref a40, .ref a41, .ref a42, .ref a43, .ref a44, .null, .int (-1), .ref a45, .long (0)]))]) (As := [.int (115), .int s2, .int s3]) (rest := []) hX (m190 l hst dC dI g a2 a34 a35 a36 a37 a38 a39 a40 a41 a42 a43 a44 a45 s2 s3 h86 h93 _) [0] rfl (by decide +kernel) 0 (ci := 15) rfl (T := TX16) (N := 20) (C := "MinestrataModel") rfl q2103 q2104 q2105 q82 q2106 (by decide +kernel) ⟨(Nat.le_of_ble_eq_true rfl), (Nat.le_of_ble_eq_true rfl)⟩ ⟨(Nat.le_of_ble_eq_true rfl), (Nat.le_of_ble_eq_true rfl)⟩ hl.1 rfl rfl (Nat.le_of_ble_eq_true rfl) dL_law_796) [0] [1, 2] rfl rfl (by decide +kernel) (by decide +kernel) (fun f102 r103 H locs hP hD hS => ?_)
                have hP : va_P (dC, dI) CL [(a41, .inr (1, [.int (0), .ref (g 21), .int (0)])), (a42, .inr (1, [.int (0), .ref (g 21), .int (0)])), (a2, .inr (15, [.int (2), .int (0), .int (100), .int (0), .int (0), .ref a34, .ref a35, .ref a36, .ref a37, .ref a38, .ref a39, .ref a40, .ref a41, .ref a42, .ref a43, .ref a44, .null, .int (-1), .ref a45, .long (0)]))] _ := hP
                have hD : va_D A [(a41, .inr (1, [.int (0), .ref (g 21), .int (0)])), (a42, .inr (1, [.int (0), .ref (g 21), .int (0)])), (a2, .inr (15, [.int (2), .int (0), .int (100), .int (0), .int (0), .ref a34, .ref a35, .ref a36, .ref a37, .ref a38, .ref a39, .ref a40, .ref a41, .ref a42, .ref a43, .ref a44, .null, .int (-1), .ref a45, .long (0)]))] := hD
                refine W.widen (k := 244) (n := 2777) (Nat.le_of_ble_eq_true rfl) (Nat.le_of_ble_eq_true rfl) ?_
                refine W.eq (g2 := F0 m 799 ls [.int (32)]) rfl ?_
                refine lv_istore (lv' := [(7, .int (32)), (6, .int (2)), (5, .int (0)), (4, .ref a0), (3, .ref a1), (2, .ref a2), (1, .ref a3), (0, .ref b)]) hx hb dL_law_799 hl (by decide) rfl (fun ls hl => ?_)
                refine lv_aload_n hx hb dL_law_801 rfl (lv_at hl 5 rfl) ?_
                have hX : nCx p s m _ c code 9 "MinestrataLaw" dC dI g A [(a41, .inr (1, [.int (0), .ref (g 21), .int (0)])), (a42, .inr (1, [.int (0), .ref (g 21), .int (0)])), (a2, .inr (15, [.int (2), .int (0), .int (100), .int (0), .int (0), .ref a34, .ref a35, .ref a36, .ref a37, .ref a38, .ref a39, .ref a40, .ref a41, .ref a42, .ref a43, .ref a44, .null, .int (-1), .ref a45, .long (0)]))] _ _ := ⟨⟨hx, hb, hml, hown, hts⟩, hE, hS, hA, hP, hD⟩
                refine n_call (wr := [(a41, .inr (1, [.int (0), .ref (g 21), .int (0)])), (a42, .inr (1, [.int (0), .ref (g 21), .int (0)]))]) hX (n_runV (n := 0) (wc := [(a2, .inr (15, [.int (2), .int (0), .int (100), .int (0), .int (0), .ref a34, .ref a35, .ref a36, .ref a37, .ref a38, .ref a39, .ref a40, .ref a41, .ref a42, .ref a43, .ref a44, .null, .int (-1), .ref a45, .long (0)]))]) (As := []) (rest := []) hX (m108 l hst dC dI g a2 a34 a35 a36 a37 a38 a39 a40 a41 a42 a43 a44 a45 _) [2] rfl (by decide +kernel) 2 (ci := 15) rfl (T := TX16) (N := 20) (C := "MinestrataModel") rfl q1495 q1496 q1497 q82 q1498 (by decide +kernel) ⟨(Nat.le_of_ble_eq_true rfl), (Nat.le_of_ble_eq_true rfl)⟩ ⟨(Nat.le_of_ble_eq_true rfl), (Nat.le_of_ble_eq_true rfl)⟩ hl.1 rfl rfl (Nat.le_of_ble_eq_true rfl) dL_law_802) [2] [0, 1] rfl rfl (by decide +kernel) (by decide +kernel) (fun f104 r105 H locs hP hD hS => ?_)
                have hP : va_P (dC, dI) CL [(a41, .inr (1, [.int (0), .ref (g 21), .int (0)])), (a42, .inr (1, [.int (0), .ref (g 21), .int (0)])), (a2, .inr (15, [.int (2), .int (0), .int (100), .int (0), .int (0), .ref a34, .ref a35, .ref a36, .ref a37, .ref a38, .ref a39, .ref a40, .ref a41, .ref a42, .ref a43, .ref a44, .null, .int (-1), .ref a45, .long (0)]))] _ := hP
                have hD : va_D A [(a41, .inr (1, [.int (0), .ref (g 21), .int (0)])), (a42, .inr (1, [.int (0), .ref (g 21), .int (0)])), (a2, .inr (15, [.int (2), .int (0), .int (100), .int (0), .int (0), .ref a34, .ref a35, .ref a36, .ref a37, .ref a38, .ref a39, .ref a40, .ref a41, .ref a42, .ref a43, .ref a44, .null, .int (-1), .ref a45, .long (0)]))] := hD
                refine W.widen (k := 244) (n := 2777) (Nat.le_of_ble_eq_true rfl) (Nat.le_of_ble_eq_true rfl) ?_
                refine W.eq (g2 := F0 m 805 ls [.int (2)]) rfl ?_
                refine lv_iload hx hb dL_law_805 (lv_at hl 1 rfl) ?_
                refine lv_icmp_eq (tgt := 812) hx hb dL_law_807 (by decide +kernel) (fun _ => ?_) (fun h => absurd (by decide +kernel) h)
                refine lv_iload hx hb dL_law_812 (lv_at hl 1 rfl) ?_
                refine lv_if_ne (tgt := 829) hx hb dL_law_814 (by decide +kernel) (fun _ => ?_) (fun h => absurd h (by decide +kernel))
                refine lv_goto (tgt := 2278) hx hb dL_law_829 (by decide +kernel) ?_
                refine lv_iinc (v := (5)) (lv' := [(5, .int (5)), (7, .int (32)), (6, .int (2)), (4, .ref a0), (3, .ref a1), (2, .ref a2), (1, .ref a3), (0, .ref b)]) hx hb dL_law_2278 hl (k := 2) rfl (by decide +kernel) (by decide) rfl (fun ls hl => ?_)
                refine lv_goto (tgt := 28) hx hb dL_law_2281 (by decide +kernel) ?_
                refine lv_iload hx hb dL_law_28 (lv_at hl 0 rfl) ?_
                refine lv_aload_n hx hb dL_law_30 rfl (lv_at hl 7 rfl) ?_
                refine va_slen hx hb hXs hbl hbA hS dL_law_31 ?_
                refine nt_i (v := (5)) (by decide +kernel) ?_
                refine lv_iconst (v := (5)) hx hb dL_law_32 (by decide +kernel) ?_
                refine lv_isub hx hb dL_law_33 ?_
                refine nt_i (v := (0)) (by decide +kernel) ?_
                refine lv_icmp_gt (tgt := 2284) hx hb dL_law_34 (by decide +kernel) (fun _ => ?_) (fun h => absurd (by decide +kernel) h)
                refine lv_iconst (v := (1)) hx hb dL_law_2284 (by decide +kernel) ?_
                refine va_forget (fun q9 hq9 => by have h9 := hS.2.2 q9 hq9; rw [← hAe] at h9; exact h9) ?_
                refine W.widen (k := 600006) (n := 7302056) (Nat.le_of_ble_eq_true rfl) (Nat.le_of_ble_eq_true rfl) ?_
                refine W.base ?_
                exact lw_ret (Drawn.sameBut.refl s.drawn lw_cs) hx hb hr hlk dL_law_2285
          · skip
            by_cases h106 : k1 = (99)
            · skip
              subst h106
              have hX : nCx p s m _ c code 9 "MinestrataLaw" dC dI g A [(a3, .inr (12, [.ref a4, .ref a5, .ref a6, .ref a7, .ref a8, .ref a9, .ref a10, .ref a11, .null, .ref a12, .ref a13, .int (0), .int (100), .int (0), .int (0), .int (-1), .long (0), .int (1)])), (a4, .inr (8, [.int (0), .ref a14, .ref a15, .ref a16, .ref a17, .int (0), .ref a18, .ref a19, .ref a20, .ref a21, .ref a22, .ref a23, .ref a24])), (a6, .inr (11, [.int (0), .ref a25, .ref a26, .ref a27, .ref a28, .ref a29, .ref a30, .ref a31, .ref a32, .ref a33])), (a2, .inr (15, [.int (0), .int (0), .int (100), .int (0), .int (0), .ref a34, .ref a35, .ref a36, .ref a37, .ref a38, .ref a39, .ref a40, .ref a41, .ref a42, .ref a43, .ref a44, .null, .int (-1), .ref a45, .long (0)])), (a41, .inr (1, [.int (0), .ref (g 21), .int (0)])), (a42, .inr (1, [.int (0), .ref (g 21), .int (0)]))] _ _ := ⟨⟨hx, hb, hml, hown, hts⟩, hE, hS, hA, hP, hD⟩
              refine n_call (wr := [(a2, .inr (15, [.int (0), .int (0), .int (100), .int (0), .int (0), .ref a34, .ref a35, .ref a36, .ref a37, .ref a38, .ref a39, .ref a40, .ref a41, .ref a42, .ref a43, .ref a44, .null, .int (-1), .ref a45, .long (0)])), (a41, .inr (1, [.int (0), .ref (g 21), .int (0)])), (a42, .inr (1, [.int (0), .ref (g 21), .int (0)]))]) hX (n_runSW (n := 5) (wc := [(a3, .inr (12, [.ref a4, .ref a5, .ref a6, .ref a7, .ref a8, .ref a9, .ref a10, .ref a11, .null, .ref a12, .ref a13, .int (0), .int (100), .int (0), .int (0), .int (-1), .long (0), .int (1)])), (a4, .inr (8, [.int (0), .ref a14, .ref a15, .ref a16, .ref a17, .int (0), .ref a18, .ref a19, .ref a20, .ref a21, .ref a22, .ref a23, .ref a24])), (a6, .inr (11, [.int (0), .ref a25, .ref a26, .ref a27, .ref a28, .ref a29, .ref a30, .ref a31, .ref a32, .ref a33]))]) (As := [.ref a3, .int (99), .int s2, .int s3, .ref a1]) (rest := []) hX (m195 l hst dC dI g a3 a1 a4 a5 a6 a7 a8 a9 a10 a11 a12 a13 a14 a15 a16 a17 a18 a19 a20 a21 a22 a23 a24 a25 a26 a27 a28 a29 a30 a31 a32 a33 s2 s3 _) [0, 1, 2] rfl (by decide +kernel) q1038 q1039 q70 q1040 (by decide +kernel) ⟨(Nat.le_of_ble_eq_true rfl), (Nat.le_of_ble_eq_true rfl)⟩ ⟨(Nat.le_of_ble_eq_true rfl), (Nat.le_of_ble_eq_true rfl)⟩ hl.1 rfl rfl (Nat.le_of_ble_eq_true rfl) dL_law_771) [0, 1, 2] [3, 4, 5] rfl rfl (by decide +kernel) (by decide +kernel) (fun f107 r108 H locs hP hD hS => ?_)
              have hP : va_P (dC, dI) CL [(a2, .inr (15, [.int (0), .int (0), .int (100), .int (0), .int (0), .ref a34, .ref a35, .ref a36, .ref a37, .ref a38, .ref a39, .ref a40, .ref a41, .ref a42, .ref a43, .ref a44, .null, .int (-1), .ref a45, .long (0)])), (a41, .inr (1, [.int (0), .ref (g 21), .int (0)])), (a42, .inr (1, [.int (0), .ref (g 21), .int (0)]))] _ := hP
              have hD : va_D A [(a2, .inr (15, [.int (0), .int (0), .int (100), .int (0), .int (0), .ref a34, .ref a35, .ref a36, .ref a37, .ref a38, .ref a39, .ref a40, .ref a41, .ref a42, .ref a43, .ref a44, .null, .int (-1), .ref a45, .long (0)])), (a41, .inr (1, [.int (0), .ref (g 21), .int (0)])), (a42, .inr (1, [.int (0), .ref (g 21), .int (0)]))] := hD
              refine W.widen (k := 244) (n := 2777) (Nat.le_of_ble_eq_true rfl) (Nat.le_of_ble_eq_true rfl) ?_
              refine W.eq (g2 := F0 m 774 ls [.int (2)]) rfl ?_
              refine lv_istore (lv' := [(6, .int (2)), (5, .int (0)), (4, .ref a0), (3, .ref a1), (2, .ref a2), (1, .ref a3), (0, .ref b)]) hx hb dL_law_774 hl (by decide) rfl (fun ls hl => ?_)
              refine lv_aload_n hx hb dL_law_776 rfl (lv_at hl 4 rfl) ?_
              refine lv_aload_n hx hb dL_law_777 rfl (lv_at hl 6 rfl) ?_
              refine lv_iload hx hb dL_law_778 (lv_at hl 1 rfl) ?_
              refine lv_iconst (v := (1)) hx hb dL_law_780 (by decide +kernel) ?_
              refine lv_iadd hx hb dL_law_781 ?_
              refine nt_i (v := (1)) (by decide +kernel) ?_
              refine va_sld hx hb hXs hbl hbA hS (show ¬ ((1 : Int32) < 0 ∨ 5 ≤ Int32.toNatClampNeg (1)) by decide +kernel) dL_law_782 ?_
              refine nt_i (v := s1) es1 ?_
              refine lv_i2c (v := (99)) hx hb dL_law_783 ek1.symm ?_
              refine lv_aload_n hx hb dL_law_784 rfl (lv_at hl 6 rfl) ?_
              refine lv_iload hx hb dL_law_785 (lv_at hl 1 rfl) ?_
              refine lv_iconst (v := (2)) hx hb dL_law_787 (by decide +kernel) ?_
              refine lv_iadd hx hb dL_law_788 ?_
              refine nt_i (v := (2)) (by decide +kernel) ?_
              refine va_sld hx hb hXs hbl hbA hS (show ¬ ((2 : Int32) < 0 ∨ 5 ≤ Int32.toNatClampNeg (2)) by decide +kernel) dL_law_789 ?_
              refine nt_i (v := s2) es2 ?_
              refine lv_aload_n hx hb dL_law_790 rfl (lv_at hl 6 rfl) ?_
              refine lv_iload hx hb dL_law_791 (lv_at hl 1 rfl) ?_
              refine lv_iconst (v := (3)) hx hb dL_law_793 (by decide +kernel) ?_
              refine lv_iadd hx hb dL_law_794 ?_
              refine nt_i (v := (3)) (by decide +kernel) ?_
              refine va_sld hx hb hXs hbl hbA hS (show ¬ ((3 : Int32) < 0 ∨ 5 ≤ Int32.toNatClampNeg (3)) by decide +kernel) dL_law_795 ?_
              refine nt_i (v := s3) es3 ?_
              have hX : nCx p s m _ c code 9 "MinestrataLaw" dC dI g A [(a2, .inr (15, [.int (0), .int (0), .int (100), .int (0), .int (0), .ref a34, .ref a35, .ref a36, .ref a37, .ref a38, .ref a39, .ref a40, .ref a41, .ref a42, .ref a43, .ref a44, .null, .int (-1), .ref a45, .long (0)])), (a41, .inr (1, [.int (0), .ref (g 21), .int (0)])), (a42, .inr (1, [.int (0), .ref (g 21), .int (0)]))] _ _ := ⟨⟨hx, hb, hml, hown, hts⟩, hE, hS, hA, hP, hD⟩
              refine n_call (wr := [(a41, .inr (1, [.int (0), .ref (g 21), .int (0)]))]) hX (n_runV (n := 3) (wc := [(a2, .inr (15, [.int (0), .int (0), .int (100), .int (0), .int (0), .ref a34, .ref a35, .ref a36, .ref a37, .ref a38, .ref a39, .ref a40, .ref a41, .ref a42, .ref a43, .ref a44, .null, .int (-1), .ref a45, .long (0)])), (a42, .inr (1, [.int (0), .ref (g 21), .int (0)]))]) (As := [.int (99), .int s2, .int s3]) (rest := []) hX (m199 l hst dC dI g a2 a34 a35 a36 a37 a38 a39 a40 a41 a42 a43 a44 a45 s2 s3 _) [0, 2] rfl (by decide +kernel) 0 (ci := 15) rfl (T := TX16) (N := 20) (C := "MinestrataModel") rfl q2103 q2104 q2105 q82 q2106 (by decide +kernel) ⟨(Nat.le_of_ble_eq_true rfl), (Nat.le_of_ble_eq_true rfl)⟩ ⟨(Nat.le_of_ble_eq_true rfl), (Nat.le_of_ble_eq_true rfl)⟩ hl.1 rfl rfl (Nat.le_of_ble_eq_true rfl) dL_law_796) [0, 2] [1] rfl rfl (by decide +kernel) (by decide +kernel) (fun f109 r110 H locs hP hD hS => ?_)
              have hP : va_P (dC, dI) CL [(a41, .inr (1, [.int (0), .ref (g 21), .int (0)])), (a2, .inr (15, [.int (2), .int (0), .int (100), .int (0), .int (0), .ref a34, .ref a35, .ref a36, .ref a37, .ref a38, .ref a39, .ref a40, .ref a41, .ref a42, .ref a43, .ref a44, .null, .int (-1), .ref a45, .long (0)])), (a42, .inr (1, [.int (0), .ref (g 21), .int (0)]))] _ := hP
              have hD : va_D A [(a41, .inr (1, [.int (0), .ref (g 21), .int (0)])), (a2, .inr (15, [.int (2), .int (0), .int (100), .int (0), .int (0), .ref a34, .ref a35, .ref a36, .ref a37, .ref a38, .ref a39, .ref a40, .ref a41, .ref a42, .ref a43, .ref a44, .null, .int (-1), .ref a45, .long (0)])), (a42, .inr (1, [.int (0), .ref (g 21), .int (0)]))] := hD
              refine W.widen (k := 244) (n := 2777) (Nat.le_of_ble_eq_true rfl) (Nat.le_of_ble_eq_true rfl) ?_
              refine W.eq (g2 := F0 m 799 ls [.int (32)]) rfl ?_
              refine lv_istore (lv' := [(7, .int (32)), (6, .int (2)), (5, .int (0)), (4, .ref a0), (3, .ref a1), (2, .ref a2), (1, .ref a3), (0, .ref b)]) hx hb dL_law_799 hl (by decide) rfl (fun ls hl => ?_)
              refine lv_aload_n hx hb dL_law_801 rfl (lv_at hl 5 rfl) ?_
              have hX : nCx p s m _ c code 9 "MinestrataLaw" dC dI g A [(a41, .inr (1, [.int (0), .ref (g 21), .int (0)])), (a2, .inr (15, [.int (2), .int (0), .int (100), .int (0), .int (0), .ref a34, .ref a35, .ref a36, .ref a37, .ref a38, .ref a39, .ref a40, .ref a41, .ref a42, .ref a43, .ref a44, .null, .int (-1), .ref a45, .long (0)])), (a42, .inr (1, [.int (0), .ref (g 21), .int (0)]))] _ _ := ⟨⟨hx, hb, hml, hown, hts⟩, hE, hS, hA, hP, hD⟩
              refine n_call (wr := [(a41, .inr (1, [.int (0), .ref (g 21), .int (0)])), (a42, .inr (1, [.int (0), .ref (g 21), .int (0)]))]) hX (n_runV (n := 0) (wc := [(a2, .inr (15, [.int (2), .int (0), .int (100), .int (0), .int (0), .ref a34, .ref a35, .ref a36, .ref a37, .ref a38, .ref a39, .ref a40, .ref a41, .ref a42, .ref a43, .ref a44, .null, .int (-1), .ref a45, .long (0)]))]) (As := []) (rest := []) hX (m108 l hst dC dI g a2 a34 a35 a36 a37 a38 a39 a40 a41 a42 a43 a44 a45 _) [1] rfl (by decide +kernel) 1 (ci := 15) rfl (T := TX16) (N := 20) (C := "MinestrataModel") rfl q1495 q1496 q1497 q82 q1498 (by decide +kernel) ⟨(Nat.le_of_ble_eq_true rfl), (Nat.le_of_ble_eq_true rfl)⟩ ⟨(Nat.le_of_ble_eq_true rfl), (Nat.le_of_ble_eq_true rfl)⟩ hl.1 rfl rfl (Nat.le_of_ble_eq_true rfl) dL_law_802) [1] [0, 2] rfl rfl (by decide +kernel) (by decide +kernel) (fun f111 r112 H locs hP hD hS => ?_)
              have hP : va_P (dC, dI) CL [(a41, .inr (1, [.int (0), .ref (g 21), .int (0)])), (a42, .inr (1, [.int (0), .ref (g 21), .int (0)])), (a2, .inr (15, [.int (2), .int (0), .int (100), .int (0), .int (0), .ref a34, .ref a35, .ref a36, .ref a37, .ref a38, .ref a39, .ref a40, .ref a41, .ref a42, .ref a43, .ref a44, .null, .int (-1), .ref a45, .long (0)]))] _ := hP
              have hD : va_D A [(a41, .inr (1, [.int (0), .ref (g 21), .int (0)])), (a42, .inr (1, [.int (0), .ref (g 21), .int (0)])), (a2, .inr (15, [.int (2), .int (0), .int (100), .int (0), .int (0), .ref a34, .ref a35, .ref a36, .ref a37, .ref a38, .ref a39, .ref a40, .ref a41, .ref a42, .ref a43, .ref a44, .null, .int (-1), .ref a45, .long (0)]))] := hD
              refine W.widen (k := 244) (n := 2777) (Nat.le_of_ble_eq_true rfl) (Nat.le_of_ble_eq_true rfl) ?_
              refine W.eq (g2 := F0 m 805 ls [.int (2)]) rfl ?_
              refine lv_iload hx hb dL_law_805 (lv_at hl 1 rfl) ?_
              refine lv_icmp_eq (tgt := 812) hx hb dL_law_807 (by decide +kernel) (fun _ => ?_) (fun h => absurd (by decide +kernel) h)
              refine lv_iload hx hb dL_law_812 (lv_at hl 1 rfl) ?_
              refine lv_if_ne (tgt := 829) hx hb dL_law_814 (by decide +kernel) (fun _ => ?_) (fun h => absurd h (by decide +kernel))
              refine lv_goto (tgt := 2278) hx hb dL_law_829 (by decide +kernel) ?_
              refine lv_iinc (v := (5)) (lv' := [(5, .int (5)), (7, .int (32)), (6, .int (2)), (4, .ref a0), (3, .ref a1), (2, .ref a2), (1, .ref a3), (0, .ref b)]) hx hb dL_law_2278 hl (k := 2) rfl (by decide +kernel) (by decide) rfl (fun ls hl => ?_)
              refine lv_goto (tgt := 28) hx hb dL_law_2281 (by decide +kernel) ?_
              refine lv_iload hx hb dL_law_28 (lv_at hl 0 rfl) ?_
              refine lv_aload_n hx hb dL_law_30 rfl (lv_at hl 7 rfl) ?_
              refine va_slen hx hb hXs hbl hbA hS dL_law_31 ?_
              refine nt_i (v := (5)) (by decide +kernel) ?_
              refine lv_iconst (v := (5)) hx hb dL_law_32 (by decide +kernel) ?_
              refine lv_isub hx hb dL_law_33 ?_
              refine nt_i (v := (0)) (by decide +kernel) ?_
              refine lv_icmp_gt (tgt := 2284) hx hb dL_law_34 (by decide +kernel) (fun _ => ?_) (fun h => absurd (by decide +kernel) h)
              refine lv_iconst (v := (1)) hx hb dL_law_2284 (by decide +kernel) ?_
              refine va_forget (fun q9 hq9 => by have h9 := hS.2.2 q9 hq9; rw [← hAe] at h9; exact h9) ?_
              refine W.widen (k := 600006) (n := 7302056) (Nat.le_of_ble_eq_true rfl) (Nat.le_of_ble_eq_true rfl) ?_
              refine W.base ?_
              exact lw_ret (Drawn.sameBut.refl s.drawn lw_cs) hx hb hr hlk dL_law_2285
            · skip
              by_cases h113 : k1 = (111)
              · skip
                subst h113
                by_cases h114 : s3 < (1)
                · skip
                  have hX : nCx p s m _ c code 9 "MinestrataLaw" dC dI g A [(a3, .inr (12, [.ref a4, .ref a5, .ref a6, .ref a7, .ref a8, .ref a9, .ref a10, .ref a11, .null, .ref a12, .ref a13, .int (0), .int (100), .int (0), .int (0), .int (-1), .long (0), .int (1)])), (a4, .inr (8, [.int (0), .ref a14, .ref a15, .ref a16, .ref a17, .int (0), .ref a18, .ref a19, .ref a20, .ref a21, .ref a22, .ref a23, .ref a24])), (a6, .inr (11, [.int (0), .ref a25, .ref a26, .ref a27, .ref a28, .ref a29, .ref a30, .ref a31, .ref a32, .ref a33])), (a2, .inr (15, [.int (0), .int (0), .int (100), .int (0), .int (0), .ref a34, .ref a35, .ref a36, .ref a37, .ref a38, .ref a39, .ref a40, .ref a41, .ref a42, .ref a43, .ref a44, .null, .int (-1), .ref a45, .long (0)])), (a41, .inr (1, [.int (0), .ref (g 21), .int (0)])), (a42, .inr (1, [.int (0), .ref (g 21), .int (0)]))] _ _ := ⟨⟨hx, hb, hml, hown, hts⟩, hE, hS, hA, hP, hD⟩
                  refine n_call (wr := [(a2, .inr (15, [.int (0), .int (0), .int (100), .int (0), .int (0), .ref a34, .ref a35, .ref a36, .ref a37, .ref a38, .ref a39, .ref a40, .ref a41, .ref a42, .ref a43, .ref a44, .null, .int (-1), .ref a45, .long (0)])), (a41, .inr (1, [.int (0), .ref (g 21), .int (0)])), (a42, .inr (1, [.int (0), .ref (g 21), .int (0)]))]) hX (n_runSW (n := 5) (wc := [(a3, .inr (12, [.ref a4, .ref a5, .ref a6, .ref a7, .ref a8, .ref a9, .ref a10, .ref a11, .null, .ref a12, .ref a13, .int (0), .int (100), .int (0), .int (0), .int (-1), .long (0), .int (1)])), (a4, .inr (8, [.int (0), .ref a14, .ref a15, .ref a16, .ref a17, .int (0), .ref a18, .ref a19, .ref a20, .ref a21, .ref a22, .ref a23, .ref a24])), (a6, .inr (11, [.int (0), .ref a25, .ref a26, .ref a27, .ref a28, .ref a29, .ref a30, .ref a31, .ref a32, .ref a33]))]) (As := [.ref a3, .int (111), .int s2, .int s3, .ref a1]) (rest := []) hX (m203 l hst dC dI g a3 a1 a4 a5 a6 a7 a8 a9 a10 a11 a12 a13 a14 a15 a16 a17 a18 a19 a20 a21 a22 a23 a24 a25 a26 a27 a28 a29 a30 a31 a32 a33 s2 s3 h114 _) [0, 1, 2] rfl (by decide +kernel) q1038 q1039 q70 q1040 (by decide +kernel) ⟨(Nat.le_of_ble_eq_true rfl), (Nat.le_of_ble_eq_true rfl)⟩ ⟨(Nat.le_of_ble_eq_true rfl), (Nat.le_of_ble_eq_true rfl)⟩ hl.1 rfl rfl (Nat.le_of_ble_eq_true rfl) dL_law_771) [0, 1, 2] [3, 4, 5] rfl rfl (by decide +kernel) (by decide +kernel) (fun f115 r116 H locs hP hD hS => ?_)
                  have hP : va_P (dC, dI) CL [(a2, .inr (15, [.int (0), .int (0), .int (100), .int (0), .int (0), .ref a34, .ref a35, .ref a36, .ref a37, .ref a38, .ref a39, .ref a40, .ref a41, .ref a42, .ref a43, .ref a44, .null, .int (-1), .ref a45, .long (0)])), (a41, .inr (1, [.int (0), .ref (g 21), .int (0)])), (a42, .inr (1, [.int (0), .ref (g 21), .int (0)]))] _ := hP
                  have hD : va_D A [(a2, .inr (15, [.int (0), .int (0), .int (100), .int (0), .int (0), .ref a34, .ref a35, .ref a36, .ref a37, .ref a38, .ref a39, .ref a40, .ref a41, .ref a42, .ref a43, .ref a44, .null, .int (-1), .ref a45, .long (0)])), (a41, .inr (1, [.int (0), .ref (g 21), .int (0)])), (a42, .inr (1, [.int (0), .ref (g 21), .int (0)]))] := hD
                  refine W.widen (k := 244) (n := 2777) (Nat.le_of_ble_eq_true rfl) (Nat.le_of_ble_eq_true rfl) ?_
                  refine W.eq (g2 := F0 m 774 ls [.int (1)]) rfl ?_
                  refine lv_istore (lv' := [(6, .int (1)), (5, .int (0)), (4, .ref a0), (3, .ref a1), (2, .ref a2), (1, .ref a3), (0, .ref b)]) hx hb dL_law_774 hl (by decide) rfl (fun ls hl => ?_)
                  refine lv_aload_n hx hb dL_law_776 rfl (lv_at hl 4 rfl) ?_
                  refine lv_aload_n hx hb dL_law_777 rfl (lv_at hl 6 rfl) ?_
                  refine lv_iload hx hb dL_law_778 (lv_at hl 1 rfl) ?_
                  refine lv_iconst (v := (1)) hx hb dL_law_780 (by decide +kernel) ?_
                  refine lv_iadd hx hb dL_law_781 ?_
                  refine nt_i (v := (1)) (by decide +kernel) ?_
                  refine va_sld hx hb hXs hbl hbA hS (show ¬ ((1 : Int32) < 0 ∨ 5 ≤ Int32.toNatClampNeg (1)) by decide +kernel) dL_law_782 ?_
                  refine nt_i (v := s1) es1 ?_
                  refine lv_i2c (v := (111)) hx hb dL_law_783 ek1.symm ?_
                  refine lv_aload_n hx hb dL_law_784 rfl (lv_at hl 6 rfl) ?_
                  refine lv_iload hx hb dL_law_785 (lv_at hl 1 rfl) ?_
                  refine lv_iconst (v := (2)) hx hb dL_law_787 (by decide +kernel) ?_
                  refine lv_iadd hx hb dL_law_788 ?_
                  refine nt_i (v := (2)) (by decide +kernel) ?_
                  refine va_sld hx hb hXs hbl hbA hS (show ¬ ((2 : Int32) < 0 ∨ 5 ≤ Int32.toNatClampNeg (2)) by decide +kernel) dL_law_789 ?_
                  refine nt_i (v := s2) es2 ?_
                  refine lv_aload_n hx hb dL_law_790 rfl (lv_at hl 6 rfl) ?_
                  refine lv_iload hx hb dL_law_791 (lv_at hl 1 rfl) ?_
                  refine lv_iconst (v := (3)) hx hb dL_law_793 (by decide +kernel) ?_
                  refine lv_iadd hx hb dL_law_794 ?_
                  refine nt_i (v := (3)) (by decide +kernel) ?_
                  refine va_sld hx hb hXs hbl hbA hS (show ¬ ((3 : Int32) < 0 ∨ 5 ≤ Int32.toNatClampNeg (3)) by decide +kernel) dL_law_795 ?_
                  refine nt_i (v := s3) es3 ?_
                  have hX : nCx p s m _ c code 9 "MinestrataLaw" dC dI g A [(a2, .inr (15, [.int (0), .int (0), .int (100), .int (0), .int (0), .ref a34, .ref a35, .ref a36, .ref a37, .ref a38, .ref a39, .ref a40, .ref a41, .ref a42, .ref a43, .ref a44, .null, .int (-1), .ref a45, .long (0)])), (a41, .inr (1, [.int (0), .ref (g 21), .int (0)])), (a42, .inr (1, [.int (0), .ref (g 21), .int (0)]))] _ _ := ⟨⟨hx, hb, hml, hown, hts⟩, hE, hS, hA, hP, hD⟩
                  refine n_call (wr := [(a41, .inr (1, [.int (0), .ref (g 21), .int (0)])), (a42, .inr (1, [.int (0), .ref (g 21), .int (0)]))]) hX (n_runV (n := 3) (wc := [(a2, .inr (15, [.int (0), .int (0), .int (100), .int (0), .int (0), .ref a34, .ref a35, .ref a36, .ref a37, .ref a38, .ref a39, .ref a40, .ref a41, .ref a42, .ref a43, .ref a44, .null, .int (-1), .ref a45, .long (0)]))]) (As := [.int (111), .int s2, .int s3]) (rest := []) hX (m206 l hst dC dI g a2 a34 a35 a36 a37 a38 a39 a40 a41 a42 a43 a44 a45 s2 s3 h114 _) [0] rfl (by decide +kernel) 0 (ci := 15) rfl (T := TX16) (N := 20) (C := "MinestrataModel") rfl q2103 q2104 q2105 q82 q2106 (by decide +kernel) ⟨(Nat.le_of_ble_eq_true rfl), (Nat.le_of_ble_eq_true rfl)⟩ ⟨(Nat.le_of_ble_eq_true rfl), (Nat.le_of_ble_eq_true rfl)⟩ hl.1 rfl rfl (Nat.le_of_ble_eq_true rfl) dL_law_796) [0] [1, 2] rfl rfl (by decide +kernel) (by decide +kernel) (fun f117 r118 H locs hP hD hS => ?_)
                  have hP : va_P (dC, dI) CL [(a41, .inr (1, [.int (0), .ref (g 21), .int (0)])), (a42, .inr (1, [.int (0), .ref (g 21), .int (0)])), (a2, .inr (15, [.int (1), .int (0), .int (100), .int (0), .int (0), .ref a34, .ref a35, .ref a36, .ref a37, .ref a38, .ref a39, .ref a40, .ref a41, .ref a42, .ref a43, .ref a44, .null, .int (-1), .ref a45, .long (0)]))] _ := hP
                  have hD : va_D A [(a41, .inr (1, [.int (0), .ref (g 21), .int (0)])), (a42, .inr (1, [.int (0), .ref (g 21), .int (0)])), (a2, .inr (15, [.int (1), .int (0), .int (100), .int (0), .int (0), .ref a34, .ref a35, .ref a36, .ref a37, .ref a38, .ref a39, .ref a40, .ref a41, .ref a42, .ref a43, .ref a44, .null, .int (-1), .ref a45, .long (0)]))] := hD
                  refine W.widen (k := 244) (n := 2777) (Nat.le_of_ble_eq_true rfl) (Nat.le_of_ble_eq_true rfl) ?_
                  refine W.eq (g2 := F0 m 799 ls [.int (32)]) rfl ?_
                  refine lv_istore (lv' := [(7, .int (32)), (6, .int (1)), (5, .int (0)), (4, .ref a0), (3, .ref a1), (2, .ref a2), (1, .ref a3), (0, .ref b)]) hx hb dL_law_799 hl (by decide) rfl (fun ls hl => ?_)
                  refine lv_aload_n hx hb dL_law_801 rfl (lv_at hl 5 rfl) ?_
                  have hX : nCx p s m _ c code 9 "MinestrataLaw" dC dI g A [(a41, .inr (1, [.int (0), .ref (g 21), .int (0)])), (a42, .inr (1, [.int (0), .ref (g 21), .int (0)])), (a2, .inr (15, [.int (1), .int (0), .int (100), .int (0), .int (0), .ref a34, .ref a35, .ref a36, .ref a37, .ref a38, .ref a39, .ref a40, .ref a41, .ref a42, .ref a43, .ref a44, .null, .int (-1), .ref a45, .long (0)]))] _ _ := ⟨⟨hx, hb, hml, hown, hts⟩, hE, hS, hA, hP, hD⟩
                  refine n_call (wr := [(a41, .inr (1, [.int (0), .ref (g 21), .int (0)])), (a42, .inr (1, [.int (0), .ref (g 21), .int (0)]))]) hX (n_runV (n := 0) (wc := [(a2, .inr (15, [.int (1), .int (0), .int (100), .int (0), .int (0), .ref a34, .ref a35, .ref a36, .ref a37, .ref a38, .ref a39, .ref a40, .ref a41, .ref a42, .ref a43, .ref a44, .null, .int (-1), .ref a45, .long (0)]))]) (As := []) (rest := []) hX (m33 l hst dC dI g a2 a34 a35 a36 a37 a38 a39 a40 a41 a42 a43 a44 a45 _) [2] rfl (by decide +kernel) 2 (ci := 15) rfl (T := TX16) (N := 20) (C := "MinestrataModel") rfl q1495 q1496 q1497 q82 q1498 (by decide +kernel) ⟨(Nat.le_of_ble_eq_true rfl), (Nat.le_of_ble_eq_true rfl)⟩ ⟨(Nat.le_of_ble_eq_true rfl), (Nat.le_of_ble_eq_true rfl)⟩ hl.1 rfl rfl (Nat.le_of_ble_eq_true rfl) dL_law_802) [2] [0, 1] rfl rfl (by decide +kernel) (by decide +kernel) (fun f119 r120 H locs hP hD hS => ?_)
                  have hP : va_P (dC, dI) CL [(a41, .inr (1, [.int (0), .ref (g 21), .int (0)])), (a42, .inr (1, [.int (0), .ref (g 21), .int (0)])), (a2, .inr (15, [.int (1), .int (0), .int (100), .int (0), .int (0), .ref a34, .ref a35, .ref a36, .ref a37, .ref a38, .ref a39, .ref a40, .ref a41, .ref a42, .ref a43, .ref a44, .null, .int (-1), .ref a45, .long (0)]))] _ := hP
                  have hD : va_D A [(a41, .inr (1, [.int (0), .ref (g 21), .int (0)])), (a42, .inr (1, [.int (0), .ref (g 21), .int (0)])), (a2, .inr (15, [.int (1), .int (0), .int (100), .int (0), .int (0), .ref a34, .ref a35, .ref a36, .ref a37, .ref a38, .ref a39, .ref a40, .ref a41, .ref a42, .ref a43, .ref a44, .null, .int (-1), .ref a45, .long (0)]))] := hD
                  refine W.widen (k := 244) (n := 2777) (Nat.le_of_ble_eq_true rfl) (Nat.le_of_ble_eq_true rfl) ?_
                  refine W.eq (g2 := F0 m 805 ls [.int (1)]) rfl ?_
                  refine lv_iload hx hb dL_law_805 (lv_at hl 1 rfl) ?_
                  refine lv_icmp_eq (tgt := 812) hx hb dL_law_807 (by decide +kernel) (fun _ => ?_) (fun h => absurd (by decide +kernel) h)
                  refine lv_iload hx hb dL_law_812 (lv_at hl 1 rfl) ?_
                  refine lv_if_ne (tgt := 829) hx hb dL_law_814 (by decide +kernel) (fun _ => ?_) (fun h => absurd h (by decide +kernel))
                  refine lv_goto (tgt := 2278) hx hb dL_law_829 (by decide +kernel) ?_
                  refine lv_iinc (v := (5)) (lv' := [(5, .int (5)), (7, .int (32)), (6, .int (1)), (4, .ref a0), (3, .ref a1), (2, .ref a2), (1, .ref a3), (0, .ref b)]) hx hb dL_law_2278 hl (k := 2) rfl (by decide +kernel) (by decide) rfl (fun ls hl => ?_)
                  refine lv_goto (tgt := 28) hx hb dL_law_2281 (by decide +kernel) ?_
                  refine lv_iload hx hb dL_law_28 (lv_at hl 0 rfl) ?_
                  refine lv_aload_n hx hb dL_law_30 rfl (lv_at hl 7 rfl) ?_
                  refine va_slen hx hb hXs hbl hbA hS dL_law_31 ?_
                  refine nt_i (v := (5)) (by decide +kernel) ?_
                  refine lv_iconst (v := (5)) hx hb dL_law_32 (by decide +kernel) ?_
                  refine lv_isub hx hb dL_law_33 ?_
                  refine nt_i (v := (0)) (by decide +kernel) ?_
                  refine lv_icmp_gt (tgt := 2284) hx hb dL_law_34 (by decide +kernel) (fun _ => ?_) (fun h => absurd (by decide +kernel) h)
                  refine lv_iconst (v := (1)) hx hb dL_law_2284 (by decide +kernel) ?_
                  refine va_forget (fun q9 hq9 => by have h9 := hS.2.2 q9 hq9; rw [← hAe] at h9; exact h9) ?_
                  refine W.widen (k := 600006) (n := 7302056) (Nat.le_of_ble_eq_true rfl) (Nat.le_of_ble_eq_true rfl) ?_
                  refine W.base ?_
                  exact lw_ret (Drawn.sameBut.refl s.drawn lw_cs) hx hb hr hlk dL_law_2285
                · skip
                  by_cases h121 : (60) < s3
                  · skip
                    have hX : nCx p s m _ c code 9 "MinestrataLaw" dC dI g A [(a3, .inr (12, [.ref a4, .ref a5, .ref a6, .ref a7, .ref a8, .ref a9, .ref a10, .ref a11, .null, .ref a12, .ref a13, .int (0), .int (100), .int (0), .int (0), .int (-1), .long (0), .int (1)])), (a4, .inr (8, [.int (0), .ref a14, .ref a15, .ref a16, .ref a17, .int (0), .ref a18, .ref a19, .ref a20, .ref a21, .ref a22, .ref a23, .ref a24])), (a6, .inr (11, [.int (0), .ref a25, .ref a26, .ref a27, .ref a28, .ref a29, .ref a30, .ref a31, .ref a32, .ref a33])), (a2, .inr (15, [.int (0), .int (0), .int (100), .int (0), .int (0), .ref a34, .ref a35, .ref a36, .ref a37, .ref a38, .ref a39, .ref a40, .ref a41, .ref a42, .ref a43, .ref a44, .null, .int (-1), .ref a45, .long (0)])), (a41, .inr (1, [.int (0), .ref (g 21), .int (0)])), (a42, .inr (1, [.int (0), .ref (g 21), .int (0)]))] _ _ := ⟨⟨hx, hb, hml, hown, hts⟩, hE, hS, hA, hP, hD⟩
                    refine n_call (wr := [(a2, .inr (15, [.int (0), .int (0), .int (100), .int (0), .int (0), .ref a34, .ref a35, .ref a36, .ref a37, .ref a38, .ref a39, .ref a40, .ref a41, .ref a42, .ref a43, .ref a44, .null, .int (-1), .ref a45, .long (0)])), (a41, .inr (1, [.int (0), .ref (g 21), .int (0)])), (a42, .inr (1, [.int (0), .ref (g 21), .int (0)]))]) hX (n_runSW (n := 5) (wc := [(a3, .inr (12, [.ref a4, .ref a5, .ref a6, .ref a7, .ref a8, .ref a9, .ref a10, .ref a11, .null, .ref a12, .ref a13, .int (0), .int (100), .int (0), .int (0), .int (-1), .long (0), .int (1)])), (a4, .inr (8, [.int (0), .ref a14, .ref a15, .ref a16, .ref a17, .int (0), .ref a18, .ref a19, .ref a20, .ref a21, .ref a22, .ref a23, .ref a24])), (a6, .inr (11, [.int (0), .ref a25, .ref a26, .ref a27, .ref a28, .ref a29, .ref a30, .ref a31, .ref a32, .ref a33]))]) (As := [.ref a3, .int (111), .int s2, .int s3, .ref a1]) (rest := []) hX (m210 l hst dC dI g a3 a1 a4 a5 a6 a7 a8 a9 a10 a11 a12 a13 a14 a15 a16 a17 a18 a19 a20 a21 a22 a23 a24 a25 a26 a27 a28 a29 a30 a31 a32 a33 s2 s3 h114 h121 _) [0, 1, 2] rfl (by decide +kernel) q1038 q1039 q70 q1040 (by decide +kernel) ⟨(Nat.le_of_ble_eq_true rfl), (Nat.le_of_ble_eq_true rfl)⟩ ⟨(Nat.le_of_ble_eq_true rfl), (Nat.le_of_ble_eq_true rfl)⟩ hl.1 rfl rfl (Nat.le_of_ble_eq_true rfl) dL_law_771) [0, 1, 2] [3, 4, 5] rfl rfl (by decide +kernel) (by decide +kernel) (fun f122 r123 H locs hP hD hS => ?_)
                    have hP : va_P (dC, dI) CL [(a2, .inr (15, [.int (0), .int (0), .int (100), .int (0), .int (0), .ref a34, .ref a35, .ref a36, .ref a37, .ref a38, .ref a39, .ref a40, .ref a41, .ref a42, .ref a43, .ref a44, .null, .int (-1), .ref a45, .long (0)])), (a41, .inr (1, [.int (0), .ref (g 21), .int (0)])), (a42, .inr (1, [.int (0), .ref (g 21), .int (0)]))] _ := hP
                    have hD : va_D A [(a2, .inr (15, [.int (0), .int (0), .int (100), .int (0), .int (0), .ref a34, .ref a35, .ref a36, .ref a37, .ref a38, .ref a39, .ref a40, .ref a41, .ref a42, .ref a43, .ref a44, .null, .int (-1), .ref a45, .long (0)])), (a41, .inr (1, [.int (0), .ref (g 21), .int (0)])), (a42, .inr (1, [.int (0), .ref (g 21), .int (0)]))] := hD
                    refine W.widen (k := 244) (n := 2777) (Nat.le_of_ble_eq_true rfl) (Nat.le_of_ble_eq_true rfl) ?_
                    refine W.eq (g2 := F0 m 774 ls [.int (1)]) rfl ?_
                    refine lv_istore (lv' := [(6, .int (1)), (5, .int (0)), (4, .ref a0), (3, .ref a1), (2, .ref a2), (1, .ref a3), (0, .ref b)]) hx hb dL_law_774 hl (by decide) rfl (fun ls hl => ?_)
                    refine lv_aload_n hx hb dL_law_776 rfl (lv_at hl 4 rfl) ?_
                    refine lv_aload_n hx hb dL_law_777 rfl (lv_at hl 6 rfl) ?_
                    refine lv_iload hx hb dL_law_778 (lv_at hl 1 rfl) ?_
                    refine lv_iconst (v := (1)) hx hb dL_law_780 (by decide +kernel) ?_
                    refine lv_iadd hx hb dL_law_781 ?_
                    refine nt_i (v := (1)) (by decide +kernel) ?_
                    refine va_sld hx hb hXs hbl hbA hS (show ¬ ((1 : Int32) < 0 ∨ 5 ≤ Int32.toNatClampNeg (1)) by decide +kernel) dL_law_782 ?_
                    refine nt_i (v := s1) es1 ?_
                    refine lv_i2c (v := (111)) hx hb dL_law_783 ek1.symm ?_
                    refine lv_aload_n hx hb dL_law_784 rfl (lv_at hl 6 rfl) ?_
                    refine lv_iload hx hb dL_law_785 (lv_at hl 1 rfl) ?_
                    refine lv_iconst (v := (2)) hx hb dL_law_787 (by decide +kernel) ?_
                    refine lv_iadd hx hb dL_law_788 ?_
                    refine nt_i (v := (2)) (by decide +kernel) ?_
                    refine va_sld hx hb hXs hbl hbA hS (show ¬ ((2 : Int32) < 0 ∨ 5 ≤ Int32.toNatClampNeg (2)) by decide +kernel) dL_law_789 ?_
                    refine nt_i (v := s2) es2 ?_
                    refine lv_aload_n hx hb dL_law_790 rfl (lv_at hl 6 rfl) ?_
                    refine lv_iload hx hb dL_law_791 (lv_at hl 1 rfl) ?_
                    refine lv_iconst (v := (3)) hx hb dL_law_793 (by decide +kernel) ?_
                    refine lv_iadd hx hb dL_law_794 ?_
                    refine nt_i (v := (3)) (by decide +kernel) ?_
                    refine va_sld hx hb hXs hbl hbA hS (show ¬ ((3 : Int32) < 0 ∨ 5 ≤ Int32.toNatClampNeg (3)) by decide +kernel) dL_law_795 ?_
                    refine nt_i (v := s3) es3 ?_
                    have hX : nCx p s m _ c code 9 "MinestrataLaw" dC dI g A [(a2, .inr (15, [.int (0), .int (0), .int (100), .int (0), .int (0), .ref a34, .ref a35, .ref a36, .ref a37, .ref a38, .ref a39, .ref a40, .ref a41, .ref a42, .ref a43, .ref a44, .null, .int (-1), .ref a45, .long (0)])), (a41, .inr (1, [.int (0), .ref (g 21), .int (0)])), (a42, .inr (1, [.int (0), .ref (g 21), .int (0)]))] _ _ := ⟨⟨hx, hb, hml, hown, hts⟩, hE, hS, hA, hP, hD⟩
                    refine n_call (wr := [(a41, .inr (1, [.int (0), .ref (g 21), .int (0)])), (a42, .inr (1, [.int (0), .ref (g 21), .int (0)]))]) hX (n_runV (n := 3) (wc := [(a2, .inr (15, [.int (0), .int (0), .int (100), .int (0), .int (0), .ref a34, .ref a35, .ref a36, .ref a37, .ref a38, .ref a39, .ref a40, .ref a41, .ref a42, .ref a43, .ref a44, .null, .int (-1), .ref a45, .long (0)]))]) (As := [.int (111), .int s2, .int s3]) (rest := []) hX (m213 l hst dC dI g a2 a34 a35 a36 a37 a38 a39 a40 a41 a42 a43 a44 a45 s2 s3 h114 h121 _) [0] rfl (by decide +kernel) 0 (ci := 15) rfl (T := TX16) (N := 20) (C := "MinestrataModel") rfl q2103 q2104 q2105 q82 q2106 (by decide +kernel) ⟨(Nat.le_of_ble_eq_true rfl), (Nat.le_of_ble_eq_true rfl)⟩ ⟨(Nat.le_of_ble_eq_true rfl), (Nat.le_of_ble_eq_true rfl)⟩ hl.1 rfl rfl (Nat.le_of_ble_eq_true rfl) dL_law_796) [0] [1, 2] rfl rfl (by decide +kernel) (by decide +kernel) (fun f124 r125 H locs hP hD hS => ?_)
                    have hP : va_P (dC, dI) CL [(a41, .inr (1, [.int (0), .ref (g 21), .int (0)])), (a42, .inr (1, [.int (0), .ref (g 21), .int (0)])), (a2, .inr (15, [.int (1), .int (0), .int (100), .int (0), .int (0), .ref a34, .ref a35, .ref a36, .ref a37, .ref a38, .ref a39, .ref a40, .ref a41, .ref a42, .ref a43, .ref a44, .null, .int (-1), .ref a45, .long (0)]))] _ := hP
                    have hD : va_D A [(a41, .inr (1, [.int (0), .ref (g 21), .int (0)])), (a42, .inr (1, [.int (0), .ref (g 21), .int (0)])), (a2, .inr (15, [.int (1), .int (0), .int (100), .int (0), .int (0), .ref a34, .ref a35, .ref a36, .ref a37, .ref a38, .ref a39, .ref a40, .ref a41, .ref a42, .ref a43, .ref a44, .null, .int (-1), .ref a45, .long (0)]))] := hD
                    refine W.widen (k := 244) (n := 2777) (Nat.le_of_ble_eq_true rfl) (Nat.le_of_ble_eq_true rfl) ?_
                    refine W.eq (g2 := F0 m 799 ls [.int (32)]) rfl ?_
                    refine lv_istore (lv' := [(7, .int (32)), (6, .int (1)), (5, .int (0)), (4, .ref a0), (3, .ref a1), (2, .ref a2), (1, .ref a3), (0, .ref b)]) hx hb dL_law_799 hl (by decide) rfl (fun ls hl => ?_)
                    refine lv_aload_n hx hb dL_law_801 rfl (lv_at hl 5 rfl) ?_
                    have hX : nCx p s m _ c code 9 "MinestrataLaw" dC dI g A [(a41, .inr (1, [.int (0), .ref (g 21), .int (0)])), (a42, .inr (1, [.int (0), .ref (g 21), .int (0)])), (a2, .inr (15, [.int (1), .int (0), .int (100), .int (0), .int (0), .ref a34, .ref a35, .ref a36, .ref a37, .ref a38, .ref a39, .ref a40, .ref a41, .ref a42, .ref a43, .ref a44, .null, .int (-1), .ref a45, .long (0)]))] _ _ := ⟨⟨hx, hb, hml, hown, hts⟩, hE, hS, hA, hP, hD⟩
                    refine n_call (wr := [(a41, .inr (1, [.int (0), .ref (g 21), .int (0)])), (a42, .inr (1, [.int (0), .ref (g 21), .int (0)]))]) hX (n_runV (n := 0) (wc := [(a2, .inr (15, [.int (1), .int (0), .int (100), .int (0), .int (0), .ref a34, .ref a35, .ref a36, .ref a37, .ref a38, .ref a39, .ref a40, .ref a41, .ref a42, .ref a43, .ref a44, .null, .int (-1), .ref a45, .long (0)]))]) (As := []) (rest := []) hX (m33 l hst dC dI g a2 a34 a35 a36 a37 a38 a39 a40 a41 a42 a43 a44 a45 _) [2] rfl (by decide +kernel) 2 (ci := 15) rfl (T := TX16) (N := 20) (C := "MinestrataModel") rfl q1495 q1496 q1497 q82 q1498 (by decide +kernel) ⟨(Nat.le_of_ble_eq_true rfl), (Nat.le_of_ble_eq_true rfl)⟩ ⟨(Nat.le_of_ble_eq_true rfl), (Nat.le_of_ble_eq_true rfl)⟩ hl.1 rfl rfl (Nat.le_of_ble_eq_true rfl) dL_law_802) [2] [0, 1] rfl rfl (by decide +kernel) (by decide +kernel) (fun f126 r127 H locs hP hD hS => ?_)
                    have hP : va_P (dC, dI) CL [(a41, .inr (1, [.int (0), .ref (g 21), .int (0)])), (a42, .inr (1, [.int (0), .ref (g 21), .int (0)])), (a2, .inr (15, [.int (1), .int (0), .int (100), .int (0), .int (0), .ref a34, .ref a35, .ref a36, .ref a37, .ref a38, .ref a39, .ref a40, .ref a41, .ref a42, .ref a43, .ref a44, .null, .int (-1), .ref a45, .long (0)]))] _ := hP
                    have hD : va_D A [(a41, .inr (1, [.int (0), .ref (g 21), .int (0)])), (a42, .inr (1, [.int (0), .ref (g 21), .int (0)])), (a2, .inr (15, [.int (1), .int (0), .int (100), .int (0), .int (0), .ref a34, .ref a35, .ref a36, .ref a37, .ref a38, .ref a39, .ref a40, .ref a41, .ref a42, .ref a43, .ref a44, .null, .int (-1), .ref a45, .long (0)]))] := hD
                    refine W.widen (k := 244) (n := 2777) (Nat.le_of_ble_eq_true rfl) (Nat.le_of_ble_eq_true rfl) ?_
                    refine W.eq (g2 := F0 m 805 ls [.int (1)]) rfl ?_
                    refine lv_iload hx hb dL_law_805 (lv_at hl 1 rfl) ?_
                    refine lv_icmp_eq (tgt := 812) hx hb dL_law_807 (by decide +kernel) (fun _ => ?_) (fun h => absurd (by decide +kernel) h)
                    refine lv_iload hx hb dL_law_812 (lv_at hl 1 rfl) ?_
                    refine lv_if_ne (tgt := 829) hx hb dL_law_814 (by decide +kernel) (fun _ => ?_) (fun h => absurd h (by decide +kernel))
                    refine lv_goto (tgt := 2278) hx hb dL_law_829 (by decide +kernel) ?_
                    refine lv_iinc (v := (5)) (lv' := [(5, .int (5)), (7, .int (32)), (6, .int (1)), (4, .ref a0), (3, .ref a1), (2, .ref a2), (1, .ref a3), (0, .ref b)]) hx hb dL_law_2278 hl (k := 2) rfl (by decide +kernel) (by decide) rfl (fun ls hl => ?_)
                    refine lv_goto (tgt := 28) hx hb dL_law_2281 (by decide +kernel) ?_
                    refine lv_iload hx hb dL_law_28 (lv_at hl 0 rfl) ?_
                    refine lv_aload_n hx hb dL_law_30 rfl (lv_at hl 7 rfl) ?_
                    refine va_slen hx hb hXs hbl hbA hS dL_law_31 ?_
                    refine nt_i (v := (5)) (by decide +kernel) ?_
                    refine lv_iconst (v := (5)) hx hb dL_law_32 (by decide +kernel) ?_
                    refine lv_isub hx hb dL_law_33 ?_
                    refine nt_i (v := (0)) (by decide +kernel) ?_
                    refine lv_icmp_gt (tgt := 2284) hx hb dL_law_34 (by decide +kernel) (fun _ => ?_) (fun h => absurd (by decide +kernel) h)
                    refine lv_iconst (v := (1)) hx hb dL_law_2284 (by decide +kernel) ?_
                    refine va_forget (fun q9 hq9 => by have h9 := hS.2.2 q9 hq9; rw [← hAe] at h9; exact h9) ?_
                    refine W.widen (k := 600006) (n := 7302056) (Nat.le_of_ble_eq_true rfl) (Nat.le_of_ble_eq_true rfl) ?_
                    refine W.base ?_
                    exact lw_ret (Drawn.sameBut.refl s.drawn lw_cs) hx hb hr hlk dL_law_2285
                  · skip
                    have hX : nCx p s m _ c code 9 "MinestrataLaw" dC dI g A [(a3, .inr (12, [.ref a4, .ref a5, .ref a6, .ref a7, .ref a8, .ref a9, .ref a10, .ref a11, .null, .ref a12, .ref a13, .int (0), .int (100), .int (0), .int (0), .int (-1), .long (0), .int (1)])), (a4, .inr (8, [.int (0), .ref a14, .ref a15, .ref a16, .ref a17, .int (0), .ref a18, .ref a19, .ref a20, .ref a21, .ref a22, .ref a23, .ref a24])), (a6, .inr (11, [.int (0), .ref a25, .ref a26, .ref a27, .ref a28, .ref a29, .ref a30, .ref a31, .ref a32, .ref a33])), (a2, .inr (15, [.int (0), .int (0), .int (100), .int (0), .int (0), .ref a34, .ref a35, .ref a36, .ref a37, .ref a38, .ref a39, .ref a40, .ref a41, .ref a42, .ref a43, .ref a44, .null, .int (-1), .ref a45, .long (0)])), (a41, .inr (1, [.int (0), .ref (g 21), .int (0)])), (a42, .inr (1, [.int (0), .ref (g 21), .int (0)]))] _ _ := ⟨⟨hx, hb, hml, hown, hts⟩, hE, hS, hA, hP, hD⟩
                    refine n_call (wr := [(a2, .inr (15, [.int (0), .int (0), .int (100), .int (0), .int (0), .ref a34, .ref a35, .ref a36, .ref a37, .ref a38, .ref a39, .ref a40, .ref a41, .ref a42, .ref a43, .ref a44, .null, .int (-1), .ref a45, .long (0)])), (a41, .inr (1, [.int (0), .ref (g 21), .int (0)])), (a42, .inr (1, [.int (0), .ref (g 21), .int (0)]))]) hX (n_runSW (n := 5) (wc := [(a3, .inr (12, [.ref a4, .ref a5, .ref a6, .ref a7, .ref a8, .ref a9, .ref a10, .ref a11, .null, .ref a12, .ref a13, .int (0), .int (100), .int (0), .int (0), .int (-1), .long (0), .int (1)])), (a4, .inr (8, [.int (0), .ref a14, .ref a15, .ref a16, .ref a17, .int (0), .ref a18, .ref a19, .ref a20, .ref a21, .ref a22, .ref a23, .ref a24])), (a6, .inr (11, [.int (0), .ref a25, .ref a26, .ref a27, .ref a28, .ref a29, .ref a30, .ref a31, .ref a32, .ref a33]))]) (As := [.ref a3, .int (111), .int s2, .int s3, .ref a1]) (rest := []) hX (m218 l hst dC dI g a3 a1 a4 a5 a6 a7 a8 a9 a10 a11 a12 a13 a14 a15 a16 a17 a18 a19 a20 a21 a22 a23 a24 a25 a26 a27 a28 a29 a30 a31 a32 a33 s2 s3 h114 h121 _) [0, 1, 2] rfl (by decide +kernel) q1038 q1039 q70 q1040 (by decide +kernel) ⟨(Nat.le_of_ble_eq_true rfl), (Nat.le_of_ble_eq_true rfl)⟩ ⟨(Nat.le_of_ble_eq_true rfl), (Nat.le_of_ble_eq_true rfl)⟩ hl.1 rfl rfl (Nat.le_of_ble_eq_true rfl) dL_law_771) [0, 1, 2] [3, 4, 5] rfl rfl (by decide +kernel) (by decide +kernel) (fun f128 r129 H locs hP hD hS => ?_)
                    have hP : va_P (dC, dI) CL [(a2, .inr (15, [.int (0), .int (0), .int (100), .int (0), .int (0), .ref a34, .ref a35, .ref a36, .ref a37, .ref a38, .ref a39, .ref a40, .ref a41, .ref a42, .ref a43, .ref a44, .null, .int (-1), .ref a45, .long (0)])), (a41, .inr (1, [.int (0), .ref (g 21), .int (0)])), (a42, .inr (1, [.int (0), .ref (g 21), .int (0)]))] _ := hP
                    have hD : va_D A [(a2, .inr (15, [.int (0), .int (0), .int (100), .int (0), .int (0), .ref a34, .ref a35, .ref a36, .ref a37, .ref a38, .ref a39, .ref a40, .ref a41, .ref a42, .ref a43, .ref a44, .null, .int (-1), .ref a45, .long (0)])), (a41, .inr (1, [.int (0), .ref (g 21), .int (0)])), (a42, .inr (1, [.int (0), .ref (g 21), .int (0)]))] := hD
                    refine W.widen (k := 244) (n := 2777) (Nat.le_of_ble_eq_true rfl) (Nat.le_of_ble_eq_true rfl) ?_
                    refine W.eq (g2 := F0 m 774 ls [.int (2)]) rfl ?_
                    refine lv_istore (lv' := [(6, .int (2)), (5, .int (0)), (4, .ref a0), (3, .ref a1), (2, .ref a2), (1, .ref a3), (0, .ref b)]) hx hb dL_law_774 hl (by decide) rfl (fun ls hl => ?_)
                    refine lv_aload_n hx hb dL_law_776 rfl (lv_at hl 4 rfl) ?_
                    refine lv_aload_n hx hb dL_law_777 rfl (lv_at hl 6 rfl) ?_
                    refine lv_iload hx hb dL_law_778 (lv_at hl 1 rfl) ?_
                    refine lv_iconst (v := (1)) hx hb dL_law_780 (by decide +kernel) ?_
                    refine lv_iadd hx hb dL_law_781 ?_
                    refine nt_i (v := (1)) (by decide +kernel) ?_
                    refine va_sld hx hb hXs hbl hbA hS (show ¬ ((1 : Int32) < 0 ∨ 5 ≤ Int32.toNatClampNeg (1)) by decide +kernel) dL_law_782 ?_
                    refine nt_i (v := s1) es1 ?_
                    refine lv_i2c (v := (111)) hx hb dL_law_783 ek1.symm ?_
                    refine lv_aload_n hx hb dL_law_784 rfl (lv_at hl 6 rfl) ?_
                    refine lv_iload hx hb dL_law_785 (lv_at hl 1 rfl) ?_
                    refine lv_iconst (v := (2)) hx hb dL_law_787 (by decide +kernel) ?_
                    refine lv_iadd hx hb dL_law_788 ?_
                    refine nt_i (v := (2)) (by decide +kernel) ?_
                    refine va_sld hx hb hXs hbl hbA hS (show ¬ ((2 : Int32) < 0 ∨ 5 ≤ Int32.toNatClampNeg (2)) by decide +kernel) dL_law_789 ?_
                    refine nt_i (v := s2) es2 ?_
                    refine lv_aload_n hx hb dL_law_790 rfl (lv_at hl 6 rfl) ?_
                    refine lv_iload hx hb dL_law_791 (lv_at hl 1 rfl) ?_
                    refine lv_iconst (v := (3)) hx hb dL_law_793 (by decide +kernel) ?_
                    refine lv_iadd hx hb dL_law_794 ?_
                    refine nt_i (v := (3)) (by decide +kernel) ?_
                    refine va_sld hx hb hXs hbl hbA hS (show ¬ ((3 : Int32) < 0 ∨ 5 ≤ Int32.toNatClampNeg (3)) by decide +kernel) dL_law_795 ?_
                    refine nt_i (v := s3) es3 ?_
                    have hX : nCx p s m _ c code 9 "MinestrataLaw" dC dI g A [(a2, .inr (15, [.int (0), .int (0), .int (100), .int (0), .int (0), .ref a34, .ref a35, .ref a36, .ref a37, .ref a38, .ref a39, .ref a40, .ref a41, .ref a42, .ref a43, .ref a44, .null, .int (-1), .ref a45, .long (0)])), (a41, .inr (1, [.int (0), .ref (g 21), .int (0)])), (a42, .inr (1, [.int (0), .ref (g 21), .int (0)]))] _ _ := ⟨⟨hx, hb, hml, hown, hts⟩, hE, hS, hA, hP, hD⟩
                    refine n_call (wr := [(a41, .inr (1, [.int (0), .ref (g 21), .int (0)]))]) hX (n_runV (n := 3) (wc := [(a2, .inr (15, [.int (0), .int (0), .int (100), .int (0), .int (0), .ref a34, .ref a35, .ref a36, .ref a37, .ref a38, .ref a39, .ref a40, .ref a41, .ref a42, .ref a43, .ref a44, .null, .int (-1), .ref a45, .long (0)])), (a42, .inr (1, [.int (0), .ref (g 21), .int (0)]))]) (As := [.int (111), .int s2, .int s3]) (rest := []) hX (m222 l hst dC dI g a2 a34 a35 a36 a37 a38 a39 a40 a41 a42 a43 a44 a45 s2 s3 h114 h121 _) [0, 2] rfl (by decide +kernel) 0 (ci := 15) rfl (T := TX16) (N := 20) (C := "MinestrataModel") rfl q2103 q2104 q2105 q82 q2106 (by decide +kernel) ⟨(Nat.le_of_ble_eq_true rfl), (Nat.le_of_ble_eq_true rfl)⟩ ⟨(Nat.le_of_ble_eq_true rfl), (Nat.le_of_ble_eq_true rfl)⟩ hl.1 rfl rfl (Nat.le_of_ble_eq_true rfl) dL_law_796) [0, 2] [1] rfl rfl (by decide +kernel) (by decide +kernel) (fun f130 r131 H locs hP hD hS => ?_)
                    have hP : va_P (dC, dI) CL [(a41, .inr (1, [.int (0), .ref (g 21), .int (0)])), (a2, .inr (15, [.int (2), .int (0), .int (100), .int (0), .int (0), .ref a34, .ref a35, .ref a36, .ref a37, .ref a38, .ref a39, .ref a40, .ref a41, .ref a42, .ref a43, .ref a44, .null, .int (-1), .ref a45, .long (0)])), (a42, .inr (1, [.int (0), .ref (g 21), .int (0)]))] _ := hP
                    have hD : va_D A [(a41, .inr (1, [.int (0), .ref (g 21), .int (0)])), (a2, .inr (15, [.int (2), .int (0), .int (100), .int (0), .int (0), .ref a34, .ref a35, .ref a36, .ref a37, .ref a38, .ref a39, .ref a40, .ref a41, .ref a42, .ref a43, .ref a44, .null, .int (-1), .ref a45, .long (0)])), (a42, .inr (1, [.int (0), .ref (g 21), .int (0)]))] := hD
                    refine W.widen (k := 244) (n := 2777) (Nat.le_of_ble_eq_true rfl) (Nat.le_of_ble_eq_true rfl) ?_
                    refine W.eq (g2 := F0 m 799 ls [.int (32)]) rfl ?_
                    refine lv_istore (lv' := [(7, .int (32)), (6, .int (2)), (5, .int (0)), (4, .ref a0), (3, .ref a1), (2, .ref a2), (1, .ref a3), (0, .ref b)]) hx hb dL_law_799 hl (by decide) rfl (fun ls hl => ?_)
                    refine lv_aload_n hx hb dL_law_801 rfl (lv_at hl 5 rfl) ?_
                    have hX : nCx p s m _ c code 9 "MinestrataLaw" dC dI g A [(a41, .inr (1, [.int (0), .ref (g 21), .int (0)])), (a2, .inr (15, [.int (2), .int (0), .int (100), .int (0), .int (0), .ref a34, .ref a35, .ref a36, .ref a37, .ref a38, .ref a39, .ref a40, .ref a41, .ref a42, .ref a43, .ref a44, .null, .int (-1), .ref a45, .long (0)])), (a42, .inr (1, [.int (0), .ref (g 21), .int (0)]))] _ _ := ⟨⟨hx, hb, hml, hown, hts⟩, hE, hS, hA, hP, hD⟩
                    refine n_call (wr := [(a41, .inr (1, [.int (0), .ref (g 21), .int (0)])), (a42, .inr (1, [.int (0), .ref (g 21), .int (0)]))]) hX (n_runV (n := 0) (wc := [(a2, .inr (15, [.int (2), .int (0), .int (100), .int (0), .int (0), .ref a34, .ref a35, .ref a36, .ref a37, .ref a38, .ref a39, .ref a40, .ref a41, .ref a42, .ref a43, .ref a44, .null, .int (-1), .ref a45, .long (0)]))]) (As := []) (rest := []) hX (m108 l hst dC dI g a2 a34 a35 a36 a37 a38 a39 a40 a41 a42 a43 a44 a45 _) [1] rfl (by decide +kernel) 1 (ci := 15) rfl (T := TX16) (N := 20) (C := "MinestrataModel") rfl q1495 q1496 q1497 q82 q1498 (by decide +kernel) ⟨(Nat.le_of_ble_eq_true rfl), (Nat.le_of_ble_eq_true rfl)⟩ ⟨(Nat.le_of_ble_eq_true rfl), (Nat.le_of_ble_eq_true rfl)⟩ hl.1 rfl rfl (Nat.le_of_ble_eq_true rfl) dL_law_802) [1] [0, 2] rfl rfl (by decide +kernel) (by decide +kernel) (fun f132 r133 H locs hP hD hS => ?_)
                    have hP : va_P (dC, dI) CL [(a41, .inr (1, [.int (0), .ref (g 21), .int (0)])), (a42, .inr (1, [.int (0), .ref (g 21), .int (0)])), (a2, .inr (15, [.int (2), .int (0), .int (100), .int (0), .int (0), .ref a34, .ref a35, .ref a36, .ref a37, .ref a38, .ref a39, .ref a40, .ref a41, .ref a42, .ref a43, .ref a44, .null, .int (-1), .ref a45, .long (0)]))] _ := hP
                    have hD : va_D A [(a41, .inr (1, [.int (0), .ref (g 21), .int (0)])), (a42, .inr (1, [.int (0), .ref (g 21), .int (0)])), (a2, .inr (15, [.int (2), .int (0), .int (100), .int (0), .int (0), .ref a34, .ref a35, .ref a36, .ref a37, .ref a38, .ref a39, .ref a40, .ref a41, .ref a42, .ref a43, .ref a44, .null, .int (-1), .ref a45, .long (0)]))] := hD
                    refine W.widen (k := 244) (n := 2777) (Nat.le_of_ble_eq_true rfl) (Nat.le_of_ble_eq_true rfl) ?_
                    refine W.eq (g2 := F0 m 805 ls [.int (2)]) rfl ?_
                    refine lv_iload hx hb dL_law_805 (lv_at hl 1 rfl) ?_
                    refine lv_icmp_eq (tgt := 812) hx hb dL_law_807 (by decide +kernel) (fun _ => ?_) (fun h => absurd (by decide +kernel) h)
                    refine lv_iload hx hb dL_law_812 (lv_at hl 1 rfl) ?_
                    refine lv_if_ne (tgt := 829) hx hb dL_law_814 (by decide +kernel) (fun _ => ?_) (fun h => absurd h (by decide +kernel))
                    refine lv_goto (tgt := 2278) hx hb dL_law_829 (by decide +kernel) ?_
                    refine lv_iinc (v := (5)) (lv' := [(5, .int (5)), (7, .int (32)), (6, .int (2)), (4, .ref a0), (3, .ref a1), (2, .ref a2), (1, .ref a3), (0, .ref b)]) hx hb dL_law_2278 hl (k := 2) rfl (by decide +kernel) (by decide) rfl (fun ls hl => ?_)
                    refine lv_goto (tgt := 28) hx hb dL_law_2281 (by decide +kernel) ?_
                    refine lv_iload hx hb dL_law_28 (lv_at hl 0 rfl) ?_
                    refine lv_aload_n hx hb dL_law_30 rfl (lv_at hl 7 rfl) ?_
                    refine va_slen hx hb hXs hbl hbA hS dL_law_31 ?_
                    refine nt_i (v := (5)) (by decide +kernel) ?_
                    refine lv_iconst (v := (5)) hx hb dL_law_32 (by decide +kernel) ?_
                    refine lv_isub hx hb dL_law_33 ?_
                    refine nt_i (v := (0)) (by decide +kernel) ?_
                    refine lv_icmp_gt (tgt := 2284) hx hb dL_law_34 (by decide +kernel) (fun _ => ?_) (fun h => absurd (by decide +kernel) h)
                    refine lv_iconst (v := (1)) hx hb dL_law_2284 (by decide +kernel) ?_
                    refine va_forget (fun q9 hq9 => by have h9 := hS.2.2 q9 hq9; rw [← hAe] at h9; exact h9) ?_
                    refine W.widen (k := 600006) (n := 7302056) (Nat.le_of_ble_eq_true rfl) (Nat.le_of_ble_eq_true rfl) ?_
                    refine W.base ?_
                    exact lw_ret (Drawn.sameBut.refl s.drawn lw_cs) hx hb hr hlk dL_law_2285
              · skip
                have hX : nCx p s m _ c code 9 "MinestrataLaw" dC dI g A [(a3, .inr (12, [.ref a4, .ref a5, .ref a6, .ref a7, .ref a8, .ref a9, .ref a10, .ref a11, .null, .ref a12, .ref a13, .int (0), .int (100), .int (0), .int (0), .int (-1), .long (0), .int (1)])), (a4, .inr (8, [.int (0), .ref a14, .ref a15, .ref a16, .ref a17, .int (0), .ref a18, .ref a19, .ref a20, .ref a21, .ref a22, .ref a23, .ref a24])), (a6, .inr (11, [.int (0), .ref a25, .ref a26, .ref a27, .ref a28, .ref a29, .ref a30, .ref a31, .ref a32, .ref a33])), (a2, .inr (15, [.int (0), .int (0), .int (100), .int (0), .int (0), .ref a34, .ref a35, .ref a36, .ref a37, .ref a38, .ref a39, .ref a40, .ref a41, .ref a42, .ref a43, .ref a44, .null, .int (-1), .ref a45, .long (0)])), (a41, .inr (1, [.int (0), .ref (g 21), .int (0)])), (a42, .inr (1, [.int (0), .ref (g 21), .int (0)]))] _ _ := ⟨⟨hx, hb, hml, hown, hts⟩, hE, hS, hA, hP, hD⟩
                refine n_call (wr := [(a2, .inr (15, [.int (0), .int (0), .int (100), .int (0), .int (0), .ref a34, .ref a35, .ref a36, .ref a37, .ref a38, .ref a39, .ref a40, .ref a41, .ref a42, .ref a43, .ref a44, .null, .int (-1), .ref a45, .long (0)])), (a41, .inr (1, [.int (0), .ref (g 21), .int (0)])), (a42, .inr (1, [.int (0), .ref (g 21), .int (0)]))]) hX (n_runSW (n := 5) (wc := [(a3, .inr (12, [.ref a4, .ref a5, .ref a6, .ref a7, .ref a8, .ref a9, .ref a10, .ref a11, .null, .ref a12, .ref a13, .int (0), .int (100), .int (0), .int (0), .int (-1), .long (0), .int (1)])), (a4, .inr (8, [.int (0), .ref a14, .ref a15, .ref a16, .ref a17, .int (0), .ref a18, .ref a19, .ref a20, .ref a21, .ref a22, .ref a23, .ref a24])), (a6, .inr (11, [.int (0), .ref a25, .ref a26, .ref a27, .ref a28, .ref a29, .ref a30, .ref a31, .ref a32, .ref a33]))]) (As := [.ref a3, .int k1, .int s2, .int s3, .ref a1]) (rest := []) hX (m225 l hst dC dI g a3 a1 a4 a5 a6 a7 a8 a9 a10 a11 a12 a13 a14 a15 a16 a17 a18 a19 a20 a21 a22 a23 a24 a25 a26 a27 a28 a29 a30 a31 a32 a33 s2 s3 k1 h1 h22 h43 h64 h85 h106 h113 _) [0, 1, 2] rfl (by decide +kernel) q1038 q1039 q70 q1040 (by decide +kernel) ⟨(Nat.le_of_ble_eq_true rfl), (Nat.le_of_ble_eq_true rfl)⟩ ⟨(Nat.le_of_ble_eq_true rfl), (Nat.le_of_ble_eq_true rfl)⟩ hl.1 rfl rfl (Nat.le_of_ble_eq_true rfl) dL_law_771) [0, 1, 2] [3, 4, 5] rfl rfl (by decide +kernel) (by decide +kernel) (fun f134 r135 H locs hP hD hS => ?_)
                have hP : va_P (dC, dI) CL [(a2, .inr (15, [.int (0), .int (0), .int (100), .int (0), .int (0), .ref a34, .ref a35, .ref a36, .ref a37, .ref a38, .ref a39, .ref a40, .ref a41, .ref a42, .ref a43, .ref a44, .null, .int (-1), .ref a45, .long (0)])), (a41, .inr (1, [.int (0), .ref (g 21), .int (0)])), (a42, .inr (1, [.int (0), .ref (g 21), .int (0)]))] _ := hP
                have hD : va_D A [(a2, .inr (15, [.int (0), .int (0), .int (100), .int (0), .int (0), .ref a34, .ref a35, .ref a36, .ref a37, .ref a38, .ref a39, .ref a40, .ref a41, .ref a42, .ref a43, .ref a44, .null, .int (-1), .ref a45, .long (0)])), (a41, .inr (1, [.int (0), .ref (g 21), .int (0)])), (a42, .inr (1, [.int (0), .ref (g 21), .int (0)]))] := hD
                refine W.widen (k := 244) (n := 2777) (Nat.le_of_ble_eq_true rfl) (Nat.le_of_ble_eq_true rfl) ?_
                refine W.eq (g2 := F0 m 774 ls [.int (1)]) rfl ?_
                refine lv_istore (lv' := [(6, .int (1)), (5, .int (0)), (4, .ref a0), (3, .ref a1), (2, .ref a2), (1, .ref a3), (0, .ref b)]) hx hb dL_law_774 hl (by decide) rfl (fun ls hl => ?_)
                refine lv_aload_n hx hb dL_law_776 rfl (lv_at hl 4 rfl) ?_
                refine lv_aload_n hx hb dL_law_777 rfl (lv_at hl 6 rfl) ?_
                refine lv_iload hx hb dL_law_778 (lv_at hl 1 rfl) ?_
                refine lv_iconst (v := (1)) hx hb dL_law_780 (by decide +kernel) ?_
                refine lv_iadd hx hb dL_law_781 ?_
                refine nt_i (v := (1)) (by decide +kernel) ?_
                refine va_sld hx hb hXs hbl hbA hS (show ¬ ((1 : Int32) < 0 ∨ 5 ≤ Int32.toNatClampNeg (1)) by decide +kernel) dL_law_782 ?_
                refine nt_i (v := s1) es1 ?_
                refine lv_i2c (v := k1) hx hb dL_law_783 ek1.symm ?_
                refine lv_aload_n hx hb dL_law_784 rfl (lv_at hl 6 rfl) ?_
                refine lv_iload hx hb dL_law_785 (lv_at hl 1 rfl) ?_
                refine lv_iconst (v := (2)) hx hb dL_law_787 (by decide +kernel) ?_
                refine lv_iadd hx hb dL_law_788 ?_
                refine nt_i (v := (2)) (by decide +kernel) ?_
                refine va_sld hx hb hXs hbl hbA hS (show ¬ ((2 : Int32) < 0 ∨ 5 ≤ Int32.toNatClampNeg (2)) by decide +kernel) dL_law_789 ?_
                refine nt_i (v := s2) es2 ?_
                refine lv_aload_n hx hb dL_law_790 rfl (lv_at hl 6 rfl) ?_
                refine lv_iload hx hb dL_law_791 (lv_at hl 1 rfl) ?_
                refine lv_iconst (v := (3)) hx hb dL_law_793 (by decide +kernel) ?_
                refine lv_iadd hx hb dL_law_794 ?_
                refine nt_i (v := (3)) (by decide +kernel) ?_
                refine va_sld hx hb hXs hbl hbA hS (show ¬ ((3 : Int32) < 0 ∨ 5 ≤ Int32.toNatClampNeg (3)) by decide +kernel) dL_law_795 ?_
                refine nt_i (v := s3) es3 ?_
                have hX : nCx p s m _ c code 9 "MinestrataLaw" dC dI g A [(a2, .inr (15, [.int (0), .int (0), .int (100), .int (0), .int (0), .ref a34, .ref a35, .ref a36, .ref a37, .ref a38, .ref a39, .ref a40, .ref a41, .ref a42, .ref a43, .ref a44, .null, .int (-1), .ref a45, .long (0)])), (a41, .inr (1, [.int (0), .ref (g 21), .int (0)])), (a42, .inr (1, [.int (0), .ref (g 21), .int (0)]))] _ _ := ⟨⟨hx, hb, hml, hown, hts⟩, hE, hS, hA, hP, hD⟩
                refine n_call (wr := [(a41, .inr (1, [.int (0), .ref (g 21), .int (0)])), (a42, .inr (1, [.int (0), .ref (g 21), .int (0)]))]) hX (n_runV (n := 3) (wc := [(a2, .inr (15, [.int (0), .int (0), .int (100), .int (0), .int (0), .ref a34, .ref a35, .ref a36, .ref a37, .ref a38, .ref a39, .ref a40, .ref a41, .ref a42, .ref a43, .ref a44, .null, .int (-1), .ref a45, .long (0)]))]) (As := [.int k1, .int s2, .int s3]) (rest := []) hX (m227 l hst dC dI g a2 a34 a35 a36 a37 a38 a39 a40 a41 a42 a43 a44 a45 s2 s3 k1 h1 h22 h43 h64 h85 h106 h113 _) [0] rfl (by decide +kernel) 0 (ci := 15) rfl (T := TX16) (N := 20) (C := "MinestrataModel") rfl q2103 q2104 q2105 q82 q2106 (by decide +kernel) ⟨(Nat.le_of_ble_eq_true rfl), (Nat.le_of_ble_eq_true rfl)⟩ ⟨(Nat.le_of_ble_eq_true rfl), (Nat.le_of_ble_eq_true rfl)⟩ hl.1 rfl rfl (Nat.le_of_ble_eq_true rfl) dL_law_796) [0] [1, 2] rfl rfl (by decide +kernel) (by decide +kernel) (fun f136 r137 H locs hP hD hS => ?_)
                have hP : va_P (dC, dI) CL [(a41, .inr (1, [.int (0), .ref (g 21), .int (0)])), (a42, .inr (1, [.int (0), .ref (g 21), .int (0)])), (a2, .inr (15, [.int (1), .int (0), .int (100), .int (0), .int (0), .ref a34, .ref a35, .ref a36, .ref a37, .ref a38, .ref a39, .ref a40, .ref a41, .ref a42, .ref a43, .ref a44, .null, .int (-1), .ref a45, .long (0)]))] _ := hP
                have hD : va_D A [(a41, .inr (1, [.int (0), .ref (g 21), .int (0)])), (a42, .inr (1, [.int (0), .ref (g 21), .int (0)])), (a2, .inr (15, [.int (1), .int (0), .int (100), .int (0), .int (0), .ref a34, .ref a35, .ref a36, .ref a37, .ref a38, .ref a39, .ref a40, .ref a41, .ref a42, .ref a43, .ref a44, .null, .int (-1), .ref a45, .long (0)]))] := hD
                refine W.widen (k := 244) (n := 2777) (Nat.le_of_ble_eq_true rfl) (Nat.le_of_ble_eq_true rfl) ?_
                refine W.eq (g2 := F0 m 799 ls [.int (32)]) rfl ?_
                refine lv_istore (lv' := [(7, .int (32)), (6, .int (1)), (5, .int (0)), (4, .ref a0), (3, .ref a1), (2, .ref a2), (1, .ref a3), (0, .ref b)]) hx hb dL_law_799 hl (by decide) rfl (fun ls hl => ?_)
                refine lv_aload_n hx hb dL_law_801 rfl (lv_at hl 5 rfl) ?_
                have hX : nCx p s m _ c code 9 "MinestrataLaw" dC dI g A [(a41, .inr (1, [.int (0), .ref (g 21), .int (0)])), (a42, .inr (1, [.int (0), .ref (g 21), .int (0)])), (a2, .inr (15, [.int (1), .int (0), .int (100), .int (0), .int (0), .ref a34, .ref a35, .ref a36, .ref a37, .ref a38, .ref a39, .ref a40, .ref a41, .ref a42, .ref a43, .ref a44, .null, .int (-1), .ref a45, .long (0)]))] _ _ := ⟨⟨hx, hb, hml, hown, hts⟩, hE, hS, hA, hP, hD⟩
                refine n_call (wr := [(a41, .inr (1, [.int (0), .ref (g 21), .int (0)])), (a42, .inr (1, [.int (0), .ref (g 21), .int (0)]))]) hX (n_runV (n := 0) (wc := [(a2, .inr (15, [.int (1), .int (0), .int (100), .int (0), .int (0), .ref a34, .ref a35, .ref a36, .ref a37, .ref a38, .ref a39, .ref a40, .ref a41, .ref a42, .ref a43, .ref a44, .null, .int (-1), .ref a45, .long (0)]))]) (As := []) (rest := []) hX (m33 l hst dC dI g a2 a34 a35 a36 a37 a38 a39 a40 a41 a42 a43 a44 a45 _) [2] rfl (by decide +kernel) 2 (ci := 15) rfl (T := TX16) (N := 20) (C := "MinestrataModel") rfl q1495 q1496 q1497 q82 q1498 (by decide +kernel) ⟨(Nat.le_of_ble_eq_true rfl), (Nat.le_of_ble_eq_true rfl)⟩ ⟨(Nat.le_of_ble_eq_true rfl), (Nat.le_of_ble_eq_true rfl)⟩ hl.1 rfl rfl (Nat.le_of_ble_eq_true rfl) dL_law_802) [2] [0, 1] rfl rfl (by decide +kernel) (by decide +kernel) (fun f138 r139 H locs hP hD hS => ?_)
                have hP : va_P (dC, dI) CL [(a41, .inr (1, [.int (0), .ref (g 21), .int (0)])), (a42, .inr (1, [.int (0), .ref (g 21), .int (0)])), (a2, .inr (15, [.int (1), .int (0), .int (100), .int (0), .int (0), .ref a34, .ref a35, .ref a36, .ref a37, .ref a38, .ref a39, .ref a40, .ref a41, .ref a42, .ref a43, .ref a44, .null, .int (-1), .ref a45, .long (0)]))] _ := hP
                have hD : va_D A [(a41, .inr (1, [.int (0), .ref (g 21), .int (0)])), (a42, .inr (1, [.int (0), .ref (g 21), .int (0)])), (a2, .inr (15, [.int (1), .int (0), .int (100), .int (0), .int (0), .ref a34, .ref a35, .ref a36, .ref a37, .ref a38, .ref a39, .ref a40, .ref a41, .ref a42, .ref a43, .ref a44, .null, .int (-1), .ref a45, .long (0)]))] := hD
                refine W.widen (k := 244) (n := 2777) (Nat.le_of_ble_eq_true rfl) (Nat.le_of_ble_eq_true rfl) ?_
                refine W.eq (g2 := F0 m 805 ls [.int (1)]) rfl ?_
                refine lv_iload hx hb dL_law_805 (lv_at hl 1 rfl) ?_
                refine lv_icmp_eq (tgt := 812) hx hb dL_law_807 (by decide +kernel) (fun _ => ?_) (fun h => absurd (by decide +kernel) h)
                refine lv_iload hx hb dL_law_812 (lv_at hl 1 rfl) ?_
                refine lv_if_ne (tgt := 829) hx hb dL_law_814 (by decide +kernel) (fun _ => ?_) (fun h => absurd h (by decide +kernel))
                refine lv_goto (tgt := 2278) hx hb dL_law_829 (by decide +kernel) ?_
                refine lv_iinc (v := (5)) (lv' := [(5, .int (5)), (7, .int (32)), (6, .int (1)), (4, .ref a0), (3, .ref a1), (2, .ref a2), (1, .ref a3), (0, .ref b)]) hx hb dL_law_2278 hl (k := 2) rfl (by decide +kernel) (by decide) rfl (fun ls hl => ?_)
                refine lv_goto (tgt := 28) hx hb dL_law_2281 (by decide +kernel) ?_
                refine lv_iload hx hb dL_law_28 (lv_at hl 0 rfl) ?_
                refine lv_aload_n hx hb dL_law_30 rfl (lv_at hl 7 rfl) ?_
                refine va_slen hx hb hXs hbl hbA hS dL_law_31 ?_
                refine nt_i (v := (5)) (by decide +kernel) ?_
                refine lv_iconst (v := (5)) hx hb dL_law_32 (by decide +kernel) ?_
                refine lv_isub hx hb dL_law_33 ?_
                refine nt_i (v := (0)) (by decide +kernel) ?_
                refine lv_icmp_gt (tgt := 2284) hx hb dL_law_34 (by decide +kernel) (fun _ => ?_) (fun h => absurd (by decide +kernel) h)
                refine lv_iconst (v := (1)) hx hb dL_law_2284 (by decide +kernel) ?_
                refine va_forget (fun q9 hq9 => by have h9 := hS.2.2 q9 hq9; rw [← hAe] at h9; exact h9) ?_
                refine W.widen (k := 600006) (n := 7302056) (Nat.le_of_ble_eq_true rfl) (Nat.le_of_ble_eq_true rfl) ?_
                refine W.base ?_
                exact lw_ret (Drawn.sameBut.refl s.drawn lw_cs) hx hb hr hlk dL_law_2285

