set_option maxHeartbeats 4000000 in
set_option maxRecDepth 100000 in
theorem lc_20 {p : Program} {e : Env} {s : State} {m : MethodId} {below : List Frame} {meth : Method} {c : Code} (l : Launch) (hst : l.stackTraces = false) {b : Nat} {xs : Nat → Int32} (C0 : lw_At p s m meth c b 5 xs) (dC : Nat → ClassId) (dI : Nat → Nat → Nat) (g : Nat → Nat) (a0 a1 a2 a3 a4 a5 a6 a7 a8 a9 a10 a11 a12 a13 a14 a15 a16 a17 a18 a19 a20 a21 a22 a23 a24 a25 : Nat) {A : Nat → Prop} (hAe : (fun q : Nat => s.heap.size ≤ q) = A) (hE : EV dC dI g A s) (hA : ∀ q : Nat, s.heap.size ≤ q → A q) (hbA : ¬ A b) (H : Heap) (locs : List Loc) (hP : va_P (dC, dI) CL [(a3, .inr (12, [.ref a4, .ref a5, .ref a6, .ref a7, .ref a8, .ref a9, .ref a10, .ref a11, .null, .ref a12, .ref a13, .int (0), .int (100), .int (0), .int (0), .int (-1), .long (0), .int (1)])), (a2, .inr (15, [.int (0), .int (0), .int (100), .int (0), .int (0), .ref a14, .ref a15, .ref a16, .ref a17, .ref a18, .ref a19, .ref a20, .ref a21, .ref a22, .ref a23, .ref a24, .null, .int (-1), .ref a25, .long (0)])), (a24, .inr (1, [.int (0), .ref (g 21), .int (0)]))] H) (hD : va_D A [(a3, .inr (12, [.ref a4, .ref a5, .ref a6, .ref a7, .ref a8, .ref a9, .ref a10, .ref a11, .null, .ref a12, .ref a13, .int (0), .int (100), .int (0), .int (0), .int (-1), .long (0), .int (1)])), (a2, .inr (15, [.int (0), .int (0), .int (100), .int (0), .int (0), .ref a14, .ref a15, .ref a16, .ref a17, .ref a18, .ref a19, .ref a20, .ref a21, .ref a22, .ref a23, .ref a24, .null, .int (-1), .ref a25, .long (0)])), (a24, .inr (1, [.int (0), .ref (g 21), .int (0)]))]) (hS : va_S A s.heap H locs) (ls : Array Slot) (hl : lv_has ls 9 [(5, .int (0)), (4, .ref a0), (3, .ref a1), (2, .ref a2), (1, .ref a3), (0, .ref b)]) :
    W p l e room_1 s m #[Value.ref b] below meth c H locs 243 2771 (lw_Z below #[Value.ref b] s) (F0 m 44 ls [.int (20)]) := by
  obtain ⟨hx, hb, hr, hml, hown, hts0, hXs, hbl, hlk, hgv⟩ := id C0
  have hts : ∀ w ∈ AW, w.before #[Value.ref b] s = true := fun w h => hts0 w (aw_tbl h)
  have hown : s.vm.findClass "MinestrataLaw" = some m.cls := hown
  have hK := hE.1
  obtain ⟨s1, es1⟩ : ∃ y : Int32, xs (Int32.toNatClampNeg (1)) = y := ⟨_, rfl⟩
  obtain ⟨s2, es2⟩ : ∃ y : Int32, xs (Int32.toNatClampNeg (2)) = y := ⟨_, rfl⟩
  obtain ⟨s3, es3⟩ : ∃ y : Int32, xs (Int32.toNatClampNeg (3)) = y := ⟨_, rfl⟩
  obtain ⟨s4, es4⟩ : ∃ y : Int32, xs (Int32.toNatClampNeg (4)) = y := ⟨_, rfl⟩
  refine lv_tableIn (tgt := 1489) (off := 1445) hx hb dL_law_44 (by decide +kernel) (by decide +kernel) rfl (by decide +kernel) ?_
  refine lv_aload_n hx hb dL_law_1489 rfl (lv_at hl 4 rfl) ?_
  refine lv_aload_n hx hb dL_law_1490 rfl (lv_at hl 5 rfl) ?_
  refine lv_iload hx hb dL_law_1491 (lv_at hl 0 rfl) ?_
  refine lv_iconst (v := (1)) hx hb dL_law_1493 (by decide +kernel) ?_
  refine lv_iadd hx hb dL_law_1494 ?_
  refine nt_i (v := (1)) (by decide +kernel) ?_
  refine va_sld hx hb hXs hbl hbA hS (show ¬ ((1 : Int32) < 0 ∨ 5 ≤ Int32.toNatClampNeg (1)) by decide +kernel) dL_law_1495 ?_
  refine nt_i (v := s1) es1 ?_
  refine lv_aload_n hx hb dL_law_1496 rfl (lv_at hl 2 rfl) ?_
  have hX : nCx p s m _ c code 9 "MinestrataLaw" dC dI g A [(a3, .inr (12, [.ref a4, .ref a5, .ref a6, .ref a7, .ref a8, .ref a9, .ref a10, .ref a11, .null, .ref a12, .ref a13, .int (0), .int (100), .int (0), .int (0), .int (-1), .long (0), .int (1)])), (a2, .inr (15, [.int (0), .int (0), .int (100), .int (0), .int (0), .ref a14, .ref a15, .ref a16, .ref a17, .ref a18, .ref a19, .ref a20, .ref a21, .ref a22, .ref a23, .ref a24, .null, .int (-1), .ref a25, .long (0)])), (a24, .inr (1, [.int (0), .ref (g 21), .int (0)]))] _ _ := ⟨⟨hx, hb, hml, hown, hts⟩, hE, hS, hA, hP, hD⟩
  refine n_call (wr := [(a2, .inr (15, [.int (0), .int (0), .int (100), .int (0), .int (0), .ref a14, .ref a15, .ref a16, .ref a17, .ref a18, .ref a19, .ref a20, .ref a21, .ref a22, .ref a23, .ref a24, .null, .int (-1), .ref a25, .long (0)])), (a24, .inr (1, [.int (0), .ref (g 21), .int (0)]))]) hX (n_runSW (n := 3) (wc := [(a3, .inr (12, [.ref a4, .ref a5, .ref a6, .ref a7, .ref a8, .ref a9, .ref a10, .ref a11, .null, .ref a12, .ref a13, .int (0), .int (100), .int (0), .int (0), .int (-1), .long (0), .int (1)]))]) (As := [.ref a3, .int s1, .ref a1]) (rest := []) hX (m323 l hst dC dI g a3 a1 a4 a5 a6 a7 a8 a9 a10 a11 a12 a13 s1 _) [0] rfl (by decide +kernel) q1219 q1220 q70 q1221 (by decide +kernel) ⟨(Nat.le_of_ble_eq_true rfl), (Nat.le_of_ble_eq_true rfl)⟩ ⟨(Nat.le_of_ble_eq_true rfl), (Nat.le_of_ble_eq_true rfl)⟩ hl.1 rfl rfl (Nat.le_of_ble_eq_true rfl) dL_law_1497) [0] [1, 2] rfl rfl (by decide +kernel) (by decide +kernel) (fun f1 r2 H locs hP hD hS => ?_)
  have hP : va_P (dC, dI) CL [(a2, .inr (15, [.int (0), .int (0), .int (100), .int (0), .int (0), .ref a14, .ref a15, .ref a16, .ref a17, .ref a18, .ref a19, .ref a20, .ref a21, .ref a22, .ref a23, .ref a24, .null, .int (-1), .ref a25, .long (0)])), (a24, .inr (1, [.int (0), .ref (g 21), .int (0)]))] _ := hP
  have hD : va_D A [(a2, .inr (15, [.int (0), .int (0), .int (100), .int (0), .int (0), .ref a14, .ref a15, .ref a16, .ref a17, .ref a18, .ref a19, .ref a20, .ref a21, .ref a22, .ref a23, .ref a24, .null, .int (-1), .ref a25, .long (0)])), (a24, .inr (1, [.int (0), .ref (g 21), .int (0)]))] := hD
  refine W.widen (k := 244) (n := 2777) (Nat.le_of_ble_eq_true rfl) (Nat.le_of_ble_eq_true rfl) ?_
  refine W.eq (g2 := F0 m 1500 ls [.int (1)]) rfl ?_
  refine lv_istore (lv' := [(6, .int (1)), (5, .int (0)), (4, .ref a0), (3, .ref a1), (2, .ref a2), (1, .ref a3), (0, .ref b)]) hx hb dL_law_1500 hl (by decide) rfl (fun ls hl => ?_)
  refine lv_aload_n hx hb dL_law_1502 rfl (lv_at hl 4 rfl) ?_
  refine lv_aload_n hx hb dL_law_1503 rfl (lv_at hl 6 rfl) ?_
  refine lv_iload hx hb dL_law_1504 (lv_at hl 1 rfl) ?_
  refine lv_iconst (v := (1)) hx hb dL_law_1506 (by decide +kernel) ?_
  refine lv_iadd hx hb dL_law_1507 ?_
  refine nt_i (v := (1)) (by decide +kernel) ?_
  refine va_sld hx hb hXs hbl hbA hS (show ¬ ((1 : Int32) < 0 ∨ 5 ≤ Int32.toNatClampNeg (1)) by decide +kernel) dL_law_1508 ?_
  refine nt_i (v := s1) es1 ?_
  have hX : nCx p s m _ c code 9 "MinestrataLaw" dC dI g A [(a2, .inr (15, [.int (0), .int (0), .int (100), .int (0), .int (0), .ref a14, .ref a15, .ref a16, .ref a17, .ref a18, .ref a19, .ref a20, .ref a21, .ref a22, .ref a23, .ref a24, .null, .int (-1), .ref a25, .long (0)])), (a24, .inr (1, [.int (0), .ref (g 21), .int (0)]))] _ _ := ⟨⟨hx, hb, hml, hown, hts⟩, hE, hS, hA, hP, hD⟩
  refine n_call (wr := []) hX (n_runV (n := 1) (wc := [(a2, .inr (15, [.int (0), .int (0), .int (100), .int (0), .int (0), .ref a14, .ref a15, .ref a16, .ref a17, .ref a18, .ref a19, .ref a20, .ref a21, .ref a22, .ref a23, .ref a24, .null, .int (-1), .ref a25, .long (0)])), (a24, .inr (1, [.int (0), .ref (g 21), .int (0)]))]) (As := [.int s1]) (rest := []) hX (m324 l hst dC dI g a2 a14 a15 a16 a17 a18 a19 a20 a21 a22 a23 a24 a25 s1 _) [0, 1] rfl (by decide +kernel) 0 (ci := 15) rfl (T := TX16) (N := 20) (C := "MinestrataModel") rfl q2090 q2091 q2092 q82 q2093 (by decide +kernel) ⟨(Nat.le_of_ble_eq_true rfl), (Nat.le_of_ble_eq_true rfl)⟩ ⟨(Nat.le_of_ble_eq_true rfl), (Nat.le_of_ble_eq_true rfl)⟩ hl.1 rfl rfl (Nat.le_of_ble_eq_true rfl) dL_law_1509) [0, 1] [] rfl rfl (by decide +kernel) (by decide +kernel) (fun f3 r4 H locs hP hD hS => ?_)
  have hP : va_P (dC, dI) CL [(a2, .inr (15, [.int (1), .int (0), .int (100), .int (0), .int (0), .ref a14, .ref a15, .ref a16, .ref a17, .ref a18, .ref a19, .ref a20, .ref a21, .ref a22, .ref a23, .ref a24, .null, .int (-1), .ref a25, .long (0)])), (a24, .inr (1, [.int (0), .ref (g 21), .int (0)]))] _ := hP
  have hD : va_D A [(a2, .inr (15, [.int (1), .int (0), .int (100), .int (0), .int (0), .ref a14, .ref a15, .ref a16, .ref a17, .ref a18, .ref a19, .ref a20, .ref a21, .ref a22, .ref a23, .ref a24, .null, .int (-1), .ref a25, .long (0)])), (a24, .inr (1, [.int (0), .ref (g 21), .int (0)]))] := hD
  refine W.widen (k := 244) (n := 2777) (Nat.le_of_ble_eq_true rfl) (Nat.le_of_ble_eq_true rfl) ?_
  refine W.eq (g2 := F0 m 1512 ls [.int (0)]) rfl ?_
  refine lv_istore (lv' := [(7, .int (0)), (6, .int (1)), (5, .int (0)), (4, .ref a0), (3, .ref a1), (2, .ref a2), (1, .ref a3), (0, .ref b)]) hx hb dL_law_1512 hl (by decide) rfl (fun ls hl => ?_)
  refine lv_aload_n hx hb dL_law_1514 rfl (lv_at hl 5 rfl) ?_
  have hX : nCx p s m _ c code 9 "MinestrataLaw" dC dI g A [(a2, .inr (15, [.int (1), .int (0), .int (100), .int (0), .int (0), .ref a14, .ref a15, .ref a16, .ref a17, .ref a18, .ref a19, .ref a20, .ref a21, .ref a22, .ref a23, .ref a24, .null, .int (-1), .ref a25, .long (0)])), (a24, .inr (1, [.int (0), .ref (g 21), .int (0)]))] _ _ := ⟨⟨hx, hb, hml, hown, hts⟩, hE, hS, hA, hP, hD⟩
  refine n_call (wr := [(a24, .inr (1, [.int (0), .ref (g 21), .int (0)]))]) hX (n_runV (n := 0) (wc := [(a2, .inr (15, [.int (1), .int (0), .int (100), .int (0), .int (0), .ref a14, .ref a15, .ref a16, .ref a17, .ref a18, .ref a19, .ref a20, .ref a21, .ref a22, .ref a23, .ref a24, .null, .int (-1), .ref a25, .long (0)]))]) (As := []) (rest := []) hX (m33 l hst dC dI g a2 a14 a15 a16 a17 a18 a19 a20 a21 a22 a23 a24 a25 _) [0] rfl (by decide +kernel) 0 (ci := 15) rfl (T := TX16) (N := 20) (C := "MinestrataModel") rfl q1495 q1496 q1497 q82 q1498 (by decide +kernel) ⟨(Nat.le_of_ble_eq_true rfl), (Nat.le_of_ble_eq_true rfl)⟩ ⟨(Nat.le_of_ble_eq_true rfl), (Nat.le_of_ble_eq_true rfl)⟩ hl.1 rfl rfl (Nat.le_of_ble_eq_true rfl) dL_law_1515) [0] [1] rfl rfl (by decide +kernel) (by decide +kernel) (fun f5 r6 H locs hP hD hS => ?_)
  have hP : va_P (dC, dI) CL [(a24, .inr (1, [.int (0), .ref (g 21), .int (0)])), (a2, .inr (15, [.int (1), .int (0), .int (100), .int (0), .int (0), .ref a14, .ref a15, .ref a16, .ref a17, .ref a18, .ref a19, .ref a20, .ref a21, .ref a22, .ref a23, .ref a24, .null, .int (-1), .ref a25, .long (0)]))] _ := hP
  have hD : va_D A [(a24, .inr (1, [.int (0), .ref (g 21), .int (0)])), (a2, .inr (15, [.int (1), .int (0), .int (100), .int (0), .int (0), .ref a14, .ref a15, .ref a16, .ref a17, .ref a18, .ref a19, .ref a20, .ref a21, .ref a22, .ref a23, .ref a24, .null, .int (-1), .ref a25, .long (0)]))] := hD
  refine W.widen (k := 244) (n := 2777) (Nat.le_of_ble_eq_true rfl) (Nat.le_of_ble_eq_true rfl) ?_
  refine W.eq (g2 := F0 m 1518 ls [.int (1)]) rfl ?_
  refine lv_iload hx hb dL_law_1518 (lv_at hl 1 rfl) ?_
  refine lv_icmp_eq (tgt := 1525) hx hb dL_law_1520 (by decide +kernel) (fun _ => ?_) (fun h => absurd (by decide +kernel) h)
  refine lv_iload hx hb dL_law_1525 (lv_at hl 1 rfl) ?_
  refine lv_if_ne (tgt := 1549) hx hb dL_law_1527 (by decide +kernel) (fun _ => ?_) (fun h => absurd h (by decide +kernel))
  refine lv_goto (tgt := 2278) hx hb dL_law_1549 (by decide +kernel) ?_
  refine lv_iinc (v := (5)) (lv' := [(5, .int (5)), (7, .int (0)), (6, .int (1)), (4, .ref a0), (3, .ref a1), (2, .ref a2), (1, .ref a3), (0, .ref b)]) hx hb dL_law_2278 hl (k := 2) rfl (by decide +kernel) (by decide) rfl (fun ls hl => ?_)
  refine lv_goto (tgt := 28) hx hb dL_law_2281 (by decide +kernel) ?_
  refine lv_iload hx hb dL_law_28 (lv_at hl 0 rfl) ?_
  refine lv_aload_n hx hb dL_law_30 rfl (lv_at hl 7 rfl) ?_
  refine va_slen hx hb hXs hbl hbA hS dL_law_31 ?_
  refine nt_i (v := (5)) (by decide +kernel) ?_
  refine lv_iconst (v := (5)) hx hb dL_law_32 (by decide +kernel) ?_
  refine lv_isub hx hb dL_law_33 ?_
  refine nt_i (v := (0)) (by decide +kernel) ?_
  refine lv_icmp_gt (tgt := 2284) hx hb dL_law_34 (by decide +kernel) (fun _ => ?_) (fun h => absurd (by decide +kernel) h)
  refine lv_iconst (v := (1)) hx hb dL_law_2284 (by decide +kernel) ?_
  refine va_forget (fun q9 hq9 => by have h9 := hS.2.2 q9 hq9; rw [← hAe] at h9; exact h9) ?_
  refine W.widen (k := 600006) (n := 7302056) (Nat.le_of_ble_eq_true rfl) (Nat.le_of_ble_eq_true rfl) ?_
  refine W.base ?_
  exact lw_ret (Drawn.sameBut.refl s.drawn lw_cs) hx hb hr hlk dL_law_2285

set_option maxHeartbeats 4000000 in
set_option maxRecDepth 100000 in
theorem lc_21 {p : Program} {e : Env} {s : State} {m : MethodId} {below : List Frame} {meth : Method} {c : Code} (l : Launch) (hst : l.stackTraces = false) {b : Nat} {xs : Nat → Int32} (C0 : lw_At p s m meth c b 5 xs) (dC : Nat → ClassId) (dI : Nat → Nat → Nat) (g : Nat → Nat) (a0 a1 a2 a3 a4 a5 a6 a7 a8 a9 a10 a11 a12 a13 a14 a15 a16 a17 a18 a19 a20 a21 a22 a23 a24 a25 : Nat) {A : Nat → Prop} (hAe : (fun q : Nat => s.heap.size ≤ q) = A) (hE : EV dC dI g A s) (hA : ∀ q : Nat, s.heap.size ≤ q → A q) (hbA : ¬ A b) (H : Heap) (locs : List Loc) (hP : va_P (dC, dI) CL [(a3, .inr (12, [.ref a4, .ref a5, .ref a6, .ref a7, .ref a8, .ref a9, .ref a10, .ref a11, .null, .ref a12, .ref a13, .int (0), .int (100), .int (0), .int (0), .int (-1), .long (0), .int (1)])), (a2, .inr (15, [.int (0), .int (0), .int (100), .int (0), .int (0), .ref a14, .ref a15, .ref a16, .ref a17, .ref a18, .ref a19, .ref a20, .ref a21, .ref a22, .ref a23, .ref a24, .null, .int (-1), .ref a25, .long (0)])), (a24, .inr (1, [.int (0), .ref (g 21), .int (0)]))] H) (hD : va_D A [(a3, .inr (12, [.ref a4, .ref a5, .ref a6, .ref a7, .ref a8, .ref a9, .ref a10, .ref a11, .null, .ref a12, .ref a13, .int (0), .int (100), .int (0), .int (0), .int (-1), .long (0), .int (1)])), (a2, .inr (15, [.int (0), .int (0), .int (100), .int (0), .int (0), .ref a14, .ref a15, .ref a16, .ref a17, .ref a18, .ref a19, .ref a20, .ref a21, .ref a22, .ref a23, .ref a24, .null, .int (-1), .ref a25, .long (0)])), (a24, .inr (1, [.int (0), .ref (g 21), .int (0)]))]) (hS : va_S A s.heap H locs) (ls : Array Slot) (hl : lv_has ls 9 [(5, .int (0)), (4, .ref a0), (3, .ref a1), (2, .ref a2), (1, .ref a3), (0, .ref b)]) :
    W p l e room_1 s m #[Value.ref b] below meth c H locs 243 2771 (lw_Z below #[Value.ref b] s) (F0 m 44 ls [.int (21)]) := by
  obtain ⟨hx, hb, hr, hml, hown, hts0, hXs, hbl, hlk, hgv⟩ := id C0
  have hts : ∀ w ∈ AW, w.before #[Value.ref b] s = true := fun w h => hts0 w (aw_tbl h)
  have hown : s.vm.findClass "MinestrataLaw" = some m.cls := hown
  have hK := hE.1
  obtain ⟨s1, es1⟩ : ∃ y : Int32, xs (Int32.toNatClampNeg (1)) = y := ⟨_, rfl⟩
  obtain ⟨s2, es2⟩ : ∃ y : Int32, xs (Int32.toNatClampNeg (2)) = y := ⟨_, rfl⟩
  obtain ⟨s3, es3⟩ : ∃ y : Int32, xs (Int32.toNatClampNeg (3)) = y := ⟨_, rfl⟩
  obtain ⟨s4, es4⟩ : ∃ y : Int32, xs (Int32.toNatClampNeg (4)) = y := ⟨_, rfl⟩
  refine lv_tableIn (tgt := 1552) (off := 1508) hx hb dL_law_44 (by decide +kernel) (by decide +kernel) rfl (by decide +kernel) ?_
  refine lv_aload_n hx hb dL_law_1552 rfl (lv_at hl 4 rfl) ?_
  refine lv_aload_n hx hb dL_law_1553 rfl (lv_at hl 5 rfl) ?_
  refine lv_iload hx hb dL_law_1554 (lv_at hl 0 rfl) ?_
  refine lv_iconst (v := (1)) hx hb dL_law_1556 (by decide +kernel) ?_
  refine lv_iadd hx hb dL_law_1557 ?_
  refine nt_i (v := (1)) (by decide +kernel) ?_
  refine va_sld hx hb hXs hbl hbA hS (show ¬ ((1 : Int32) < 0 ∨ 5 ≤ Int32.toNatClampNeg (1)) by decide +kernel) dL_law_1558 ?_
  refine nt_i (v := s1) es1 ?_
  refine lv_aload_n hx hb dL_law_1559 rfl (lv_at hl 2 rfl) ?_
  have hX : nCx p s m _ c code 9 "MinestrataLaw" dC dI g A [(a3, .inr (12, [.ref a4, .ref a5, .ref a6, .ref a7, .ref a8, .ref a9, .ref a10, .ref a11, .null, .ref a12, .ref a13, .int (0), .int (100), .int (0), .int (0), .int (-1), .long (0), .int (1)])), (a2, .inr (15, [.int (0), .int (0), .int (100), .int (0), .int (0), .ref a14, .ref a15, .ref a16, .ref a17, .ref a18, .ref a19, .ref a20, .ref a21, .ref a22, .ref a23, .ref a24, .null, .int (-1), .ref a25, .long (0)])), (a24, .inr (1, [.int (0), .ref (g 21), .int (0)]))] _ _ := ⟨⟨hx, hb, hml, hown, hts⟩, hE, hS, hA, hP, hD⟩
  refine n_call (wr := [(a2, .inr (15, [.int (0), .int (0), .int (100), .int (0), .int (0), .ref a14, .ref a15, .ref a16, .ref a17, .ref a18, .ref a19, .ref a20, .ref a21, .ref a22, .ref a23, .ref a24, .null, .int (-1), .ref a25, .long (0)])), (a24, .inr (1, [.int (0), .ref (g 21), .int (0)]))]) hX (n_runSW (n := 3) (wc := [(a3, .inr (12, [.ref a4, .ref a5, .ref a6, .ref a7, .ref a8, .ref a9, .ref a10, .ref a11, .null, .ref a12, .ref a13, .int (0), .int (100), .int (0), .int (0), .int (-1), .long (0), .int (1)]))]) (As := [.ref a3, .int s1, .ref a1]) (rest := []) hX (m326 l hst dC dI g a3 a1 a4 a5 a6 a7 a8 a9 a10 a11 a12 a13 s1 _) [0] rfl (by decide +kernel) q1226 q1227 q70 q1228 (by decide +kernel) ⟨(Nat.le_of_ble_eq_true rfl), (Nat.le_of_ble_eq_true rfl)⟩ ⟨(Nat.le_of_ble_eq_true rfl), (Nat.le_of_ble_eq_true rfl)⟩ hl.1 rfl rfl (Nat.le_of_ble_eq_true rfl) dL_law_1560) [0] [1, 2] rfl rfl (by decide +kernel) (by decide +kernel) (fun f1 r2 H locs hP hD hS => ?_)
  have hP : va_P (dC, dI) CL [(a2, .inr (15, [.int (0), .int (0), .int (100), .int (0), .int (0), .ref a14, .ref a15, .ref a16, .ref a17, .ref a18, .ref a19, .ref a20, .ref a21, .ref a22, .ref a23, .ref a24, .null, .int (-1), .ref a25, .long (0)])), (a24, .inr (1, [.int (0), .ref (g 21), .int (0)]))] _ := hP
  have hD : va_D A [(a2, .inr (15, [.int (0), .int (0), .int (100), .int (0), .int (0), .ref a14, .ref a15, .ref a16, .ref a17, .ref a18, .ref a19, .ref a20, .ref a21, .ref a22, .ref a23, .ref a24, .null, .int (-1), .ref a25, .long (0)])), (a24, .inr (1, [.int (0), .ref (g 21), .int (0)]))] := hD
  refine W.widen (k := 244) (n := 2777) (Nat.le_of_ble_eq_true rfl) (Nat.le_of_ble_eq_true rfl) ?_
  refine W.eq (g2 := F0 m 1563 ls [.int (1)]) rfl ?_
  refine lv_istore (lv' := [(6, .int (1)), (5, .int (0)), (4, .ref a0), (3, .ref a1), (2, .ref a2), (1, .ref a3), (0, .ref b)]) hx hb dL_law_1563 hl (by decide) rfl (fun ls hl => ?_)
  refine lv_aload_n hx hb dL_law_1565 rfl (lv_at hl 4 rfl) ?_
  refine lv_aload_n hx hb dL_law_1566 rfl (lv_at hl 6 rfl) ?_
  refine lv_iload hx hb dL_law_1567 (lv_at hl 1 rfl) ?_
  refine lv_iconst (v := (1)) hx hb dL_law_1569 (by decide +kernel) ?_
  refine lv_iadd hx hb dL_law_1570 ?_
  refine nt_i (v := (1)) (by decide +kernel) ?_
  refine va_sld hx hb hXs hbl hbA hS (show ¬ ((1 : Int32) < 0 ∨ 5 ≤ Int32.toNatClampNeg (1)) by decide +kernel) dL_law_1571 ?_
  refine nt_i (v := s1) es1 ?_
  have hX : nCx p s m _ c code 9 "MinestrataLaw" dC dI g A [(a2, .inr (15, [.int (0), .int (0), .int (100), .int (0), .int (0), .ref a14, .ref a15, .ref a16, .ref a17, .ref a18, .ref a19, .ref a20, .ref a21, .ref a22, .ref a23, .ref a24, .null, .int (-1), .ref a25, .long (0)])), (a24, .inr (1, [.int (0), .ref (g 21), .int (0)]))] _ _ := ⟨⟨hx, hb, hml, hown, hts⟩, hE, hS, hA, hP, hD⟩
  refine n_call (wr := []) hX (n_runV (n := 1) (wc := [(a2, .inr (15, [.int (0), .int (0), .int (100), .int (0), .int (0), .ref a14, .ref a15, .ref a16, .ref a17, .ref a18, .ref a19, .ref a20, .ref a21, .ref a22, .ref a23, .ref a24, .null, .int (-1), .ref a25, .long (0)])), (a24, .inr (1, [.int (0), .ref (g 21), .int (0)]))]) (As := [.int s1]) (rest := []) hX (m327 l hst dC dI g a2 a14 a15 a16 a17 a18 a19 a20 a21 a22 a23 a24 a25 s1 _) [0, 1] rfl (by decide +kernel) 0 (ci := 15) rfl (T := TX16) (N := 20) (C := "MinestrataModel") rfl q2094 q2095 q2096 q82 q2097 (by decide +kernel) ⟨(Nat.le_of_ble_eq_true rfl), (Nat.le_of_ble_eq_true rfl)⟩ ⟨(Nat.le_of_ble_eq_true rfl), (Nat.le_of_ble_eq_true rfl)⟩ hl.1 rfl rfl (Nat.le_of_ble_eq_true rfl) dL_law_1572) [0, 1] [] rfl rfl (by decide +kernel) (by decide +kernel) (fun f3 r4 H locs hP hD hS => ?_)
  have hP : va_P (dC, dI) CL [(a2, .inr (15, [.int (1), .int (0), .int (100), .int (0), .int (0), .ref a14, .ref a15, .ref a16, .ref a17, .ref a18, .ref a19, .ref a20, .ref a21, .ref a22, .ref a23, .ref a24, .null, .int (-1), .ref a25, .long (0)])), (a24, .inr (1, [.int (0), .ref (g 21), .int (0)]))] _ := hP
  have hD : va_D A [(a2, .inr (15, [.int (1), .int (0), .int (100), .int (0), .int (0), .ref a14, .ref a15, .ref a16, .ref a17, .ref a18, .ref a19, .ref a20, .ref a21, .ref a22, .ref a23, .ref a24, .null, .int (-1), .ref a25, .long (0)])), (a24, .inr (1, [.int (0), .ref (g 21), .int (0)]))] := hD
  refine W.widen (k := 244) (n := 2777) (Nat.le_of_ble_eq_true rfl) (Nat.le_of_ble_eq_true rfl) ?_
  refine W.eq (g2 := F0 m 1575 ls [.int (0)]) rfl ?_
  refine lv_istore (lv' := [(7, .int (0)), (6, .int (1)), (5, .int (0)), (4, .ref a0), (3, .ref a1), (2, .ref a2), (1, .ref a3), (0, .ref b)]) hx hb dL_law_1575 hl (by decide) rfl (fun ls hl => ?_)
  refine lv_aload_n hx hb dL_law_1577 rfl (lv_at hl 5 rfl) ?_
  have hX : nCx p s m _ c code 9 "MinestrataLaw" dC dI g A [(a2, .inr (15, [.int (1), .int (0), .int (100), .int (0), .int (0), .ref a14, .ref a15, .ref a16, .ref a17, .ref a18, .ref a19, .ref a20, .ref a21, .ref a22, .ref a23, .ref a24, .null, .int (-1), .ref a25, .long (0)])), (a24, .inr (1, [.int (0), .ref (g 21), .int (0)]))] _ _ := ⟨⟨hx, hb, hml, hown, hts⟩, hE, hS, hA, hP, hD⟩
  refine n_call (wr := [(a24, .inr (1, [.int (0), .ref (g 21), .int (0)]))]) hX (n_runV (n := 0) (wc := [(a2, .inr (15, [.int (1), .int (0), .int (100), .int (0), .int (0), .ref a14, .ref a15, .ref a16, .ref a17, .ref a18, .ref a19, .ref a20, .ref a21, .ref a22, .ref a23, .ref a24, .null, .int (-1), .ref a25, .long (0)]))]) (As := []) (rest := []) hX (m33 l hst dC dI g a2 a14 a15 a16 a17 a18 a19 a20 a21 a22 a23 a24 a25 _) [0] rfl (by decide +kernel) 0 (ci := 15) rfl (T := TX16) (N := 20) (C := "MinestrataModel") rfl q1495 q1496 q1497 q82 q1498 (by decide +kernel) ⟨(Nat.le_of_ble_eq_true rfl), (Nat.le_of_ble_eq_true rfl)⟩ ⟨(Nat.le_of_ble_eq_true rfl), (Nat.le_of_ble_eq_true rfl)⟩ hl.1 rfl rfl (Nat.le_of_ble_eq_true rfl) dL_law_1578) [0] [1] rfl rfl (by decide +kernel) (by decide +kernel) (fun f5 r6 H locs hP hD hS => ?_)
  have hP : va_P (dC, dI) CL [(a24, .inr (1, [.int (0), .ref (g 21), .int (0)])), (a2, .inr (15, [.int (1), .int (0), .int (100), .int (0), .int (0), .ref a14, .ref a15, .ref a16, .ref a17, .ref a18, .ref a19, .ref a20, .ref a21, .ref a22, .ref a23, .ref a24, .null, .int (-1), .ref a25, .long (0)]))] _ := hP
  have hD : va_D A [(a24, .inr (1, [.int (0), .ref (g 21), .int (0)])), (a2, .inr (15, [.int (1), .int (0), .int (100), .int (0), .int (0), .ref a14, .ref a15, .ref a16, .ref a17, .ref a18, .ref a19, .ref a20, .ref a21, .ref a22, .ref a23, .ref a24, .null, .int (-1), .ref a25, .long (0)]))] := hD
  refine W.widen (k := 244) (n := 2777) (Nat.le_of_ble_eq_true rfl) (Nat.le_of_ble_eq_true rfl) ?_
  refine W.eq (g2 := F0 m 1581 ls [.int (1)]) rfl ?_
  refine lv_iload hx hb dL_law_1581 (lv_at hl 1 rfl) ?_
  refine lv_icmp_eq (tgt := 1588) hx hb dL_law_1583 (by decide +kernel) (fun _ => ?_) (fun h => absurd (by decide +kernel) h)
  refine lv_iload hx hb dL_law_1588 (lv_at hl 1 rfl) ?_
  refine lv_if_ne (tgt := 1612) hx hb dL_law_1590 (by decide +kernel) (fun _ => ?_) (fun h => absurd h (by decide +kernel))
  refine lv_goto (tgt := 2278) hx hb dL_law_1612 (by decide +kernel) ?_
  refine lv_iinc (v := (5)) (lv' := [(5, .int (5)), (7, .int (0)), (6, .int (1)), (4, .ref a0), (3, .ref a1), (2, .ref a2), (1, .ref a3), (0, .ref b)]) hx hb dL_law_2278 hl (k := 2) rfl (by decide +kernel) (by decide) rfl (fun ls hl => ?_)
  refine lv_goto (tgt := 28) hx hb dL_law_2281 (by decide +kernel) ?_
  refine lv_iload hx hb dL_law_28 (lv_at hl 0 rfl) ?_
  refine lv_aload_n hx hb dL_law_30 rfl (lv_at hl 7 rfl) ?_
  refine va_slen hx hb hXs hbl hbA hS dL_law_31 ?_
  refine nt_i (v := (5)) (by decide +kernel) ?_
  refine lv_iconst (v := (5)) hx hb dL_law_32 (by decide +kernel) ?_
  refine lv_isub hx hb dL_law_33 ?_
  refine nt_i (v := (0)) (by decide +kernel) ?_
  refine lv_icmp_gt (tgt := 2284) hx hb dL_law_34 (by decide +kernel) (fun _ => ?_) (fun h => absurd (by decide +kernel) h)
  refine lv_iconst (v := (1)) hx hb dL_law_2284 (by decide +kernel) ?_
  refine va_forget (fun q9 hq9 => by have h9 := hS.2.2 q9 hq9; rw [← hAe] at h9; exact h9) ?_
  refine W.widen (k := 600006) (n := 7302056) (Nat.le_of_ble_eq_true rfl) (Nat.le_of_ble_eq_true rfl) ?_
  refine W.base ?_
  exact lw_ret (Drawn.sameBut.refl s.drawn lw_cs) hx hb hr hlk dL_law_2285

set_option maxHeartbeats 4000000 in
set_option maxRecDepth 100000 in
theorem lc_22 {p : Program} {e : Env} {s : State} {m : MethodId} {below : List Frame} {meth : Method} {c : Code} (l : Launch) (hst : l.stackTraces = false) {b : Nat} {xs : Nat → Int32} (C0 : lw_At p s m meth c b 5 xs) (dC : Nat → ClassId) (dI : Nat → Nat → Nat) (g : Nat → Nat) (a0 a1 a2 a3 a4 a5 a6 a7 a8 a9 a10 a11 a12 a13 a14 a15 a16 a17 a18 a19 a20 a21 a22 a23 a24 a25 a26 a27 a28 a29 a30 a31 a32 a33 a34 a35 a36 : Nat) {A : Nat → Prop} (hAe : (fun q : Nat => s.heap.size ≤ q) = A) (hE : EV dC dI g A s) (hA : ∀ q : Nat, s.heap.size ≤ q → A q) (hbA : ¬ A b) (H : Heap) (locs : List Loc) (hP : va_P (dC, dI) CL [(a3, .inr (12, [.ref a4, .ref a5, .ref a6, .ref a7, .ref a8, .ref a9, .ref a10, .ref a11, .null, .ref a12, .ref a13, .int (0), .int (100), .int (0), .int (0), .int (-1), .long (0), .int (1)])), (a4, .inr (8, [.int (0), .ref a14, .ref a15, .ref a16, .ref a17, .int (0), .ref a18, .ref a19, .ref a20, .ref a21, .ref a22, .ref a23, .ref a24])), (a2, .inr (15, [.int (0), .int (0), .int (100), .int (0), .int (0), .ref a25, .ref a26, .ref a27, .ref a28, .ref a29, .ref a30, .ref a31, .ref a32, .ref a33, .ref a34, .ref a35, .null, .int (-1), .ref a36, .long (0)]))] H) (hD : va_D A [(a3, .inr (12, [.ref a4, .ref a5, .ref a6, .ref a7, .ref a8, .ref a9, .ref a10, .ref a11, .null, .ref a12, .ref a13, .int (0), .int (100), .int (0), .int (0), .int (-1), .long (0), .int (1)])), (a4, .inr (8, [.int (0), .ref a14, .ref a15, .ref a16, .ref a17, .int (0), .ref a18, .ref a19, .ref a20, .ref a21, .ref a22, .ref a23, .ref a24])), (a2, .inr (15, [.int (0), .int (0), .int (100), .int (0), .int (0), .ref a25, .ref a26, .ref a27, .ref a28, .ref a29, .ref a30, .ref a31, .ref a32, .ref a33, .ref a34, .ref a35, .null, .int (-1), .ref a36, .long (0)]))]) (hS : va_S A s.heap H locs) (ls : Array Slot) (hl : lv_has ls 9 [(5, .int (0)), (4, .ref a0), (3, .ref a1), (2, .ref a2), (1, .ref a3), (0, .ref b)]) :
    W p l e room_1 s m #[Value.ref b] below meth c H locs 243 2771 (lw_Z below #[Value.ref b] s) (F0 m 44 ls [.int (22)]) := by
  obtain ⟨hx, hb, hr, hml, hown, hts0, hXs, hbl, hlk, hgv⟩ := id C0
  have hts : ∀ w ∈ AW, w.before #[Value.ref b] s = true := fun w h => hts0 w (aw_tbl h)
  have hown : s.vm.findClass "MinestrataLaw" = some m.cls := hown
  have hK := hE.1
  obtain ⟨s1, es1⟩ : ∃ y : Int32, xs (Int32.toNatClampNeg (1)) = y := ⟨_, rfl⟩
  obtain ⟨s2, es2⟩ : ∃ y : Int32, xs (Int32.toNatClampNeg (2)) = y := ⟨_, rfl⟩
  obtain ⟨s3, es3⟩ : ∃ y : Int32, xs (Int32.toNatClampNeg (3)) = y := ⟨_, rfl⟩
  obtain ⟨s4, es4⟩ : ∃ y : Int32, xs (Int32.toNatClampNeg (4)) = y := ⟨_, rfl⟩
  refine lv_tableIn (tgt := 1615) (off := 1571) hx hb dL_law_44 (by decide +kernel) (by decide +kernel) rfl (by decide +kernel) ?_
  refine lv_aload_n hx hb dL_law_1615 rfl (lv_at hl 4 rfl) ?_
  refine lv_aload_n hx hb dL_law_1616 rfl (lv_at hl 5 rfl) ?_
  refine lv_iload hx hb dL_law_1617 (lv_at hl 0 rfl) ?_
  refine lv_iconst (v := (1)) hx hb dL_law_1619 (by decide +kernel) ?_
  refine lv_iadd hx hb dL_law_1620 ?_
  refine nt_i (v := (1)) (by decide +kernel) ?_
  refine va_sld hx hb hXs hbl hbA hS (show ¬ ((1 : Int32) < 0 ∨ 5 ≤ Int32.toNatClampNeg (1)) by decide +kernel) dL_law_1621 ?_
  refine nt_i (v := s1) es1 ?_
  refine lv_aload_n hx hb dL_law_1622 rfl (lv_at hl 2 rfl) ?_
  have hX : nCx p s m _ c code 9 "MinestrataLaw" dC dI g A [(a3, .inr (12, [.ref a4, .ref a5, .ref a6, .ref a7, .ref a8, .ref a9, .ref a10, .ref a11, .null, .ref a12, .ref a13, .int (0), .int (100), .int (0), .int (0), .int (-1), .long (0), .int (1)])), (a4, .inr (8, [.int (0), .ref a14, .ref a15, .ref a16, .ref a17, .int (0), .ref a18, .ref a19, .ref a20, .ref a21, .ref a22, .ref a23, .ref a24])), (a2, .inr (15, [.int (0), .int (0), .int (100), .int (0), .int (0), .ref a25, .ref a26, .ref a27, .ref a28, .ref a29, .ref a30, .ref a31, .ref a32, .ref a33, .ref a34, .ref a35, .null, .int (-1), .ref a36, .long (0)]))] _ _ := ⟨⟨hx, hb, hml, hown, hts⟩, hE, hS, hA, hP, hD⟩
  refine n_call (wr := [(a2, .inr (15, [.int (0), .int (0), .int (100), .int (0), .int (0), .ref a25, .ref a26, .ref a27, .ref a28, .ref a29, .ref a30, .ref a31, .ref a32, .ref a33, .ref a34, .ref a35, .null, .int (-1), .ref a36, .long (0)]))]) hX (n_runSW (n := 3) (wc := [(a3, .inr (12, [.ref a4, .ref a5, .ref a6, .ref a7, .ref a8, .ref a9, .ref a10, .ref a11, .null, .ref a12, .ref a13, .int (0), .int (100), .int (0), .int (0), .int (-1), .long (0), .int (1)])), (a4, .inr (8, [.int (0), .ref a14, .ref a15, .ref a16, .ref a17, .int (0), .ref a18, .ref a19, .ref a20, .ref a21, .ref a22, .ref a23, .ref a24]))]) (As := [.ref a3, .int s1, .ref a1]) (rest := []) hX (m329 l hst dC dI g a3 a1 a4 a5 a6 a7 a8 a9 a10 a11 a12 a13 a14 a15 a16 a17 a18 a19 a20 a21 a22 a23 a24 s1 _) [0, 1] rfl (by decide +kernel) q1233 q1234 q70 q1235 (by decide +kernel) ⟨(Nat.le_of_ble_eq_true rfl), (Nat.le_of_ble_eq_true rfl)⟩ ⟨(Nat.le_of_ble_eq_true rfl), (Nat.le_of_ble_eq_true rfl)⟩ hl.1 rfl rfl (Nat.le_of_ble_eq_true rfl) dL_law_1623) [0, 1] [2] rfl rfl (by decide +kernel) (by decide +kernel) (fun f1 r2 H locs hP hD hS => ?_)
  have hP : va_P (dC, dI) CL [(a2, .inr (15, [.int (0), .int (0), .int (100), .int (0), .int (0), .ref a25, .ref a26, .ref a27, .ref a28, .ref a29, .ref a30, .ref a31, .ref a32, .ref a33, .ref a34, .ref a35, .null, .int (-1), .ref a36, .long (0)]))] _ := hP
  have hD : va_D A [(a2, .inr (15, [.int (0), .int (0), .int (100), .int (0), .int (0), .ref a25, .ref a26, .ref a27, .ref a28, .ref a29, .ref a30, .ref a31, .ref a32, .ref a33, .ref a34, .ref a35, .null, .int (-1), .ref a36, .long (0)]))] := hD
  refine W.widen (k := 244) (n := 2777) (Nat.le_of_ble_eq_true rfl) (Nat.le_of_ble_eq_true rfl) ?_
  refine W.eq (g2 := F0 m 1626 ls [.int (1)]) rfl ?_
  refine lv_istore (lv' := [(6, .int (1)), (5, .int (0)), (4, .ref a0), (3, .ref a1), (2, .ref a2), (1, .ref a3), (0, .ref b)]) hx hb dL_law_1626 hl (by decide) rfl (fun ls hl => ?_)
  refine lv_aload_n hx hb dL_law_1628 rfl (lv_at hl 4 rfl) ?_
  refine lv_aload_n hx hb dL_law_1629 rfl (lv_at hl 6 rfl) ?_
  refine lv_iload hx hb dL_law_1630 (lv_at hl 1 rfl) ?_
  refine lv_iconst (v := (1)) hx hb dL_law_1632 (by decide +kernel) ?_
  refine lv_iadd hx hb dL_law_1633 ?_
  refine nt_i (v := (1)) (by decide +kernel) ?_
  refine va_sld hx hb hXs hbl hbA hS (show ¬ ((1 : Int32) < 0 ∨ 5 ≤ Int32.toNatClampNeg (1)) by decide +kernel) dL_law_1634 ?_
  refine nt_i (v := s1) es1 ?_
  have hX : nCx p s m _ c code 9 "MinestrataLaw" dC dI g A [(a2, .inr (15, [.int (0), .int (0), .int (100), .int (0), .int (0), .ref a25, .ref a26, .ref a27, .ref a28, .ref a29, .ref a30, .ref a31, .ref a32, .ref a33, .ref a34, .ref a35, .null, .int (-1), .ref a36, .long (0)]))] _ _ := ⟨⟨hx, hb, hml, hown, hts⟩, hE, hS, hA, hP, hD⟩
  refine n_call (wr := []) hX (n_runV (n := 1) (wc := [(a2, .inr (15, [.int (0), .int (0), .int (100), .int (0), .int (0), .ref a25, .ref a26, .ref a27, .ref a28, .ref a29, .ref a30, .ref a31, .ref a32, .ref a33, .ref a34, .ref a35, .null, .int (-1), .ref a36, .long (0)]))]) (As := [.int s1]) (rest := []) hX (m330 l hst dC dI g a2 a25 a26 a27 a28 a29 a30 a31 a32 a33 a34 a35 a36 s1 _) [0] rfl (by decide +kernel) 0 (ci := 15) rfl (T := TX16) (N := 20) (C := "MinestrataModel") rfl q2099 q2100 q2101 q82 q2102 (by decide +kernel) ⟨(Nat.le_of_ble_eq_true rfl), (Nat.le_of_ble_eq_true rfl)⟩ ⟨(Nat.le_of_ble_eq_true rfl), (Nat.le_of_ble_eq_true rfl)⟩ hl.1 rfl rfl (Nat.le_of_ble_eq_true rfl) dL_law_1635) [0] [] rfl rfl (by decide +kernel) (by decide +kernel) (fun f3 r4 H locs hP hD hS => ?_)
  have hP : va_P (dC, dI) CL [(a2, .inr (15, [.int (1), .int (0), .int (100), .int (0), .int (0), .ref a25, .ref a26, .ref a27, .ref a28, .ref a29, .ref a30, .ref a31, .ref a32, .ref a33, .ref a34, .ref a35, .null, .int (-1), .ref a36, .long (0)]))] _ := hP
  have hD : va_D A [(a2, .inr (15, [.int (1), .int (0), .int (100), .int (0), .int (0), .ref a25, .ref a26, .ref a27, .ref a28, .ref a29, .ref a30, .ref a31, .ref a32, .ref a33, .ref a34, .ref a35, .null, .int (-1), .ref a36, .long (0)]))] := hD
  refine W.widen (k := 244) (n := 2777) (Nat.le_of_ble_eq_true rfl) (Nat.le_of_ble_eq_true rfl) ?_
  refine W.eq (g2 := F0 m 1638 ls [.int (0)]) rfl ?_
  refine lv_istore (lv' := [(7, .int (0)), (6, .int (1)), (5, .int (0)), (4, .ref a0), (3, .ref a1), (2, .ref a2), (1, .ref a3), (0, .ref b)]) hx hb dL_law_1638 hl (by decide) rfl (fun ls hl => ?_)
  refine lv_aload_n hx hb dL_law_1640 rfl (lv_at hl 5 rfl) ?_
  have hX : nCx p s m _ c code 9 "MinestrataLaw" dC dI g A [(a2, .inr (15, [.int (1), .int (0), .int (100), .int (0), .int (0), .ref a25, .ref a26, .ref a27, .ref a28, .ref a29, .ref a30, .ref a31, .ref a32, .ref a33, .ref a34, .ref a35, .null, .int (-1), .ref a36, .long (0)]))] _ _ := ⟨⟨hx, hb, hml, hown, hts⟩, hE, hS, hA, hP, hD⟩
  refine n_call (wr := []) hX (n_runV (n := 0) (wc := [(a2, .inr (15, [.int (1), .int (0), .int (100), .int (0), .int (0), .ref a25, .ref a26, .ref a27, .ref a28, .ref a29, .ref a30, .ref a31, .ref a32, .ref a33, .ref a34, .ref a35, .null, .int (-1), .ref a36, .long (0)]))]) (As := []) (rest := []) hX (m33 l hst dC dI g a2 a25 a26 a27 a28 a29 a30 a31 a32 a33 a34 a35 a36 _) [0] rfl (by decide +kernel) 0 (ci := 15) rfl (T := TX16) (N := 20) (C := "MinestrataModel") rfl q1495 q1496 q1497 q82 q1498 (by decide +kernel) ⟨(Nat.le_of_ble_eq_true rfl), (Nat.le_of_ble_eq_true rfl)⟩ ⟨(Nat.le_of_ble_eq_true rfl), (Nat.le_of_ble_eq_true rfl)⟩ hl.1 rfl rfl (Nat.le_of_ble_eq_true rfl) dL_law_1641) [0] [] rfl rfl (by decide +kernel) (by decide +kernel) (fun f5 r6 H locs hP hD hS => ?_)
  have hP : va_P (dC, dI) CL [(a2, .inr (15, [.int (1), .int (0), .int (100), .int (0), .int (0), .ref a25, .ref a26, .ref a27, .ref a28, .ref a29, .ref a30, .ref a31, .ref a32, .ref a33, .ref a34, .ref a35, .null, .int (-1), .ref a36, .long (0)]))] _ := hP
  have hD : va_D A [(a2, .inr (15, [.int (1), .int (0), .int (100), .int (0), .int (0), .ref a25, .ref a26, .ref a27, .ref a28, .ref a29, .ref a30, .ref a31, .ref a32, .ref a33, .ref a34, .ref a35, .null, .int (-1), .ref a36, .long (0)]))] := hD
  refine W.widen (k := 244) (n := 2777) (Nat.le_of_ble_eq_true rfl) (Nat.le_of_ble_eq_true rfl) ?_
  refine W.eq (g2 := F0 m 1644 ls [.int (1)]) rfl ?_
  refine lv_iload hx hb dL_law_1644 (lv_at hl 1 rfl) ?_
  refine lv_icmp_eq (tgt := 1651) hx hb dL_law_1646 (by decide +kernel) (fun _ => ?_) (fun h => absurd (by decide +kernel) h)
  refine lv_iload hx hb dL_law_1651 (lv_at hl 1 rfl) ?_
  refine lv_if_ne (tgt := 1668) hx hb dL_law_1653 (by decide +kernel) (fun _ => ?_) (fun h => absurd h (by decide +kernel))
  refine lv_goto (tgt := 2278) hx hb dL_law_1668 (by decide +kernel) ?_
  refine lv_iinc (v := (5)) (lv' := [(5, .int (5)), (7, .int (0)), (6, .int (1)), (4, .ref a0), (3, .ref a1), (2, .ref a2), (1, .ref a3), (0, .ref b)]) hx hb dL_law_2278 hl (k := 2) rfl (by decide +kernel) (by decide) rfl (fun ls hl => ?_)
  refine lv_goto (tgt := 28) hx hb dL_law_2281 (by decide +kernel) ?_
  refine lv_iload hx hb dL_law_28 (lv_at hl 0 rfl) ?_
  refine lv_aload_n hx hb dL_law_30 rfl (lv_at hl 7 rfl) ?_
  refine va_slen hx hb hXs hbl hbA hS dL_law_31 ?_
  refine nt_i (v := (5)) (by decide +kernel) ?_
  refine lv_iconst (v := (5)) hx hb dL_law_32 (by decide +kernel) ?_
  refine lv_isub hx hb dL_law_33 ?_
  refine nt_i (v := (0)) (by decide +kernel) ?_
  refine lv_icmp_gt (tgt := 2284) hx hb dL_law_34 (by decide +kernel) (fun _ => ?_) (fun h => absurd (by decide +kernel) h)
  refine lv_iconst (v := (1)) hx hb dL_law_2284 (by decide +kernel) ?_
  refine va_forget (fun q9 hq9 => by have h9 := hS.2.2 q9 hq9; rw [← hAe] at h9; exact h9) ?_
  refine W.widen (k := 600006) (n := 7302056) (Nat.le_of_ble_eq_true rfl) (Nat.le_of_ble_eq_true rfl) ?_
  refine W.base ?_
  exact lw_ret (Drawn.sameBut.refl s.drawn lw_cs) hx hb hr hlk dL_law_2285

set_option maxHeartbeats 4000000 in
set_option maxRecDepth 100000 in
theorem lc_23 {p : Program} {e : Env} {s : State} {m : MethodId} {below : List Frame} {meth : Method} {c : Code} (l : Launch) (hst : l.stackTraces = false) {b : Nat} {xs : Nat → Int32} (C0 : lw_At p s m meth c b 5 xs) (dC : Nat → ClassId) (dI : Nat → Nat → Nat) (g : Nat → Nat) (a0 a1 a2 a3 a4 a5 a6 a7 a8 a9 a10 a11 a12 a13 a14 a15 a16 a17 a18 a19 a20 a21 a22 a23 a24 a25 a26 a27 a28 a29 a30 a31 a32 a33 a34 : Nat) {A : Nat → Prop} (hAe : (fun q : Nat => s.heap.size ≤ q) = A) (hE : EV dC dI g A s) (hA : ∀ q : Nat, s.heap.size ≤ q → A q) (hbA : ¬ A b) (H : Heap) (locs : List Loc) (hP : va_P (dC, dI) CL [(a3, .inr (12, [.ref a4, .ref a5, .ref a6, .ref a7, .ref a8, .ref a9, .ref a10, .ref a11, .null, .ref a12, .ref a13, .int (0), .int (100), .int (0), .int (0), .int (-1), .long (0), .int (1)])), (a6, .inr (11, [.int (0), .ref a14, .ref a15, .ref a16, .ref a17, .ref a18, .ref a19, .ref a20, .ref a21, .ref a22])), (a2, .inr (15, [.int (0), .int (0), .int (100), .int (0), .int (0), .ref a23, .ref a24, .ref a25, .ref a26, .ref a27, .ref a28, .ref a29, .ref a30, .ref a31, .ref a32, .ref a33, .null, .int (-1), .ref a34, .long (0)])), (a31, .inr (1, [.int (0), .ref (g 21), .int (0)]))] H) (hD : va_D A [(a3, .inr (12, [.ref a4, .ref a5, .ref a6, .ref a7, .ref a8, .ref a9, .ref a10, .ref a11, .null, .ref a12, .ref a13, .int (0), .int (100), .int (0), .int (0), .int (-1), .long (0), .int (1)])), (a6, .inr (11, [.int (0), .ref a14, .ref a15, .ref a16, .ref a17, .ref a18, .ref a19, .ref a20, .ref a21, .ref a22])), (a2, .inr (15, [.int (0), .int (0), .int (100), .int (0), .int (0), .ref a23, .ref a24, .ref a25, .ref a26, .ref a27, .ref a28, .ref a29, .ref a30, .ref a31, .ref a32, .ref a33, .null, .int (-1), .ref a34, .long (0)])), (a31, .inr (1, [.int (0), .ref (g 21), .int (0)]))]) (hS : va_S A s.heap H locs) (ls : Array Slot) (hl : lv_has ls 9 [(5, .int (0)), (4, .ref a0), (3, .ref a1), (2, .ref a2), (1, .ref a3), (0, .ref b)]) :
    W p l e room_1 s m #[Value.ref b] below meth c H locs 243 2771 (lw_Z below #[Value.ref b] s) (F0 m 44 ls [.int (23)]) := by
  obtain ⟨hx, hb, hr, hml, hown, hts0, hXs, hbl, hlk, hgv⟩ := id C0
  have hts : ∀ w ∈ AW, w.before #[Value.ref b] s = true := fun w h => hts0 w (aw_tbl h)
  have hown : s.vm.findClass "MinestrataLaw" = some m.cls := hown
  have hK := hE.1
  obtain ⟨s1, es1⟩ : ∃ y : Int32, xs (Int32.toNatClampNeg (1)) = y := ⟨_, rfl⟩
  obtain ⟨s2, es2⟩ : ∃ y : Int32, xs (Int32.toNatClampNeg (2)) = y := ⟨_, rfl⟩
  obtain ⟨s3, es3⟩ : ∃ y : Int32, xs (Int32.toNatClampNeg (3)) = y := ⟨_, rfl⟩
  obtain ⟨s4, es4⟩ : ∃ y : Int32, xs (Int32.toNatClampNeg (4)) = y := ⟨_, rfl⟩
  refine lv_tableIn (tgt := 1671) (off := 1627) hx hb dL_law_44 (by decide +kernel) (by decide +kernel) rfl (by decide +kernel) ?_
  refine lv_aload_n hx hb dL_law_1671 rfl (lv_at hl 4 rfl) ?_
  refine lv_aload_n hx hb dL_law_1672 rfl (lv_at hl 5 rfl) ?_
  refine lv_iload hx hb dL_law_1673 (lv_at hl 0 rfl) ?_
  refine lv_iconst (v := (1)) hx hb dL_law_1675 (by decide +kernel) ?_
  refine lv_iadd hx hb dL_law_1676 ?_
  refine nt_i (v := (1)) (by decide +kernel) ?_
  refine va_sld hx hb hXs hbl hbA hS (show ¬ ((1 : Int32) < 0 ∨ 5 ≤ Int32.toNatClampNeg (1)) by decide +kernel) dL_law_1677 ?_
  refine nt_i (v := s1) es1 ?_
  refine lv_aload_n hx hb dL_law_1678 rfl (lv_at hl 2 rfl) ?_
  have hX : nCx p s m _ c code 9 "MinestrataLaw" dC dI g A [(a3, .inr (12, [.ref a4, .ref a5, .ref a6, .ref a7, .ref a8, .ref a9, .ref a10, .ref a11, .null, .ref a12, .ref a13, .int (0), .int (100), .int (0), .int (0), .int (-1), .long (0), .int (1)])), (a6, .inr (11, [.int (0), .ref a14, .ref a15, .ref a16, .ref a17, .ref a18, .ref a19, .ref a20, .ref a21, .ref a22])), (a2, .inr (15, [.int (0), .int (0), .int (100), .int (0), .int (0), .ref a23, .ref a24, .ref a25, .ref a26, .ref a27, .ref a28, .ref a29, .ref a30, .ref a31, .ref a32, .ref a33, .null, .int (-1), .ref a34, .long (0)])), (a31, .inr (1, [.int (0), .ref (g 21), .int (0)]))] _ _ := ⟨⟨hx, hb, hml, hown, hts⟩, hE, hS, hA, hP, hD⟩
  refine n_call (wr := [(a2, .inr (15, [.int (0), .int (0), .int (100), .int (0), .int (0), .ref a23, .ref a24, .ref a25, .ref a26, .ref a27, .ref a28, .ref a29, .ref a30, .ref a31, .ref a32, .ref a33, .null, .int (-1), .ref a34, .long (0)])), (a31, .inr (1, [.int (0), .ref (g 21), .int (0)]))]) hX (n_runSW (n := 3) (wc := [(a3, .inr (12, [.ref a4, .ref a5, .ref a6, .ref a7, .ref a8, .ref a9, .ref a10, .ref a11, .null, .ref a12, .ref a13, .int (0), .int (100), .int (0), .int (0), .int (-1), .long (0), .int (1)])), (a6, .inr (11, [.int (0), .ref a14, .ref a15, .ref a16, .ref a17, .ref a18, .ref a19, .ref a20, .ref a21, .ref a22]))]) (As := [.ref a3, .int s1, .ref a1]) (rest := []) hX (m332 l hst dC dI g a3 a1 a4 a5 a6 a7 a8 a9 a10 a11 a12 a13 a14 a15 a16 a17 a18 a19 a20 a21 a22 s1 _) [0, 1] rfl (by decide +kernel) q1240 q1241 q70 q1242 (by decide +kernel) ⟨(Nat.le_of_ble_eq_true rfl), (Nat.le_of_ble_eq_true rfl)⟩ ⟨(Nat.le_of_ble_eq_true rfl), (Nat.le_of_ble_eq_true rfl)⟩ hl.1 rfl rfl (Nat.le_of_ble_eq_true rfl) dL_law_1679) [0, 1] [2, 3] rfl rfl (by decide +kernel) (by decide +kernel) (fun f1 r2 H locs hP hD hS => ?_)
  have hP : va_P (dC, dI) CL [(a2, .inr (15, [.int (0), .int (0), .int (100), .int (0), .int (0), .ref a23, .ref a24, .ref a25, .ref a26, .ref a27, .ref a28, .ref a29, .ref a30, .ref a31, .ref a32, .ref a33, .null, .int (-1), .ref a34, .long (0)])), (a31, .inr (1, [.int (0), .ref (g 21), .int (0)]))] _ := hP
  have hD : va_D A [(a2, .inr (15, [.int (0), .int (0), .int (100), .int (0), .int (0), .ref a23, .ref a24, .ref a25, .ref a26, .ref a27, .ref a28, .ref a29, .ref a30, .ref a31, .ref a32, .ref a33, .null, .int (-1), .ref a34, .long (0)])), (a31, .inr (1, [.int (0), .ref (g 21), .int (0)]))] := hD
  refine W.widen (k := 244) (n := 2777) (Nat.le_of_ble_eq_true rfl) (Nat.le_of_ble_eq_true rfl) ?_
  refine W.eq (g2 := F0 m 1682 ls [.int (1)]) rfl ?_
  refine lv_istore (lv' := [(6, .int (1)), (5, .int (0)), (4, .ref a0), (3, .ref a1), (2, .ref a2), (1, .ref a3), (0, .ref b)]) hx hb dL_law_1682 hl (by decide) rfl (fun ls hl => ?_)
  refine lv_aload_n hx hb dL_law_1684 rfl (lv_at hl 4 rfl) ?_
  refine lv_aload_n hx hb dL_law_1685 rfl (lv_at hl 6 rfl) ?_
  refine lv_iload hx hb dL_law_1686 (lv_at hl 1 rfl) ?_
  refine lv_iconst (v := (1)) hx hb dL_law_1688 (by decide +kernel) ?_
  refine lv_iadd hx hb dL_law_1689 ?_
  refine nt_i (v := (1)) (by decide +kernel) ?_
  refine va_sld hx hb hXs hbl hbA hS (show ¬ ((1 : Int32) < 0 ∨ 5 ≤ Int32.toNatClampNeg (1)) by decide +kernel) dL_law_1690 ?_
  refine nt_i (v := s1) es1 ?_
  have hX : nCx p s m _ c code 9 "MinestrataLaw" dC dI g A [(a2, .inr (15, [.int (0), .int (0), .int (100), .int (0), .int (0), .ref a23, .ref a24, .ref a25, .ref a26, .ref a27, .ref a28, .ref a29, .ref a30, .ref a31, .ref a32, .ref a33, .null, .int (-1), .ref a34, .long (0)])), (a31, .inr (1, [.int (0), .ref (g 21), .int (0)]))] _ _ := ⟨⟨hx, hb, hml, hown, hts⟩, hE, hS, hA, hP, hD⟩
  refine n_call (wr := []) hX (n_runV (n := 1) (wc := [(a2, .inr (15, [.int (0), .int (0), .int (100), .int (0), .int (0), .ref a23, .ref a24, .ref a25, .ref a26, .ref a27, .ref a28, .ref a29, .ref a30, .ref a31, .ref a32, .ref a33, .null, .int (-1), .ref a34, .long (0)])), (a31, .inr (1, [.int (0), .ref (g 21), .int (0)]))]) (As := [.int s1]) (rest := []) hX (m333 l hst dC dI g a2 a23 a24 a25 a26 a27 a28 a29 a30 a31 a32 a33 a34 s1 _) [0, 1] rfl (by decide +kernel) 0 (ci := 15) rfl (T := TX16) (N := 20) (C := "MinestrataModel") rfl q2157 q2158 q2159 q82 q2160 (by decide +kernel) ⟨(Nat.le_of_ble_eq_true rfl), (Nat.le_of_ble_eq_true rfl)⟩ ⟨(Nat.le_of_ble_eq_true rfl), (Nat.le_of_ble_eq_true rfl)⟩ hl.1 rfl rfl (Nat.le_of_ble_eq_true rfl) dL_law_1691) [0, 1] [] rfl rfl (by decide +kernel) (by decide +kernel) (fun f3 r4 H locs hP hD hS => ?_)
  have hP : va_P (dC, dI) CL [(a2, .inr (15, [.int (1), .int (0), .int (100), .int (0), .int (0), .ref a23, .ref a24, .ref a25, .ref a26, .ref a27, .ref a28, .ref a29, .ref a30, .ref a31, .ref a32, .ref a33, .null, .int (-1), .ref a34, .long (0)])), (a31, .inr (1, [.int (0), .ref (g 21), .int (0)]))] _ := hP
  have hD : va_D A [(a2, .inr (15, [.int (1), .int (0), .int (100), .int (0), .int (0), .ref a23, .ref a24, .ref a25, .ref a26, .ref a27, .ref a28, .ref a29, .ref a30, .ref a31, .ref a32, .ref a33, .null, .int (-1), .ref a34, .long (0)])), (a31, .inr (1, [.int (0), .ref (g 21), .int (0)]))] := hD
  refine W.widen (k := 244) (n := 2777) (Nat.le_of_ble_eq_true rfl) (Nat.le_of_ble_eq_true rfl) ?_
  refine W.eq (g2 := F0 m 1694 ls [.int (0)]) rfl ?_
  refine lv_istore (lv' := [(7, .int (0)), (6, .int (1)), (5, .int (0)), (4, .ref a0), (3, .ref a1), (2, .ref a2), (1, .ref a3), (0, .ref b)]) hx hb dL_law_1694 hl (by decide) rfl (fun ls hl => ?_)
  refine lv_aload_n hx hb dL_law_1696 rfl (lv_at hl 5 rfl) ?_
  have hX : nCx p s m _ c code 9 "MinestrataLaw" dC dI g A [(a2, .inr (15, [.int (1), .int (0), .int (100), .int (0), .int (0), .ref a23, .ref a24, .ref a25, .ref a26, .ref a27, .ref a28, .ref a29, .ref a30, .ref a31, .ref a32, .ref a33, .null, .int (-1), .ref a34, .long (0)])), (a31, .inr (1, [.int (0), .ref (g 21), .int (0)]))] _ _ := ⟨⟨hx, hb, hml, hown, hts⟩, hE, hS, hA, hP, hD⟩
  refine n_call (wr := [(a31, .inr (1, [.int (0), .ref (g 21), .int (0)]))]) hX (n_runV (n := 0) (wc := [(a2, .inr (15, [.int (1), .int (0), .int (100), .int (0), .int (0), .ref a23, .ref a24, .ref a25, .ref a26, .ref a27, .ref a28, .ref a29, .ref a30, .ref a31, .ref a32, .ref a33, .null, .int (-1), .ref a34, .long (0)]))]) (As := []) (rest := []) hX (m33 l hst dC dI g a2 a23 a24 a25 a26 a27 a28 a29 a30 a31 a32 a33 a34 _) [0] rfl (by decide +kernel) 0 (ci := 15) rfl (T := TX16) (N := 20) (C := "MinestrataModel") rfl q1495 q1496 q1497 q82 q1498 (by decide +kernel) ⟨(Nat.le_of_ble_eq_true rfl), (Nat.le_of_ble_eq_true rfl)⟩ ⟨(Nat.le_of_ble_eq_true rfl), (Nat.le_of_ble_eq_true rfl)⟩ hl.1 rfl rfl (Nat.le_of_ble_eq_true rfl) dL_law_1697) [0] [1] rfl rfl (by decide +kernel) (by decide +kernel) (fun f5 r6 H locs hP hD hS => ?_)
  have hP : va_P (dC, dI) CL [(a31, .inr (1, [.int (0), .ref (g 21), .int (0)])), (a2, .inr (15, [.int (1), .int (0), .int (100), .int (0), .int (0), .ref a23, .ref a24, .ref a25, .ref a26, .ref a27, .ref a28, .ref a29, .ref a30, .ref a31, .ref a32, .ref a33, .null, .int (-1), .ref a34, .long (0)]))] _ := hP
  have hD : va_D A [(a31, .inr (1, [.int (0), .ref (g 21), .int (0)])), (a2, .inr (15, [.int (1), .int (0), .int (100), .int (0), .int (0), .ref a23, .ref a24, .ref a25, .ref a26, .ref a27, .ref a28, .ref a29, .ref a30, .ref a31, .ref a32, .ref a33, .null, .int (-1), .ref a34, .long (0)]))] := hD
  refine W.widen (k := 244) (n := 2777) (Nat.le_of_ble_eq_true rfl) (Nat.le_of_ble_eq_true rfl) ?_
  refine W.eq (g2 := F0 m 1700 ls [.int (1)]) rfl ?_
  refine lv_iload hx hb dL_law_1700 (lv_at hl 1 rfl) ?_
  refine lv_icmp_eq (tgt := 1707) hx hb dL_law_1702 (by decide +kernel) (fun _ => ?_) (fun h => absurd (by decide +kernel) h)
  refine lv_iload hx hb dL_law_1707 (lv_at hl 1 rfl) ?_
  refine lv_if_ne (tgt := 1724) hx hb dL_law_1709 (by decide +kernel) (fun _ => ?_) (fun h => absurd h (by decide +kernel))
  refine lv_goto (tgt := 2278) hx hb dL_law_1724 (by decide +kernel) ?_
  refine lv_iinc (v := (5)) (lv' := [(5, .int (5)), (7, .int (0)), (6, .int (1)), (4, .ref a0), (3, .ref a1), (2, .ref a2), (1, .ref a3), (0, .ref b)]) hx hb dL_law_2278 hl (k := 2) rfl (by decide +kernel) (by decide) rfl (fun ls hl => ?_)
  refine lv_goto (tgt := 28) hx hb dL_law_2281 (by decide +kernel) ?_
  refine lv_iload hx hb dL_law_28 (lv_at hl 0 rfl) ?_
  refine lv_aload_n hx hb dL_law_30 rfl (lv_at hl 7 rfl) ?_
  refine va_slen hx hb hXs hbl hbA hS dL_law_31 ?_
  refine nt_i (v := (5)) (by decide +kernel) ?_
  refine lv_iconst (v := (5)) hx hb dL_law_32 (by decide +kernel) ?_
  refine lv_isub hx hb dL_law_33 ?_
  refine nt_i (v := (0)) (by decide +kernel) ?_
  refine lv_icmp_gt (tgt := 2284) hx hb dL_law_34 (by decide +kernel) (fun _ => ?_) (fun h => absurd (by decide +kernel) h)
  refine lv_iconst (v := (1)) hx hb dL_law_2284 (by decide +kernel) ?_
  refine va_forget (fun q9 hq9 => by have h9 := hS.2.2 q9 hq9; rw [← hAe] at h9; exact h9) ?_
  refine W.widen (k := 600006) (n := 7302056) (Nat.le_of_ble_eq_true rfl) (Nat.le_of_ble_eq_true rfl) ?_
  refine W.base ?_
  exact lw_ret (Drawn.sameBut.refl s.drawn lw_cs) hx hb hr hlk dL_law_2285

set_option maxHeartbeats 4000000 in
set_option maxRecDepth 100000 in
theorem lc_24 {p : Program} {e : Env} {s : State} {m : MethodId} {below : List Frame} {meth : Method} {c : Code} (l : Launch) (hst : l.stackTraces = false) {b : Nat} {xs : Nat → Int32} (C0 : lw_At p s m meth c b 5 xs) (dC : Nat → ClassId) (dI : Nat → Nat → Nat) (g : Nat → Nat) (a0 a1 a2 a3 a4 a5 a6 a7 a8 a9 a10 a11 a12 a13 a14 a15 a16 a17 a18 a19 a20 a21 a22 a23 a24 a25 a26 a27 a28 a29 a30 a31 a32 a33 a34 : Nat) {A : Nat → Prop} (hAe : (fun q : Nat => s.heap.size ≤ q) = A) (hE : EV dC dI g A s) (hA : ∀ q : Nat, s.heap.size ≤ q → A q) (hbA : ¬ A b) (H : Heap) (locs : List Loc) (hP : va_P (dC, dI) CL [(a3, .inr (12, [.ref a4, .ref a5, .ref a6, .ref a7, .ref a8, .ref a9, .ref a10, .ref a11, .null, .ref a12, .ref a13, .int (0), .int (100), .int (0), .int (0), .int (-1), .long (0), .int (1)])), (a6, .inr (11, [.int (0), .ref a14, .ref a15, .ref a16, .ref a17, .ref a18, .ref a19, .ref a20, .ref a21, .ref a22])), (a2, .inr (15, [.int (0), .int (0), .int (100), .int (0), .int (0), .ref a23, .ref a24, .ref a25, .ref a26, .ref a27, .ref a28, .ref a29, .ref a30, .ref a31, .ref a32, .ref a33, .null, .int (-1), .ref a34, .long (0)])), (a31, .inr (1, [.int (0), .ref (g 21), .int (0)]))] H) (hD : va_D A [(a3, .inr (12, [.ref a4, .ref a5, .ref a6, .ref a7, .ref a8, .ref a9, .ref a10, .ref a11, .null, .ref a12, .ref a13, .int (0), .int (100), .int (0), .int (0), .int (-1), .long (0), .int (1)])), (a6, .inr (11, [.int (0), .ref a14, .ref a15, .ref a16, .ref a17, .ref a18, .ref a19, .ref a20, .ref a21, .ref a22])), (a2, .inr (15, [.int (0), .int (0), .int (100), .int (0), .int (0), .ref a23, .ref a24, .ref a25, .ref a26, .ref a27, .ref a28, .ref a29, .ref a30, .ref a31, .ref a32, .ref a33, .null, .int (-1), .ref a34, .long (0)])), (a31, .inr (1, [.int (0), .ref (g 21), .int (0)]))]) (hS : va_S A s.heap H locs) (ls : Array Slot) (hl : lv_has ls 9 [(5, .int (0)), (4, .ref a0), (3, .ref a1), (2, .ref a2), (1, .ref a3), (0, .ref b)]) :
    W p l e room_1 s m #[Value.ref b] below meth c H locs 243 2771 (lw_Z below #[Value.ref b] s) (F0 m 44 ls [.int (24)]) := by
  obtain ⟨hx, hb, hr, hml, hown, hts0, hXs, hbl, hlk, hgv⟩ := id C0
  have hts : ∀ w ∈ AW, w.before #[Value.ref b] s = true := fun w h => hts0 w (aw_tbl h)
  have hown : s.vm.findClass "MinestrataLaw" = some m.cls := hown
  have hK := hE.1
  obtain ⟨s1, es1⟩ : ∃ y : Int32, xs (Int32.toNatClampNeg (1)) = y := ⟨_, rfl⟩
  obtain ⟨s2, es2⟩ : ∃ y : Int32, xs (Int32.toNatClampNeg (2)) = y := ⟨_, rfl⟩
  obtain ⟨s3, es3⟩ : ∃ y : Int32, xs (Int32.toNatClampNeg (3)) = y := ⟨_, rfl⟩
  obtain ⟨s4, es4⟩ : ∃ y : Int32, xs (Int32.toNatClampNeg (4)) = y := ⟨_, rfl⟩
  refine lv_tableIn (tgt := 1727) (off := 1683) hx hb dL_law_44 (by decide +kernel) (by decide +kernel) rfl (by decide +kernel) ?_
  refine lv_aload_n hx hb dL_law_1727 rfl (lv_at hl 4 rfl) ?_
  refine lv_aload_n hx hb dL_law_1728 rfl (lv_at hl 5 rfl) ?_
  refine lv_iload hx hb dL_law_1729 (lv_at hl 0 rfl) ?_
  refine lv_iconst (v := (1)) hx hb dL_law_1731 (by decide +kernel) ?_
  refine lv_iadd hx hb dL_law_1732 ?_
  refine nt_i (v := (1)) (by decide +kernel) ?_
  refine va_sld hx hb hXs hbl hbA hS (show ¬ ((1 : Int32) < 0 ∨ 5 ≤ Int32.toNatClampNeg (1)) by decide +kernel) dL_law_1733 ?_
  refine nt_i (v := s1) es1 ?_
  refine lv_aload_n hx hb dL_law_1734 rfl (lv_at hl 2 rfl) ?_
  have hX : nCx p s m _ c code 9 "MinestrataLaw" dC dI g A [(a3, .inr (12, [.ref a4, .ref a5, .ref a6, .ref a7, .ref a8, .ref a9, .ref a10, .ref a11, .null, .ref a12, .ref a13, .int (0), .int (100), .int (0), .int (0), .int (-1), .long (0), .int (1)])), (a6, .inr (11, [.int (0), .ref a14, .ref a15, .ref a16, .ref a17, .ref a18, .ref a19, .ref a20, .ref a21, .ref a22])), (a2, .inr (15, [.int (0), .int (0), .int (100), .int (0), .int (0), .ref a23, .ref a24, .ref a25, .ref a26, .ref a27, .ref a28, .ref a29, .ref a30, .ref a31, .ref a32, .ref a33, .null, .int (-1), .ref a34, .long (0)])), (a31, .inr (1, [.int (0), .ref (g 21), .int (0)]))] _ _ := ⟨⟨hx, hb, hml, hown, hts⟩, hE, hS, hA, hP, hD⟩
  refine n_call (wr := [(a2, .inr (15, [.int (0), .int (0), .int (100), .int (0), .int (0), .ref a23, .ref a24, .ref a25, .ref a26, .ref a27, .ref a28, .ref a29, .ref a30, .ref a31, .ref a32, .ref a33, .null, .int (-1), .ref a34, .long (0)])), (a31, .inr (1, [.int (0), .ref (g 21), .int (0)]))]) hX (n_runSW (n := 3) (wc := [(a3, .inr (12, [.ref a4, .ref a5, .ref a6, .ref a7, .ref a8, .ref a9, .ref a10, .ref a11, .null, .ref a12, .ref a13, .int (0), .int (100), .int (0), .int (0), .int (-1), .long (0), .int (1)])), (a6, .inr (11, [.int (0), .ref a14, .ref a15, .ref a16, .ref a17, .ref a18, .ref a19, .ref a20, .ref a21, .ref a22]))]) (As := [.ref a3, .int s1, .ref a1]) (rest := []) hX (m335 l hst dC dI g a3 a1 a4 a5 a6 a7 a8 a9 a10 a11 a12 a13 a14 a15 a16 a17 a18 a19 a20 a21 a22 s1 _) [0, 1] rfl (by decide +kernel) q1247 q1248 q70 q1249 (by decide +kernel) ⟨(Nat.le_of_ble_eq_true rfl), (Nat.le_of_ble_eq_true rfl)⟩ ⟨(Nat.le_of_ble_eq_true rfl), (Nat.le_of_ble_eq_true rfl)⟩ hl.1 rfl rfl (Nat.le_of_ble_eq_true rfl) dL_law_1735) [0, 1] [2, 3] rfl rfl (by decide +kernel) (by decide +kernel) (fun f1 r2 H locs hP hD hS => ?_)
  have hP : va_P (dC, dI) CL [(a2, .inr (15, [.int (0), .int (0), .int (100), .int (0), .int (0), .ref a23, .ref a24, .ref a25, .ref a26, .ref a27, .ref a28, .ref a29, .ref a30, .ref a31, .ref a32, .ref a33, .null, .int (-1), .ref a34, .long (0)])), (a31, .inr (1, [.int (0), .ref (g 21), .int (0)]))] _ := hP
  have hD : va_D A [(a2, .inr (15, [.int (0), .int (0), .int (100), .int (0), .int (0), .ref a23, .ref a24, .ref a25, .ref a26, .ref a27, .ref a28, .ref a29, .ref a30, .ref a31, .ref a32, .ref a33, .null, .int (-1), .ref a34, .long (0)])), (a31, .inr (1, [.int (0), .ref (g 21), .int (0)]))] := hD
  refine W.widen (k := 244) (n := 2777) (Nat.le_of_ble_eq_true rfl) (Nat.le_of_ble_eq_true rfl) ?_
  refine W.eq (g2 := F0 m 1738 ls [.int (1)]) rfl ?_
  refine lv_istore (lv' := [(6, .int (1)), (5, .int (0)), (4, .ref a0), (3, .ref a1), (2, .ref a2), (1, .ref a3), (0, .ref b)]) hx hb dL_law_1738 hl (by decide) rfl (fun ls hl => ?_)
  refine lv_aload_n hx hb dL_law_1740 rfl (lv_at hl 4 rfl) ?_
  refine lv_aload_n hx hb dL_law_1741 rfl (lv_at hl 6 rfl) ?_
  refine lv_iload hx hb dL_law_1742 (lv_at hl 1 rfl) ?_
  refine lv_iconst (v := (1)) hx hb dL_law_1744 (by decide +kernel) ?_
  refine lv_iadd hx hb dL_law_1745 ?_
  refine nt_i (v := (1)) (by decide +kernel) ?_
  refine va_sld hx hb hXs hbl hbA hS (show ¬ ((1 : Int32) < 0 ∨ 5 ≤ Int32.toNatClampNeg (1)) by decide +kernel) dL_law_1746 ?_
  refine nt_i (v := s1) es1 ?_
  have hX : nCx p s m _ c code 9 "MinestrataLaw" dC dI g A [(a2, .inr (15, [.int (0), .int (0), .int (100), .int (0), .int (0), .ref a23, .ref a24, .ref a25, .ref a26, .ref a27, .ref a28, .ref a29, .ref a30, .ref a31, .ref a32, .ref a33, .null, .int (-1), .ref a34, .long (0)])), (a31, .inr (1, [.int (0), .ref (g 21), .int (0)]))] _ _ := ⟨⟨hx, hb, hml, hown, hts⟩, hE, hS, hA, hP, hD⟩
  refine n_call (wr := []) hX (n_runV (n := 1) (wc := [(a2, .inr (15, [.int (0), .int (0), .int (100), .int (0), .int (0), .ref a23, .ref a24, .ref a25, .ref a26, .ref a27, .ref a28, .ref a29, .ref a30, .ref a31, .ref a32, .ref a33, .null, .int (-1), .ref a34, .long (0)])), (a31, .inr (1, [.int (0), .ref (g 21), .int (0)]))]) (As := [.int s1]) (rest := []) hX (m336 l hst dC dI g a2 a23 a24 a25 a26 a27 a28 a29 a30 a31 a32 a33 a34 s1 _) [0, 1] rfl (by decide +kernel) 0 (ci := 15) rfl (T := TX16) (N := 20) (C := "MinestrataModel") rfl q2161 q2162 q2163 q82 q2164 (by decide +kernel) ⟨(Nat.le_of_ble_eq_true rfl), (Nat.le_of_ble_eq_true rfl)⟩ ⟨(Nat.le_of_ble_eq_true rfl), (Nat.le_of_ble_eq_true rfl)⟩ hl.1 rfl rfl (Nat.le_of_ble_eq_true rfl) dL_law_1747) [0, 1] [] rfl rfl (by decide +kernel) (by decide +kernel) (fun f3 r4 H locs hP hD hS => ?_)
  have hP : va_P (dC, dI) CL [(a2, .inr (15, [.int (1), .int (0), .int (100), .int (0), .int (0), .ref a23, .ref a24, .ref a25, .ref a26, .ref a27, .ref a28, .ref a29, .ref a30, .ref a31, .ref a32, .ref a33, .null, .int (-1), .ref a34, .long (0)])), (a31, .inr (1, [.int (0), .ref (g 21), .int (0)]))] _ := hP
  have hD : va_D A [(a2, .inr (15, [.int (1), .int (0), .int (100), .int (0), .int (0), .ref a23, .ref a24, .ref a25, .ref a26, .ref a27, .ref a28, .ref a29, .ref a30, .ref a31, .ref a32, .ref a33, .null, .int (-1), .ref a34, .long (0)])), (a31, .inr (1, [.int (0), .ref (g 21), .int (0)]))] := hD
  refine W.widen (k := 244) (n := 2777) (Nat.le_of_ble_eq_true rfl) (Nat.le_of_ble_eq_true rfl) ?_
  refine W.eq (g2 := F0 m 1750 ls [.int (0)]) rfl ?_
  refine lv_istore (lv' := [(7, .int (0)), (6, .int (1)), (5, .int (0)), (4, .ref a0), (3, .ref a1), (2, .ref a2), (1, .ref a3), (0, .ref b)]) hx hb dL_law_1750 hl (by decide) rfl (fun ls hl => ?_)
  refine lv_aload_n hx hb dL_law_1752 rfl (lv_at hl 5 rfl) ?_
  have hX : nCx p s m _ c code 9 "MinestrataLaw" dC dI g A [(a2, .inr (15, [.int (1), .int (0), .int (100), .int (0), .int (0), .ref a23, .ref a24, .ref a25, .ref a26, .ref a27, .ref a28, .ref a29, .ref a30, .ref a31, .ref a32, .ref a33, .null, .int (-1), .ref a34, .long (0)])), (a31, .inr (1, [.int (0), .ref (g 21), .int (0)]))] _ _ := ⟨⟨hx, hb, hml, hown, hts⟩, hE, hS, hA, hP, hD⟩
  refine n_call (wr := [(a31, .inr (1, [.int (0), .ref (g 21), .int (0)]))]) hX (n_runV (n := 0) (wc := [(a2, .inr (15, [.int (1), .int (0), .int (100), .int (0), .int (0), .ref a23, .ref a24, .ref a25, .ref a26, .ref a27, .ref a28, .ref a29, .ref a30, .ref a31, .ref a32, .ref a33, .null, .int (-1), .ref a34, .long (0)]))]) (As := []) (rest := []) hX (m33 l hst dC dI g a2 a23 a24 a25 a26 a27 a28 a29 a30 a31 a32 a33 a34 _) [0] rfl (by decide +kernel) 0 (ci := 15) rfl (T := TX16) (N := 20) (C := "MinestrataModel") rfl q1495 q1496 q1497 q82 q1498 (by decide +kernel) ⟨(Nat.le_of_ble_eq_true rfl), (Nat.le_of_ble_eq_true rfl)⟩ ⟨(Nat.le_of_ble_eq_true rfl), (Nat.le_of_ble_eq_true rfl)⟩ hl.1 rfl rfl (Nat.le_of_ble_eq_true rfl) dL_law_1753) [0] [1] rfl rfl (by decide +kernel) (by decide +kernel) (fun f5 r6 H locs hP hD hS => ?_)
  have hP : va_P (dC, dI) CL [(a31, .inr (1, [.int (0), .ref (g 21), .int (0)])), (a2, .inr (15, [.int (1), .int (0), .int (100), .int (0), .int (0), .ref a23, .ref a24, .ref a25, .ref a26, .ref a27, .ref a28, .ref a29, .ref a30, .ref a31, .ref a32, .ref a33, .null, .int (-1), .ref a34, .long (0)]))] _ := hP
  have hD : va_D A [(a31, .inr (1, [.int (0), .ref (g 21), .int (0)])), (a2, .inr (15, [.int (1), .int (0), .int (100), .int (0), .int (0), .ref a23, .ref a24, .ref a25, .ref a26, .ref a27, .ref a28, .ref a29, .ref a30, .ref a31, .ref a32, .ref a33, .null, .int (-1), .ref a34, .long (0)]))] := hD
  refine W.widen (k := 244) (n := 2777) (Nat.le_of_ble_eq_true rfl) (Nat.le_of_ble_eq_true rfl) ?_
  refine W.eq (g2 := F0 m 1756 ls [.int (1)]) rfl ?_
  refine lv_iload hx hb dL_law_1756 (lv_at hl 1 rfl) ?_
  refine lv_icmp_eq (tgt := 1763) hx hb dL_law_1758 (by decide +kernel) (fun _ => ?_) (fun h => absurd (by decide +kernel) h)
  refine lv_iload hx hb dL_law_1763 (lv_at hl 1 rfl) ?_
  refine lv_if_ne (tgt := 1780) hx hb dL_law_1765 (by decide +kernel) (fun _ => ?_) (fun h => absurd h (by decide +kernel))
  refine lv_goto (tgt := 2278) hx hb dL_law_1780 (by decide +kernel) ?_
  refine lv_iinc (v := (5)) (lv' := [(5, .int (5)), (7, .int (0)), (6, .int (1)), (4, .ref a0), (3, .ref a1), (2, .ref a2), (1, .ref a3), (0, .ref b)]) hx hb dL_law_2278 hl (k := 2) rfl (by decide +kernel) (by decide) rfl (fun ls hl => ?_)
  refine lv_goto (tgt := 28) hx hb dL_law_2281 (by decide +kernel) ?_
  refine lv_iload hx hb dL_law_28 (lv_at hl 0 rfl) ?_
  refine lv_aload_n hx hb dL_law_30 rfl (lv_at hl 7 rfl) ?_
  refine va_slen hx hb hXs hbl hbA hS dL_law_31 ?_
  refine nt_i (v := (5)) (by decide +kernel) ?_
  refine lv_iconst (v := (5)) hx hb dL_law_32 (by decide +kernel) ?_
  refine lv_isub hx hb dL_law_33 ?_
  refine nt_i (v := (0)) (by decide +kernel) ?_
  refine lv_icmp_gt (tgt := 2284) hx hb dL_law_34 (by decide +kernel) (fun _ => ?_) (fun h => absurd (by decide +kernel) h)
  refine lv_iconst (v := (1)) hx hb dL_law_2284 (by decide +kernel) ?_
  refine va_forget (fun q9 hq9 => by have h9 := hS.2.2 q9 hq9; rw [← hAe] at h9; exact h9) ?_
  refine W.widen (k := 600006) (n := 7302056) (Nat.le_of_ble_eq_true rfl) (Nat.le_of_ble_eq_true rfl) ?_
  refine W.base ?_
  exact lw_ret (Drawn.sameBut.refl s.drawn lw_cs) hx hb hr hlk dL_law_2285

set_option maxHeartbeats 4000000 in
set_option maxRecDepth 100000 in
theorem lc_25 {p : Program} {e : Env} {s : State} {m : MethodId} {below : List Frame} {meth : Method} {c : Code} (l : Launch) (hst : l.stackTraces = false) {b : Nat} {xs : Nat → Int32} (C0 : lw_At p s m meth c b 5 xs) (dC : Nat → ClassId) (dI : Nat → Nat → Nat) (g : Nat → Nat) (a0 a1 a2 a3 a4 a5 a6 a7 a8 a9 a10 a11 a12 a13 a14 a15 a16 a17 a18 a19 a20 a21 a22 a23 a24 a25 a26 a27 a28 a29 a30 a31 a32 a33 a34 : Nat) {A : Nat → Prop} (hAe : (fun q : Nat => s.heap.size ≤ q) = A) (hE : EV dC dI g A s) (hA : ∀ q : Nat, s.heap.size ≤ q → A q) (hbA : ¬ A b) (H : Heap) (locs : List Loc) (hP : va_P (dC, dI) CL [(a3, .inr (12, [.ref a4, .ref a5, .ref a6, .ref a7, .ref a8, .ref a9, .ref a10, .ref a11, .null, .ref a12, .ref a13, .int (0), .int (100), .int (0), .int (0), .int (-1), .long (0), .int (1)])), (a6, .inr (11, [.int (0), .ref a14, .ref a15, .ref a16, .ref a17, .ref a18, .ref a19, .ref a20, .ref a21, .ref a22])), (a2, .inr (15, [.int (0), .int (0), .int (100), .int (0), .int (0), .ref a23, .ref a24, .ref a25, .ref a26, .ref a27, .ref a28, .ref a29, .ref a30, .ref a31, .ref a32, .ref a33, .null, .int (-1), .ref a34, .long (0)])), (a31, .inr (1, [.int (0), .ref (g 21), .int (0)]))] H) (hD : va_D A [(a3, .inr (12, [.ref a4, .ref a5, .ref a6, .ref a7, .ref a8, .ref a9, .ref a10, .ref a11, .null, .ref a12, .ref a13, .int (0), .int (100), .int (0), .int (0), .int (-1), .long (0), .int (1)])), (a6, .inr (11, [.int (0), .ref a14, .ref a15, .ref a16, .ref a17, .ref a18, .ref a19, .ref a20, .ref a21, .ref a22])), (a2, .inr (15, [.int (0), .int (0), .int (100), .int (0), .int (0), .ref a23, .ref a24, .ref a25, .ref a26, .ref a27, .ref a28, .ref a29, .ref a30, .ref a31, .ref a32, .ref a33, .null, .int (-1), .ref a34, .long (0)])), (a31, .inr (1, [.int (0), .ref (g 21), .int (0)]))]) (hS : va_S A s.heap H locs) (ls : Array Slot) (hl : lv_has ls 9 [(5, .int (0)), (4, .ref a0), (3, .ref a1), (2, .ref a2), (1, .ref a3), (0, .ref b)]) :
    W p l e room_1 s m #[Value.ref b] below meth c H locs 243 2771 (lw_Z below #[Value.ref b] s) (F0 m 44 ls [.int (25)]) := by
  obtain ⟨hx, hb, hr, hml, hown, hts0, hXs, hbl, hlk, hgv⟩ := id C0
  have hts : ∀ w ∈ AW, w.before #[Value.ref b] s = true := fun w h => hts0 w (aw_tbl h)
  have hown : s.vm.findClass "MinestrataLaw" = some m.cls := hown
  have hK := hE.1
  obtain ⟨s1, es1⟩ : ∃ y : Int32, xs (Int32.toNatClampNeg (1)) = y := ⟨_, rfl⟩
  obtain ⟨s2, es2⟩ : ∃ y : Int32, xs (Int32.toNatClampNeg (2)) = y := ⟨_, rfl⟩
  obtain ⟨s3, es3⟩ : ∃ y : Int32, xs (Int32.toNatClampNeg (3)) = y := ⟨_, rfl⟩
  obtain ⟨s4, es4⟩ : ∃ y : Int32, xs (Int32.toNatClampNeg (4)) = y := ⟨_, rfl⟩
  refine lv_tableIn (tgt := 1783) (off := 1739) hx hb dL_law_44 (by decide +kernel) (by decide +kernel) rfl (by decide +kernel) ?_
  refine lv_aload_n hx hb dL_law_1783 rfl (lv_at hl 4 rfl) ?_
  refine lv_aload_n hx hb dL_law_1784 rfl (lv_at hl 5 rfl) ?_
  refine lv_iload hx hb dL_law_1785 (lv_at hl 0 rfl) ?_
  refine lv_iconst (v := (1)) hx hb dL_law_1787 (by decide +kernel) ?_
  refine lv_iadd hx hb dL_law_1788 ?_
  refine nt_i (v := (1)) (by decide +kernel) ?_
  refine va_sld hx hb hXs hbl hbA hS (show ¬ ((1 : Int32) < 0 ∨ 5 ≤ Int32.toNatClampNeg (1)) by decide +kernel) dL_law_1789 ?_
  refine nt_i (v := s1) es1 ?_
  refine lv_aload_n hx hb dL_law_1790 rfl (lv_at hl 2 rfl) ?_
  have hX : nCx p s m _ c code 9 "MinestrataLaw" dC dI g A [(a3, .inr (12, [.ref a4, .ref a5, .ref a6, .ref a7, .ref a8, .ref a9, .ref a10, .ref a11, .null, .ref a12, .ref a13, .int (0), .int (100), .int (0), .int (0), .int (-1), .long (0), .int (1)])), (a6, .inr (11, [.int (0), .ref a14, .ref a15, .ref a16, .ref a17, .ref a18, .ref a19, .ref a20, .ref a21, .ref a22])), (a2, .inr (15, [.int (0), .int (0), .int (100), .int (0), .int (0), .ref a23, .ref a24, .ref a25, .ref a26, .ref a27, .ref a28, .ref a29, .ref a30, .ref a31, .ref a32, .ref a33, .null, .int (-1), .ref a34, .long (0)])), (a31, .inr (1, [.int (0), .ref (g 21), .int (0)]))] _ _ := ⟨⟨hx, hb, hml, hown, hts⟩, hE, hS, hA, hP, hD⟩
  refine n_call (wr := [(a2, .inr (15, [.int (0), .int (0), .int (100), .int (0), .int (0), .ref a23, .ref a24, .ref a25, .ref a26, .ref a27, .ref a28, .ref a29, .ref a30, .ref a31, .ref a32, .ref a33, .null, .int (-1), .ref a34, .long (0)])), (a31, .inr (1, [.int (0), .ref (g 21), .int (0)]))]) hX (n_runSW (n := 3) (wc := [(a3, .inr (12, [.ref a4, .ref a5, .ref a6, .ref a7, .ref a8, .ref a9, .ref a10, .ref a11, .null, .ref a12, .ref a13, .int (0), .int (100), .int (0), .int (0), .int (-1), .long (0), .int (1)])), (a6, .inr (11, [.int (0), .ref a14, .ref a15, .ref a16, .ref a17, .ref a18, .ref a19, .ref a20, .ref a21, .ref a22]))]) (As := [.ref a3, .int s1, .ref a1]) (rest := []) hX (m338 l hst dC dI g a3 a1 a4 a5 a6 a7 a8 a9 a10 a11 a12 a13 a14 a15 a16 a17 a18 a19 a20 a21 a22 s1 _) [0, 1] rfl (by decide +kernel) q1254 q1255 q70 q1256 (by decide +kernel) ⟨(Nat.le_of_ble_eq_true rfl), (Nat.le_of_ble_eq_true rfl)⟩ ⟨(Nat.le_of_ble_eq_true rfl), (Nat.le_of_ble_eq_true rfl)⟩ hl.1 rfl rfl (Nat.le_of_ble_eq_true rfl) dL_law_1791) [0, 1] [2, 3] rfl rfl (by decide +kernel) (by decide +kernel) (fun f1 r2 H locs hP hD hS => ?_)
  have hP : va_P (dC, dI) CL [(a2, .inr (15, [.int (0), .int (0), .int (100), .int (0), .int (0), .ref a23, .ref a24, .ref a25, .ref a26, .ref a27, .ref a28, .ref a29, .ref a30, .ref a31, .ref a32, .ref a33, .null, .int (-1), .ref a34, .long (0)])), (a31, .inr (1, [.int (0), .ref (g 21), .int (0)]))] _ := hP
  have hD : va_D A [(a2, .inr (15, [.int (0), .int (0), .int (100), .int (0), .int (0), .ref a23, .ref a24, .ref a25, .ref a26, .ref a27, .ref a28, .ref a29, .ref a30, .ref a31, .ref a32, .ref a33, .null, .int (-1), .ref a34, .long (0)])), (a31, .inr (1, [.int (0), .ref (g 21), .int (0)]))] := hD
  refine W.widen (k := 244) (n := 2777) (Nat.le_of_ble_eq_true rfl) (Nat.le_of_ble_eq_true rfl) ?_
  refine W.eq (g2 := F0 m 1794 ls [.int (1)]) rfl ?_
  refine lv_istore (lv' := [(6, .int (1)), (5, .int (0)), (4, .ref a0), (3, .ref a1), (2, .ref a2), (1, .ref a3), (0, .ref b)]) hx hb dL_law_1794 hl (by decide) rfl (fun ls hl => ?_)
  refine lv_aload_n hx hb dL_law_1796 rfl (lv_at hl 4 rfl) ?_
  refine lv_aload_n hx hb dL_law_1797 rfl (lv_at hl 6 rfl) ?_
  refine lv_iload hx hb dL_law_1798 (lv_at hl 1 rfl) ?_
  refine lv_iconst (v := (1)) hx hb dL_law_1800 (by decide +kernel) ?_
  refine lv_iadd hx hb dL_law_1801 ?_
  refine nt_i (v := (1)) (by decide +kernel) ?_
  refine va_sld hx hb hXs hbl hbA hS (show ¬ ((1 : Int32) < 0 ∨ 5 ≤ Int32.toNatClampNeg (1)) by decide +kernel) dL_law_1802 ?_
  refine nt_i (v := s1) es1 ?_
  have hX : nCx p s m _ c code 9 "MinestrataLaw" dC dI g A [(a2, .inr (15, [.int (0), .int (0), .int (100), .int (0), .int (0), .ref a23, .ref a24, .ref a25, .ref a26, .ref a27, .ref a28, .ref a29, .ref a30, .ref a31, .ref a32, .ref a33, .null, .int (-1), .ref a34, .long (0)])), (a31, .inr (1, [.int (0), .ref (g 21), .int (0)]))] _ _ := ⟨⟨hx, hb, hml, hown, hts⟩, hE, hS, hA, hP, hD⟩
  refine n_call (wr := []) hX (n_runV (n := 1) (wc := [(a2, .inr (15, [.int (0), .int (0), .int (100), .int (0), .int (0), .ref a23, .ref a24, .ref a25, .ref a26, .ref a27, .ref a28, .ref a29, .ref a30, .ref a31, .ref a32, .ref a33, .null, .int (-1), .ref a34, .long (0)])), (a31, .inr (1, [.int (0), .ref (g 21), .int (0)]))]) (As := [.int s1]) (rest := []) hX (m339 l hst dC dI g a2 a23 a24 a25 a26 a27 a28 a29 a30 a31 a32 a33 a34 s1 _) [0, 1] rfl (by decide +kernel) 0 (ci := 15) rfl (T := TX16) (N := 20) (C := "MinestrataModel") rfl q2165 q2166 q2167 q82 q2168 (by decide +kernel) ⟨(Nat.le_of_ble_eq_true rfl), (Nat.le_of_ble_eq_true rfl)⟩ ⟨(Nat.le_of_ble_eq_true rfl), (Nat.le_of_ble_eq_true rfl)⟩ hl.1 rfl rfl (Nat.le_of_ble_eq_true rfl) dL_law_1803) [0, 1] [] rfl rfl (by decide +kernel) (by decide +kernel) (fun f3 r4 H locs hP hD hS => ?_)
  have hP : va_P (dC, dI) CL [(a2, .inr (15, [.int (1), .int (0), .int (100), .int (0), .int (0), .ref a23, .ref a24, .ref a25, .ref a26, .ref a27, .ref a28, .ref a29, .ref a30, .ref a31, .ref a32, .ref a33, .null, .int (-1), .ref a34, .long (0)])), (a31, .inr (1, [.int (0), .ref (g 21), .int (0)]))] _ := hP
  have hD : va_D A [(a2, .inr (15, [.int (1), .int (0), .int (100), .int (0), .int (0), .ref a23, .ref a24, .ref a25, .ref a26, .ref a27, .ref a28, .ref a29, .ref a30, .ref a31, .ref a32, .ref a33, .null, .int (-1), .ref a34, .long (0)])), (a31, .inr (1, [.int (0), .ref (g 21), .int (0)]))] := hD
  refine W.widen (k := 244) (n := 2777) (Nat.le_of_ble_eq_true rfl) (Nat.le_of_ble_eq_true rfl) ?_
  refine W.eq (g2 := F0 m 1806 ls [.int (32)]) rfl ?_
  refine lv_istore (lv' := [(7, .int (32)), (6, .int (1)), (5, .int (0)), (4, .ref a0), (3, .ref a1), (2, .ref a2), (1, .ref a3), (0, .ref b)]) hx hb dL_law_1806 hl (by decide) rfl (fun ls hl => ?_)
  refine lv_aload_n hx hb dL_law_1808 rfl (lv_at hl 5 rfl) ?_
  have hX : nCx p s m _ c code 9 "MinestrataLaw" dC dI g A [(a2, .inr (15, [.int (1), .int (0), .int (100), .int (0), .int (0), .ref a23, .ref a24, .ref a25, .ref a26, .ref a27, .ref a28, .ref a29, .ref a30, .ref a31, .ref a32, .ref a33, .null, .int (-1), .ref a34, .long (0)])), (a31, .inr (1, [.int (0), .ref (g 21), .int (0)]))] _ _ := ⟨⟨hx, hb, hml, hown, hts⟩, hE, hS, hA, hP, hD⟩
  refine n_call (wr := [(a31, .inr (1, [.int (0), .ref (g 21), .int (0)]))]) hX (n_runV (n := 0) (wc := [(a2, .inr (15, [.int (1), .int (0), .int (100), .int (0), .int (0), .ref a23, .ref a24, .ref a25, .ref a26, .ref a27, .ref a28, .ref a29, .ref a30, .ref a31, .ref a32, .ref a33, .null, .int (-1), .ref a34, .long (0)]))]) (As := []) (rest := []) hX (m33 l hst dC dI g a2 a23 a24 a25 a26 a27 a28 a29 a30 a31 a32 a33 a34 _) [0] rfl (by decide +kernel) 0 (ci := 15) rfl (T := TX16) (N := 20) (C := "MinestrataModel") rfl q1495 q1496 q1497 q82 q1498 (by decide +kernel) ⟨(Nat.le_of_ble_eq_true rfl), (Nat.le_of_ble_eq_true rfl)⟩ ⟨(Nat.le_of_ble_eq_true rfl), (Nat.le_of_ble_eq_true rfl)⟩ hl.1 rfl rfl (Nat.le_of_ble_eq_true rfl) dL_law_1809) [0] [1] rfl rfl (by decide +kernel) (by decide +kernel) (fun f5 r6 H locs hP hD hS => ?_)
  have hP : va_P (dC, dI) CL [(a31, .inr (1, [.int (0), .ref (g 21), .int (0)])), (a2, .inr (15, [.int (1), .int (0), .int (100), .int (0), .int (0), .ref a23, .ref a24, .ref a25, .ref a26, .ref a27, .ref a28, .ref a29, .ref a30, .ref a31, .ref a32, .ref a33, .null, .int (-1), .ref a34, .long (0)]))] _ := hP
  have hD : va_D A [(a31, .inr (1, [.int (0), .ref (g 21), .int (0)])), (a2, .inr (15, [.int (1), .int (0), .int (100), .int (0), .int (0), .ref a23, .ref a24, .ref a25, .ref a26, .ref a27, .ref a28, .ref a29, .ref a30, .ref a31, .ref a32, .ref a33, .null, .int (-1), .ref a34, .long (0)]))] := hD
  refine W.widen (k := 244) (n := 2777) (Nat.le_of_ble_eq_true rfl) (Nat.le_of_ble_eq_true rfl) ?_
  refine W.eq (g2 := F0 m 1812 ls [.int (1)]) rfl ?_
  refine lv_iload hx hb dL_law_1812 (lv_at hl 1 rfl) ?_
  refine lv_icmp_eq (tgt := 1819) hx hb dL_law_1814 (by decide +kernel) (fun _ => ?_) (fun h => absurd (by decide +kernel) h)
  refine lv_iload hx hb dL_law_1819 (lv_at hl 1 rfl) ?_
  refine lv_if_ne (tgt := 1836) hx hb dL_law_1821 (by decide +kernel) (fun _ => ?_) (fun h => absurd h (by decide +kernel))
  refine lv_goto (tgt := 2278) hx hb dL_law_1836 (by decide +kernel) ?_
  refine lv_iinc (v := (5)) (lv' := [(5, .int (5)), (7, .int (32)), (6, .int (1)), (4, .ref a0), (3, .ref a1), (2, .ref a2), (1, .ref a3), (0, .ref b)]) hx hb dL_law_2278 hl (k := 2) rfl (by decide +kernel) (by decide) rfl (fun ls hl => ?_)
  refine lv_goto (tgt := 28) hx hb dL_law_2281 (by decide +kernel) ?_
  refine lv_iload hx hb dL_law_28 (lv_at hl 0 rfl) ?_
  refine lv_aload_n hx hb dL_law_30 rfl (lv_at hl 7 rfl) ?_
  refine va_slen hx hb hXs hbl hbA hS dL_law_31 ?_
  refine nt_i (v := (5)) (by decide +kernel) ?_
  refine lv_iconst (v := (5)) hx hb dL_law_32 (by decide +kernel) ?_
  refine lv_isub hx hb dL_law_33 ?_
  refine nt_i (v := (0)) (by decide +kernel) ?_
  refine lv_icmp_gt (tgt := 2284) hx hb dL_law_34 (by decide +kernel) (fun _ => ?_) (fun h => absurd (by decide +kernel) h)
  refine lv_iconst (v := (1)) hx hb dL_law_2284 (by decide +kernel) ?_
  refine va_forget (fun q9 hq9 => by have h9 := hS.2.2 q9 hq9; rw [← hAe] at h9; exact h9) ?_
  refine W.widen (k := 600006) (n := 7302056) (Nat.le_of_ble_eq_true rfl) (Nat.le_of_ble_eq_true rfl) ?_
  refine W.base ?_
  exact lw_ret (Drawn.sameBut.refl s.drawn lw_cs) hx hb hr hlk dL_law_2285

set_option maxHeartbeats 4000000 in
set_option maxRecDepth 100000 in
theorem lc_26 {p : Program} {e : Env} {s : State} {m : MethodId} {below : List Frame} {meth : Method} {c : Code} (l : Launch) (hst : l.stackTraces = false) {b : Nat} {xs : Nat → Int32} (C0 : lw_At p s m meth c b 5 xs) (dC : Nat → ClassId) (dI : Nat → Nat → Nat) (g : Nat → Nat) (a0 a1 a2 a3 a4 a5 a6 a7 a8 a9 a10 a11 a12 a13 a14 a15 a16 a17 a18 a19 a20 a21 a22 a23 a24 a25 a26 a27 a28 a29 a30 a31 a32 a33 a34 : Nat) {A : Nat → Prop} (hAe : (fun q : Nat => s.heap.size ≤ q) = A) (hE : EV dC dI g A s) (hA : ∀ q : Nat, s.heap.size ≤ q → A q) (hbA : ¬ A b) (H : Heap) (locs : List Loc) (hP : va_P (dC, dI) CL [(a3, .inr (12, [.ref a4, .ref a5, .ref a6, .ref a7, .ref a8, .ref a9, .ref a10, .ref a11, .null, .ref a12, .ref a13, .int (0), .int (100), .int (0), .int (0), .int (-1), .long (0), .int (1)])), (a6, .inr (11, [.int (0), .ref a14, .ref a15, .ref a16, .ref a17, .ref a18, .ref a19, .ref a20, .ref a21, .ref a22])), (a2, .inr (15, [.int (0), .int (0), .int (100), .int (0), .int (0), .ref a23, .ref a24, .ref a25, .ref a26, .ref a27, .ref a28, .ref a29, .ref a30, .ref a31, .ref a32, .ref a33, .null, .int (-1), .ref a34, .long (0)])), (a31, .inr (1, [.int (0), .ref (g 21), .int (0)]))] H) (hD : va_D A [(a3, .inr (12, [.ref a4, .ref a5, .ref a6, .ref a7, .ref a8, .ref a9, .ref a10, .ref a11, .null, .ref a12, .ref a13, .int (0), .int (100), .int (0), .int (0), .int (-1), .long (0), .int (1)])), (a6, .inr (11, [.int (0), .ref a14, .ref a15, .ref a16, .ref a17, .ref a18, .ref a19, .ref a20, .ref a21, .ref a22])), (a2, .inr (15, [.int (0), .int (0), .int (100), .int (0), .int (0), .ref a23, .ref a24, .ref a25, .ref a26, .ref a27, .ref a28, .ref a29, .ref a30, .ref a31, .ref a32, .ref a33, .null, .int (-1), .ref a34, .long (0)])), (a31, .inr (1, [.int (0), .ref (g 21), .int (0)]))]) (hS : va_S A s.heap H locs) (ls : Array Slot) (hl : lv_has ls 9 [(5, .int (0)), (4, .ref a0), (3, .ref a1), (2, .ref a2), (1, .ref a3), (0, .ref b)]) :
    W p l e room_1 s m #[Value.ref b] below meth c H locs 243 2771 (lw_Z below #[Value.ref b] s) (F0 m 44 ls [.int (26)]) := by
  obtain ⟨hx, hb, hr, hml, hown, hts0, hXs, hbl, hlk, hgv⟩ := id C0
  have hts : ∀ w ∈ AW, w.before #[Value.ref b] s = true := fun w h => hts0 w (aw_tbl h)
  have hown : s.vm.findClass "MinestrataLaw" = some m.cls := hown
  have hK := hE.1
  obtain ⟨s1, es1⟩ : ∃ y : Int32, xs (Int32.toNatClampNeg (1)) = y := ⟨_, rfl⟩
  obtain ⟨s2, es2⟩ : ∃ y : Int32, xs (Int32.toNatClampNeg (2)) = y := ⟨_, rfl⟩
  obtain ⟨s3, es3⟩ : ∃ y : Int32, xs (Int32.toNatClampNeg (3)) = y := ⟨_, rfl⟩
  obtain ⟨s4, es4⟩ : ∃ y : Int32, xs (Int32.toNatClampNeg (4)) = y := ⟨_, rfl⟩
  refine lv_tableIn (tgt := 1839) (off := 1795) hx hb dL_law_44 (by decide +kernel) (by decide +kernel) rfl (by decide +kernel) ?_
  refine lv_aload_n hx hb dL_law_1839 rfl (lv_at hl 4 rfl) ?_
  refine lv_aload_n hx hb dL_law_1840 rfl (lv_at hl 5 rfl) ?_
  refine lv_iload hx hb dL_law_1841 (lv_at hl 0 rfl) ?_
  refine lv_iconst (v := (1)) hx hb dL_law_1843 (by decide +kernel) ?_
  refine lv_iadd hx hb dL_law_1844 ?_
  refine nt_i (v := (1)) (by decide +kernel) ?_
  refine va_sld hx hb hXs hbl hbA hS (show ¬ ((1 : Int32) < 0 ∨ 5 ≤ Int32.toNatClampNeg (1)) by decide +kernel) dL_law_1845 ?_
  refine nt_i (v := s1) es1 ?_
  refine lv_aload_n hx hb dL_law_1846 rfl (lv_at hl 2 rfl) ?_
  have hX : nCx p s m _ c code 9 "MinestrataLaw" dC dI g A [(a3, .inr (12, [.ref a4, .ref a5, .ref a6, .ref a7, .ref a8, .ref a9, .ref a10, .ref a11, .null, .ref a12, .ref a13, .int (0), .int (100), .int (0), .int (0), .int (-1), .long (0), .int (1)])), (a6, .inr (11, [.int (0), .ref a14, .ref a15, .ref a16, .ref a17, .ref a18, .ref a19, .ref a20, .ref a21, .ref a22])), (a2, .inr (15, [.int (0), .int (0), .int (100), .int (0), .int (0), .ref a23, .ref a24, .ref a25, .ref a26, .ref a27, .ref a28, .ref a29, .ref a30, .ref a31, .ref a32, .ref a33, .null, .int (-1), .ref a34, .long (0)])), (a31, .inr (1, [.int (0), .ref (g 21), .int (0)]))] _ _ := ⟨⟨hx, hb, hml, hown, hts⟩, hE, hS, hA, hP, hD⟩
  refine n_call (wr := [(a2, .inr (15, [.int (0), .int (0), .int (100), .int (0), .int (0), .ref a23, .ref a24, .ref a25, .ref a26, .ref a27, .ref a28, .ref a29, .ref a30, .ref a31, .ref a32, .ref a33, .null, .int (-1), .ref a34, .long (0)])), (a31, .inr (1, [.int (0), .ref (g 21), .int (0)]))]) hX (n_runSW (n := 3) (wc := [(a3, .inr (12, [.ref a4, .ref a5, .ref a6, .ref a7, .ref a8, .ref a9, .ref a10, .ref a11, .null, .ref a12, .ref a13, .int (0), .int (100), .int (0), .int (0), .int (-1), .long (0), .int (1)])), (a6, .inr (11, [.int (0), .ref a14, .ref a15, .ref a16, .ref a17, .ref a18, .ref a19, .ref a20, .ref a21, .ref a22]))]) (As := [.ref a3, .int s1, .ref a1]) (rest := []) hX (m341 l hst dC dI g a3 a1 a4 a5 a6 a7 a8 a9 a10 a11 a12 a13 a14 a15 a16 a17 a18 a19 a20 a21 a22 s1 _) [0, 1] rfl (by decide +kernel) q1261 q1262 q70 q1263 (by decide +kernel) ⟨(Nat.le_of_ble_eq_true rfl), (Nat.le_of_ble_eq_true rfl)⟩ ⟨(Nat.le_of_ble_eq_true rfl), (Nat.le_of_ble_eq_true rfl)⟩ hl.1 rfl rfl (Nat.le_of_ble_eq_true rfl) dL_law_1847) [0, 1] [2, 3] rfl rfl (by decide +kernel) (by decide +kernel) (fun f1 r2 H locs hP hD hS => ?_)
  have hP : va_P (dC, dI) CL [(a2, .inr (15, [.int (0), .int (0), .int (100), .int (0), .int (0), .ref a23, .ref a24, .ref a25, .ref a26, .ref a27, .ref a28, .ref a29, .ref a30, .ref a31, .ref a32, .ref a33, .null, .int (-1), .ref a34, .long (0)])), (a31, .inr (1, [.int (0), .ref (g 21), .int (0)]))] _ := hP
  have hD : va_D A [(a2, .inr (15, [.int (0), .int (0), .int (100), .int (0), .int (0), .ref a23, .ref a24, .ref a25, .ref a26, .ref a27, .ref a28, .ref a29, .ref a30, .ref a31, .ref a32, .ref a33, .null, .int (-1), .ref a34, .long (0)])), (a31, .inr (1, [.int (0), .ref (g 21), .int (0)]))] := hD
  refine W.widen (k := 244) (n := 2777) (Nat.le_of_ble_eq_true rfl) (Nat.le_of_ble_eq_true rfl) ?_
  refine W.eq (g2 := F0 m 1850 ls [.int (1)]) rfl ?_
  refine lv_istore (lv' := [(6, .int (1)), (5, .int (0)), (4, .ref a0), (3, .ref a1), (2, .ref a2), (1, .ref a3), (0, .ref b)]) hx hb dL_law_1850 hl (by decide) rfl (fun ls hl => ?_)
  refine lv_aload_n hx hb dL_law_1852 rfl (lv_at hl 4 rfl) ?_
  refine lv_aload_n hx hb dL_law_1853 rfl (lv_at hl 6 rfl) ?_
  refine lv_iload hx hb dL_law_1854 (lv_at hl 1 rfl) ?_
  refine lv_iconst (v := (1)) hx hb dL_law_1856 (by decide +kernel) ?_
  refine lv_iadd hx hb dL_law_1857 ?_
  refine nt_i (v := (1)) (by decide +kernel) ?_
  refine va_sld hx hb hXs hbl hbA hS (show ¬ ((1 : Int32) < 0 ∨ 5 ≤ Int32.toNatClampNeg (1)) by decide +kernel) dL_law_1858 ?_
  refine nt_i (v := s1) es1 ?_
  have hX : nCx p s m _ c code 9 "MinestrataLaw" dC dI g A [(a2, .inr (15, [.int (0), .int (0), .int (100), .int (0), .int (0), .ref a23, .ref a24, .ref a25, .ref a26, .ref a27, .ref a28, .ref a29, .ref a30, .ref a31, .ref a32, .ref a33, .null, .int (-1), .ref a34, .long (0)])), (a31, .inr (1, [.int (0), .ref (g 21), .int (0)]))] _ _ := ⟨⟨hx, hb, hml, hown, hts⟩, hE, hS, hA, hP, hD⟩
  refine n_call (wr := []) hX (n_runV (n := 1) (wc := [(a2, .inr (15, [.int (0), .int (0), .int (100), .int (0), .int (0), .ref a23, .ref a24, .ref a25, .ref a26, .ref a27, .ref a28, .ref a29, .ref a30, .ref a31, .ref a32, .ref a33, .null, .int (-1), .ref a34, .long (0)])), (a31, .inr (1, [.int (0), .ref (g 21), .int (0)]))]) (As := [.int s1]) (rest := []) hX (m342 l hst dC dI g a2 a23 a24 a25 a26 a27 a28 a29 a30 a31 a32 a33 a34 s1 _) [0, 1] rfl (by decide +kernel) 0 (ci := 15) rfl (T := TX16) (N := 20) (C := "MinestrataModel") rfl q2169 q2170 q2171 q82 q2172 (by decide +kernel) ⟨(Nat.le_of_ble_eq_true rfl), (Nat.le_of_ble_eq_true rfl)⟩ ⟨(Nat.le_of_ble_eq_true rfl), (Nat.le_of_ble_eq_true rfl)⟩ hl.1 rfl rfl (Nat.le_of_ble_eq_true rfl) dL_law_1859) [0, 1] [] rfl rfl (by decide +kernel) (by decide +kernel) (fun f3 r4 H locs hP hD hS => ?_)
  have hP : va_P (dC, dI) CL [(a2, .inr (15, [.int (1), .int (0), .int (100), .int (0), .int (0), .ref a23, .ref a24, .ref a25, .ref a26, .ref a27, .ref a28, .ref a29, .ref a30, .ref a31, .ref a32, .ref a33, .null, .int (-1), .ref a34, .long (0)])), (a31, .inr (1, [.int (0), .ref (g 21), .int (0)]))] _ := hP
  have hD : va_D A [(a2, .inr (15, [.int (1), .int (0), .int (100), .int (0), .int (0), .ref a23, .ref a24, .ref a25, .ref a26, .ref a27, .ref a28, .ref a29, .ref a30, .ref a31, .ref a32, .ref a33, .null, .int (-1), .ref a34, .long (0)])), (a31, .inr (1, [.int (0), .ref (g 21), .int (0)]))] := hD
  refine W.widen (k := 244) (n := 2777) (Nat.le_of_ble_eq_true rfl) (Nat.le_of_ble_eq_true rfl) ?_
  refine W.eq (g2 := F0 m 1862 ls [.int (0)]) rfl ?_
  refine lv_istore (lv' := [(7, .int (0)), (6, .int (1)), (5, .int (0)), (4, .ref a0), (3, .ref a1), (2, .ref a2), (1, .ref a3), (0, .ref b)]) hx hb dL_law_1862 hl (by decide) rfl (fun ls hl => ?_)
  refine lv_aload_n hx hb dL_law_1864 rfl (lv_at hl 5 rfl) ?_
  have hX : nCx p s m _ c code 9 "MinestrataLaw" dC dI g A [(a2, .inr (15, [.int (1), .int (0), .int (100), .int (0), .int (0), .ref a23, .ref a24, .ref a25, .ref a26, .ref a27, .ref a28, .ref a29, .ref a30, .ref a31, .ref a32, .ref a33, .null, .int (-1), .ref a34, .long (0)])), (a31, .inr (1, [.int (0), .ref (g 21), .int (0)]))] _ _ := ⟨⟨hx, hb, hml, hown, hts⟩, hE, hS, hA, hP, hD⟩
  refine n_call (wr := [(a31, .inr (1, [.int (0), .ref (g 21), .int (0)]))]) hX (n_runV (n := 0) (wc := [(a2, .inr (15, [.int (1), .int (0), .int (100), .int (0), .int (0), .ref a23, .ref a24, .ref a25, .ref a26, .ref a27, .ref a28, .ref a29, .ref a30, .ref a31, .ref a32, .ref a33, .null, .int (-1), .ref a34, .long (0)]))]) (As := []) (rest := []) hX (m33 l hst dC dI g a2 a23 a24 a25 a26 a27 a28 a29 a30 a31 a32 a33 a34 _) [0] rfl (by decide +kernel) 0 (ci := 15) rfl (T := TX16) (N := 20) (C := "MinestrataModel") rfl q1495 q1496 q1497 q82 q1498 (by decide +kernel) ⟨(Nat.le_of_ble_eq_true rfl), (Nat.le_of_ble_eq_true rfl)⟩ ⟨(Nat.le_of_ble_eq_true rfl), (Nat.le_of_ble_eq_true rfl)⟩ hl.1 rfl rfl (Nat.le_of_ble_eq_true rfl) dL_law_1865) [0] [1] rfl rfl (by decide +kernel) (by decide +kernel) (fun f5 r6 H locs hP hD hS => ?_)
  have hP : va_P (dC, dI) CL [(a31, .inr (1, [.int (0), .ref (g 21), .int (0)])), (a2, .inr (15, [.int (1), .int (0), .int (100), .int (0), .int (0), .ref a23, .ref a24, .ref a25, .ref a26, .ref a27, .ref a28, .ref a29, .ref a30, .ref a31, .ref a32, .ref a33, .null, .int (-1), .ref a34, .long (0)]))] _ := hP
  have hD : va_D A [(a31, .inr (1, [.int (0), .ref (g 21), .int (0)])), (a2, .inr (15, [.int (1), .int (0), .int (100), .int (0), .int (0), .ref a23, .ref a24, .ref a25, .ref a26, .ref a27, .ref a28, .ref a29, .ref a30, .ref a31, .ref a32, .ref a33, .null, .int (-1), .ref a34, .long (0)]))] := hD
  refine W.widen (k := 244) (n := 2777) (Nat.le_of_ble_eq_true rfl) (Nat.le_of_ble_eq_true rfl) ?_
  refine W.eq (g2 := F0 m 1868 ls [.int (1)]) rfl ?_
  refine lv_iload hx hb dL_law_1868 (lv_at hl 1 rfl) ?_
  refine lv_icmp_eq (tgt := 1875) hx hb dL_law_1870 (by decide +kernel) (fun _ => ?_) (fun h => absurd (by decide +kernel) h)
  refine lv_iload hx hb dL_law_1875 (lv_at hl 1 rfl) ?_
  refine lv_if_ne (tgt := 1892) hx hb dL_law_1877 (by decide +kernel) (fun _ => ?_) (fun h => absurd h (by decide +kernel))
  refine lv_goto (tgt := 2278) hx hb dL_law_1892 (by decide +kernel) ?_
  refine lv_iinc (v := (5)) (lv' := [(5, .int (5)), (7, .int (0)), (6, .int (1)), (4, .ref a0), (3, .ref a1), (2, .ref a2), (1, .ref a3), (0, .ref b)]) hx hb dL_law_2278 hl (k := 2) rfl (by decide +kernel) (by decide) rfl (fun ls hl => ?_)
  refine lv_goto (tgt := 28) hx hb dL_law_2281 (by decide +kernel) ?_
  refine lv_iload hx hb dL_law_28 (lv_at hl 0 rfl) ?_
  refine lv_aload_n hx hb dL_law_30 rfl (lv_at hl 7 rfl) ?_
  refine va_slen hx hb hXs hbl hbA hS dL_law_31 ?_
  refine nt_i (v := (5)) (by decide +kernel) ?_
  refine lv_iconst (v := (5)) hx hb dL_law_32 (by decide +kernel) ?_
  refine lv_isub hx hb dL_law_33 ?_
  refine nt_i (v := (0)) (by decide +kernel) ?_
  refine lv_icmp_gt (tgt := 2284) hx hb dL_law_34 (by decide +kernel) (fun _ => ?_) (fun h => absurd (by decide +kernel) h)
  refine lv_iconst (v := (1)) hx hb dL_law_2284 (by decide +kernel) ?_
  refine va_forget (fun q9 hq9 => by have h9 := hS.2.2 q9 hq9; rw [← hAe] at h9; exact h9) ?_
  refine W.widen (k := 600006) (n := 7302056) (Nat.le_of_ble_eq_true rfl) (Nat.le_of_ble_eq_true rfl) ?_
  refine W.base ?_
  exact lw_ret (Drawn.sameBut.refl s.drawn lw_cs) hx hb hr hlk dL_law_2285

set_option maxHeartbeats 4000000 in
set_option maxRecDepth 100000 in
theorem lc_27 {p : Program} {e : Env} {s : State} {m : MethodId} {below : List Frame} {meth : Method} {c : Code} (l : Launch) (hst : l.stackTraces = false) {b : Nat} {xs : Nat → Int32} (C0 : lw_At p s m meth c b 5 xs) (dC : Nat → ClassId) (dI : Nat → Nat → Nat) (g : Nat → Nat) (a0 a1 a2 a3 a4 a5 a6 a7 a8 a9 a10 a11 a12 a13 a14 a15 a16 a17 a18 a19 a20 a21 a22 a23 a24 a25 a26 a27 a28 a29 a30 a31 a32 a33 a34 : Nat) {A : Nat → Prop} (hAe : (fun q : Nat => s.heap.size ≤ q) = A) (hE : EV dC dI g A s) (hA : ∀ q : Nat, s.heap.size ≤ q → A q) (hbA : ¬ A b) (H : Heap) (locs : List Loc) (hP : va_P (dC, dI) CL [(a3, .inr (12, [.ref a4, .ref a5, .ref a6, .ref a7, .ref a8, .ref a9, .ref a10, .ref a11, .null, .ref a12, .ref a13, .int (0), .int (100), .int (0), .int (0), .int (-1), .long (0), .int (1)])), (a6, .inr (11, [.int (0), .ref a14, .ref a15, .ref a16, .ref a17, .ref a18, .ref a19, .ref a20, .ref a21, .ref a22])), (a2, .inr (15, [.int (0), .int (0), .int (100), .int (0), .int (0), .ref a23, .ref a24, .ref a25, .ref a26, .ref a27, .ref a28, .ref a29, .ref a30, .ref a31, .ref a32, .ref a33, .null, .int (-1), .ref a34, .long (0)])), (a31, .inr (1, [.int (0), .ref (g 21), .int (0)]))] H) (hD : va_D A [(a3, .inr (12, [.ref a4, .ref a5, .ref a6, .ref a7, .ref a8, .ref a9, .ref a10, .ref a11, .null, .ref a12, .ref a13, .int (0), .int (100), .int (0), .int (0), .int (-1), .long (0), .int (1)])), (a6, .inr (11, [.int (0), .ref a14, .ref a15, .ref a16, .ref a17, .ref a18, .ref a19, .ref a20, .ref a21, .ref a22])), (a2, .inr (15, [.int (0), .int (0), .int (100), .int (0), .int (0), .ref a23, .ref a24, .ref a25, .ref a26, .ref a27, .ref a28, .ref a29, .ref a30, .ref a31, .ref a32, .ref a33, .null, .int (-1), .ref a34, .long (0)])), (a31, .inr (1, [.int (0), .ref (g 21), .int (0)]))]) (hS : va_S A s.heap H locs) (ls : Array Slot) (hl : lv_has ls 9 [(5, .int (0)), (4, .ref a0), (3, .ref a1), (2, .ref a2), (1, .ref a3), (0, .ref b)]) :
    W p l e room_1 s m #[Value.ref b] below meth c H locs 243 2771 (lw_Z below #[Value.ref b] s) (F0 m 44 ls [.int (27)]) := by
  obtain ⟨hx, hb, hr, hml, hown, hts0, hXs, hbl, hlk, hgv⟩ := id C0
  have hts : ∀ w ∈ AW, w.before #[Value.ref b] s = true := fun w h => hts0 w (aw_tbl h)
  have hown : s.vm.findClass "MinestrataLaw" = some m.cls := hown
  have hK := hE.1
  obtain ⟨s1, es1⟩ : ∃ y : Int32, xs (Int32.toNatClampNeg (1)) = y := ⟨_, rfl⟩
  obtain ⟨s2, es2⟩ : ∃ y : Int32, xs (Int32.toNatClampNeg (2)) = y := ⟨_, rfl⟩
  obtain ⟨s3, es3⟩ : ∃ y : Int32, xs (Int32.toNatClampNeg (3)) = y := ⟨_, rfl⟩
  obtain ⟨s4, es4⟩ : ∃ y : Int32, xs (Int32.toNatClampNeg (4)) = y := ⟨_, rfl⟩
  refine lv_tableIn (tgt := 1895) (off := 1851) hx hb dL_law_44 (by decide +kernel) (by decide +kernel) rfl (by decide +kernel) ?_
  refine lv_aload_n hx hb dL_law_1895 rfl (lv_at hl 4 rfl) ?_
  refine lv_aload_n hx hb dL_law_1896 rfl (lv_at hl 5 rfl) ?_
  refine lv_iload hx hb dL_law_1897 (lv_at hl 0 rfl) ?_
  refine lv_iconst (v := (1)) hx hb dL_law_1899 (by decide +kernel) ?_
  refine lv_iadd hx hb dL_law_1900 ?_
  refine nt_i (v := (1)) (by decide +kernel) ?_
  refine va_sld hx hb hXs hbl hbA hS (show ¬ ((1 : Int32) < 0 ∨ 5 ≤ Int32.toNatClampNeg (1)) by decide +kernel) dL_law_1901 ?_
  refine nt_i (v := s1) es1 ?_
  refine lv_aload_n hx hb dL_law_1902 rfl (lv_at hl 5 rfl) ?_
  refine lv_iload hx hb dL_law_1903 (lv_at hl 0 rfl) ?_
  refine lv_iconst (v := (2)) hx hb dL_law_1905 (by decide +kernel) ?_
  refine lv_iadd hx hb dL_law_1906 ?_
  refine nt_i (v := (2)) (by decide +kernel) ?_
  refine va_sld hx hb hXs hbl hbA hS (show ¬ ((2 : Int32) < 0 ∨ 5 ≤ Int32.toNatClampNeg (2)) by decide +kernel) dL_law_1907 ?_
  refine nt_i (v := s2) es2 ?_
  refine lv_aload_n hx hb dL_law_1908 rfl (lv_at hl 5 rfl) ?_
  refine lv_iload hx hb dL_law_1909 (lv_at hl 0 rfl) ?_
  refine lv_iconst (v := (3)) hx hb dL_law_1911 (by decide +kernel) ?_
  refine lv_iadd hx hb dL_law_1912 ?_
  refine nt_i (v := (3)) (by decide +kernel) ?_
  refine va_sld hx hb hXs hbl hbA hS (show ¬ ((3 : Int32) < 0 ∨ 5 ≤ Int32.toNatClampNeg (3)) by decide +kernel) dL_law_1913 ?_
  refine nt_i (v := s3) es3 ?_
  refine lv_aload_n hx hb dL_law_1914 rfl (lv_at hl 2 rfl) ?_
  by_cases h1 : s1 < (1)
  · skip
    have hX : nCx p s m _ c code 9 "MinestrataLaw" dC dI g A [(a3, .inr (12, [.ref a4, .ref a5, .ref a6, .ref a7, .ref a8, .ref a9, .ref a10, .ref a11, .null, .ref a12, .ref a13, .int (0), .int (100), .int (0), .int (0), .int (-1), .long (0), .int (1)])), (a6, .inr (11, [.int (0), .ref a14, .ref a15, .ref a16, .ref a17, .ref a18, .ref a19, .ref a20, .ref a21, .ref a22])), (a2, .inr (15, [.int (0), .int (0), .int (100), .int (0), .int (0), .ref a23, .ref a24, .ref a25, .ref a26, .ref a27, .ref a28, .ref a29, .ref a30, .ref a31, .ref a32, .ref a33, .null, .int (-1), .ref a34, .long (0)])), (a31, .inr (1, [.int (0), .ref (g 21), .int (0)]))] _ _ := ⟨⟨hx, hb, hml, hown, hts⟩, hE, hS, hA, hP, hD⟩
    refine n_call (wr := [(a2, .inr (15, [.int (0), .int (0), .int (100), .int (0), .int (0), .ref a23, .ref a24, .ref a25, .ref a26, .ref a27, .ref a28, .ref a29, .ref a30, .ref a31, .ref a32, .ref a33, .null, .int (-1), .ref a34, .long (0)])), (a31, .inr (1, [.int (0), .ref (g 21), .int (0)]))]) hX (n_runSW (n := 5) (wc := [(a3, .inr (12, [.ref a4, .ref a5, .ref a6, .ref a7, .ref a8, .ref a9, .ref a10, .ref a11, .null, .ref a12, .ref a13, .int (0), .int (100), .int (0), .int (0), .int (-1), .long (0), .int (1)])), (a6, .inr (11, [.int (0), .ref a14, .ref a15, .ref a16, .ref a17, .ref a18, .ref a19, .ref a20, .ref a21, .ref a22]))]) (As := [.ref a3, .int s1, .int s2, .int s3, .ref a1]) (rest := []) hX (m345 l hst dC dI g a3 a1 a4 a5 a6 a7 a8 a9 a10 a11 a12 a13 a14 a15 a16 a17 a18 a19 a20 a21 a22 s1 s2 s3 h1 _) [0, 1] rfl (by decide +kernel) q1268 q1269 q70 q1270 (by decide +kernel) ⟨(Nat.le_of_ble_eq_true rfl), (Nat.le_of_ble_eq_true rfl)⟩ ⟨(Nat.le_of_ble_eq_true rfl), (Nat.le_of_ble_eq_true rfl)⟩ hl.1 rfl rfl (Nat.le_of_ble_eq_true rfl) dL_law_1915) [0, 1] [2, 3] rfl rfl (by decide +kernel) (by decide +kernel) (fun f2 r3 H locs hP hD hS => ?_)
    have hP : va_P (dC, dI) CL [(a2, .inr (15, [.int (0), .int (0), .int (100), .int (0), .int (0), .ref a23, .ref a24, .ref a25, .ref a26, .ref a27, .ref a28, .ref a29, .ref a30, .ref a31, .ref a32, .ref a33, .null, .int (-1), .ref a34, .long (0)])), (a31, .inr (1, [.int (0), .ref (g 21), .int (0)]))] _ := hP
    have hD : va_D A [(a2, .inr (15, [.int (0), .int (0), .int (100), .int (0), .int (0), .ref a23, .ref a24, .ref a25, .ref a26, .ref a27, .ref a28, .ref a29, .ref a30, .ref a31, .ref a32, .ref a33, .null, .int (-1), .ref a34, .long (0)])), (a31, .inr (1, [.int (0), .ref (g 21), .int (0)]))] := hD
    refine W.widen (k := 244) (n := 2777) (Nat.le_of_ble_eq_true rfl) (Nat.le_of_ble_eq_true rfl) ?_
    refine W.eq (g2 := F0 m 1918 ls [.int (1)]) rfl ?_
    refine lv_istore (lv' := [(6, .int (1)), (5, .int (0)), (4, .ref a0), (3, .ref a1), (2, .ref a2), (1, .ref a3), (0, .ref b)]) hx hb dL_law_1918 hl (by decide) rfl (fun ls hl => ?_)
    refine lv_aload_n hx hb dL_law_1920 rfl (lv_at hl 4 rfl) ?_
    refine lv_aload_n hx hb dL_law_1921 rfl (lv_at hl 6 rfl) ?_
    refine lv_iload hx hb dL_law_1922 (lv_at hl 1 rfl) ?_
    refine lv_iconst (v := (1)) hx hb dL_law_1924 (by decide +kernel) ?_
    refine lv_iadd hx hb dL_law_1925 ?_
    refine nt_i (v := (1)) (by decide +kernel) ?_
    refine va_sld hx hb hXs hbl hbA hS (show ¬ ((1 : Int32) < 0 ∨ 5 ≤ Int32.toNatClampNeg (1)) by decide +kernel) dL_law_1926 ?_
    refine nt_i (v := s1) es1 ?_
    refine lv_aload_n hx hb dL_law_1927 rfl (lv_at hl 6 rfl) ?_
    refine lv_iload hx hb dL_law_1928 (lv_at hl 1 rfl) ?_
    refine lv_iconst (v := (2)) hx hb dL_law_1930 (by decide +kernel) ?_
    refine lv_iadd hx hb dL_law_1931 ?_
    refine nt_i (v := (2)) (by decide +kernel) ?_
    refine va_sld hx hb hXs hbl hbA hS (show ¬ ((2 : Int32) < 0 ∨ 5 ≤ Int32.toNatClampNeg (2)) by decide +kernel) dL_law_1932 ?_
    refine nt_i (v := s2) es2 ?_
    refine lv_aload_n hx hb dL_law_1933 rfl (lv_at hl 6 rfl) ?_
    refine lv_iload hx hb dL_law_1934 (lv_at hl 1 rfl) ?_
    refine lv_iconst (v := (3)) hx hb dL_law_1936 (by decide +kernel) ?_
    refine lv_iadd hx hb dL_law_1937 ?_
    refine nt_i (v := (3)) (by decide +kernel) ?_
    refine va_sld hx hb hXs hbl hbA hS (show ¬ ((3 : Int32) < 0 ∨ 5 ≤ Int32.toNatClampNeg (3)) by decide +kernel) dL_law_1938 ?_
    refine nt_i (v := s3) es3 ?_
    have hX : nCx p s m _ c code 9 "MinestrataLaw" dC dI g A [(a2, .inr (15, [.int (0), .int (0), .int (100), .int (0), .int (0), .ref a23, .ref a24, .ref a25, .ref a26, .ref a27, .ref a28, .ref a29, .ref a30, .ref a31, .ref a32, .ref a33, .null, .int (-1), .ref a34, .long (0)])), (a31, .inr (1, [.int (0), .ref (g 21), .int (0)]))] _ _ := ⟨⟨hx, hb, hml, hown, hts⟩, hE, hS, hA, hP, hD⟩
    refine n_call (wr := [(a31, .inr (1, [.int (0), .ref (g 21), .int (0)]))]) hX (n_runV (n := 3) (wc := [(a2, .inr (15, [.int (0), .int (0), .int (100), .int (0), .int (0), .ref a23, .ref a24, .ref a25, .ref a26, .ref a27, .ref a28, .ref a29, .ref a30, .ref a31, .ref a32, .ref a33, .null, .int (-1), .ref a34, .long (0)]))]) (As := [.int s1, .int s2, .int s3]) (rest := []) hX (m347 l hst dC dI g a2 a23 a24 a25 a26 a27 a28 a29 a30 a31 a32 a33 a34 s1 s2 s3 h1 _) [0] rfl (by decide +kernel) 0 (ci := 15) rfl (T := TX16) (N := 20) (C := "MinestrataModel") rfl q2173 q2174 q2175 q82 q2176 (by decide +kernel) ⟨(Nat.le_of_ble_eq_true rfl), (Nat.le_of_ble_eq_true rfl)⟩ ⟨(Nat.le_of_ble_eq_true rfl), (Nat.le_of_ble_eq_true rfl)⟩ hl.1 rfl rfl (Nat.le_of_ble_eq_true rfl) dL_law_1939) [0] [1] rfl rfl (by decide +kernel) (by decide +kernel) (fun f4 r5 H locs hP hD hS => ?_)
    have hP : va_P (dC, dI) CL [(a31, .inr (1, [.int (0), .ref (g 21), .int (0)])), (a2, .inr (15, [.int (1), .int (0), .int (100), .int (0), .int (0), .ref a23, .ref a24, .ref a25, .ref a26, .ref a27, .ref a28, .ref a29, .ref a30, .ref a31, .ref a32, .ref a33, .null, .int (-1), .ref a34, .long (0)]))] _ := hP
    have hD : va_D A [(a31, .inr (1, [.int (0), .ref (g 21), .int (0)])), (a2, .inr (15, [.int (1), .int (0), .int (100), .int (0), .int (0), .ref a23, .ref a24, .ref a25, .ref a26, .ref a27, .ref a28, .ref a29, .ref a30, .ref a31, .ref a32, .ref a33, .null, .int (-1), .ref a34, .long (0)]))] := hD
    refine W.widen (k := 244) (n := 2777) (Nat.le_of_ble_eq_true rfl) (Nat.le_of_ble_eq_true rfl) ?_
    refine W.eq (g2 := F0 m 1942 ls [.int (0)]) rfl ?_
    refine lv_istore (lv' := [(7, .int (0)), (6, .int (1)), (5, .int (0)), (4, .ref a0), (3, .ref a1), (2, .ref a2), (1, .ref a3), (0, .ref b)]) hx hb dL_law_1942 hl (by decide) rfl (fun ls hl => ?_)
    refine lv_aload_n hx hb dL_law_1944 rfl (lv_at hl 5 rfl) ?_
    have hX : nCx p s m _ c code 9 "MinestrataLaw" dC dI g A [(a31, .inr (1, [.int (0), .ref (g 21), .int (0)])), (a2, .inr (15, [.int (1), .int (0), .int (100), .int (0), .int (0), .ref a23, .ref a24, .ref a25, .ref a26, .ref a27, .ref a28, .ref a29, .ref a30, .ref a31, .ref a32, .ref a33, .null, .int (-1), .ref a34, .long (0)]))] _ _ := ⟨⟨hx, hb, hml, hown, hts⟩, hE, hS, hA, hP, hD⟩
    refine n_call (wr := [(a31, .inr (1, [.int (0), .ref (g 21), .int (0)]))]) hX (n_runV (n := 0) (wc := [(a2, .inr (15, [.int (1), .int (0), .int (100), .int (0), .int (0), .ref a23, .ref a24, .ref a25, .ref a26, .ref a27, .ref a28, .ref a29, .ref a30, .ref a31, .ref a32, .ref a33, .null, .int (-1), .ref a34, .long (0)]))]) (As := []) (rest := []) hX (m33 l hst dC dI g a2 a23 a24 a25 a26 a27 a28 a29 a30 a31 a32 a33 a34 _) [1] rfl (by decide +kernel) 1 (ci := 15) rfl (T := TX16) (N := 20) (C := "MinestrataModel") rfl q1495 q1496 q1497 q82 q1498 (by decide +kernel) ⟨(Nat.le_of_ble_eq_true rfl), (Nat.le_of_ble_eq_true rfl)⟩ ⟨(Nat.le_of_ble_eq_true rfl), (Nat.le_of_ble_eq_true rfl)⟩ hl.1 rfl rfl (Nat.le_of_ble_eq_true rfl) dL_law_1945) [1] [0] rfl rfl (by decide +kernel) (by decide +kernel) (fun f6 r7 H locs hP hD hS => ?_)
    have hP : va_P (dC, dI) CL [(a31, .inr (1, [.int (0), .ref (g 21), .int (0)])), (a2, .inr (15, [.int (1), .int (0), .int (100), .int (0), .int (0), .ref a23, .ref a24, .ref a25, .ref a26, .ref a27, .ref a28, .ref a29, .ref a30, .ref a31, .ref a32, .ref a33, .null, .int (-1), .ref a34, .long (0)]))] _ := hP
    have hD : va_D A [(a31, .inr (1, [.int (0), .ref (g 21), .int (0)])), (a2, .inr (15, [.int (1), .int (0), .int (100), .int (0), .int (0), .ref a23, .ref a24, .ref a25, .ref a26, .ref a27, .ref a28, .ref a29, .ref a30, .ref a31, .ref a32, .ref a33, .null, .int (-1), .ref a34, .long (0)]))] := hD
    refine W.widen (k := 244) (n := 2777) (Nat.le_of_ble_eq_true rfl) (Nat.le_of_ble_eq_true rfl) ?_
    refine W.eq (g2 := F0 m 1948 ls [.int (1)]) rfl ?_
    refine lv_iload hx hb dL_law_1948 (lv_at hl 1 rfl) ?_
    refine lv_icmp_eq (tgt := 1955) hx hb dL_law_1950 (by decide +kernel) (fun _ => ?_) (fun h => absurd (by decide +kernel) h)
    refine lv_iload hx hb dL_law_1955 (lv_at hl 1 rfl) ?_
    refine lv_if_ne (tgt := 1972) hx hb dL_law_1957 (by decide +kernel) (fun _ => ?_) (fun h => absurd h (by decide +kernel))
    refine lv_goto (tgt := 2278) hx hb dL_law_1972 (by decide +kernel) ?_
    refine lv_iinc (v := (5)) (lv' := [(5, .int (5)), (7, .int (0)), (6, .int (1)), (4, .ref a0), (3, .ref a1), (2, .ref a2), (1, .ref a3), (0, .ref b)]) hx hb dL_law_2278 hl (k := 2) rfl (by decide +kernel) (by decide) rfl (fun ls hl => ?_)
    refine lv_goto (tgt := 28) hx hb dL_law_2281 (by decide +kernel) ?_
    refine lv_iload hx hb dL_law_28 (lv_at hl 0 rfl) ?_
    refine lv_aload_n hx hb dL_law_30 rfl (lv_at hl 7 rfl) ?_
    refine va_slen hx hb hXs hbl hbA hS dL_law_31 ?_
    refine nt_i (v := (5)) (by decide +kernel) ?_
    refine lv_iconst (v := (5)) hx hb dL_law_32 (by decide +kernel) ?_
    refine lv_isub hx hb dL_law_33 ?_
    refine nt_i (v := (0)) (by decide +kernel) ?_
    refine lv_icmp_gt (tgt := 2284) hx hb dL_law_34 (by decide +kernel) (fun _ => ?_) (fun h => absurd (by decide +kernel) h)
    refine lv_iconst (v := (1)) hx hb dL_law_2284 (by decide +kernel) ?_
    refine va_forget (fun q9 hq9 => by have h9 := hS.2.2 q9 hq9; rw [← hAe] at h9; exact h9) ?_
    refine W.widen (k := 600006) (n := 7302056) (Nat.le_of_ble_eq_true rfl) (Nat.le_of_ble_eq_true rfl) ?_
    refine W.base ?_
    exact lw_ret (Drawn.sameBut.refl s.drawn lw_cs) hx hb hr hlk dL_law_2285
  · skip
    by_cases h8 : (20) < s1
    · skip
      have hX : nCx p s m _ c code 9 "MinestrataLaw" dC dI g A [(a3, .inr (12, [.ref a4, .ref a5, .ref a6, .ref a7, .ref a8, .ref a9, .ref a10, .ref a11, .null, .ref a12, .ref a13, .int (0), .int (100), .int (0), .int (0), .int (-1), .long (0), .int (1)])), (a6, .inr (11, [.int (0), .ref a14, .ref a15, .ref a16, .ref a17, .ref a18, .ref a19, .ref a20, .ref a21, .ref a22])), (a2, .inr (15, [.int (0), .int (0), .int (100), .int (0), .int (0), .ref a23, .ref a24, .ref a25, .ref a26, .ref a27, .ref a28, .ref a29, .ref a30, .ref a31, .ref a32, .ref a33, .null, .int (-1), .ref a34, .long (0)])), (a31, .inr (1, [.int (0), .ref (g 21), .int (0)]))] _ _ := ⟨⟨hx, hb, hml, hown, hts⟩, hE, hS, hA, hP, hD⟩
      refine n_call (wr := [(a2, .inr (15, [.int (0), .int (0), .int (100), .int (0), .int (0), .ref a23, .ref a24, .ref a25, .ref a26, .ref a27, .ref a28, .ref a29, .ref a30, .ref a31, .ref a32, .ref a33, .null, .int (-1), .ref a34, .long (0)])), (a31, .inr (1, [.int (0), .ref (g 21), .int (0)]))]) hX (n_runSW (n := 5) (wc := [(a3, .inr (12, [.ref a4, .ref a5, .ref a6, .ref a7, .ref a8, .ref a9, .ref a10, .ref a11, .null, .ref a12, .ref a13, .int (0), .int (100), .int (0), .int (0), .int (-1), .long (0), .int (1)])), (a6, .inr (11, [.int (0), .ref a14, .ref a15, .ref a16, .ref a17, .ref a18, .ref a19, .ref a20, .ref a21, .ref a22]))]) (As := [.ref a3, .int s1, .int s2, .int s3, .ref a1]) (rest := []) hX (m350 l hst dC dI g a3 a1 a4 a5 a6 a7 a8 a9 a10 a11 a12 a13 a14 a15 a16 a17 a18 a19 a20 a21 a22 s1 s2 s3 h1 h8 _) [0, 1] rfl (by decide +kernel) q1268 q1269 q70 q1270 (by decide +kernel) ⟨(Nat.le_of_ble_eq_true rfl), (Nat.le_of_ble_eq_true rfl)⟩ ⟨(Nat.le_of_ble_eq_true rfl), (Nat.le_of_ble_eq_true rfl)⟩ hl.1 rfl rfl (Nat.le_of_ble_eq_true rfl) dL_law_1915) [0, 1] [2, 3] rfl rfl (by decide +kernel) (by decide +kernel) (fun f9 r10 H locs hP hD hS => ?_)
      have hP : va_P (dC, dI) CL [(a2, .inr (15, [.int (0), .int (0), .int (100), .int (0), .int (0), .ref a23, .ref a24, .ref a25, .ref a26, .ref a27, .ref a28, .ref a29, .ref a30, .ref a31, .ref a32, .ref a33, .null, .int (-1), .ref a34, .long (0)])), (a31, .inr (1, [.int (0), .ref (g 21), .int (0)]))] _ := hP
      have hD : va_D A [(a2, .inr (15, [.int (0), .int (0), .int (100), .int (0), .int (0), .ref a23, .ref a24, .ref a25, .ref a26, .ref a27, .ref a28, .ref a29, .ref a30, .ref a31, .ref a32, .ref a33, .null, .int (-1), .ref a34, .long (0)])), (a31, .inr (1, [.int (0), .ref (g 21), .int (0)]))] := hD
      refine W.widen (k := 244) (n := 2777) (Nat.le_of_ble_eq_true rfl) (Nat.le_of_ble_eq_true rfl) ?_
      refine W.eq (g2 := F0 m 1918 ls [.int (1)]) rfl ?_
      refine lv_istore (lv' := [(6, .int (1)), (5, .int (0)), (4, .ref a0), (3, .ref a1), (2, .ref a2), (1, .ref a3), (0, .ref b)]) hx hb dL_law_1918 hl (by decide) rfl (fun ls hl => ?_)
      refine lv_aload_n hx hb dL_law_1920 rfl (lv_at hl 4 rfl) ?_
      refine lv_aload_n hx hb dL_law_1921 rfl (lv_at hl 6 rfl) ?_
      refine lv_iload hx hb dL_law_1922 (lv_at hl 1 rfl) ?_
      refine lv_iconst (v := (1)) hx hb dL_law_1924 (by decide +kernel) ?_
      refine lv_iadd hx hb dL_law_1925 ?_
      refine nt_i (v := (1)) (by decide +kernel) ?_
      refine va_sld hx hb hXs hbl hbA hS (show ¬ ((1 : Int32) < 0 ∨ 5 ≤ Int32.toNatClampNeg (1)) by decide +kernel) dL_law_1926 ?_
      refine nt_i (v := s1) es1 ?_
      refine lv_aload_n hx hb dL_law_1927 rfl (lv_at hl 6 rfl) ?_
      refine lv_iload hx hb dL_law_1928 (lv_at hl 1 rfl) ?_
      refine lv_iconst (v := (2)) hx hb dL_law_1930 (by decide +kernel) ?_
      refine lv_iadd hx hb dL_law_1931 ?_
      refine nt_i (v := (2)) (by decide +kernel) ?_
      refine va_sld hx hb hXs hbl hbA hS (show ¬ ((2 : Int32) < 0 ∨ 5 ≤ Int32.toNatClampNeg (2)) by decide +kernel) dL_law_1932 ?_
      refine nt_i (v := s2) es2 ?_
      refine lv_aload_n hx hb dL_law_1933 rfl (lv_at hl 6 rfl) ?_
      refine lv_iload hx hb dL_law_1934 (lv_at hl 1 rfl) ?_
      refine lv_iconst (v := (3)) hx hb dL_law_1936 (by decide +kernel) ?_
      refine lv_iadd hx hb dL_law_1937 ?_
      refine nt_i (v := (3)) (by decide +kernel) ?_
      refine va_sld hx hb hXs hbl hbA hS (show ¬ ((3 : Int32) < 0 ∨ 5 ≤ Int32.toNatClampNeg (3)) by decide +kernel) dL_law_1938 ?_
      refine nt_i (v := s3) es3 ?_
      have hX : nCx p s m _ c code 9 "MinestrataLaw" dC dI g A [(a2, .inr (15, [.int (0), .int (0), .int (100), .int (0), .int (0), .ref a23, .ref a24, .ref a25, .ref a26, .ref a27, .ref a28, .ref a29, .ref a30, .ref a31, .ref a32, .ref a33, .null, .int (-1), .ref a34, .long (0)])), (a31, .inr (1, [.int (0), .ref (g 21), .int (0)]))] _ _ := ⟨⟨hx, hb, hml, hown, hts⟩, hE, hS, hA, hP, hD⟩
      refine n_call (wr := [(a31, .inr (1, [.int (0), .ref (g 21), .int (0)]))]) hX (n_runV (n := 3) (wc := [(a2, .inr (15, [.int (0), .int (0), .int (100), .int (0), .int (0), .ref a23, .ref a24, .ref a25, .ref a26, .ref a27, .ref a28, .ref a29, .ref a30, .ref a31, .ref a32, .ref a33, .null, .int (-1), .ref a34, .long (0)]))]) (As := [.int s1, .int s2, .int s3]) (rest := []) hX (m352 l hst dC dI g a2 a23 a24 a25 a26 a27 a28 a29 a30 a31 a32 a33 a34 s1 s2 s3 h1 h8 _) [0] rfl (by decide +kernel) 0 (ci := 15) rfl (T := TX16) (N := 20) (C := "MinestrataModel") rfl q2173 q2174 q2175 q82 q2176 (by decide +kernel) ⟨(Nat.le_of_ble_eq_true rfl), (Nat.le_of_ble_eq_true rfl)⟩ ⟨(Nat.le_of_ble_eq_true rfl), (Nat.le_of_ble_eq_true rfl)⟩ hl.1 rfl rfl (Nat.le_of_ble_eq_true rfl) dL_law_1939) [0] [1] rfl rfl (by decide +kernel) (by decide +kernel) (fun f11 r12 H locs hP hD hS => ?_)
      have hP : va_P (dC, dI) CL [(a31, .inr (1, [.int (0), .ref (g 21), .int (0)])), (a2, .inr (15, [.int (1), .int (0), .int (100), .int (0), .int (0), .ref a23, .ref a24, .ref a25, .ref a26, .ref a27, .ref a28, .ref a29, .ref a30, .ref a31, .ref a32, .ref a33, .null, .int (-1), .ref a34, .long (0)]))] _ := hP
      have hD : va_D A [(a31, .inr (1, [.int (0), .ref (g 21), .int (0)])), (a2, .inr (15, [.int (1), .int (0), .int (100), .int (0), .int (0), .ref a23, .ref a24, .ref a25, .ref a26, .ref a27, .ref a28, .ref a29, .ref a30, .ref a31, .ref a32, .ref a33, .null, .int (-1), .ref a34, .long (0)]))] := hD
      refine W.widen (k := 244) (n := 2777) (Nat.le_of_ble_eq_true rfl) (Nat.le_of_ble_eq_true rfl) ?_
      refine W.eq (g2 := F0 m 1942 ls [.int (0)]) rfl ?_
      refine lv_istore (lv' := [(7, .int (0)), (6, .int (1)), (5, .int (0)), (4, .ref a0), (3, .ref a1), (2, .ref a2), (1, .ref a3), (0, .ref b)]) hx hb dL_law_1942 hl (by decide) rfl (fun ls hl => ?_)
      refine lv_aload_n hx hb dL_law_1944 rfl (lv_at hl 5 rfl) ?_
      have hX : nCx p s m _ c code 9 "MinestrataLaw" dC dI g A [(a31, .inr (1, [.int (0), .ref (g 21), .int (0)])), (a2, .inr (15, [.int (1), .int (0), .int (100), .int (0), .int (0), .ref a23, .ref a24, .ref a25, .ref a26, .ref a27, .ref a28, .ref a29, .ref a30, .ref a31, .ref a32, .ref a33, .null, .int (-1), .ref a34, .long (0)]))] _ _ := ⟨⟨hx, hb, hml, hown, hts⟩, hE, hS, hA, hP, hD⟩
      refine n_call (wr := [(a31, .inr (1, [.int (0), .ref (g 21), .int (0)]))]) hX (n_runV (n := 0) (wc := [(a2, .inr (15, [.int (1), .int (0), .int (100), .int (0), .int (0), .ref a23, .ref a24, .ref a25, .ref a26, .ref a27, .ref a28, .ref a29, .ref a30, .ref a31, .ref a32, .ref a33, .null, .int (-1), .ref a34, .long (0)]))]) (As := []) (rest := []) hX (m33 l hst dC dI g a2 a23 a24 a25 a26 a27 a28 a29 a30 a31 a32 a33 a34 _) [1] rfl (by decide +kernel) 1 (ci := 15) rfl (T := TX16) (N := 20) (C := "MinestrataModel") rfl q1495 q1496 q1497 q82 q1498 (by decide +kernel) ⟨(Nat.le_of_ble_eq_true rfl), (Nat.le_of_ble_eq_true rfl)⟩ ⟨(Nat.le_of_ble_eq_true rfl), (Nat.le_of_ble_eq_true rfl)⟩ hl.1 rfl rfl (Nat.le_of_ble_eq_true rfl) dL_law_1945) [1] [0] rfl rfl (by decide +kernel) (by decide +kernel) (fun f13 r14 H locs hP hD hS => ?_)
      have hP : va_P (dC, dI) CL [(a31, .inr (1, [.int (0), .ref (g 21), .int (0)])), (a2, .inr (15, [.int (1), .int (0), .int (100), .int (0), .int (0), .ref a23, .ref a24, .ref a25, .ref a26, .ref a27, .ref a28, .ref a29, .ref a30, .ref a31, .ref a32, .ref a33, .null, .int (-1), .ref a34, .long (0)]))] _ := hP
      have hD : va_D A [(a31, .inr (1, [.int (0), .ref (g 21), .int (0)])), (a2, .inr (15, [.int (1), .int (0), .int (100), .int (0), .int (0), .ref a23, .ref a24, .ref a25, .ref a26, .ref a27, .ref a28, .ref a29, .ref a30, .ref a31, .ref a32, .ref a33, .null, .int (-1), .ref a34, .long (0)]))] := hD
      refine W.widen (k := 244) (n := 2777) (Nat.le_of_ble_eq_true rfl) (Nat.le_of_ble_eq_true rfl) ?_
      refine W.eq (g2 := F0 m 1948 ls [.int (1)]) rfl ?_
      refine lv_iload hx hb dL_law_1948 (lv_at hl 1 rfl) ?_
      refine lv_icmp_eq (tgt := 1955) hx hb dL_law_1950 (by decide +kernel) (fun _ => ?_) (fun h => absurd (by decide +kernel) h)
      refine lv_iload hx hb dL_law_1955 (lv_at hl 1 rfl) ?_
      refine lv_if_ne (tgt := 1972) hx hb dL_law_1957 (by decide +kernel) (fun _ => ?_) (fun h => absurd h (by decide +kernel))
      refine lv_goto (tgt := 2278) hx hb dL_law_1972 (by decide +kernel) ?_
      refine lv_iinc (v := (5)) (lv' := [(5, .int (5)), (7, .int (0)), (6, .int (1)), (4, .ref a0), (3, .ref a1), (2, .ref a2), (1, .ref a3), (0, .ref b)]) hx hb dL_law_2278 hl (k := 2) rfl (by decide +kernel) (by decide) rfl (fun ls hl => ?_)
      refine lv_goto (tgt := 28) hx hb dL_law_2281 (by decide +kernel) ?_
      refine lv_iload hx hb dL_law_28 (lv_at hl 0 rfl) ?_
      refine lv_aload_n hx hb dL_law_30 rfl (lv_at hl 7 rfl) ?_
      refine va_slen hx hb hXs hbl hbA hS dL_law_31 ?_
      refine nt_i (v := (5)) (by decide +kernel) ?_
      refine lv_iconst (v := (5)) hx hb dL_law_32 (by decide +kernel) ?_
      refine lv_isub hx hb dL_law_33 ?_
      refine nt_i (v := (0)) (by decide +kernel) ?_
      refine lv_icmp_gt (tgt := 2284) hx hb dL_law_34 (by decide +kernel) (fun _ => ?_) (fun h => absurd (by decide +kernel) h)
      refine lv_iconst (v := (1)) hx hb dL_law_2284 (by decide +kernel) ?_
      refine va_forget (fun q9 hq9 => by have h9 := hS.2.2 q9 hq9; rw [← hAe] at h9; exact h9) ?_
      refine W.widen (k := 600006) (n := 7302056) (Nat.le_of_ble_eq_true rfl) (Nat.le_of_ble_eq_true rfl) ?_
      refine W.base ?_
      exact lw_ret (Drawn.sameBut.refl s.drawn lw_cs) hx hb hr hlk dL_law_2285
    · skip
      by_cases h15 : s2 < (0)
      · skip
        have hX : nCx p s m _ c code 9 "MinestrataLaw" dC dI g A [(a3, .inr (12, [.ref a4, .ref a5, .ref a6, .ref a7, .ref a8, .ref a9, .ref a10, .ref a11, .null, .ref a12, .ref a13, .int (0), .int (100), .int (0), .int (0), .int (-1), .long (0), .int (1)])), (a6, .inr (11, [.int (0), .ref a14, .ref a15, .ref a16, .ref a17, .ref a18, .ref a19, .ref a20, .ref a21, .ref a22])), (a2, .inr (15, [.int (0), .int (0), .int (100), .int (0), .int (0), .ref a23, .ref a24, .ref a25, .ref a26, .ref a27, .ref a28, .ref a29, .ref a30, .ref a31, .ref a32, .ref a33, .null, .int (-1), .ref a34, .long (0)])), (a31, .inr (1, [.int (0), .ref (g 21), .int (0)]))] _ _ := ⟨⟨hx, hb, hml, hown, hts⟩, hE, hS, hA, hP, hD⟩
        refine n_call (wr := [(a2, .inr (15, [.int (0), .int (0), .int (100), .int (0), .int (0), .ref a23, .ref a24, .ref a25, .ref a26, .ref a27, .ref a28, .ref a29, .ref a30, .ref a31, .ref a32, .ref a33, .null, .int (-1), .ref a34, .long (0)])), (a31, .inr (1, [.int (0), .ref (g 21), .int (0)]))]) hX (n_runSW (n := 5) (wc := [(a3, .inr (12, [.ref a4, .ref a5, .ref a6, .ref a7, .ref a8, .ref a9, .ref a10, .ref a11, .null, .ref a12, .ref a13, .int (0), .int (100), .int (0), .int (0), .int (-1), .long (0), .int (1)])), (a6, .inr (11, [.int (0), .ref a14, .ref a15, .ref a16, .ref a17, .ref a18, .ref a19, .ref a20, .ref a21, .ref a22]))]) (As := [.ref a3, .int s1, .int s2, .int s3, .ref a1]) (rest := []) hX (m355 l hst dC dI g a3 a1 a4 a5 a6 a7 a8 a9 a10 a11 a12 a13 a14 a15 a16 a17 a18 a19 a20 a21 a22 s1 s2 s3 h1 h8 h15 _) [0, 1] rfl (by decide +kernel) q1268 q1269 q70 q1270 (by decide +kernel) ⟨(Nat.le_of_ble_eq_true rfl), (Nat.le_of_ble_eq_true rfl)⟩ ⟨(Nat.le_of_ble_eq_true rfl), (Nat.le_of_ble_eq_true rfl)⟩ hl.1 rfl rfl (Nat.le_of_ble_eq_true rfl) dL_law_1915) [0, 1] [2, 3] rfl rfl (by decide +kernel) (by decide +kernel) (fun f16 r17 H locs hP hD hS => ?_)
        have hP : va_P (dC, dI) CL [(a2, .inr (15, [.int (0), .int (0), .int (100), .int (0), .int (0), .ref a23, .ref a24, .ref a25, .ref a26, .ref a27, .ref a28, .ref a29, .ref a30, .ref a31, .ref a32, .ref a33, .null, .int (-1), .ref a34, .long (0)])), (a31, .inr (1, [.int (0), .ref (g 21), .int (0)]))] _ := hP
        have hD : va_D A [(a2, .inr (15, [.int (0), .int (0), .int (100), .int (0), .int (0), .ref a23, .ref a24, .ref a25, .ref a26, .ref a27, .ref a28, .ref a29, .ref a30, .ref a31, .ref a32, .ref a33, .null, .int (-1), .ref a34, .long (0)])), (a31, .inr (1, [.int (0), .ref (g 21), .int (0)]))] := hD
        refine W.widen (k := 244) (n := 2777) (Nat.le_of_ble_eq_true rfl) (Nat.le_of_ble_eq_true rfl) ?_
        refine W.eq (g2 := F0 m 1918 ls [.int (1)]) rfl ?_
        refine lv_istore (lv' := [(6, .int (1)), (5, .int (0)), (4, .ref a0), (3, .ref a1), (2, .ref a2), (1, .ref a3), (0, .ref b)]) hx hb dL_law_1918 hl (by decide) rfl (fun ls hl => ?_)
        refine lv_aload_n hx hb dL_law_1920 rfl (lv_at hl 4 rfl) ?_
        refine lv_aload_n hx hb dL_law_1921 rfl (lv_at hl 6 rfl) ?_
        refine lv_iload hx hb dL_law_1922 (lv_at hl 1 rfl) ?_
        refine lv_iconst (v := (1)) hx hb dL_law_1924 (by decide +kernel) ?_
        refine lv_iadd hx hb dL_law_1925 ?_
        refine nt_i (v := (1)) (by decide +kernel) ?_
        refine va_sld hx hb hXs hbl hbA hS (show ¬ ((1 : Int32) < 0 ∨ 5 ≤ Int32.toNatClampNeg (1)) by decide +kernel) dL_law_1926 ?_
        refine nt_i (v := s1) es1 ?_
        refine lv_aload_n hx hb dL_law_1927 rfl (lv_at hl 6 rfl) ?_
        refine lv_iload hx hb dL_law_1928 (lv_at hl 1 rfl) ?_
        refine lv_iconst (v := (2)) hx hb dL_law_1930 (by decide +kernel) ?_
        refine lv_iadd hx hb dL_law_1931 ?_
        refine nt_i (v := (2)) (by decide +kernel) ?_
        refine va_sld hx hb hXs hbl hbA hS (show ¬ ((2 : Int32) < 0 ∨ 5 ≤ Int32.toNatClampNeg (2)) by decide +kernel) dL_law_1932 ?_
        refine nt_i (v := s2) es2 ?_
        refine lv_aload_n hx hb dL_law_1933 rfl (lv_at hl 6 rfl) ?_
        refine lv_iload hx hb dL_law_1934 (lv_at hl 1 rfl) ?_
        refine lv_iconst (v := (3)) hx hb dL_law_1936 (by decide +kernel) ?_
        refine lv_iadd hx hb dL_law_1937 ?_
        refine nt_i (v := (3)) (by decide +kernel) ?_
        refine va_sld hx hb hXs hbl hbA hS (show ¬ ((3 : Int32) < 0 ∨ 5 ≤ Int32.toNatClampNeg (3)) by decide +kernel) dL_law_1938 ?_
        refine nt_i (v := s3) es3 ?_
        have hX : nCx p s m _ c code 9 "MinestrataLaw" dC dI g A [(a2, .inr (15, [.int (0), .int (0), .int (100), .int (0), .int (0), .ref a23, .ref a24, .ref a25, .ref a26, .ref a27, .ref a28, .ref a29, .ref a30, .ref a31, .ref a32, .ref a33, .null, .int (-1), .ref a34, .long (0)])), (a31, .inr (1, [.int (0), .ref (g 21), .int (0)]))] _ _ := ⟨⟨hx, hb, hml, hown, hts⟩, hE, hS, hA, hP, hD⟩
        refine n_call (wr := [(a31, .inr (1, [.int (0), .ref (g 21), .int (0)]))]) hX (n_runV (n := 3) (wc := [(a2, .inr (15, [.int (0), .int (0), .int (100), .int (0), .int (0), .ref a23, .ref a24, .ref a25, .ref a26, .ref a27, .ref a28, .ref a29, .ref a30, .ref a31, .ref a32, .ref a33, .null, .int (-1), .ref a34, .long (0)]))]) (As := [.int s1, .int s2, .int s3]) (rest := []) hX (m358 l hst dC dI g a2 a23 a24 a25 a26 a27 a28 a29 a30 a31 a32 a33 a34 s1 s2 s3 h1 h8 h15 _) [0] rfl (by decide +kernel) 0 (ci := 15) rfl (T := TX16) (N := 20) (C := "MinestrataModel") rfl q2173 q2174 q2175 q82 q2176 (by decide +kernel) ⟨(Nat.le_of_ble_eq_true rfl), (Nat.le_of_ble_eq_true rfl)⟩ ⟨(Nat.le_of_ble_eq_true rfl), (Nat.le_of_ble_eq_true rfl)⟩ hl.1 rfl rfl (Nat.le_of_ble_eq_true rfl) dL_law_1939) [0] [1] rfl rfl (by decide +kernel) (by decide +kernel) (fun f18 r19 H locs hP hD hS => ?_)
        have hP : va_P (dC, dI) CL [(a31, .inr (1, [.int (0), .ref (g 21), .int (0)])), (a2, .inr (15, [.int (1), .int (0), .int (100), .int (0), .int (0), .ref a23, .ref a24, .ref a25, .ref a26, .ref a27, .ref a28, .ref a29, .ref a30, .ref a31, .ref a32, .ref a33, .null, .int (-1), .ref a34, .long (0)]))] _ := hP
        have hD : va_D A [(a31, .inr (1, [.int (0), .ref (g 21), .int (0)])), (a2, .inr (15, [.int (1), .int (0), .int (100), .int (0), .int (0), .ref a23, .ref a24, .ref a25, .ref a26, .ref a27, .ref a28, .ref a29, .ref a30, .ref a31, .ref a32, .ref a33, .null, .int (-1), .ref a34, .long (0)]))] := hD
        refine W.widen (k := 244) (n := 2777) (Nat.le_of_ble_eq_true rfl) (Nat.le_of_ble_eq_true rfl) ?_
        refine W.eq (g2 := F0 m 1942 ls [.int (0)]) rfl ?_
        refine lv_istore (lv' := [(7, .int (0)), (6, .int (1)), (5, .int (0)), (4, .ref a0), (3, .ref a1), (2, .ref a2), (1, .ref a3), (0, .ref b)]) hx hb dL_law_1942 hl (by decide) rfl (fun ls hl => ?_)
        refine lv_aload_n hx hb dL_law_1944 rfl (lv_at hl 5 rfl) ?_
        have hX : nCx p s m _ c code 9 "MinestrataLaw" dC dI g A [(a31, .inr (1, [.int (0), .ref (g 21), .int (0)])), (a2, .inr (15, [.int (1), .int (0), .int (100), .int (0), .int (0), .ref a23, .ref a24, .ref a25, .ref a26, .ref a27, .ref a28, .ref a29, .ref a30, .ref a31, .ref a32, .ref a33, .null, .int (-1), .ref a34, .long (0)]))] _ _ := ⟨⟨hx, hb, hml, hown, hts⟩, hE, hS, hA, hP, hD⟩
        refine n_call (wr := [(a31, .inr (1, [.int (0), .ref (g 21), .int (0)]))]) hX (n_runV (n := 0) (wc := [(a2, .inr (15, [.int (1), .int (0), .int (100), .int (0), .int (0), .ref a23, .ref a24, .ref a25, .ref a26, .ref a27, .ref a28, .ref a29, .ref a30, .ref a31, .ref a32, .ref a33, .null, .int (-1), .ref a34, .long (0)]))]) (As := []) (rest := []) hX (m33 l hst dC dI g a2 a23 a24 a25 a26 a27 a28 a29 a30 a31 a32 a33 a34 _) [1] rfl (by decide +kernel) 1 (ci := 15) rfl (T := TX16) (N := 20) (C := "MinestrataModel") rfl q1495 q1496 q1497 q82 q1498 (by decide +kernel) ⟨(Nat.le_of_ble_eq_true rfl), (Nat.le_of_ble_eq_true rfl)⟩ ⟨(Nat.le_of_ble_eq_true rfl), (Nat.le_of_ble_eq_true rfl)⟩ hl.1 rfl rfl (Nat.le_of_ble_eq_true rfl) dL_law_1945) [1] [0] rfl rfl (by decide +kernel) (by decide +kernel) (fun f20 r21 H locs hP hD hS => ?_)
        have hP : va_P (dC, dI) CL [(a31, .inr (1, [.int (0), .ref (g 21), .int (0)])), (a2, .inr (15, [.int (1), .int (0), .int (100), .int (0), .int (0), .ref a23, .ref a24, .ref a25, .ref a26, .ref a27, .ref a28, .ref a29, .ref a30, .ref a31, .ref a32, .ref a33, .null, .int (-1), .ref a34, .long (0)]))] _ := hP
        have hD : va_D A [(a31, .inr (1, [.int (0), .ref (g 21), .int (0)])), (a2, .inr (15, [.int (1), .int (0), .int (100), .int (0), .int (0), .ref a23, .ref a24, .ref a25, .ref a26, .ref a27, .ref a28, .ref a29, .ref a30, .ref a31, .ref a32, .ref a33, .null, .int (-1), .ref a34, .long (0)]))] := hD
        refine W.widen (k := 244) (n := 2777) (Nat.le_of_ble_eq_true rfl) (Nat.le_of_ble_eq_true rfl) ?_
        refine W.eq (g2 := F0 m 1948 ls [.int (1)]) rfl ?_
        refine lv_iload hx hb dL_law_1948 (lv_at hl 1 rfl) ?_
        refine lv_icmp_eq (tgt := 1955) hx hb dL_law_1950 (by decide +kernel) (fun _ => ?_) (fun h => absurd (by decide +kernel) h)
        refine lv_iload hx hb dL_law_1955 (lv_at hl 1 rfl) ?_
        refine lv_if_ne (tgt := 1972) hx hb dL_law_1957 (by decide +kernel) (fun _ => ?_) (fun h => absurd h (by decide +kernel))
        refine lv_goto (tgt := 2278) hx hb dL_law_1972 (by decide +kernel) ?_
        refine lv_iinc (v := (5)) (lv' := [(5, .int (5)), (7, .int (0)), (6, .int (1)), (4, .ref a0), (3, .ref a1), (2, .ref a2), (1, .ref a3), (0, .ref b)]) hx hb dL_law_2278 hl (k := 2) rfl (by decide +kernel) (by decide) rfl (fun ls hl => ?_)
        refine lv_goto (tgt := 28) hx hb dL_law_2281 (by decide +kernel) ?_
        refine lv_iload hx hb dL_law_28 (lv_at hl 0 rfl) ?_
        refine lv_aload_n hx hb dL_law_30 rfl (lv_at hl 7 rfl) ?_
        refine va_slen hx hb hXs hbl hbA hS dL_law_31 ?_
        refine nt_i (v := (5)) (by decide +kernel) ?_
        refine lv_iconst (v := (5)) hx hb dL_law_32 (by decide +kernel) ?_
        refine lv_isub hx hb dL_law_33 ?_
        refine nt_i (v := (0)) (by decide +kernel) ?_
        refine lv_icmp_gt (tgt := 2284) hx hb dL_law_34 (by decide +kernel) (fun _ => ?_) (fun h => absurd (by decide +kernel) h)
        refine lv_iconst (v := (1)) hx hb dL_law_2284 (by decide +kernel) ?_
        refine va_forget (fun q9 hq9 => by have h9 := hS.2.2 q9 hq9; rw [← hAe] at h9; exact h9) ?_
        refine W.widen (k := 600006) (n := 7302056) (Nat.le_of_ble_eq_true rfl) (Nat.le_of_ble_eq_true rfl) ?_
        refine W.base ?_
        exact lw_ret (Drawn.sameBut.refl s.drawn lw_cs) hx hb hr hlk dL_law_2285
      · skip
        by_cases h22 : s3 < s2
        · skip
          have hX : nCx p s m _ c code 9 "MinestrataLaw" dC dI g A [(a3, .inr (12, [.ref a4, .ref a5, .ref a6, .ref a7, .ref a8, .ref a9, .ref a10, .ref a11, .null, .ref a12, .ref a13, .int (0), .int (100), .int (0), .int (0), .int (-1), .long (0), .int (1)])), (a6, .inr (11, [.int (0), .ref a14, .ref a15, .ref a16, .ref a17, .ref a18, .ref a19, .ref a20, .ref a21, .ref a22])), (a2, .inr (15, [.int (0), .int (0), .int (100), .int (0), .int (0), .ref a23, .ref a24, .ref a25, .ref a26, .ref a27, .ref a28, .ref a29, .ref a30, .ref a31, .ref a32, .ref a33, .null, .int (-1), .ref a34, .long (0)])), (a31, .inr (1, [.int (0), .ref (g 21), .int (0)]))] _ _ := ⟨⟨hx, hb, hml, hown, hts⟩, hE, hS, hA, hP, hD⟩
          refine n_call (wr := [(a2, .inr (15, [.int (0), .int (0), .int (100), .int (0), .int (0), .ref a23, .ref a24, .ref a25, .ref a26, .ref a27, .ref a28, .ref a29, .ref a30, .ref a31, .ref a32, .ref a33, .null, .int (-1), .ref a34, .long (0)])), (a31, .inr (1, [.int (0), .ref (g 21), .int (0)]))]) hX (n_runSW (n := 5) (wc := [(a3, .inr (12, [.ref a4, .ref a5, .ref a6, .ref a7, .ref a8, .ref a9, .ref a10, .ref a11, .null, .ref a12, .ref a13, .int (0), .int (100), .int (0), .int (0), .int (-1), .long (0), .int (1)])), (a6, .inr (11, [.int (0), .ref a14, .ref a15, .ref a16, .ref a17, .ref a18, .ref a19, .ref a20, .ref a21, .ref a22]))]) (As := [.ref a3, .int s1, .int s2, .int s3, .ref a1]) (rest := []) hX (m360 l hst dC dI g a3 a1 a4 a5 a6 a7 a8 a9 a10 a11 a12 a13 a14 a15 a16 a17 a18 a19 a20 a21 a22 s1 s2 s3 h1 h8 h15 h22 _) [0, 1] rfl (by decide +kernel) q1268 q1269 q70 q1270 (by decide +kernel) ⟨(Nat.le_of_ble_eq_true rfl), (Nat.le_of_ble_eq_true rfl)⟩ ⟨(Nat.le_of_ble_eq_true rfl), (Nat.le_of_ble_eq_true rfl)⟩ hl.1 rfl rfl (Nat.le_of_ble_eq_true rfl) dL_law_1915) [0, 1] [2, 3] rfl rfl (by decide +kernel) (by decide +kernel) (fun f23 r24 H locs hP hD hS => ?_)
          have hP : va_P (dC, dI) CL [(a2, .inr (15, [.int (0), .int (0), .int (100), .int (0), .int (0), .ref a23, .ref a24, .ref a25, .ref a26, .ref a27, .ref a28, .ref a29, .ref a30, .ref a31, .ref a32, .ref a33, .null, .int (-1), .ref a34, .long (0)])), (a31, .inr (1, [.int (0), .ref (g 21), .int (0)]))] _ := hP
          have hD : va_D A [(a2, .inr (15, [.int (0), .int (0), .int (100), .int (0), .int (0), .ref a23, .ref a24, .ref a25, .ref a26, .ref a27, .ref a28, .ref a29, .ref a30, .ref a31, .ref a32, .ref a33, .null, .int (-1), .ref a34, .long (0)])), (a31, .inr (1, [.int (0), .ref (g 21), .int (0)]))] := hD
          refine W.widen (k := 244) (n := 2777) (Nat.le_of_ble_eq_true rfl) (Nat.le_of_ble_eq_true rfl) ?_
          refine W.eq (g2 := F0 m 1918 ls [.int (1)]) rfl ?_
          refine lv_istore (lv' := [(6, .int (1)), (5, .int (0)), (4, .ref a0), (3, .ref a1), (2, .ref a2), (1, .ref a3), (0, .ref b)]) hx hb dL_law_1918 hl (by decide) rfl (fun ls hl => ?_)
          refine lv_aload_n hx hb dL_law_1920 rfl (lv_at hl 4 rfl) ?_
          refine lv_aload_n hx hb dL_law_1921 rfl (lv_at hl 6 rfl) ?_
          refine lv_iload hx hb dL_law_1922 (lv_at hl 1 rfl) ?_
          refine lv_iconst (v := (1)) hx hb dL_law_1924 (by decide +kernel) ?_
          refine lv_iadd hx hb dL_law_1925 ?_
          refine nt_i (v := (1)) (by decide +kernel) ?_
          refine va_sld hx hb hXs hbl hbA hS (show ¬ ((1 : Int32) < 0 ∨ 5 ≤ Int32.toNatClampNeg (1)) by decide +kernel) dL_law_1926 ?_
          refine nt_i (v := s1) es1 ?_
          refine lv_aload_n hx hb dL_law_1927 rfl (lv_at hl 6 rfl) ?_
          refine lv_iload hx hb dL_law_1928 (lv_at hl 1 rfl) ?_
          refine lv_iconst (v := (2)) hx hb dL_law_1930 (by decide +kernel) ?_
          refine lv_iadd hx hb dL_law_1931 ?_
          refine nt_i (v := (2)) (by decide +kernel) ?_
          refine va_sld hx hb hXs hbl hbA hS (show ¬ ((2 : Int32) < 0 ∨ 5 ≤ Int32.toNatClampNeg (2)) by decide +kernel) dL_law_1932 ?_
          refine nt_i (v := s2) es2 ?_
          refine lv_aload_n hx hb dL_law_1933 rfl (lv_at hl 6 rfl) ?_
          refine lv_iload hx hb dL_law_1934 (lv_at hl 1 rfl) ?_
          refine lv_iconst (v := (3)) hx hb dL_law_1936 (by decide +kernel) ?_
          refine lv_iadd hx hb dL_law_1937 ?_
          refine nt_i (v := (3)) (by decide +kernel) ?_
          refine va_sld hx hb hXs hbl hbA hS (show ¬ ((3 : Int32) < 0 ∨ 5 ≤ Int32.toNatClampNeg (3)) by decide +kernel) dL_law_1938 ?_
          refine nt_i (v := s3) es3 ?_
          have hX : nCx p s m _ c code 9 "MinestrataLaw" dC dI g A [(a2, .inr (15, [.int (0), .int (0), .int (100), .int (0), .int (0), .ref a23, .ref a24, .ref a25, .ref a26, .ref a27, .ref a28, .ref a29, .ref a30, .ref a31, .ref a32, .ref a33, .null, .int (-1), .ref a34, .long (0)])), (a31, .inr (1, [.int (0), .ref (g 21), .int (0)]))] _ _ := ⟨⟨hx, hb, hml, hown, hts⟩, hE, hS, hA, hP, hD⟩
          refine n_call (wr := [(a31, .inr (1, [.int (0), .ref (g 21), .int (0)]))]) hX (n_runV (n := 3) (wc := [(a2, .inr (15, [.int (0), .int (0), .int (100), .int (0), .int (0), .ref a23, .ref a24, .ref a25, .ref a26, .ref a27, .ref a28, .ref a29, .ref a30, .ref a31, .ref a32, .ref a33, .null, .int (-1), .ref a34, .long (0)]))]) (As := [.int s1, .int s2, .int s3]) (rest := []) hX (m364 l hst dC dI g a2 a23 a24 a25 a26 a27 a28 a29 a30 a31 a32 a33 a34 s1 s2 s3 h1 h8 h15 h22 _) [0] rfl (by decide +kernel) 0 (ci := 15) rfl (T := TX16) (N := 20) (C := "MinestrataModel") rfl q2173 q2174 q2175 q82 q2176 (by decide +kernel) ⟨(Nat.le_of_ble_eq_true rfl), (Nat.le_of_ble_eq_true rfl)⟩ ⟨(Nat.le_of_ble_eq_true rfl), (Nat.le_of_ble_eq_true rfl)⟩ hl.1 rfl rfl (Nat.le_of_ble_eq_true rfl) dL_law_1939) [0] [1] rfl rfl (by decide +kernel) (by decide +kernel) (fun f25 r26 H locs hP hD hS => ?_)
          have hP : va_P (dC, dI) CL [(a31, .inr (1, [.int (0), .ref (g 21), .int (0)])), (a2, .inr (15, [.int (1), .int (0), .int (100), .int (0), .int (0), .ref a23, .ref a24, .ref a25, .ref a26, .ref a27, .ref a28, .ref a29, .ref a30, .ref a31, .ref a32, .ref a33, .null, .int (-1), .ref a34, .long (0)]))] _ := hP
          have hD : va_D A [(a31, .inr (1, [.int (0), .ref (g 21), .int (0)])), (a2, .inr (15, [.int (1), .int (0), .int (100), .int (0), .int (0), .ref a23, .ref a24, .ref a25, .ref a26, .ref a27, .ref a28, .ref a29, .ref a30, .ref a31, .ref a32, .ref a33, .null, .int (-1), .ref a34, .long (0)]))] := hD
          refine W.widen (k := 244) (n := 2777) (Nat.le_of_ble_eq_true rfl) (Nat.le_of_ble_eq_true rfl) ?_
          refine W.eq (g2 := F0 m 1942 ls [.int (0)]) rfl ?_
          refine lv_istore (lv' := [(7, .int (0)), (6, .int (1)), (5, .int (0)), (4, .ref a0), (3, .ref a1), (2, .ref a2), (1, .ref a3), (0, .ref b)]) hx hb dL_law_1942 hl (by decide) rfl (fun ls hl => ?_)
          refine lv_aload_n hx hb dL_law_1944 rfl (lv_at hl 5 rfl) ?_
          have hX : nCx p s m _ c code 9 "MinestrataLaw" dC dI g A [(a31, .inr (1, [.int (0), .ref (g 21), .int (0)])), (a2, .inr (15, [.int (1), .int (0), .int (100), .int (0), .int (0), .ref a23, .ref a24, .ref a25, .ref a26, .ref a27, .ref a28, .ref a29, .ref a30, .ref a31, .ref a32, .ref a33, .null, .int (-1), .ref a34, .long (0)]))] _ _ := ⟨⟨hx, hb, hml, hown, hts⟩, hE, hS, hA, hP, hD⟩
          refine n_call (wr := [(a31, .inr (1, [.int (0), .ref (g 21), .int (0)]))]) hX (n_runV (n := 0) (wc := [(a2, .inr (15, [.int (1), .int (0), .int (100), .int (0), .int (0), .ref a23, .ref a24, .ref a25, .ref a26, .ref a27, .ref a28, .ref a29, .ref a30, .ref a31, .ref a32, .ref a33, .null, .int (-1), .ref a34, .long (0)]))]) (As := []) (rest := []) hX (m33 l hst dC dI g a2 a23 a24 a25 a26 a27 a28 a29 a30 a31 a32 a33 a34 _) [1] rfl (by decide +kernel) 1 (ci := 15) rfl (T := TX16) (N := 20) (C := "MinestrataModel") rfl q1495 q1496 q1497 q82 q1498 (by decide +kernel) ⟨(Nat.le_of_ble_eq_true rfl), (Nat.le_of_ble_eq_true rfl)⟩ ⟨(Nat.le_of_ble_eq_true rfl), (Nat.le_of_ble_eq_true rfl)⟩ hl.1 rfl rfl (Nat.le_of_ble_eq_true rfl) dL_law_1945) [1] [0] rfl rfl (by decide +kernel) (by decide +kernel) (fun f27 r28 H locs hP hD hS => ?_)
          have hP : va_P (dC, dI) CL [(a31, .inr (1, [.int (0), .ref (g 21), .int (0)])), (a2, .inr (15, [.int (1), .int (0), .int (100), .int (0), .int (0), .ref a23, .ref a24, .ref a25, .ref a26, .ref a27, .ref a28, .ref a29, .ref a30, .ref a31, .ref a32, .ref a33, .null, .int (-1), .ref a34, .long (0)]))] _ := hP
          have hD : va_D A [(a31, .inr (1, [.int (0), .ref (g 21), .int (0)])), (a2, .inr (15, [.int (1), .int (0), .int (100), .int (0), .int (0), .ref a23, .ref a24, .ref a25, .ref a26, .ref a27, .ref a28, .ref a29, .ref a30, .ref a31, .ref a32, .ref a33, .null, .int (-1), .ref a34, .long (0)]))] := hD
          refine W.widen (k := 244) (n := 2777) (Nat.le_of_ble_eq_true rfl) (Nat.le_of_ble_eq_true rfl) ?_
          refine W.eq (g2 := F0 m 1948 ls [.int (1)]) rfl ?_
          refine lv_iload hx hb dL_law_1948 (lv_at hl 1 rfl) ?_
          refine lv_icmp_eq (tgt := 1955) hx hb dL_law_1950 (by decide +kernel) (fun _ => ?_) (fun h => absurd (by decide +kernel) h)
          refine lv_iload hx hb dL_law_1955 (lv_at hl 1 rfl) ?_
          refine lv_if_ne (tgt := 1972) hx hb dL_law_1957 (by decide +kernel) (fun _ => ?_) (fun h => absurd h (by decide +kernel))
          refine lv_goto (tgt := 2278) hx hb dL_law_1972 (by decide +kernel) ?_
          refine lv_iinc (v := (5)) (lv' := [(5, .int (5)), (7, .int (0)), (6, .int (1)), (4, .ref a0), (3, .ref a1), (2, .ref a2), (1, .ref a3), (0, .ref b)]) hx hb dL_law_2278 hl (k := 2) rfl (by decide +kernel) (by decide) rfl (fun ls hl => ?_)
          refine lv_goto (tgt := 28) hx hb dL_law_2281 (by decide +kernel) ?_
          refine lv_iload hx hb dL_law_28 (lv_at hl 0 rfl) ?_
          refine lv_aload_n hx hb dL_law_30 rfl (lv_at hl 7 rfl) ?_
          refine va_slen hx hb hXs hbl hbA hS dL_law_31 ?_
          refine nt_i (v := (5)) (by decide +kernel) ?_
          refine lv_iconst (v := (5)) hx hb dL_law_32 (by decide +kernel) ?_
          refine lv_isub hx hb dL_law_33 ?_
          refine nt_i (v := (0)) (by decide +kernel) ?_
          refine lv_icmp_gt (tgt := 2284) hx hb dL_law_34 (by decide +kernel) (fun _ => ?_) (fun h => absurd (by decide +kernel) h)
          refine lv_iconst (v := (1)) hx hb dL_law_2284 (by decide +kernel) ?_
          refine va_forget (fun q9 hq9 => by have h9 := hS.2.2 q9 hq9; rw [← hAe] at h9; exact h9) ?_
          refine W.widen (k := 600006) (n := 7302056) (Nat.le_of_ble_eq_true rfl) (Nat.le_of_ble_eq_true rfl) ?_
          refine W.base ?_
          exact lw_ret (Drawn.sameBut.refl s.drawn lw_cs) hx hb hr hlk dL_law_2285
        · skip
          by_cases h29 : s3 ≤ (999)
          · skip
            have hX : nCx p s m _ c code 9 "MinestrataLaw" dC dI g A [(a3, .inr (12, [.ref a4, .ref a5, .ref a6, .ref a7, .ref a8, .ref a9, .ref a10, .ref a11, .null, .ref a12, .ref a13, .int (0), .int (100), .int (0), .int (0), .int (-1), .long (0), .int (1)])), (a6, .inr (11, [.int (0), .ref a14, .ref a15, .ref a16, .ref a17, .ref a18, .ref a19, .ref a20, .ref a21, .ref a22])), (a2, .inr (15, [.int (0), .int (0), .int (100), .int (0), .int (0), .ref a23, .ref a24, .ref a25, .ref a26, .ref a27, .ref a28, .ref a29, .ref a30, .ref a31, .ref a32, .ref a33, .null, .int (-1), .ref a34, .long (0)])), (a31, .inr (1, [.int (0), .ref (g 21), .int (0)]))] _ _ := ⟨⟨hx, hb, hml, hown, hts⟩, hE, hS, hA, hP, hD⟩
            refine n_call (wr := [(a2, .inr (15, [.int (0), .int (0), .int (100), .int (0), .int (0), .ref a23, .ref a24, .ref a25, .ref a26, .ref a27, .ref a28, .ref a29, .ref a30, .ref a31, .ref a32, .ref a33, .null, .int (-1), .ref a34, .long (0)])), (a31, .inr (1, [.int (0), .ref (g 21), .int (0)]))]) hX (n_runSW (n := 5) (wc := [(a3, .inr (12, [.ref a4, .ref a5, .ref a6, .ref a7, .ref a8, .ref a9, .ref a10, .ref a11, .null, .ref a12, .ref a13, .int (0), .int (100), .int (0), .int (0), .int (-1), .long (0), .int (1)])), (a6, .inr (11, [.int (0), .ref a14, .ref a15, .ref a16, .ref a17, .ref a18, .ref a19, .ref a20, .ref a21, .ref a22]))]) (As := [.ref a3, .int s1, .int s2, .int s3, .ref a1]) (rest := []) hX (m367 l hst dC dI g a3 a1 a4 a5 a6 a7 a8 a9 a10 a11 a12 a13 a14 a15 a16 a17 a18 a19 a20 a21 a22 s1 s2 s3 h1 h8 h15 h22 h29 _) [0, 1] rfl (by decide +kernel) q1268 q1269 q70 q1270 (by decide +kernel) ⟨(Nat.le_of_ble_eq_true rfl), (Nat.le_of_ble_eq_true rfl)⟩ ⟨(Nat.le_of_ble_eq_true rfl), (Nat.le_of_ble_eq_true rfl)⟩ hl.1 rfl rfl (Nat.le_of_ble_eq_true rfl) dL_law_1915) [0, 1] [2, 3] rfl rfl (by decide +kernel) (by decide +kernel) (fun f30 r31 H locs hP hD hS => ?_)
            have hP : va_P (dC, dI) CL [(a2, .inr (15, [.int (0), .int (0), .int (100), .int (0), .int (0), .ref a23, .ref a24, .ref a25, .ref a26, .ref a27, .ref a28, .ref a29, .ref a30, .ref a31, .ref a32, .ref a33, .null, .int (-1), .ref a34, .long (0)])), (a31, .inr (1, [.int (0), .ref (g 21), .int (0)]))] _ := hP
            have hD : va_D A [(a2, .inr (15, [.int (0), .int (0), .int (100), .int (0), .int (0), .ref a23, .ref a24, .ref a25, .ref a26, .ref a27, .ref a28, .ref a29, .ref a30, .ref a31, .ref a32, .ref a33, .null, .int (-1), .ref a34, .long (0)])), (a31, .inr (1, [.int (0), .ref (g 21), .int (0)]))] := hD
            refine W.widen (k := 244) (n := 2777) (Nat.le_of_ble_eq_true rfl) (Nat.le_of_ble_eq_true rfl) ?_
            refine W.eq (g2 := F0 m 1918 ls [.int (2)]) rfl ?_
            refine lv_istore (lv' := [(6, .int (2)), (5, .int (0)), (4, .ref a0), (3, .ref a1), (2, .ref a2), (1, .ref a3), (0, .ref b)]) hx hb dL_law_1918 hl (by decide) rfl (fun ls hl => ?_)
            refine lv_aload_n hx hb dL_law_1920 rfl (lv_at hl 4 rfl) ?_
            refine lv_aload_n hx hb dL_law_1921 rfl (lv_at hl 6 rfl) ?_
            refine lv_iload hx hb dL_law_1922 (lv_at hl 1 rfl) ?_
            refine lv_iconst (v := (1)) hx hb dL_law_1924 (by decide +kernel) ?_
            refine lv_iadd hx hb dL_law_1925 ?_
            refine nt_i (v := (1)) (by decide +kernel) ?_
            refine va_sld hx hb hXs hbl hbA hS (show ¬ ((1 : Int32) < 0 ∨ 5 ≤ Int32.toNatClampNeg (1)) by decide +kernel) dL_law_1926 ?_
            refine nt_i (v := s1) es1 ?_
            refine lv_aload_n hx hb dL_law_1927 rfl (lv_at hl 6 rfl) ?_
            refine lv_iload hx hb dL_law_1928 (lv_at hl 1 rfl) ?_
            refine lv_iconst (v := (2)) hx hb dL_law_1930 (by decide +kernel) ?_
            refine lv_iadd hx hb dL_law_1931 ?_
            refine nt_i (v := (2)) (by decide +kernel) ?_
            refine va_sld hx hb hXs hbl hbA hS (show ¬ ((2 : Int32) < 0 ∨ 5 ≤ Int32.toNatClampNeg (2)) by decide +kernel) dL_law_1932 ?_
            refine nt_i (v := s2) es2 ?_
            refine lv_aload_n hx hb dL_law_1933 rfl (lv_at hl 6 rfl) ?_
            refine lv_iload hx hb dL_law_1934 (lv_at hl 1 rfl) ?_
            refine lv_iconst (v := (3)) hx hb dL_law_1936 (by decide +kernel) ?_
            refine lv_iadd hx hb dL_law_1937 ?_
            refine nt_i (v := (3)) (by decide +kernel) ?_
            refine va_sld hx hb hXs hbl hbA hS (show ¬ ((3 : Int32) < 0 ∨ 5 ≤ Int32.toNatClampNeg (3)) by decide +kernel) dL_law_1938 ?_
            refine nt_i (v := s3) es3 ?_
            have hX : nCx p s m _ c code 9 "MinestrataLaw" dC dI g A [(a2, .inr (15, [.int (0), .int (0), .int (100), .int (0), .int (0), .ref a23, .ref a24, .ref a25, .ref a26, .ref a27, .ref a28, .ref a29, .ref a30, .ref a31, .ref a32, .ref a33, .null, .int (-1), .ref a34, .long (0)])), (a31, .inr (1, [.int (0), .ref (g 21), .int (0)]))] _ _ := ⟨⟨hx, hb, hml, hown, hts⟩, hE, hS, hA, hP, hD⟩
            refine n_call (wr := []) hX (n_runV (n := 3) (wc := [(a2, .inr (15, [.int (0), .int (0), .int (100), .int (0), .int (0), .ref a23, .ref a24, .ref a25, .ref a26, .ref a27, .ref a28, .ref a29, .ref a30, .ref a31, .ref a32, .ref a33, .null, .int (-1), .ref a34, .long (0)])), (a31, .inr (1, [.int (0), .ref (g 21), .int (0)]))]) (As := [.int s1, .int s2, .int s3]) (rest := []) hX (m371 l hst dC dI g a2 a23 a24 a25 a26 a27 a28 a29 a30 a31 a32 a33 a34 s1 s2 s3 h1 h8 h15 h22 h29 _) [0, 1] rfl (by decide +kernel) 0 (ci := 15) rfl (T := TX16) (N := 20) (C := "MinestrataModel") rfl q2173 q2174 q2175 q82 q2176 (by decide +kernel) ⟨(Nat.le_of_ble_eq_true rfl), (Nat.le_of_ble_eq_true rfl)⟩ ⟨(Nat.le_of_ble_eq_true rfl), (Nat.le_of_ble_eq_true rfl)⟩ hl.1 rfl rfl (Nat.le_of_ble_eq_true rfl) dL_law_1939) [0, 1] [] rfl rfl (by decide +kernel) (by decide +kernel) (fun f32 r33 H locs hP hD hS => ?_)
            have hP : va_P (dC, dI) CL [(a2, .inr (15, [.int (2), .int (0), .int (100), .int (0), .int (0), .ref a23, .ref a24, .ref a25, .ref a26, .ref a27, .ref a28, .ref a29, .ref a30, .ref a31, .ref a32, .ref a33, .null, .int (-1), .ref a34, .long (0)])), (a31, .inr (1, [.int (0), .ref (g 21), .int (0)]))] _ := hP
            have hD : va_D A [(a2, .inr (15, [.int (2), .int (0), .int (100), .int (0), .int (0), .ref a23, .ref a24, .ref a25, .ref a26, .ref a27, .ref a28, .ref a29, .ref a30, .ref a31, .ref a32, .ref a33, .null, .int (-1), .ref a34, .long (0)])), (a31, .inr (1, [.int (0), .ref (g 21), .int (0)]))] := hD
            refine W.widen (k := 245) (n := 2781) (Nat.le_of_ble_eq_true rfl) (Nat.le_of_ble_eq_true rfl) ?_
            refine W.eq (g2 := F0 m 1942 ls [.int (0)]) rfl ?_
            refine lv_istore (lv' := [(7, .int (0)), (6, .int (2)), (5, .int (0)), (4, .ref a0), (3, .ref a1), (2, .ref a2), (1, .ref a3), (0, .ref b)]) hx hb dL_law_1942 hl (by decide) rfl (fun ls hl => ?_)
            refine lv_aload_n hx hb dL_law_1944 rfl (lv_at hl 5 rfl) ?_
            have hX : nCx p s m _ c code 9 "MinestrataLaw" dC dI g A [(a2, .inr (15, [.int (2), .int (0), .int (100), .int (0), .int (0), .ref a23, .ref a24, .ref a25, .ref a26, .ref a27, .ref a28, .ref a29, .ref a30, .ref a31, .ref a32, .ref a33, .null, .int (-1), .ref a34, .long (0)])), (a31, .inr (1, [.int (0), .ref (g 21), .int (0)]))] _ _ := ⟨⟨hx, hb, hml, hown, hts⟩, hE, hS, hA, hP, hD⟩
            refine n_call (wr := [(a31, .inr (1, [.int (0), .ref (g 21), .int (0)]))]) hX (n_runV (n := 0) (wc := [(a2, .inr (15, [.int (2), .int (0), .int (100), .int (0), .int (0), .ref a23, .ref a24, .ref a25, .ref a26, .ref a27, .ref a28, .ref a29, .ref a30, .ref a31, .ref a32, .ref a33, .null, .int (-1), .ref a34, .long (0)]))]) (As := []) (rest := []) hX (m108 l hst dC dI g a2 a23 a24 a25 a26 a27 a28 a29 a30 a31 a32 a33 a34 _) [0] rfl (by decide +kernel) 0 (ci := 15) rfl (T := TX16) (N := 20) (C := "MinestrataModel") rfl q1495 q1496 q1497 q82 q1498 (by decide +kernel) ⟨(Nat.le_of_ble_eq_true rfl), (Nat.le_of_ble_eq_true rfl)⟩ ⟨(Nat.le_of_ble_eq_true rfl), (Nat.le_of_ble_eq_true rfl)⟩ hl.1 rfl rfl (Nat.le_of_ble_eq_true rfl) dL_law_1945) [0] [1] rfl rfl (by decide +kernel) (by decide +kernel) (fun f34 r35 H locs hP hD hS => ?_)
            have hP : va_P (dC, dI) CL [(a31, .inr (1, [.int (0), .ref (g 21), .int (0)])), (a2, .inr (15, [.int (2), .int (0), .int (100), .int (0), .int (0), .ref a23, .ref a24, .ref a25, .ref a26, .ref a27, .ref a28, .ref a29, .ref a30, .ref a31, .ref a32, .ref a33, .null, .int (-1), .ref a34, .long (0)]))] _ := hP
            have hD : va_D A [(a31, .inr (1, [.int (0), .ref (g 21), .int (0)])), (a2, .inr (15, [.int (2), .int (0), .int (100), .int (0), .int (0), .ref a23, .ref a24, .ref a25, .ref a26, .ref a27, .ref a28, .ref a29, .ref a30, .ref a31, .ref a32, .ref a33, .null, .int (-1), .ref a34, .long (0)]))] := hD
            refine W.widen (k := 245) (n := 2781) (Nat.le_of_ble_eq_true rfl) (Nat.le_of_ble_eq_true rfl) ?_
            refine W.eq (g2 := F0 m 1948 ls [.int (2)]) rfl ?_
            refine lv_iload hx hb dL_law_1948 (lv_at hl 1 rfl) ?_
            refine lv_icmp_eq (tgt := 1955) hx hb dL_law_1950 (by decide +kernel) (fun _ => ?_) (fun h => absurd (by decide +kernel) h)
            refine lv_iload hx hb dL_law_1955 (lv_at hl 1 rfl) ?_
            refine lv_if_ne (tgt := 1972) hx hb dL_law_1957 (by decide +kernel) (fun _ => ?_) (fun h => absurd h (by decide +kernel))
            refine lv_goto (tgt := 2278) hx hb dL_law_1972 (by decide +kernel) ?_
            refine lv_iinc (v := (5)) (lv' := [(5, .int (5)), (7, .int (0)), (6, .int (2)), (4, .ref a0), (3, .ref a1), (2, .ref a2), (1, .ref a3), (0, .ref b)]) hx hb dL_law_2278 hl (k := 2) rfl (by decide +kernel) (by decide) rfl (fun ls hl => ?_)
            refine lv_goto (tgt := 28) hx hb dL_law_2281 (by decide +kernel) ?_
            refine lv_iload hx hb dL_law_28 (lv_at hl 0 rfl) ?_
            refine lv_aload_n hx hb dL_law_30 rfl (lv_at hl 7 rfl) ?_
            refine va_slen hx hb hXs hbl hbA hS dL_law_31 ?_
            refine nt_i (v := (5)) (by decide +kernel) ?_
            refine lv_iconst (v := (5)) hx hb dL_law_32 (by decide +kernel) ?_
            refine lv_isub hx hb dL_law_33 ?_
            refine nt_i (v := (0)) (by decide +kernel) ?_
            refine lv_icmp_gt (tgt := 2284) hx hb dL_law_34 (by decide +kernel) (fun _ => ?_) (fun h => absurd (by decide +kernel) h)
            refine lv_iconst (v := (1)) hx hb dL_law_2284 (by decide +kernel) ?_
            refine va_forget (fun q9 hq9 => by have h9 := hS.2.2 q9 hq9; rw [← hAe] at h9; exact h9) ?_
            refine W.widen (k := 600006) (n := 7302056) (Nat.le_of_ble_eq_true rfl) (Nat.le_of_ble_eq_true rfl) ?_
            refine W.base ?_
            exact lw_ret (Drawn.sameBut.refl s.drawn lw_cs) hx hb hr hlk dL_law_2285
          · skip
            have hX : nCx p s m _ c code 9 "MinestrataLaw" dC dI g A [(a3, .inr (12, [.ref a4, .ref a5, .ref a6, .ref a7, .ref a8, .ref a9, .ref a10, .ref a11, .null, .ref a12, .ref a13, .int (0), .int (100), .int (0), .int (0), .int (-1), .long (0), .int (1)])), (a6, .inr (11, [.int (0), .ref a14, .ref a15, .ref a16, .ref a17, .ref a18, .ref a19, .ref a20, .ref a21, .ref a22])), (a2, .inr (15, [.int (0), .int (0), .int (100), .int (0), .int (0), .ref a23, .ref a24, .ref a25, .ref a26, .ref a27, .ref a28, .ref a29, .ref a30, .ref a31, .ref a32, .ref a33, .null, .int (-1), .ref a34, .long (0)])), (a31, .inr (1, [.int (0), .ref (g 21), .int (0)]))] _ _ := ⟨⟨hx, hb, hml, hown, hts⟩, hE, hS, hA, hP, hD⟩
            refine n_call (wr := [(a2, .inr (15, [.int (0), .int (0), .int (100), .int (0), .int (0), .ref a23, .ref a24, .ref a25, .ref a26, .ref a27, .ref a28, .ref a29, .ref a30, .ref a31, .ref a32, .ref a33, .null, .int (-1), .ref a34, .long (0)])), (a31, .inr (1, [.int (0), .ref (g 21), .int (0)]))]) hX (n_runSW (n := 5) (wc := [(a3, .inr (12, [.ref a4, .ref a5, .ref a6, .ref a7, .ref a8, .ref a9, .ref a10, .ref a11, .null, .ref a12, .ref a13, .int (0), .int (100), .int (0), .int (0), .int (-1), .long (0), .int (1)])), (a6, .inr (11, [.int (0), .ref a14, .ref a15, .ref a16, .ref a17, .ref a18, .ref a19, .ref a20, .ref a21, .ref a22]))]) (As := [.ref a3, .int s1, .int s2, .int s3, .ref a1]) (rest := []) hX (m373 l hst dC dI g a3 a1 a4 a5 a6 a7 a8 a9 a10 a11 a12 a13 a14 a15 a16 a17 a18 a19 a20 a21 a22 s1 s2 s3 h1 h8 h15 h22 h29 _) [0, 1] rfl (by decide +kernel) q1268 q1269 q70 q1270 (by decide +kernel) ⟨(Nat.le_of_ble_eq_true rfl), (Nat.le_of_ble_eq_true rfl)⟩ ⟨(Nat.le_of_ble_eq_true rfl), (Nat.le_of_ble_eq_true rfl)⟩ hl.1 rfl rfl (Nat.le_of_ble_eq_true rfl) dL_law_1915) [0, 1] [2, 3] rfl rfl (by decide +kernel) (by decide +kernel) (fun f36 r37 H locs hP hD hS => ?_)
            have hP : va_P (dC, dI) CL [(a2, .inr (15, [.int (0), .int (0), .int (100), .int (0), .int (0), .ref a23, .ref a24, .ref a25, .ref a26, .ref a27, .ref a28, .ref a29, .ref a30, .ref a31, .ref a32, .ref a33, .null, .int (-1), .ref a34, .long (0)])), (a31, .inr (1, [.int (0), .ref (g 21), .int (0)]))] _ := hP
            have hD : va_D A [(a2, .inr (15, [.int (0), .int (0), .int (100), .int (0), .int (0), .ref a23, .ref a24, .ref a25, .ref a26, .ref a27, .ref a28, .ref a29, .ref a30, .ref a31, .ref a32, .ref a33, .null, .int (-1), .ref a34, .long (0)])), (a31, .inr (1, [.int (0), .ref (g 21), .int (0)]))] := hD
            refine W.widen (k := 244) (n := 2777) (Nat.le_of_ble_eq_true rfl) (Nat.le_of_ble_eq_true rfl) ?_
            refine W.eq (g2 := F0 m 1918 ls [.int (1)]) rfl ?_
            refine lv_istore (lv' := [(6, .int (1)), (5, .int (0)), (4, .ref a0), (3, .ref a1), (2, .ref a2), (1, .ref a3), (0, .ref b)]) hx hb dL_law_1918 hl (by decide) rfl (fun ls hl => ?_)
            refine lv_aload_n hx hb dL_law_1920 rfl (lv_at hl 4 rfl) ?_
            refine lv_aload_n hx hb dL_law_1921 rfl (lv_at hl 6 rfl) ?_
            refine lv_iload hx hb dL_law_1922 (lv_at hl 1 rfl) ?_
            refine lv_iconst (v := (1)) hx hb dL_law_1924 (by decide +kernel) ?_
            refine lv_iadd hx hb dL_law_1925 ?_
            refine nt_i (v := (1)) (by decide +kernel) ?_
            refine va_sld hx hb hXs hbl hbA hS (show ¬ ((1 : Int32) < 0 ∨ 5 ≤ Int32.toNatClampNeg (1)) by decide +kernel) dL_law_1926 ?_
            refine nt_i (v := s1) es1 ?_
            refine lv_aload_n hx hb dL_law_1927 rfl (lv_at hl 6 rfl) ?_
            refine lv_iload hx hb dL_law_1928 (lv_at hl 1 rfl) ?_
            refine lv_iconst (v := (2)) hx hb dL_law_1930 (by decide +kernel) ?_
            refine lv_iadd hx hb dL_law_1931 ?_
            refine nt_i (v := (2)) (by decide +kernel) ?_
            refine va_sld hx hb hXs hbl hbA hS (show ¬ ((2 : Int32) < 0 ∨ 5 ≤ Int32.toNatClampNeg (2)) by decide +kernel) dL_law_1932 ?_
            refine nt_i (v := s2) es2 ?_
            refine lv_aload_n hx hb dL_law_1933 rfl (lv_at hl 6 rfl) ?_
            refine lv_iload hx hb dL_law_1934 (lv_at hl 1 rfl) ?_
            refine lv_iconst (v := (3)) hx hb dL_law_1936 (by decide +kernel) ?_
            refine lv_iadd hx hb dL_law_1937 ?_
            refine nt_i (v := (3)) (by decide +kernel) ?_
            refine va_sld hx hb hXs hbl hbA hS (show ¬ ((3 : Int32) < 0 ∨ 5 ≤ Int32.toNatClampNeg (3)) by decide +kernel) dL_law_1938 ?_
            refine nt_i (v := s3) es3 ?_
            have hX : nCx p s m _ c code 9 "MinestrataLaw" dC dI g A [(a2, .inr (15, [.int (0), .int (0), .int (100), .int (0), .int (0), .ref a23, .ref a24, .ref a25, .ref a26, .ref a27, .ref a28, .ref a29, .ref a30, .ref a31, .ref a32, .ref a33, .null, .int (-1), .ref a34, .long (0)])), (a31, .inr (1, [.int (0), .ref (g 21), .int (0)]))] _ _ := ⟨⟨hx, hb, hml, hown, hts⟩, hE, hS, hA, hP, hD⟩
            refine n_call (wr := [(a31, .inr (1, [.int (0), .ref (g 21), .int (0)]))]) hX (n_runV (n := 3) (wc := [(a2, .inr (15, [.int (0), .int (0), .int (100), .int (0), .int (0), .ref a23, .ref a24, .ref a25, .ref a26, .ref a27, .ref a28, .ref a29, .ref a30, .ref a31, .ref a32, .ref a33, .null, .int (-1), .ref a34, .long (0)]))]) (As := [.int s1, .int s2, .int s3]) (rest := []) hX (m377 l hst dC dI g a2 a23 a24 a25 a26 a27 a28 a29 a30 a31 a32 a33 a34 s1 s2 s3 h1 h8 h15 h22 h29 _) [0] rfl (by decide +kernel) 0 (ci := 15) rfl (T := TX16) (N := 20) (C := "MinestrataModel") rfl q2173 q2174 q2175 q82 q2176 (by decide +kernel) ⟨(Nat.le_of_ble_eq_true rfl), (Nat.le_of_ble_eq_true rfl)⟩ ⟨(Nat.le_of_ble_eq_true rfl), (Nat.le_of_ble_eq_true rfl)⟩ hl.1 rfl rfl (Nat.le_of_ble_eq_true rfl) dL_law_1939) [0] [1] rfl rfl (by decide +kernel) (by decide +kernel) (fun f38 r39 H locs hP hD hS => ?_)
            have hP : va_P (dC, dI) CL [(a31, .inr (1, [.int (0), .ref (g 21), .int (0)])), (a2, .inr (15, [.int (1), .int (0), .int (100), .int (0), .int (0), .ref a23, .ref a24, .ref a25, .ref a26, .ref a27, .ref a28, .ref a29, .ref a30, .ref a31, .ref a32, .ref a33, .null, .int (-1), .ref a34, .long (0)]))] _ := hP
            have hD : va_D A [(a31, .inr (1, [.int (0), .ref (g 21), .int (0)])), (a2, .inr (15, [.int (1), .int (0), .int (100), .int (0), .int (0), .ref a23, .ref a24, .ref a25, .ref a26, .ref a27, .ref a28, .ref a29, .ref a30, .ref a31, .ref a32, .ref a33, .null, .int (-1), .ref a34, .long (0)]))] := hD
            refine W.widen (k := 244) (n := 2777) (Nat.le_of_ble_eq_true rfl) (Nat.le_of_ble_eq_true rfl) ?_
            refine W.eq (g2 := F0 m 1942 ls [.int (0)]) rfl ?_
            refine lv_istore (lv' := [(7, .int (0)), (6, .int (1)), (5, .int (0)), (4, .ref a0), (3, .ref a1), (2, .ref a2), (1, .ref a3), (0, .ref b)]) hx hb dL_law_1942 hl (by decide) rfl (fun ls hl => ?_)
            refine lv_aload_n hx hb dL_law_1944 rfl (lv_at hl 5 rfl) ?_
            have hX : nCx p s m _ c code 9 "MinestrataLaw" dC dI g A [(a31, .inr (1, [.int (0), .ref (g 21), .int (0)])), (a2, .inr (15, [.int (1), .int (0), .int (100), .int (0), .int (0), .ref a23, .ref a24, .ref a25, .ref a26, .ref a27, .ref a28, .ref a29, .ref a30, .ref a31, .ref a32, .ref a33, .null, .int (-1), .ref a34, .long (0)]))] _ _ := ⟨⟨hx, hb, hml, hown, hts⟩, hE, hS, hA, hP, hD⟩
            refine n_call (wr := [(a31, .inr (1, [.int (0), .ref (g 21), .int (0)]))]) hX (n_runV (n := 0) (wc := [(a2, .inr (15, [.int (1), .int (0), .int (100), .int (0), .int (0), .ref a23, .ref a24, .ref a25, .ref a26, .ref a27, .ref a28, .ref a29, .ref a30, .ref a31, .ref a32, .ref a33, .null, .int (-1), .ref a34, .long (0)]))]) (As := []) (rest := []) hX (m33 l hst dC dI g a2 a23 a24 a25 a26 a27 a28 a29 a30 a31 a32 a33 a34 _) [1] rfl (by decide +kernel) 1 (ci := 15) rfl (T := TX16) (N := 20) (C := "MinestrataModel") rfl q1495 q1496 q1497 q82 q1498 (by decide +kernel) ⟨(Nat.le_of_ble_eq_true rfl), (Nat.le_of_ble_eq_true rfl)⟩ ⟨(Nat.le_of_ble_eq_true rfl), (Nat.le_of_ble_eq_true rfl)⟩ hl.1 rfl rfl (Nat.le_of_ble_eq_true rfl) dL_law_1945) [1] [0] rfl rfl (by decide +kernel) (by decide +kernel) (fun f40 r41 H locs hP hD hS => ?_)
            have hP : va_P (dC, dI) CL [(a31, .inr (1, [.int (0), .ref (g 21), .int (0)])), (a2, .inr (15, [.int (1), .int (0), .int (100), .int (0), .int (0), .ref a23, .ref a24, .ref a25, .ref a26, .ref a27, .ref a28, .ref a29, .ref a30, .ref a31, .ref a32, .ref a33, .null, .int (-1), .ref a34, .long (0)]))] _ := hP
            have hD : va_D A [(a31, .inr (1, [.int (0), .ref (g 21), .int (0)])), (a2, .inr (15, [.int (1), .int (0), .int (100), .int (0), .int (0), .ref a23, .ref a24, .ref a25, .ref a26, .ref a27, .ref a28, .ref a29, .ref a30, .ref a31, .ref a32, .ref a33, .null, .int (-1), .ref a34, .long (0)]))] := hD
            refine W.widen (k := 244) (n := 2777) (Nat.le_of_ble_eq_true rfl) (Nat.le_of_ble_eq_true rfl) ?_
            refine W.eq (g2 := F0 m 1948 ls [.int (1)]) rfl ?_
            refine lv_iload hx hb dL_law_1948 (lv_at hl 1 rfl) ?_
            refine lv_icmp_eq (tgt := 1955) hx hb dL_law_1950 (by decide +kernel) (fun _ => ?_) (fun h => absurd (by decide +kernel) h)
            refine lv_iload hx hb dL_law_1955 (lv_at hl 1 rfl) ?_
            refine lv_if_ne (tgt := 1972) hx hb dL_law_1957 (by decide +kernel) (fun _ => ?_) (fun h => absurd h (by decide +kernel))
            refine lv_goto (tgt := 2278) hx hb dL_law_1972 (by decide +kernel) ?_
            refine lv_iinc (v := (5)) (lv' := [(5, .int (5)), (7, .int (0)), (6, .int (1)), (4, .ref a0), (3, .ref a1), (2, .ref a2), (1, .ref a3), (0, .ref b)]) hx hb dL_law_2278 hl (k := 2) rfl (by decide +kernel) (by decide) rfl (fun ls hl => ?_)
            refine lv_goto (tgt := 28) hx hb dL_law_2281 (by decide +kernel) ?_
            refine lv_iload hx hb dL_law_28 (lv_at hl 0 rfl) ?_
            refine lv_aload_n hx hb dL_law_30 rfl (lv_at hl 7 rfl) ?_
            refine va_slen hx hb hXs hbl hbA hS dL_law_31 ?_
            refine nt_i (v := (5)) (by decide +kernel) ?_
            refine lv_iconst (v := (5)) hx hb dL_law_32 (by decide +kernel) ?_
            refine lv_isub hx hb dL_law_33 ?_
            refine nt_i (v := (0)) (by decide +kernel) ?_
            refine lv_icmp_gt (tgt := 2284) hx hb dL_law_34 (by decide +kernel) (fun _ => ?_) (fun h => absurd (by decide +kernel) h)
            refine lv_iconst (v := (1)) hx hb dL_law_2284 (by decide +kernel) ?_
            refine va_forget (fun q9 hq9 => by have h9 := hS.2.2 q9 hq9; rw [← hAe] at h9; exact h9) ?_
            refine W.widen (k := 600006) (n := 7302056) (Nat.le_of_ble_eq_true rfl) (Nat.le_of_ble_eq_true rfl) ?_
            refine W.base ?_
            exact lw_ret (Drawn.sameBut.refl s.drawn lw_cs) hx hb hr hlk dL_law_2285

