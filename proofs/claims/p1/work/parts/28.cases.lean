set_option maxHeartbeats 4000000 in
set_option maxRecDepth 100000 in
theorem lc_8 {p : Program} {e : Env} {s : State} {m : MethodId} {below : List Frame} {meth : Method} {c : Code} (l : Launch) (hst : l.stackTraces = false) {b : Nat} {xs : Nat → Int32} (C0 : lw_At p s m meth c b 5 xs) (dC : Nat → ClassId) (dI : Nat → Nat → Nat) (g : Nat → Nat) (a0 a1 a2 a3 a4 a5 a6 a7 a8 a9 a10 a11 a12 a13 a14 a15 a16 a17 a18 a19 a20 a21 a22 a23 a24 a25 : Nat) {A : Nat → Prop} (hAe : (fun q : Nat => s.heap.size ≤ q) = A) (hE : EV dC dI g A s) (hA : ∀ q : Nat, s.heap.size ≤ q → A q) (hbA : ¬ A b) (H : Heap) (locs : List Loc) (hP : va_P (dC, dI) CL [(a3, .inr (12, [.ref a4, .ref a5, .ref a6, .ref a7, .ref a8, .ref a9, .ref a10, .ref a11, .null, .ref a12, .ref a13, .int (0), .int (100), .int (0), .int (0), .int (-1), .long (0), .int (1)])), (a2, .inr (15, [.int (0), .int (0), .int (100), .int (0), .int (0), .ref a14, .ref a15, .ref a16, .ref a17, .ref a18, .ref a19, .ref a20, .ref a21, .ref a22, .ref a23, .ref a24, .null, .int (-1), .ref a25, .long (0)]))] H) (hD : va_D A [(a3, .inr (12, [.ref a4, .ref a5, .ref a6, .ref a7, .ref a8, .ref a9, .ref a10, .ref a11, .null, .ref a12, .ref a13, .int (0), .int (100), .int (0), .int (0), .int (-1), .long (0), .int (1)])), (a2, .inr (15, [.int (0), .int (0), .int (100), .int (0), .int (0), .ref a14, .ref a15, .ref a16, .ref a17, .ref a18, .ref a19, .ref a20, .ref a21, .ref a22, .ref a23, .ref a24, .null, .int (-1), .ref a25, .long (0)]))]) (hS : va_S A s.heap H locs) (ls : Array Slot) (hl : lv_has ls 9 [(5, .int (0)), (4, .ref a0), (3, .ref a1), (2, .ref a2), (1, .ref a3), (0, .ref b)]) :
    W p l e room_1 s m #[Value.ref b] below meth c H locs 243 2771 (lw_Z below #[Value.ref b] s) (F0 m 44 ls [.int (8)]) := by
  obtain ⟨hx, hb, hr, hml, hown, hts0, hXs, hbl, hlk, hgv⟩ := id C0
  have hts : ∀ w ∈ AW, w.before #[Value.ref b] s = true := fun w h => hts0 w (aw_tbl h)
  have hown : s.vm.findClass "MinestrataLaw" = some m.cls := hown
  have hK := hE.1
  obtain ⟨s1, es1⟩ : ∃ y : Int32, xs (Int32.toNatClampNeg (1)) = y := ⟨_, rfl⟩
  obtain ⟨s2, es2⟩ : ∃ y : Int32, xs (Int32.toNatClampNeg (2)) = y := ⟨_, rfl⟩
  obtain ⟨s3, es3⟩ : ∃ y : Int32, xs (Int32.toNatClampNeg (3)) = y := ⟨_, rfl⟩
  obtain ⟨s4, es4⟩ : ∃ y : Int32, xs (Int32.toNatClampNeg (4)) = y := ⟨_, rfl⟩
  refine lv_tableIn (tgt := 832) (off := 788) hx hb dL_law_44 (by decide +kernel) (by decide +kernel) rfl (by decide +kernel) ?_
  refine lv_aload_n hx hb dL_law_832 rfl (lv_at hl 4 rfl) ?_
  refine lv_aload_n hx hb dL_law_833 rfl (lv_at hl 2 rfl) ?_
  have hX : nCx p s m _ c code 9 "MinestrataLaw" dC dI g A [(a3, .inr (12, [.ref a4, .ref a5, .ref a6, .ref a7, .ref a8, .ref a9, .ref a10, .ref a11, .null, .ref a12, .ref a13, .int (0), .int (100), .int (0), .int (0), .int (-1), .long (0), .int (1)])), (a2, .inr (15, [.int (0), .int (0), .int (100), .int (0), .int (0), .ref a14, .ref a15, .ref a16, .ref a17, .ref a18, .ref a19, .ref a20, .ref a21, .ref a22, .ref a23, .ref a24, .null, .int (-1), .ref a25, .long (0)]))] _ _ := ⟨⟨hx, hb, hml, hown, hts⟩, hE, hS, hA, hP, hD⟩
  refine n_call (wr := [(a2, .inr (15, [.int (0), .int (0), .int (100), .int (0), .int (0), .ref a14, .ref a15, .ref a16, .ref a17, .ref a18, .ref a19, .ref a20, .ref a21, .ref a22, .ref a23, .ref a24, .null, .int (-1), .ref a25, .long (0)]))]) hX (n_runSW (n := 2) (wc := [(a3, .inr (12, [.ref a4, .ref a5, .ref a6, .ref a7, .ref a8, .ref a9, .ref a10, .ref a11, .null, .ref a12, .ref a13, .int (0), .int (100), .int (0), .int (0), .int (-1), .long (0), .int (1)]))]) (As := [.ref a3, .ref a1]) (rest := []) hX (m229 l hst dC dI g a3 a1 a4 a5 a6 a7 a8 a9 a10 a11 a12 a13 _) [0] rfl (by decide +kernel) q1137 q1138 q70 q1139 (by decide +kernel) ⟨(Nat.le_of_ble_eq_true rfl), (Nat.le_of_ble_eq_true rfl)⟩ ⟨(Nat.le_of_ble_eq_true rfl), (Nat.le_of_ble_eq_true rfl)⟩ hl.1 rfl rfl (Nat.le_of_ble_eq_true rfl) dL_law_834) [0] [1] rfl rfl (by decide +kernel) (by decide +kernel) (fun f1 r2 H locs hP hD hS => ?_)
  have hP : va_P (dC, dI) CL [(a2, .inr (15, [.int (0), .int (0), .int (100), .int (0), .int (0), .ref a14, .ref a15, .ref a16, .ref a17, .ref a18, .ref a19, .ref a20, .ref a21, .ref a22, .ref a23, .ref a24, .null, .int (-1), .ref a25, .long (0)]))] _ := hP
  have hD : va_D A [(a2, .inr (15, [.int (0), .int (0), .int (100), .int (0), .int (0), .ref a14, .ref a15, .ref a16, .ref a17, .ref a18, .ref a19, .ref a20, .ref a21, .ref a22, .ref a23, .ref a24, .null, .int (-1), .ref a25, .long (0)]))] := hD
  refine W.widen (k := 244) (n := 2777) (Nat.le_of_ble_eq_true rfl) (Nat.le_of_ble_eq_true rfl) ?_
  refine W.eq (g2 := F0 m 837 ls [.int (1)]) rfl ?_
  refine lv_istore (lv' := [(6, .int (1)), (5, .int (0)), (4, .ref a0), (3, .ref a1), (2, .ref a2), (1, .ref a3), (0, .ref b)]) hx hb dL_law_837 hl (by decide) rfl (fun ls hl => ?_)
  refine lv_aload_n hx hb dL_law_839 rfl (lv_at hl 4 rfl) ?_
  have hX : nCx p s m _ c code 9 "MinestrataLaw" dC dI g A [(a2, .inr (15, [.int (0), .int (0), .int (100), .int (0), .int (0), .ref a14, .ref a15, .ref a16, .ref a17, .ref a18, .ref a19, .ref a20, .ref a21, .ref a22, .ref a23, .ref a24, .null, .int (-1), .ref a25, .long (0)]))] _ _ := ⟨⟨hx, hb, hml, hown, hts⟩, hE, hS, hA, hP, hD⟩
  refine n_call (wr := []) hX (n_runV (n := 0) (wc := [(a2, .inr (15, [.int (0), .int (0), .int (100), .int (0), .int (0), .ref a14, .ref a15, .ref a16, .ref a17, .ref a18, .ref a19, .ref a20, .ref a21, .ref a22, .ref a23, .ref a24, .null, .int (-1), .ref a25, .long (0)]))]) (As := []) (rest := []) hX (m230 l hst dC dI g a2 a14 a15 a16 a17 a18 a19 a20 a21 a22 a23 a24 a25 _) [0] rfl (by decide +kernel) 0 (ci := 15) rfl (T := TX16) (N := 20) (C := "MinestrataModel") rfl q2153 q2154 q2155 q82 q2156 (by decide +kernel) ⟨(Nat.le_of_ble_eq_true rfl), (Nat.le_of_ble_eq_true rfl)⟩ ⟨(Nat.le_of_ble_eq_true rfl), (Nat.le_of_ble_eq_true rfl)⟩ hl.1 rfl rfl (Nat.le_of_ble_eq_true rfl) dL_law_840) [0] [] rfl rfl (by decide +kernel) (by decide +kernel) (fun f3 r4 H locs hP hD hS => ?_)
  have hP : va_P (dC, dI) CL [(a2, .inr (15, [.int (1), .int (0), .int (100), .int (0), .int (0), .ref a14, .ref a15, .ref a16, .ref a17, .ref a18, .ref a19, .ref a20, .ref a21, .ref a22, .ref a23, .ref a24, .null, .int (-1), .ref a25, .long (0)]))] _ := hP
  have hD : va_D A [(a2, .inr (15, [.int (1), .int (0), .int (100), .int (0), .int (0), .ref a14, .ref a15, .ref a16, .ref a17, .ref a18, .ref a19, .ref a20, .ref a21, .ref a22, .ref a23, .ref a24, .null, .int (-1), .ref a25, .long (0)]))] := hD
  refine W.widen (k := 244) (n := 2777) (Nat.le_of_ble_eq_true rfl) (Nat.le_of_ble_eq_true rfl) ?_
  refine W.eq (g2 := F0 m 843 ls [.int (0)]) rfl ?_
  refine lv_istore (lv' := [(7, .int (0)), (6, .int (1)), (5, .int (0)), (4, .ref a0), (3, .ref a1), (2, .ref a2), (1, .ref a3), (0, .ref b)]) hx hb dL_law_843 hl (by decide) rfl (fun ls hl => ?_)
  refine lv_aload_n hx hb dL_law_845 rfl (lv_at hl 5 rfl) ?_
  have hX : nCx p s m _ c code 9 "MinestrataLaw" dC dI g A [(a2, .inr (15, [.int (1), .int (0), .int (100), .int (0), .int (0), .ref a14, .ref a15, .ref a16, .ref a17, .ref a18, .ref a19, .ref a20, .ref a21, .ref a22, .ref a23, .ref a24, .null, .int (-1), .ref a25, .long (0)]))] _ _ := ⟨⟨hx, hb, hml, hown, hts⟩, hE, hS, hA, hP, hD⟩
  refine n_call (wr := []) hX (n_runV (n := 0) (wc := [(a2, .inr (15, [.int (1), .int (0), .int (100), .int (0), .int (0), .ref a14, .ref a15, .ref a16, .ref a17, .ref a18, .ref a19, .ref a20, .ref a21, .ref a22, .ref a23, .ref a24, .null, .int (-1), .ref a25, .long (0)]))]) (As := []) (rest := []) hX (m33 l hst dC dI g a2 a14 a15 a16 a17 a18 a19 a20 a21 a22 a23 a24 a25 _) [0] rfl (by decide +kernel) 0 (ci := 15) rfl (T := TX16) (N := 20) (C := "MinestrataModel") rfl q1495 q1496 q1497 q82 q1498 (by decide +kernel) ⟨(Nat.le_of_ble_eq_true rfl), (Nat.le_of_ble_eq_true rfl)⟩ ⟨(Nat.le_of_ble_eq_true rfl), (Nat.le_of_ble_eq_true rfl)⟩ hl.1 rfl rfl (Nat.le_of_ble_eq_true rfl) dL_law_846) [0] [] rfl rfl (by decide +kernel) (by decide +kernel) (fun f5 r6 H locs hP hD hS => ?_)
  have hP : va_P (dC, dI) CL [(a2, .inr (15, [.int (1), .int (0), .int (100), .int (0), .int (0), .ref a14, .ref a15, .ref a16, .ref a17, .ref a18, .ref a19, .ref a20, .ref a21, .ref a22, .ref a23, .ref a24, .null, .int (-1), .ref a25, .long (0)]))] _ := hP
  have hD : va_D A [(a2, .inr (15, [.int (1), .int (0), .int (100), .int (0), .int (0), .ref a14, .ref a15, .ref a16, .ref a17, .ref a18, .ref a19, .ref a20, .ref a21, .ref a22, .ref a23, .ref a24, .null, .int (-1), .ref a25, .long (0)]))] := hD
  refine W.widen (k := 244) (n := 2777) (Nat.le_of_ble_eq_true rfl) (Nat.le_of_ble_eq_true rfl) ?_
  refine W.eq (g2 := F0 m 849 ls [.int (1)]) rfl ?_
  refine lv_iload hx hb dL_law_849 (lv_at hl 1 rfl) ?_
  refine lv_icmp_eq (tgt := 856) hx hb dL_law_851 (by decide +kernel) (fun _ => ?_) (fun h => absurd (by decide +kernel) h)
  refine lv_iload hx hb dL_law_856 (lv_at hl 1 rfl) ?_
  refine lv_if_ne (tgt := 873) hx hb dL_law_858 (by decide +kernel) (fun _ => ?_) (fun h => absurd h (by decide +kernel))
  refine lv_goto (tgt := 2278) hx hb dL_law_873 (by decide +kernel) ?_
  refine lv_iinc (v := (5)) (lv' := [(5, .int (5)), (7, .int (0)), (6, .int (1)), (4, .ref a0), (3, .ref a1), (2, .ref a2), (1, .ref a3), (0, .ref b)]) hx hb dL_law_2278 hl (k := 2) rfl (by decide +kernel) (by decide) rfl (fun ls hl => ?_)
  refine lv_goto (tgt := 28) hx hb dL_law_2281 (by decide +kernel) ?_
  refine lv_iload hx hb dL_law_28 (lv_at hl 0 rfl) ?_
  refine lv_aload_n hx hb dL_law_30 rfl (lv_at hl 7 rfl) ?_
  refine va_slen hx hb hXs hbl hbA hS dL_law_31 ?_
  refine nt_i (v := (5)) (by decide +kernel) ?_
  refine lv_iconst (v := (5)) hx hb dL_law_32 (by decide +kernel) ?_
  refine lv_isub hx hb dL_law_33 ?_
  refine nt_i (v := (0)) (by decide +kernel) ?_
  refine lv_icmp_gt (tgt := 2284) hx hb dL_law_34 (by decide +kernel) (fun _ => ?_) (fun h => absurd (by decide +kernel) h)
  refine lv_iconst (v := (1)) hx hb dL_law_2284 (by decide +kernel) ?_
  refine va_forget (fun q9 hq9 => by have h9 := hS.2.2 q9 hq9; rw [← hAe] at h9; exact h9) ?_
  refine W.widen (k := 600006) (n := 7302056) (Nat.le_of_ble_eq_true rfl) (Nat.le_of_ble_eq_true rfl) ?_
  refine W.base ?_
  exact lw_ret (Drawn.sameBut.refl s.drawn lw_cs) hx hb hr hlk dL_law_2285

set_option maxHeartbeats 4000000 in
set_option maxRecDepth 100000 in
theorem lc_9 {p : Program} {e : Env} {s : State} {m : MethodId} {below : List Frame} {meth : Method} {c : Code} (l : Launch) (hst : l.stackTraces = false) {b : Nat} {xs : Nat → Int32} (C0 : lw_At p s m meth c b 5 xs) (dC : Nat → ClassId) (dI : Nat → Nat → Nat) (g : Nat → Nat) (a0 a1 a2 a3 a4 a5 a6 a7 a8 a9 a10 a11 a12 a13 a14 a15 a16 a17 a18 a19 a20 a21 a22 a23 a24 a25 a26 a27 a28 a29 a30 a31 a32 a33 a34 a35 a36 a37 a38 a39 a40 a41 a42 a43 a44 a45 a46 a47 a48 a49 a50 a51 a52 a53 a54 a55 a56 a57 a58 a59 a60 a61 a62 a63 a64 a65 a66 a67 a68 a69 a70 a71 a72 a73 a74 a75 a76 a77 a78 a79 a80 a81 a82 a83 : Nat) (rr : Nat → Nat) {A : Nat → Prop} (hAe : (fun q : Nat => s.heap.size ≤ q) = A) (hE : EV dC dI g A s) (hA : ∀ q : Nat, s.heap.size ≤ q → A q) (hbA : ¬ A b) (H : Heap) (locs : List Loc) (hP : va_P (dC, dI) CL [(a3, .inr (12, [.ref a4, .ref a5, .ref a6, .ref a7, .ref a8, .ref a9, .ref a10, .ref a11, .null, .ref a12, .ref a13, .int (0), .int (100), .int (0), .int (0), .int (-1), .long (0), .int (1)])), (a4, .inr (8, [.int (0), .ref a14, .ref a15, .ref a16, .ref a17, .int (0), .ref a18, .ref a19, .ref a20, .ref a21, .ref a22, .ref a23, .ref a24])), (a6, .inr (11, [.int (0), .ref a25, .ref a26, .ref a27, .ref a28, .ref a29, .ref a30, .ref a31, .ref a32, .ref a33])), (a8, .inr (2, [.ref a34, .ref a35, .ref a36, .ref a37, .ref a38, .ref a39, .int (0), .ref a40, .ref a41, .ref a42, .ref a43, .ref a44, .ref a45, .ref a46, .int (0), .int (0)])), (a34, .inr (9, [.int (0), .ref a47, .ref a48])), (a47, .inl (g 1, 32, .inr (.inl (fun _ => 0)))), (a48, .inl (g 1, 32, .inr (.inl (fun _ => 0)))), (a35, .inl (g 1, 32, .inr (.inl (fun _ => 0)))), (a40, .inl (g 5, 32, .inr (.inr (.inr (.inr (fun i => if i < 32 then some (rr i) else none)))))), (a41, .inr (7, [.ref a49, .ref a50, .ref a51])), (a42, .inr (3, [.ref a52, .long (2)])), (a43, .inr (5, [.ref a53, .ref a54, .int (0), .int (0), .ref a55, .ref a56])), (a54, .inl (g 1, 32, .inr (.inl (fun _ => 0)))), (a56, .inl (g 1, 32, .inr (.inl (fun _ => 0)))), (a9, .inr (6, [.ref a57, .ref a58, .ref a59, .ref a60, .ref a61, .ref a62, .ref a63, .ref a64, .ref a65, .ref a66, .ref a67, .ref a68, .int (0)])), (a64, .inr (7, [.ref a69, .ref a70, .ref a71])), (a2, .inr (15, [.int (0), .int (0), .int (100), .int (0), .int (0), .ref a72, .ref a73, .ref a74, .ref a75, .ref a76, .ref a77, .ref a78, .ref a79, .ref a80, .ref a81, .ref a82, .null, .int (-1), .ref a83, .long (0)])), (a79, .inr (1, [.int (0), .ref (g 21), .int (0)])), (a80, .inr (1, [.int (0), .ref (g 21), .int (0)]))] H) (hD : va_D A [(a3, .inr (12, [.ref a4, .ref a5, .ref a6, .ref a7, .ref a8, .ref a9, .ref a10, .ref a11, .null, .ref a12, .ref a13, .int (0), .int (100), .int (0), .int (0), .int (-1), .long (0), .int (1)])), (a4, .inr (8, [.int (0), .ref a14, .ref a15, .ref a16, .ref a17, .int (0), .ref a18, .ref a19, .ref a20, .ref a21, .ref a22, .ref a23, .ref a24])), (a6, .inr (11, [.int (0), .ref a25, .ref a26, .ref a27, .ref a28, .ref a29, .ref a30, .ref a31, .ref a32, .ref a33])), (a8, .inr (2, [.ref a34, .ref a35, .ref a36, .ref a37, .ref a38, .ref a39, .int (0), .ref a40, .ref a41, .ref a42, .ref a43, .ref a44, .ref a45, .ref a46, .int (0), .int (0)])), (a34, .inr (9, [.int (0), .ref a47, .ref a48])), (a47, .inl (g 1, 32, .inr (.inl (fun _ => 0)))), (a48, .inl (g 1, 32, .inr (.inl (fun _ => 0)))), (a35, .inl (g 1, 32, .inr (.inl (fun _ => 0)))), (a40, .inl (g 5, 32, .inr (.inr (.inr (.inr (fun i => if i < 32 then some (rr i) else none)))))), (a41, .inr (7, [.ref a49, .ref a50, .ref a51])), (a42, .inr (3, [.ref a52, .long (2)])), (a43, .inr (5, [.ref a53, .ref a54, .int (0), .int (0), .ref a55, .ref a56])), (a54, .inl (g 1, 32, .inr (.inl (fun _ => 0)))), (a56, .inl (g 1, 32, .inr (.inl (fun _ => 0)))), (a9, .inr (6, [.ref a57, .ref a58, .ref a59, .ref a60, .ref a61, .ref a62, .ref a63, .ref a64, .ref a65, .ref a66, .ref a67, .ref a68, .int (0)])), (a64, .inr (7, [.ref a69, .ref a70, .ref a71])), (a2, .inr (15, [.int (0), .int (0), .int (100), .int (0), .int (0), .ref a72, .ref a73, .ref a74, .ref a75, .ref a76, .ref a77, .ref a78, .ref a79, .ref a80, .ref a81, .ref a82, .null, .int (-1), .ref a83, .long (0)])), (a79, .inr (1, [.int (0), .ref (g 21), .int (0)])), (a80, .inr (1, [.int (0), .ref (g 21), .int (0)]))]) (hS : va_S A s.heap H locs) (ls : Array Slot) (hl : lv_has ls 9 [(5, .int (0)), (4, .ref a0), (3, .ref a1), (2, .ref a2), (1, .ref a3), (0, .ref b)]) :
    W p l e room_1 s m #[Value.ref b] below meth c H locs 243 2771 (lw_Z below #[Value.ref b] s) (F0 m 44 ls [.int (9)]) := by
  obtain ⟨hx, hb, hr, hml, hown, hts0, hXs, hbl, hlk, hgv⟩ := id C0
  have hts : ∀ w ∈ AW, w.before #[Value.ref b] s = true := fun w h => hts0 w (aw_tbl h)
  have hown : s.vm.findClass "MinestrataLaw" = some m.cls := hown
  have hK := hE.1
  obtain ⟨s1, es1⟩ : ∃ y : Int32, xs (Int32.toNatClampNeg (1)) = y := ⟨_, rfl⟩
  obtain ⟨s2, es2⟩ : ∃ y : Int32, xs (Int32.toNatClampNeg (2)) = y := ⟨_, rfl⟩
  obtain ⟨s3, es3⟩ : ∃ y : Int32, xs (Int32.toNatClampNeg (3)) = y := ⟨_, rfl⟩
  obtain ⟨s4, es4⟩ : ∃ y : Int32, xs (Int32.toNatClampNeg (4)) = y := ⟨_, rfl⟩
  refine lv_tableIn (tgt := 876) (off := 832) hx hb dL_law_44 (by decide +kernel) (by decide +kernel) rfl (by decide +kernel) ?_
  refine lv_aload_n hx hb dL_law_876 rfl (lv_at hl 4 rfl) ?_
  have hX : nCx p s m _ c code 9 "MinestrataLaw" dC dI g A [(a3, .inr (12, [.ref a4, .ref a5, .ref a6, .ref a7, .ref a8, .ref a9, .ref a10, .ref a11, .null, .ref a12, .ref a13, .int (0), .int (100), .int (0), .int (0), .int (-1), .long (0), .int (1)])), (a4, .inr (8, [.int (0), .ref a14, .ref a15, .ref a16, .ref a17, .int (0), .ref a18, .ref a19, .ref a20, .ref a21, .ref a22, .ref a23, .ref a24])), (a6, .inr (11, [.int (0), .ref a25, .ref a26, .ref a27, .ref a28, .ref a29, .ref a30, .ref a31, .ref a32, .ref a33])), (a8, .inr (2, [.ref a34, .ref a35, .ref a36, .ref a37, .ref a38, .ref a39, .int (0), .ref a40, .ref a41, .ref a42, .ref a43, .ref a44, .ref a45, .ref a46, .int (0), .int (0)])), (a34, .inr (9, [.int (0), .ref a47, .ref a48])), (a47, .inl (g 1, 32, .inr (.inl (fun _ => 0)))), (a48, .inl (g 1, 32, .inr (.inl (fun _ => 0)))), (a35, .inl (g 1, 32, .inr (.inl (fun _ => 0)))), (a40, .inl (g 5, 32, .inr (.inr (.inr (.inr (fun i => if i < 32 then some (rr i) else none)))))), (a41, .inr (7, [.ref a49, .ref a50, .ref a51])), (a42, .inr (3, [.ref a52, .long (2)])), (a43, .inr (5, [.ref a53, .ref a54, .int (0), .int (0), .ref a55, .ref a56])), (a54, .inl (g 1, 32, .inr (.inl (fun _ => 0)))), (a56, .inl (g 1, 32, .inr (.inl (fun _ => 0)))), (a9, .inr (6, [.ref a57, .ref a58, .ref a59, .ref a60, .ref a61, .ref a62, .ref a63, .ref a64, .ref a65, .ref a66, .ref a67, .ref a68, .int (0)])), (a64, .inr (7, [.ref a69, .ref a70, .ref a71])), (a2, .inr (15, [.int (0), .int (0), .int (100), .int (0), .int (0), .ref a72, .ref a73, .ref a74, .ref a75, .ref a76, .ref a77, .ref a78, .ref a79, .ref a80, .ref a81, .ref a82, .null, .int (-1), .ref a83, .long (0)])), (a79, .inr (1, [.int (0), .ref (g 21), .int (0)])), (a80, .inr (1, [.int (0), .ref (g 21), .int (0)]))] _ _ := ⟨⟨hx, hb, hml, hown, hts⟩, hE, hS, hA, hP, hD⟩
  refine n_call (wr := [(a2, .inr (15, [.int (0), .int (0), .int (100), .int (0), .int (0), .ref a72, .ref a73, .ref a74, .ref a75, .ref a76, .ref a77, .ref a78, .ref a79, .ref a80, .ref a81, .ref a82, .null, .int (-1), .ref a83, .long (0)])), (a79, .inr (1, [.int (0), .ref (g 21), .int (0)])), (a80, .inr (1, [.int (0), .ref (g 21), .int (0)]))]) hX (n_runV (n := 0) (wc := [(a3, .inr (12, [.ref a4, .ref a5, .ref a6, .ref a7, .ref a8, .ref a9, .ref a10, .ref a11, .null, .ref a12, .ref a13, .int (0), .int (100), .int (0), .int (0), .int (-1), .long (0), .int (1)])), (a4, .inr (8, [.int (0), .ref a14, .ref a15, .ref a16, .ref a17, .int (0), .ref a18, .ref a19, .ref a20, .ref a21, .ref a22, .ref a23, .ref a24])), (a6, .inr (11, [.int (0), .ref a25, .ref a26, .ref a27, .ref a28, .ref a29, .ref a30, .ref a31, .ref a32, .ref a33])), (a8, .inr (2, [.ref a34, .ref a35, .ref a36, .ref a37, .ref a38, .ref a39, .int (0), .ref a40, .ref a41, .ref a42, .ref a43, .ref a44, .ref a45, .ref a46, .int (0), .int (0)])), (a34, .inr (9, [.int (0), .ref a47, .ref a48])), (a47, .inl (g 1, 32, .inr (.inl (fun _ => 0)))), (a48, .inl (g 1, 32, .inr (.inl (fun _ => 0)))), (a35, .inl (g 1, 32, .inr (.inl (fun _ => 0)))), (a40, .inl (g 5, 32, .inr (.inr (.inr (.inr (fun i => if i < 32 then some (rr i) else none)))))), (a41, .inr (7, [.ref a49, .ref a50, .ref a51])), (a42, .inr (3, [.ref a52, .long (2)])), (a43, .inr (5, [.ref a53, .ref a54, .int (0), .int (0), .ref a55, .ref a56])), (a54, .inl (g 1, 32, .inr (.inl (fun _ => 0)))), (a56, .inl (g 1, 32, .inr (.inl (fun _ => 0)))), (a9, .inr (6, [.ref a57, .ref a58, .ref a59, .ref a60, .ref a61, .ref a62, .ref a63, .ref a64, .ref a65, .ref a66, .ref a67, .ref a68, .int (0)])), (a64, .inr (7, [.ref a69, .ref a70, .ref a71]))]) (As := []) (rest := []) hX (m269 l hst dC dI g a3 a4 a5 a6 a7 a8 a9 a10 a11 a12 a13 a14 a15 a16 a17 a18 a19 a20 a21 a22 a23 a24 a25 a26 a27 a28 a29 a30 a31 a32 a33 a34 a35 a36 a37 a38 a39 a40 a41 a42 a43 a44 a45 a46 a47 a48 a49 a50 a51 a52 a53 a54 a55 a56 a57 a58 a59 a60 a61 a62 a63 a64 a65 a66 a67 a68 a69 a70 a71 rr _) [0, 1, 2, 3, 4, 5, 6, 7, 8, 9, 10, 11, 12, 13, 14, 15] rfl (by decide +kernel) 0 (ci := 12) rfl (T := TX11) (N := 18) (C := "Minestrata") rfl q559 q560 q561 q71 q562 (by decide +kernel) ⟨(Nat.le_of_ble_eq_true rfl), (Nat.le_of_ble_eq_true rfl)⟩ ⟨(Nat.le_of_ble_eq_true rfl), (Nat.le_of_ble_eq_true rfl)⟩ hl.1 rfl rfl (Nat.le_of_ble_eq_true rfl) dL_law_877) [0, 1, 2, 3, 4, 5, 6, 7, 8, 9, 10, 11, 12, 13, 14, 15] [16, 17, 18] rfl rfl (by decide +kernel) (by decide +kernel) (fun f1 r2 H locs hP hD hS => ?_)
  have hP : va_P (dC, dI) CL [(a2, .inr (15, [.int (0), .int (0), .int (100), .int (0), .int (0), .ref a72, .ref a73, .ref a74, .ref a75, .ref a76, .ref a77, .ref a78, .ref a79, .ref a80, .ref a81, .ref a82, .null, .int (-1), .ref a83, .long (0)])), (a79, .inr (1, [.int (0), .ref (g 21), .int (0)])), (a80, .inr (1, [.int (0), .ref (g 21), .int (0)])), (a3, .inr (12, [.ref a4, .ref a5, .ref a6, .ref a7, .ref a8, .ref a9, .ref a10, .ref a11, .null, .ref a12, .ref a13, .int (0), .int (100), .int (1), .int (0), .int (-1), .long (0), .int (0)])), (a4, .inr (8, [.int (0), .ref a14, .ref a15, .ref a16, .ref a17, .int (0), .ref a18, .ref a19, .ref a20, .ref a21, .ref a22, .ref a23, .ref a24])), (a6, .inr (11, [.int (0), .ref a25, .ref a26, .ref a27, .ref a28, .ref a29, .ref a30, .ref a31, .ref a32, .ref a33])), (a8, .inr (2, [.ref a34, .ref a35, .ref a36, .ref a37, .ref a38, .ref a39, .int (1), .ref a40, .ref a41, .ref a42, .ref a43, .ref a44, .ref a45, .ref a46, .int (0), .int (3)])), (a34, .inr (9, [.int (3), .ref a47, .ref a48])), (a47, .inl (g 1, 32, .inr (.inl (vp_updL (vp_updL (vp_updL (fun _ => 0) (Int32.toNatClampNeg (0)) (2147483647)) (Int32.toNatClampNeg (1)) (2147483629)) (Int32.toNatClampNeg (2)) (2147483587))))), (a48, .inl (g 1, 32, .inr (.inl (vp_updL (vp_updL (vp_updL (fun _ => 0) (Int32.toNatClampNeg (0)) (1)) (Int32.toNatClampNeg (1)) (2028178983)) (Int32.toNatClampNeg (2)) (576923170))))), (a35, .inl (g 1, 32, .inr (.inl (vp_updL (vp_updL (vp_updL (fun _ => 0) (Int32.toNatClampNeg (0)) (1)) (Int32.toNatClampNeg (1)) (1)) (Int32.toNatClampNeg (2)) (1))))), (a40, .inl (g 5, 32, .inr (.inr (.inr (.inr (fun i => if i < 32 then some (rr i) else none)))))), (a41, .inr (7, [.ref a49, .ref a50, .ref a51])), (a42, .inr (3, [.ref a52, .long (2147483587)])), (a43, .inr (5, [.ref a53, .ref a54, .int (0), .int (0), .ref a55, .ref a56])), (a54, .inl (g 1, 32, .inr (.inl (vp_updL (vp_updL (vp_updL (fun _ => 0) (Int32.toNatClampNeg (0)) (1)) (Int32.toNatClampNeg (1)) (1)) (Int32.toNatClampNeg (2)) (1))))), (a56, .inl (g 1, 32, .inr (.inl (vp_updL (vp_updL (vp_updL (fun _ => 0) (Int32.toNatClampNeg (0)) (1)) (Int32.toNatClampNeg (1)) (0)) (Int32.toNatClampNeg (2)) (0))))), (a9, .inr (6, [.ref a57, .ref a58, .ref a59, .ref a60, .ref a61, .ref a62, .ref a63, .ref a64, .ref a65, .ref a66, .ref a67, .ref a68, .int (0)])), (a64, .inr (7, [.ref a69, .ref a70, .ref a71]))] _ := hP
  have hD : va_D A [(a2, .inr (15, [.int (0), .int (0), .int (100), .int (0), .int (0), .ref a72, .ref a73, .ref a74, .ref a75, .ref a76, .ref a77, .ref a78, .ref a79, .ref a80, .ref a81, .ref a82, .null, .int (-1), .ref a83, .long (0)])), (a79, .inr (1, [.int (0), .ref (g 21), .int (0)])), (a80, .inr (1, [.int (0), .ref (g 21), .int (0)])), (a3, .inr (12, [.ref a4, .ref a5, .ref a6, .ref a7, .ref a8, .ref a9, .ref a10, .ref a11, .null, .ref a12, .ref a13, .int (0), .int (100), .int (1), .int (0), .int (-1), .long (0), .int (0)])), (a4, .inr (8, [.int (0), .ref a14, .ref a15, .ref a16, .ref a17, .int (0), .ref a18, .ref a19, .ref a20, .ref a21, .ref a22, .ref a23, .ref a24])), (a6, .inr (11, [.int (0), .ref a25, .ref a26, .ref a27, .ref a28, .ref a29, .ref a30, .ref a31, .ref a32, .ref a33])), (a8, .inr (2, [.ref a34, .ref a35, .ref a36, .ref a37, .ref a38, .ref a39, .int (1), .ref a40, .ref a41, .ref a42, .ref a43, .ref a44, .ref a45, .ref a46, .int (0), .int (3)])), (a34, .inr (9, [.int (3), .ref a47, .ref a48])), (a47, .inl (g 1, 32, .inr (.inl (vp_updL (vp_updL (vp_updL (fun _ => 0) (Int32.toNatClampNeg (0)) (2147483647)) (Int32.toNatClampNeg (1)) (2147483629)) (Int32.toNatClampNeg (2)) (2147483587))))), (a48, .inl (g 1, 32, .inr (.inl (vp_updL (vp_updL (vp_updL (fun _ => 0) (Int32.toNatClampNeg (0)) (1)) (Int32.toNatClampNeg (1)) (2028178983)) (Int32.toNatClampNeg (2)) (576923170))))), (a35, .inl (g 1, 32, .inr (.inl (vp_updL (vp_updL (vp_updL (fun _ => 0) (Int32.toNatClampNeg (0)) (1)) (Int32.toNatClampNeg (1)) (1)) (Int32.toNatClampNeg (2)) (1))))), (a40, .inl (g 5, 32, .inr (.inr (.inr (.inr (fun i => if i < 32 then some (rr i) else none)))))), (a41, .inr (7, [.ref a49, .ref a50, .ref a51])), (a42, .inr (3, [.ref a52, .long (2147483587)])), (a43, .inr (5, [.ref a53, .ref a54, .int (0), .int (0), .ref a55, .ref a56])), (a54, .inl (g 1, 32, .inr (.inl (vp_updL (vp_updL (vp_updL (fun _ => 0) (Int32.toNatClampNeg (0)) (1)) (Int32.toNatClampNeg (1)) (1)) (Int32.toNatClampNeg (2)) (1))))), (a56, .inl (g 1, 32, .inr (.inl (vp_updL (vp_updL (vp_updL (fun _ => 0) (Int32.toNatClampNeg (0)) (1)) (Int32.toNatClampNeg (1)) (0)) (Int32.toNatClampNeg (2)) (0))))), (a9, .inr (6, [.ref a57, .ref a58, .ref a59, .ref a60, .ref a61, .ref a62, .ref a63, .ref a64, .ref a65, .ref a66, .ref a67, .ref a68, .int (0)])), (a64, .inr (7, [.ref a69, .ref a70, .ref a71]))] := hD
  refine W.widen (k := 243) (n := 2771) (Nat.le_of_ble_eq_true rfl) (Nat.le_of_ble_eq_true rfl) ?_
  refine W.eq (g2 := F0 m 880 ls [.int (1)]) rfl ?_
  refine lv_aload_n hx hb dL_law_880 rfl (lv_at hl 3 rfl) ?_
  have hX : nCx p s m _ c code 9 "MinestrataLaw" dC dI g A [(a2, .inr (15, [.int (0), .int (0), .int (100), .int (0), .int (0), .ref a72, .ref a73, .ref a74, .ref a75, .ref a76, .ref a77, .ref a78, .ref a79, .ref a80, .ref a81, .ref a82, .null, .int (-1), .ref a83, .long (0)])), (a79, .inr (1, [.int (0), .ref (g 21), .int (0)])), (a80, .inr (1, [.int (0), .ref (g 21), .int (0)])), (a3, .inr (12, [.ref a4, .ref a5, .ref a6, .ref a7, .ref a8, .ref a9, .ref a10, .ref a11, .null, .ref a12, .ref a13, .int (0), .int (100), .int (1), .int (0), .int (-1), .long (0), .int (0)])), (a4, .inr (8, [.int (0), .ref a14, .ref a15, .ref a16, .ref a17, .int (0), .ref a18, .ref a19, .ref a20, .ref a21, .ref a22, .ref a23, .ref a24])), (a6, .inr (11, [.int (0), .ref a25, .ref a26, .ref a27, .ref a28, .ref a29, .ref a30, .ref a31, .ref a32, .ref a33])), (a8, .inr (2, [.ref a34, .ref a35, .ref a36, .ref a37, .ref a38, .ref a39, .int (1), .ref a40, .ref a41, .ref a42, .ref a43, .ref a44, .ref a45, .ref a46, .int (0), .int (3)])), (a34, .inr (9, [.int (3), .ref a47, .ref a48])), (a47, .inl (g 1, 32, .inr (.inl (vp_updL (vp_updL (vp_updL (fun _ => 0) (Int32.toNatClampNeg (0)) (2147483647)) (Int32.toNatClampNeg (1)) (2147483629)) (Int32.toNatClampNeg (2)) (2147483587))))), (a48, .inl (g 1, 32, .inr (.inl (vp_updL (vp_updL (vp_updL (fun _ => 0) (Int32.toNatClampNeg (0)) (1)) (Int32.toNatClampNeg (1)) (2028178983)) (Int32.toNatClampNeg (2)) (576923170))))), (a35, .inl (g 1, 32, .inr (.inl (vp_updL (vp_updL (vp_updL (fun _ => 0) (Int32.toNatClampNeg (0)) (1)) (Int32.toNatClampNeg (1)) (1)) (Int32.toNatClampNeg (2)) (1))))), (a40, .inl (g 5, 32, .inr (.inr (.inr (.inr (fun i => if i < 32 then some (rr i) else none)))))), (a41, .inr (7, [.ref a49, .ref a50, .ref a51])), (a42, .inr (3, [.ref a52, .long (2147483587)])), (a43, .inr (5, [.ref a53, .ref a54, .int (0), .int (0), .ref a55, .ref a56])), (a54, .inl (g 1, 32, .inr (.inl (vp_updL (vp_updL (vp_updL (fun _ => 0) (Int32.toNatClampNeg (0)) (1)) (Int32.toNatClampNeg (1)) (1)) (Int32.toNatClampNeg (2)) (1))))), (a56, .inl (g 1, 32, .inr (.inl (vp_updL (vp_updL (vp_updL (fun _ => 0) (Int32.toNatClampNeg (0)) (1)) (Int32.toNatClampNeg (1)) (0)) (Int32.toNatClampNeg (2)) (0))))), (a9, .inr (6, [.ref a57, .ref a58, .ref a59, .ref a60, .ref a61, .ref a62, .ref a63, .ref a64, .ref a65, .ref a66, .ref a67, .ref a68, .int (0)])), (a64, .inr (7, [.ref a69, .ref a70, .ref a71]))] _ _ := ⟨⟨hx, hb, hml, hown, hts⟩, hE, hS, hA, hP, hD⟩
  refine n_call (wr := [(a3, .inr (12, [.ref a4, .ref a5, .ref a6, .ref a7, .ref a8, .ref a9, .ref a10, .ref a11, .null, .ref a12, .ref a13, .int (0), .int (100), .int (1), .int (0), .int (-1), .long (0), .int (0)])), (a4, .inr (8, [.int (0), .ref a14, .ref a15, .ref a16, .ref a17, .int (0), .ref a18, .ref a19, .ref a20, .ref a21, .ref a22, .ref a23, .ref a24])), (a6, .inr (11, [.int (0), .ref a25, .ref a26, .ref a27, .ref a28, .ref a29, .ref a30, .ref a31, .ref a32, .ref a33])), (a8, .inr (2, [.ref a34, .ref a35, .ref a36, .ref a37, .ref a38, .ref a39, .int (1), .ref a40, .ref a41, .ref a42, .ref a43, .ref a44, .ref a45, .ref a46, .int (0), .int (3)])), (a34, .inr (9, [.int (3), .ref a47, .ref a48])), (a47, .inl (g 1, 32, .inr (.inl (vp_updL (vp_updL (vp_updL (fun _ => 0) (Int32.toNatClampNeg (0)) (2147483647)) (Int32.toNatClampNeg (1)) (2147483629)) (Int32.toNatClampNeg (2)) (2147483587))))), (a48, .inl (g 1, 32, .inr (.inl (vp_updL (vp_updL (vp_updL (fun _ => 0) (Int32.toNatClampNeg (0)) (1)) (Int32.toNatClampNeg (1)) (2028178983)) (Int32.toNatClampNeg (2)) (576923170))))), (a35, .inl (g 1, 32, .inr (.inl (vp_updL (vp_updL (vp_updL (fun _ => 0) (Int32.toNatClampNeg (0)) (1)) (Int32.toNatClampNeg (1)) (1)) (Int32.toNatClampNeg (2)) (1))))), (a40, .inl (g 5, 32, .inr (.inr (.inr (.inr (fun i => if i < 32 then some (rr i) else none)))))), (a41, .inr (7, [.ref a49, .ref a50, .ref a51])), (a42, .inr (3, [.ref a52, .long (2147483587)])), (a43, .inr (5, [.ref a53, .ref a54, .int (0), .int (0), .ref a55, .ref a56])), (a54, .inl (g 1, 32, .inr (.inl (vp_updL (vp_updL (vp_updL (fun _ => 0) (Int32.toNatClampNeg (0)) (1)) (Int32.toNatClampNeg (1)) (1)) (Int32.toNatClampNeg (2)) (1))))), (a56, .inl (g 1, 32, .inr (.inl (vp_updL (vp_updL (vp_updL (fun _ => 0) (Int32.toNatClampNeg (0)) (1)) (Int32.toNatClampNeg (1)) (0)) (Int32.toNatClampNeg (2)) (0))))), (a9, .inr (6, [.ref a57, .ref a58, .ref a59, .ref a60, .ref a61, .ref a62, .ref a63, .ref a64, .ref a65, .ref a66, .ref a67, .ref a68, .int (0)])), (a64, .inr (7, [.ref a69, .ref a70, .ref a71]))]) hX (n_runV (n := 0) (wc := [(a2, .inr (15, [.int (0), .int (0), .int (100), .int (0), .int (0), .ref a72, .ref a73, .ref a74, .ref a75, .ref a76, .ref a77, .ref a78, .ref a79, .ref a80, .ref a81, .ref a82, .null, .int (-1), .ref a83, .long (0)])), (a79, .inr (1, [.int (0), .ref (g 21), .int (0)])), (a80, .inr (1, [.int (0), .ref (g 21), .int (0)]))]) (As := []) (rest := [.int (1)]) hX (m288 l hst dC dI g a2 a72 a73 a74 a75 a76 a77 a78 a79 a80 a81 a82 a83 _) [0, 1, 2] rfl (by decide +kernel) 0 (ci := 15) rfl (T := TX16) (N := 20) (C := "MinestrataModel") rfl q1998 q1999 q2000 q82 q2001 (by decide +kernel) ⟨(Nat.le_of_ble_eq_true rfl), (Nat.le_of_ble_eq_true rfl)⟩ ⟨(Nat.le_of_ble_eq_true rfl), (Nat.le_of_ble_eq_true rfl)⟩ hl.1 rfl rfl (Nat.le_of_ble_eq_true rfl) dL_law_881) [0, 1, 2] [3, 4, 5, 6, 7, 8, 9, 10, 11, 12, 13, 14, 15, 16, 17, 18] rfl rfl (by decide +kernel) (by decide +kernel) (fun f3 r4 H locs hP hD hS => ?_)
  have hP : va_P (dC, dI) CL [(a3, .inr (12, [.ref a4, .ref a5, .ref a6, .ref a7, .ref a8, .ref a9, .ref a10, .ref a11, .null, .ref a12, .ref a13, .int (0), .int (100), .int (1), .int (0), .int (-1), .long (0), .int (0)])), (a4, .inr (8, [.int (0), .ref a14, .ref a15, .ref a16, .ref a17, .int (0), .ref a18, .ref a19, .ref a20, .ref a21, .ref a22, .ref a23, .ref a24])), (a6, .inr (11, [.int (0), .ref a25, .ref a26, .ref a27, .ref a28, .ref a29, .ref a30, .ref a31, .ref a32, .ref a33])), (a8, .inr (2, [.ref a34, .ref a35, .ref a36, .ref a37, .ref a38, .ref a39, .int (1), .ref a40, .ref a41, .ref a42, .ref a43, .ref a44, .ref a45, .ref a46, .int (0), .int (3)])), (a34, .inr (9, [.int (3), .ref a47, .ref a48])), (a47, .inl (g 1, 32, .inr (.inl (vp_updL (vp_updL (vp_updL (fun _ => 0) (Int32.toNatClampNeg (0)) (2147483647)) (Int32.toNatClampNeg (1)) (2147483629)) (Int32.toNatClampNeg (2)) (2147483587))))), (a48, .inl (g 1, 32, .inr (.inl (vp_updL (vp_updL (vp_updL (fun _ => 0) (Int32.toNatClampNeg (0)) (1)) (Int32.toNatClampNeg (1)) (2028178983)) (Int32.toNatClampNeg (2)) (576923170))))), (a35, .inl (g 1, 32, .inr (.inl (vp_updL (vp_updL (vp_updL (fun _ => 0) (Int32.toNatClampNeg (0)) (1)) (Int32.toNatClampNeg (1)) (1)) (Int32.toNatClampNeg (2)) (1))))), (a40, .inl (g 5, 32, .inr (.inr (.inr (.inr (fun i => if i < 32 then some (rr i) else none)))))), (a41, .inr (7, [.ref a49, .ref a50, .ref a51])), (a42, .inr (3, [.ref a52, .long (2147483587)])), (a43, .inr (5, [.ref a53, .ref a54, .int (0), .int (0), .ref a55, .ref a56])), (a54, .inl (g 1, 32, .inr (.inl (vp_updL (vp_updL (vp_updL (fun _ => 0) (Int32.toNatClampNeg (0)) (1)) (Int32.toNatClampNeg (1)) (1)) (Int32.toNatClampNeg (2)) (1))))), (a56, .inl (g 1, 32, .inr (.inl (vp_updL (vp_updL (vp_updL (fun _ => 0) (Int32.toNatClampNeg (0)) (1)) (Int32.toNatClampNeg (1)) (0)) (Int32.toNatClampNeg (2)) (0))))), (a9, .inr (6, [.ref a57, .ref a58, .ref a59, .ref a60, .ref a61, .ref a62, .ref a63, .ref a64, .ref a65, .ref a66, .ref a67, .ref a68, .int (0)])), (a64, .inr (7, [.ref a69, .ref a70, .ref a71])), (a2, .inr (15, [.int (0), .int (0), .int (100), .int (0), .int (1), .ref a72, .ref a73, .ref a74, .ref a75, .ref a76, .ref a77, .ref a78, .ref a79, .ref a80, .ref a81, .ref a82, .null, .int (-1), .ref a83, .long (0)])), (a79, .inr (1, [.int (0), .ref (g 21), .int (0)])), (a80, .inr (1, [.int (0), .ref (g 21), .int (0)]))] _ := hP
  have hD : va_D A [(a3, .inr (12, [.ref a4, .ref a5, .ref a6, .ref a7, .ref a8, .ref a9, .ref a10, .ref a11, .null, .ref a12, .ref a13, .int (0), .int (100), .int (1), .int (0), .int (-1), .long (0), .int (0)])), (a4, .inr (8, [.int (0), .ref a14, .ref a15, .ref a16, .ref a17, .int (0), .ref a18, .ref a19, .ref a20, .ref a21, .ref a22, .ref a23, .ref a24])), (a6, .inr (11, [.int (0), .ref a25, .ref a26, .ref a27, .ref a28, .ref a29, .ref a30, .ref a31, .ref a32, .ref a33])), (a8, .inr (2, [.ref a34, .ref a35, .ref a36, .ref a37, .ref a38, .ref a39, .int (1), .ref a40, .ref a41, .ref a42, .ref a43, .ref a44, .ref a45, .ref a46, .int (0), .int (3)])), (a34, .inr (9, [.int (3), .ref a47, .ref a48])), (a47, .inl (g 1, 32, .inr (.inl (vp_updL (vp_updL (vp_updL (fun _ => 0) (Int32.toNatClampNeg (0)) (2147483647)) (Int32.toNatClampNeg (1)) (2147483629)) (Int32.toNatClampNeg (2)) (2147483587))))), (a48, .inl (g 1, 32, .inr (.inl (vp_updL (vp_updL (vp_updL (fun _ => 0) (Int32.toNatClampNeg (0)) (1)) (Int32.toNatClampNeg (1)) (2028178983)) (Int32.toNatClampNeg (2)) (576923170))))), (a35, .inl (g 1, 32, .inr (.inl (vp_updL (vp_updL (vp_updL (fun _ => 0) (Int32.toNatClampNeg (0)) (1)) (Int32.toNatClampNeg (1)) (1)) (Int32.toNatClampNeg (2)) (1))))), (a40, .inl (g 5, 32, .inr (.inr (.inr (.inr (fun i => if i < 32 then some (rr i) else none)))))), (a41, .inr (7, [.ref a49, .ref a50, .ref a51])), (a42, .inr (3, [.ref a52, .long (2147483587)])), (a43, .inr (5, [.ref a53, .ref a54, .int (0), .int (0), .ref a55, .ref a56])), (a54, .inl (g 1, 32, .inr (.inl (vp_updL (vp_updL (vp_updL (fun _ => 0) (Int32.toNatClampNeg (0)) (1)) (Int32.toNatClampNeg (1)) (1)) (Int32.toNatClampNeg (2)) (1))))), (a56, .inl (g 1, 32, .inr (.inl (vp_updL (vp_updL (vp_updL (fun _ => 0) (Int32.toNatClampNeg (0)) (1)) (Int32.toNatClampNeg (1)) (0)) (Int32.toNatClampNeg (2)) (0))))), (a9, .inr (6, [.ref a57, .ref a58, .ref a59, .ref a60, .ref a61, .ref a62, .ref a63, .ref a64, .ref a65, .ref a66, .ref a67, .ref a68, .int (0)])), (a64, .inr (7, [.ref a69, .ref a70, .ref a71])), (a2, .inr (15, [.int (0), .int (0), .int (100), .int (0), .int (1), .ref a72, .ref a73, .ref a74, .ref a75, .ref a76, .ref a77, .ref a78, .ref a79, .ref a80, .ref a81, .ref a82, .null, .int (-1), .ref a83, .long (0)])), (a79, .inr (1, [.int (0), .ref (g 21), .int (0)])), (a80, .inr (1, [.int (0), .ref (g 21), .int (0)]))] := hD
  refine W.widen (k := 271) (n := 2859) (Nat.le_of_ble_eq_true rfl) (Nat.le_of_ble_eq_true rfl) ?_
  refine W.eq (g2 := F0 m 884 ls [.int (1), .int (1)]) rfl ?_
  refine lv_icmp_eq (tgt := 2278) hx hb dL_law_884 (by decide +kernel) (fun _ => ?_) (fun h => absurd (by decide +kernel) h)
  refine lv_iinc (v := (5)) (lv' := [(5, .int (5)), (4, .ref a0), (3, .ref a1), (2, .ref a2), (1, .ref a3), (0, .ref b)]) hx hb dL_law_2278 hl (k := 0) rfl (by decide +kernel) (by decide) rfl (fun ls hl => ?_)
  refine lv_goto (tgt := 28) hx hb dL_law_2281 (by decide +kernel) ?_
  refine lv_iload hx hb dL_law_28 (lv_at hl 0 rfl) ?_
  refine lv_aload_n hx hb dL_law_30 rfl (lv_at hl 5 rfl) ?_
  refine va_slen hx hb hXs hbl hbA hS dL_law_31 ?_
  refine nt_i (v := (5)) (by decide +kernel) ?_
  refine lv_iconst (v := (5)) hx hb dL_law_32 (by decide +kernel) ?_
  refine lv_isub hx hb dL_law_33 ?_
  refine nt_i (v := (0)) (by decide +kernel) ?_
  refine lv_icmp_gt (tgt := 2284) hx hb dL_law_34 (by decide +kernel) (fun _ => ?_) (fun h => absurd (by decide +kernel) h)
  refine lv_iconst (v := (1)) hx hb dL_law_2284 (by decide +kernel) ?_
  refine va_forget (fun q9 hq9 => by have h9 := hS.2.2 q9 hq9; rw [← hAe] at h9; exact h9) ?_
  refine W.widen (k := 600006) (n := 7302056) (Nat.le_of_ble_eq_true rfl) (Nat.le_of_ble_eq_true rfl) ?_
  refine W.base ?_
  exact lw_ret (Drawn.sameBut.refl s.drawn lw_cs) hx hb hr hlk dL_law_2285

set_option maxHeartbeats 4000000 in
set_option maxRecDepth 100000 in
theorem lc_10 {p : Program} {e : Env} {s : State} {m : MethodId} {below : List Frame} {meth : Method} {c : Code} (l : Launch) (hst : l.stackTraces = false) {b : Nat} {xs : Nat → Int32} (C0 : lw_At p s m meth c b 5 xs) (dC : Nat → ClassId) (dI : Nat → Nat → Nat) (g : Nat → Nat) (a0 a1 a2 a3 a4 a5 a6 a7 a8 a9 a10 a11 a12 a13 a14 a15 a16 a17 a18 a19 a20 a21 a22 a23 a24 a25 a26 a27 a28 a29 a30 a31 a32 a33 a34 a35 a36 : Nat) {A : Nat → Prop} (hAe : (fun q : Nat => s.heap.size ≤ q) = A) (hE : EV dC dI g A s) (hA : ∀ q : Nat, s.heap.size ≤ q → A q) (hbA : ¬ A b) (H : Heap) (locs : List Loc) (hP : va_P (dC, dI) CL [(a3, .inr (12, [.ref a4, .ref a5, .ref a6, .ref a7, .ref a8, .ref a9, .ref a10, .ref a11, .null, .ref a12, .ref a13, .int (0), .int (100), .int (0), .int (0), .int (-1), .long (0), .int (1)])), (a4, .inr (8, [.int (0), .ref a14, .ref a15, .ref a16, .ref a17, .int (0), .ref a18, .ref a19, .ref a20, .ref a21, .ref a22, .ref a23, .ref a24])), (a2, .inr (15, [.int (0), .int (0), .int (100), .int (0), .int (0), .ref a25, .ref a26, .ref a27, .ref a28, .ref a29, .ref a30, .ref a31, .ref a32, .ref a33, .ref a34, .ref a35, .null, .int (-1), .ref a36, .long (0)])), (a32, .inr (1, [.int (0), .ref (g 21), .int (0)]))] H) (hD : va_D A [(a3, .inr (12, [.ref a4, .ref a5, .ref a6, .ref a7, .ref a8, .ref a9, .ref a10, .ref a11, .null, .ref a12, .ref a13, .int (0), .int (100), .int (0), .int (0), .int (-1), .long (0), .int (1)])), (a4, .inr (8, [.int (0), .ref a14, .ref a15, .ref a16, .ref a17, .int (0), .ref a18, .ref a19, .ref a20, .ref a21, .ref a22, .ref a23, .ref a24])), (a2, .inr (15, [.int (0), .int (0), .int (100), .int (0), .int (0), .ref a25, .ref a26, .ref a27, .ref a28, .ref a29, .ref a30, .ref a31, .ref a32, .ref a33, .ref a34, .ref a35, .null, .int (-1), .ref a36, .long (0)])), (a32, .inr (1, [.int (0), .ref (g 21), .int (0)]))]) (hS : va_S A s.heap H locs) (ls : Array Slot) (hl : lv_has ls 9 [(5, .int (0)), (4, .ref a0), (3, .ref a1), (2, .ref a2), (1, .ref a3), (0, .ref b)]) :
    W p l e room_1 s m #[Value.ref b] below meth c H locs 243 2771 (lw_Z below #[Value.ref b] s) (F0 m 44 ls [.int (10)]) := by
  obtain ⟨hx, hb, hr, hml, hown, hts0, hXs, hbl, hlk, hgv⟩ := id C0
  have hts : ∀ w ∈ AW, w.before #[Value.ref b] s = true := fun w h => hts0 w (aw_tbl h)
  have hown : s.vm.findClass "MinestrataLaw" = some m.cls := hown
  have hK := hE.1
  obtain ⟨s1, es1⟩ : ∃ y : Int32, xs (Int32.toNatClampNeg (1)) = y := ⟨_, rfl⟩
  obtain ⟨s2, es2⟩ : ∃ y : Int32, xs (Int32.toNatClampNeg (2)) = y := ⟨_, rfl⟩
  obtain ⟨s3, es3⟩ : ∃ y : Int32, xs (Int32.toNatClampNeg (3)) = y := ⟨_, rfl⟩
  obtain ⟨s4, es4⟩ : ∃ y : Int32, xs (Int32.toNatClampNeg (4)) = y := ⟨_, rfl⟩
  refine lv_tableIn (tgt := 889) (off := 845) hx hb dL_law_44 (by decide +kernel) (by decide +kernel) rfl (by decide +kernel) ?_
  refine lv_aload_n hx hb dL_law_889 rfl (lv_at hl 4 rfl) ?_
  refine lv_aload_n hx hb dL_law_890 rfl (lv_at hl 5 rfl) ?_
  refine lv_iload hx hb dL_law_891 (lv_at hl 0 rfl) ?_
  refine lv_iconst (v := (1)) hx hb dL_law_893 (by decide +kernel) ?_
  refine lv_iadd hx hb dL_law_894 ?_
  refine nt_i (v := (1)) (by decide +kernel) ?_
  refine va_sld hx hb hXs hbl hbA hS (show ¬ ((1 : Int32) < 0 ∨ 5 ≤ Int32.toNatClampNeg (1)) by decide +kernel) dL_law_895 ?_
  refine nt_i (v := s1) es1 ?_
  refine lv_aload_n hx hb dL_law_896 rfl (lv_at hl 2 rfl) ?_
  have hX : nCx p s m _ c code 9 "MinestrataLaw" dC dI g A [(a3, .inr (12, [.ref a4, .ref a5, .ref a6, .ref a7, .ref a8, .ref a9, .ref a10, .ref a11, .null, .ref a12, .ref a13, .int (0), .int (100), .int (0), .int (0), .int (-1), .long (0), .int (1)])), (a4, .inr (8, [.int (0), .ref a14, .ref a15, .ref a16, .ref a17, .int (0), .ref a18, .ref a19, .ref a20, .ref a21, .ref a22, .ref a23, .ref a24])), (a2, .inr (15, [.int (0), .int (0), .int (100), .int (0), .int (0), .ref a25, .ref a26, .ref a27, .ref a28, .ref a29, .ref a30, .ref a31, .ref a32, .ref a33, .ref a34, .ref a35, .null, .int (-1), .ref a36, .long (0)])), (a32, .inr (1, [.int (0), .ref (g 21), .int (0)]))] _ _ := ⟨⟨hx, hb, hml, hown, hts⟩, hE, hS, hA, hP, hD⟩
  refine n_call (wr := [(a2, .inr (15, [.int (0), .int (0), .int (100), .int (0), .int (0), .ref a25, .ref a26, .ref a27, .ref a28, .ref a29, .ref a30, .ref a31, .ref a32, .ref a33, .ref a34, .ref a35, .null, .int (-1), .ref a36, .long (0)])), (a32, .inr (1, [.int (0), .ref (g 21), .int (0)]))]) hX (n_runSW (n := 3) (wc := [(a3, .inr (12, [.ref a4, .ref a5, .ref a6, .ref a7, .ref a8, .ref a9, .ref a10, .ref a11, .null, .ref a12, .ref a13, .int (0), .int (100), .int (0), .int (0), .int (-1), .long (0), .int (1)])), (a4, .inr (8, [.int (0), .ref a14, .ref a15, .ref a16, .ref a17, .int (0), .ref a18, .ref a19, .ref a20, .ref a21, .ref a22, .ref a23, .ref a24]))]) (As := [.ref a3, .int s1, .ref a1]) (rest := []) hX (m291 l hst dC dI g a3 a1 a4 a5 a6 a7 a8 a9 a10 a11 a12 a13 a14 a15 a16 a17 a18 a19 a20 a21 a22 a23 a24 s1 _) [0, 1] rfl (by decide +kernel) q1144 q1145 q70 q1146 (by decide +kernel) ⟨(Nat.le_of_ble_eq_true rfl), (Nat.le_of_ble_eq_true rfl)⟩ ⟨(Nat.le_of_ble_eq_true rfl), (Nat.le_of_ble_eq_true rfl)⟩ hl.1 rfl rfl (Nat.le_of_ble_eq_true rfl) dL_law_897) [0, 1] [2, 3] rfl rfl (by decide +kernel) (by decide +kernel) (fun f1 r2 H locs hP hD hS => ?_)
  have hP : va_P (dC, dI) CL [(a2, .inr (15, [.int (0), .int (0), .int (100), .int (0), .int (0), .ref a25, .ref a26, .ref a27, .ref a28, .ref a29, .ref a30, .ref a31, .ref a32, .ref a33, .ref a34, .ref a35, .null, .int (-1), .ref a36, .long (0)])), (a32, .inr (1, [.int (0), .ref (g 21), .int (0)]))] _ := hP
  have hD : va_D A [(a2, .inr (15, [.int (0), .int (0), .int (100), .int (0), .int (0), .ref a25, .ref a26, .ref a27, .ref a28, .ref a29, .ref a30, .ref a31, .ref a32, .ref a33, .ref a34, .ref a35, .null, .int (-1), .ref a36, .long (0)])), (a32, .inr (1, [.int (0), .ref (g 21), .int (0)]))] := hD
  refine W.widen (k := 244) (n := 2777) (Nat.le_of_ble_eq_true rfl) (Nat.le_of_ble_eq_true rfl) ?_
  refine W.eq (g2 := F0 m 900 ls [.int (1)]) rfl ?_
  refine lv_istore (lv' := [(6, .int (1)), (5, .int (0)), (4, .ref a0), (3, .ref a1), (2, .ref a2), (1, .ref a3), (0, .ref b)]) hx hb dL_law_900 hl (by decide) rfl (fun ls hl => ?_)
  refine lv_aload_n hx hb dL_law_902 rfl (lv_at hl 4 rfl) ?_
  refine lv_aload_n hx hb dL_law_903 rfl (lv_at hl 6 rfl) ?_
  refine lv_iload hx hb dL_law_904 (lv_at hl 1 rfl) ?_
  refine lv_iconst (v := (1)) hx hb dL_law_906 (by decide +kernel) ?_
  refine lv_iadd hx hb dL_law_907 ?_
  refine nt_i (v := (1)) (by decide +kernel) ?_
  refine va_sld hx hb hXs hbl hbA hS (show ¬ ((1 : Int32) < 0 ∨ 5 ≤ Int32.toNatClampNeg (1)) by decide +kernel) dL_law_908 ?_
  refine nt_i (v := s1) es1 ?_
  have hX : nCx p s m _ c code 9 "MinestrataLaw" dC dI g A [(a2, .inr (15, [.int (0), .int (0), .int (100), .int (0), .int (0), .ref a25, .ref a26, .ref a27, .ref a28, .ref a29, .ref a30, .ref a31, .ref a32, .ref a33, .ref a34, .ref a35, .null, .int (-1), .ref a36, .long (0)])), (a32, .inr (1, [.int (0), .ref (g 21), .int (0)]))] _ _ := ⟨⟨hx, hb, hml, hown, hts⟩, hE, hS, hA, hP, hD⟩
  refine n_call (wr := []) hX (n_runV (n := 1) (wc := [(a2, .inr (15, [.int (0), .int (0), .int (100), .int (0), .int (0), .ref a25, .ref a26, .ref a27, .ref a28, .ref a29, .ref a30, .ref a31, .ref a32, .ref a33, .ref a34, .ref a35, .null, .int (-1), .ref a36, .long (0)])), (a32, .inr (1, [.int (0), .ref (g 21), .int (0)]))]) (As := [.int s1]) (rest := []) hX (m292 l hst dC dI g a2 a25 a26 a27 a28 a29 a30 a31 a32 a33 a34 a35 a36 s1 _) [0, 1] rfl (by decide +kernel) 0 (ci := 15) rfl (T := TX16) (N := 20) (C := "MinestrataModel") rfl q1687 q1688 q1689 q82 q1690 (by decide +kernel) ⟨(Nat.le_of_ble_eq_true rfl), (Nat.le_of_ble_eq_true rfl)⟩ ⟨(Nat.le_of_ble_eq_true rfl), (Nat.le_of_ble_eq_true rfl)⟩ hl.1 rfl rfl (Nat.le_of_ble_eq_true rfl) dL_law_909) [0, 1] [] rfl rfl (by decide +kernel) (by decide +kernel) (fun f3 r4 H locs hP hD hS => ?_)
  have hP : va_P (dC, dI) CL [(a2, .inr (15, [.int (1), .int (0), .int (100), .int (0), .int (0), .ref a25, .ref a26, .ref a27, .ref a28, .ref a29, .ref a30, .ref a31, .ref a32, .ref a33, .ref a34, .ref a35, .null, .int (-1), .ref a36, .long (0)])), (a32, .inr (1, [.int (0), .ref (g 21), .int (0)]))] _ := hP
  have hD : va_D A [(a2, .inr (15, [.int (1), .int (0), .int (100), .int (0), .int (0), .ref a25, .ref a26, .ref a27, .ref a28, .ref a29, .ref a30, .ref a31, .ref a32, .ref a33, .ref a34, .ref a35, .null, .int (-1), .ref a36, .long (0)])), (a32, .inr (1, [.int (0), .ref (g 21), .int (0)]))] := hD
  refine W.widen (k := 244) (n := 2777) (Nat.le_of_ble_eq_true rfl) (Nat.le_of_ble_eq_true rfl) ?_
  refine W.eq (g2 := F0 m 912 ls [.int (0)]) rfl ?_
  refine lv_istore (lv' := [(7, .int (0)), (6, .int (1)), (5, .int (0)), (4, .ref a0), (3, .ref a1), (2, .ref a2), (1, .ref a3), (0, .ref b)]) hx hb dL_law_912 hl (by decide) rfl (fun ls hl => ?_)
  refine lv_aload_n hx hb dL_law_914 rfl (lv_at hl 5 rfl) ?_
  have hX : nCx p s m _ c code 9 "MinestrataLaw" dC dI g A [(a2, .inr (15, [.int (1), .int (0), .int (100), .int (0), .int (0), .ref a25, .ref a26, .ref a27, .ref a28, .ref a29, .ref a30, .ref a31, .ref a32, .ref a33, .ref a34, .ref a35, .null, .int (-1), .ref a36, .long (0)])), (a32, .inr (1, [.int (0), .ref (g 21), .int (0)]))] _ _ := ⟨⟨hx, hb, hml, hown, hts⟩, hE, hS, hA, hP, hD⟩
  refine n_call (wr := [(a32, .inr (1, [.int (0), .ref (g 21), .int (0)]))]) hX (n_runV (n := 0) (wc := [(a2, .inr (15, [.int (1), .int (0), .int (100), .int (0), .int (0), .ref a25, .ref a26, .ref a27, .ref a28, .ref a29, .ref a30, .ref a31, .ref a32, .ref a33, .ref a34, .ref a35, .null, .int (-1), .ref a36, .long (0)]))]) (As := []) (rest := []) hX (m33 l hst dC dI g a2 a25 a26 a27 a28 a29 a30 a31 a32 a33 a34 a35 a36 _) [0] rfl (by decide +kernel) 0 (ci := 15) rfl (T := TX16) (N := 20) (C := "MinestrataModel") rfl q1495 q1496 q1497 q82 q1498 (by decide +kernel) ⟨(Nat.le_of_ble_eq_true rfl), (Nat.le_of_ble_eq_true rfl)⟩ ⟨(Nat.le_of_ble_eq_true rfl), (Nat.le_of_ble_eq_true rfl)⟩ hl.1 rfl rfl (Nat.le_of_ble_eq_true rfl) dL_law_915) [0] [1] rfl rfl (by decide +kernel) (by decide +kernel) (fun f5 r6 H locs hP hD hS => ?_)
  have hP : va_P (dC, dI) CL [(a32, .inr (1, [.int (0), .ref (g 21), .int (0)])), (a2, .inr (15, [.int (1), .int (0), .int (100), .int (0), .int (0), .ref a25, .ref a26, .ref a27, .ref a28, .ref a29, .ref a30, .ref a31, .ref a32, .ref a33, .ref a34, .ref a35, .null, .int (-1), .ref a36, .long (0)]))] _ := hP
  have hD : va_D A [(a32, .inr (1, [.int (0), .ref (g 21), .int (0)])), (a2, .inr (15, [.int (1), .int (0), .int (100), .int (0), .int (0), .ref a25, .ref a26, .ref a27, .ref a28, .ref a29, .ref a30, .ref a31, .ref a32, .ref a33, .ref a34, .ref a35, .null, .int (-1), .ref a36, .long (0)]))] := hD
  refine W.widen (k := 244) (n := 2777) (Nat.le_of_ble_eq_true rfl) (Nat.le_of_ble_eq_true rfl) ?_
  refine W.eq (g2 := F0 m 918 ls [.int (1)]) rfl ?_
  refine lv_iload hx hb dL_law_918 (lv_at hl 1 rfl) ?_
  refine lv_icmp_eq (tgt := 925) hx hb dL_law_920 (by decide +kernel) (fun _ => ?_) (fun h => absurd (by decide +kernel) h)
  refine lv_iload hx hb dL_law_925 (lv_at hl 1 rfl) ?_
  refine lv_if_ne (tgt := 942) hx hb dL_law_927 (by decide +kernel) (fun _ => ?_) (fun h => absurd h (by decide +kernel))
  refine lv_goto (tgt := 2278) hx hb dL_law_942 (by decide +kernel) ?_
  refine lv_iinc (v := (5)) (lv' := [(5, .int (5)), (7, .int (0)), (6, .int (1)), (4, .ref a0), (3, .ref a1), (2, .ref a2), (1, .ref a3), (0, .ref b)]) hx hb dL_law_2278 hl (k := 2) rfl (by decide +kernel) (by decide) rfl (fun ls hl => ?_)
  refine lv_goto (tgt := 28) hx hb dL_law_2281 (by decide +kernel) ?_
  refine lv_iload hx hb dL_law_28 (lv_at hl 0 rfl) ?_
  refine lv_aload_n hx hb dL_law_30 rfl (lv_at hl 7 rfl) ?_
  refine va_slen hx hb hXs hbl hbA hS dL_law_31 ?_
  refine nt_i (v := (5)) (by decide +kernel) ?_
  refine lv_iconst (v := (5)) hx hb dL_law_32 (by decide +kernel) ?_
  refine lv_isub hx hb dL_law_33 ?_
  refine nt_i (v := (0)) (by decide +kernel) ?_
  refine lv_icmp_gt (tgt := 2284) hx hb dL_law_34 (by decide +kernel) (fun _ => ?_) (fun h => absurd (by decide +kernel) h)
  refine lv_iconst (v := (1)) hx hb dL_law_2284 (by decide +kernel) ?_
  refine va_forget (fun q9 hq9 => by have h9 := hS.2.2 q9 hq9; rw [← hAe] at h9; exact h9) ?_
  refine W.widen (k := 600006) (n := 7302056) (Nat.le_of_ble_eq_true rfl) (Nat.le_of_ble_eq_true rfl) ?_
  refine W.base ?_
  exact lw_ret (Drawn.sameBut.refl s.drawn lw_cs) hx hb hr hlk dL_law_2285

set_option maxHeartbeats 4000000 in
set_option maxRecDepth 100000 in
theorem lc_11 {p : Program} {e : Env} {s : State} {m : MethodId} {below : List Frame} {meth : Method} {c : Code} (l : Launch) (hst : l.stackTraces = false) {b : Nat} {xs : Nat → Int32} (C0 : lw_At p s m meth c b 5 xs) (dC : Nat → ClassId) (dI : Nat → Nat → Nat) (g : Nat → Nat) (a0 a1 a2 a3 a4 a5 a6 a7 a8 a9 a10 a11 a12 a13 a14 a15 a16 a17 a18 a19 a20 a21 a22 a23 a24 a25 a26 a27 a28 a29 a30 a31 a32 a33 a34 a35 a36 : Nat) {A : Nat → Prop} (hAe : (fun q : Nat => s.heap.size ≤ q) = A) (hE : EV dC dI g A s) (hA : ∀ q : Nat, s.heap.size ≤ q → A q) (hbA : ¬ A b) (H : Heap) (locs : List Loc) (hP : va_P (dC, dI) CL [(a3, .inr (12, [.ref a4, .ref a5, .ref a6, .ref a7, .ref a8, .ref a9, .ref a10, .ref a11, .null, .ref a12, .ref a13, .int (0), .int (100), .int (0), .int (0), .int (-1), .long (0), .int (1)])), (a4, .inr (8, [.int (0), .ref a14, .ref a15, .ref a16, .ref a17, .int (0), .ref a18, .ref a19, .ref a20, .ref a21, .ref a22, .ref a23, .ref a24])), (a2, .inr (15, [.int (0), .int (0), .int (100), .int (0), .int (0), .ref a25, .ref a26, .ref a27, .ref a28, .ref a29, .ref a30, .ref a31, .ref a32, .ref a33, .ref a34, .ref a35, .null, .int (-1), .ref a36, .long (0)]))] H) (hD : va_D A [(a3, .inr (12, [.ref a4, .ref a5, .ref a6, .ref a7, .ref a8, .ref a9, .ref a10, .ref a11, .null, .ref a12, .ref a13, .int (0), .int (100), .int (0), .int (0), .int (-1), .long (0), .int (1)])), (a4, .inr (8, [.int (0), .ref a14, .ref a15, .ref a16, .ref a17, .int (0), .ref a18, .ref a19, .ref a20, .ref a21, .ref a22, .ref a23, .ref a24])), (a2, .inr (15, [.int (0), .int (0), .int (100), .int (0), .int (0), .ref a25, .ref a26, .ref a27, .ref a28, .ref a29, .ref a30, .ref a31, .ref a32, .ref a33, .ref a34, .ref a35, .null, .int (-1), .ref a36, .long (0)]))]) (hS : va_S A s.heap H locs) (ls : Array Slot) (hl : lv_has ls 9 [(5, .int (0)), (4, .ref a0), (3, .ref a1), (2, .ref a2), (1, .ref a3), (0, .ref b)]) :
    W p l e room_1 s m #[Value.ref b] below meth c H locs 243 2771 (lw_Z below #[Value.ref b] s) (F0 m 44 ls [.int (11)]) := by
  obtain ⟨hx, hb, hr, hml, hown, hts0, hXs, hbl, hlk, hgv⟩ := id C0
  have hts : ∀ w ∈ AW, w.before #[Value.ref b] s = true := fun w h => hts0 w (aw_tbl h)
  have hown : s.vm.findClass "MinestrataLaw" = some m.cls := hown
  have hK := hE.1
  obtain ⟨s1, es1⟩ : ∃ y : Int32, xs (Int32.toNatClampNeg (1)) = y := ⟨_, rfl⟩
  obtain ⟨s2, es2⟩ : ∃ y : Int32, xs (Int32.toNatClampNeg (2)) = y := ⟨_, rfl⟩
  obtain ⟨s3, es3⟩ : ∃ y : Int32, xs (Int32.toNatClampNeg (3)) = y := ⟨_, rfl⟩
  obtain ⟨s4, es4⟩ : ∃ y : Int32, xs (Int32.toNatClampNeg (4)) = y := ⟨_, rfl⟩
  refine lv_tableIn (tgt := 945) (off := 901) hx hb dL_law_44 (by decide +kernel) (by decide +kernel) rfl (by decide +kernel) ?_
  refine lv_aload_n hx hb dL_law_945 rfl (lv_at hl 4 rfl) ?_
  refine lv_aload_n hx hb dL_law_946 rfl (lv_at hl 5 rfl) ?_
  refine lv_iload hx hb dL_law_947 (lv_at hl 0 rfl) ?_
  refine lv_iconst (v := (1)) hx hb dL_law_949 (by decide +kernel) ?_
  refine lv_iadd hx hb dL_law_950 ?_
  refine nt_i (v := (1)) (by decide +kernel) ?_
  refine va_sld hx hb hXs hbl hbA hS (show ¬ ((1 : Int32) < 0 ∨ 5 ≤ Int32.toNatClampNeg (1)) by decide +kernel) dL_law_951 ?_
  refine nt_i (v := s1) es1 ?_
  refine lv_aload_n hx hb dL_law_952 rfl (lv_at hl 2 rfl) ?_
  have hX : nCx p s m _ c code 9 "MinestrataLaw" dC dI g A [(a3, .inr (12, [.ref a4, .ref a5, .ref a6, .ref a7, .ref a8, .ref a9, .ref a10, .ref a11, .null, .ref a12, .ref a13, .int (0), .int (100), .int (0), .int (0), .int (-1), .long (0), .int (1)])), (a4, .inr (8, [.int (0), .ref a14, .ref a15, .ref a16, .ref a17, .int (0), .ref a18, .ref a19, .ref a20, .ref a21, .ref a22, .ref a23, .ref a24])), (a2, .inr (15, [.int (0), .int (0), .int (100), .int (0), .int (0), .ref a25, .ref a26, .ref a27, .ref a28, .ref a29, .ref a30, .ref a31, .ref a32, .ref a33, .ref a34, .ref a35, .null, .int (-1), .ref a36, .long (0)]))] _ _ := ⟨⟨hx, hb, hml, hown, hts⟩, hE, hS, hA, hP, hD⟩
  refine n_call (wr := [(a2, .inr (15, [.int (0), .int (0), .int (100), .int (0), .int (0), .ref a25, .ref a26, .ref a27, .ref a28, .ref a29, .ref a30, .ref a31, .ref a32, .ref a33, .ref a34, .ref a35, .null, .int (-1), .ref a36, .long (0)]))]) hX (n_runSW (n := 3) (wc := [(a3, .inr (12, [.ref a4, .ref a5, .ref a6, .ref a7, .ref a8, .ref a9, .ref a10, .ref a11, .null, .ref a12, .ref a13, .int (0), .int (100), .int (0), .int (0), .int (-1), .long (0), .int (1)])), (a4, .inr (8, [.int (0), .ref a14, .ref a15, .ref a16, .ref a17, .int (0), .ref a18, .ref a19, .ref a20, .ref a21, .ref a22, .ref a23, .ref a24]))]) (As := [.ref a3, .int s1, .ref a1]) (rest := []) hX (m294 l hst dC dI g a3 a1 a4 a5 a6 a7 a8 a9 a10 a11 a12 a13 a14 a15 a16 a17 a18 a19 a20 a21 a22 a23 a24 s1 _) [0, 1] rfl (by decide +kernel) q1151 q1152 q70 q1153 (by decide +kernel) ⟨(Nat.le_of_ble_eq_true rfl), (Nat.le_of_ble_eq_true rfl)⟩ ⟨(Nat.le_of_ble_eq_true rfl), (Nat.le_of_ble_eq_true rfl)⟩ hl.1 rfl rfl (Nat.le_of_ble_eq_true rfl) dL_law_953) [0, 1] [2] rfl rfl (by decide +kernel) (by decide +kernel) (fun f1 r2 H locs hP hD hS => ?_)
  have hP : va_P (dC, dI) CL [(a2, .inr (15, [.int (0), .int (0), .int (100), .int (0), .int (0), .ref a25, .ref a26, .ref a27, .ref a28, .ref a29, .ref a30, .ref a31, .ref a32, .ref a33, .ref a34, .ref a35, .null, .int (-1), .ref a36, .long (0)]))] _ := hP
  have hD : va_D A [(a2, .inr (15, [.int (0), .int (0), .int (100), .int (0), .int (0), .ref a25, .ref a26, .ref a27, .ref a28, .ref a29, .ref a30, .ref a31, .ref a32, .ref a33, .ref a34, .ref a35, .null, .int (-1), .ref a36, .long (0)]))] := hD
  refine W.widen (k := 244) (n := 2777) (Nat.le_of_ble_eq_true rfl) (Nat.le_of_ble_eq_true rfl) ?_
  refine W.eq (g2 := F0 m 956 ls [.int (1)]) rfl ?_
  refine lv_istore (lv' := [(6, .int (1)), (5, .int (0)), (4, .ref a0), (3, .ref a1), (2, .ref a2), (1, .ref a3), (0, .ref b)]) hx hb dL_law_956 hl (by decide) rfl (fun ls hl => ?_)
  refine lv_aload_n hx hb dL_law_958 rfl (lv_at hl 4 rfl) ?_
  refine lv_aload_n hx hb dL_law_959 rfl (lv_at hl 6 rfl) ?_
  refine lv_iload hx hb dL_law_960 (lv_at hl 1 rfl) ?_
  refine lv_iconst (v := (1)) hx hb dL_law_962 (by decide +kernel) ?_
  refine lv_iadd hx hb dL_law_963 ?_
  refine nt_i (v := (1)) (by decide +kernel) ?_
  refine va_sld hx hb hXs hbl hbA hS (show ¬ ((1 : Int32) < 0 ∨ 5 ≤ Int32.toNatClampNeg (1)) by decide +kernel) dL_law_964 ?_
  refine nt_i (v := s1) es1 ?_
  have hX : nCx p s m _ c code 9 "MinestrataLaw" dC dI g A [(a2, .inr (15, [.int (0), .int (0), .int (100), .int (0), .int (0), .ref a25, .ref a26, .ref a27, .ref a28, .ref a29, .ref a30, .ref a31, .ref a32, .ref a33, .ref a34, .ref a35, .null, .int (-1), .ref a36, .long (0)]))] _ _ := ⟨⟨hx, hb, hml, hown, hts⟩, hE, hS, hA, hP, hD⟩
  refine n_call (wr := []) hX (n_runV (n := 1) (wc := [(a2, .inr (15, [.int (0), .int (0), .int (100), .int (0), .int (0), .ref a25, .ref a26, .ref a27, .ref a28, .ref a29, .ref a30, .ref a31, .ref a32, .ref a33, .ref a34, .ref a35, .null, .int (-1), .ref a36, .long (0)]))]) (As := [.int s1]) (rest := []) hX (m295 l hst dC dI g a2 a25 a26 a27 a28 a29 a30 a31 a32 a33 a34 a35 a36 s1 _) [0] rfl (by decide +kernel) 0 (ci := 15) rfl (T := TX16) (N := 20) (C := "MinestrataModel") rfl q1945 q1946 q1947 q82 q1948 (by decide +kernel) ⟨(Nat.le_of_ble_eq_true rfl), (Nat.le_of_ble_eq_true rfl)⟩ ⟨(Nat.le_of_ble_eq_true rfl), (Nat.le_of_ble_eq_true rfl)⟩ hl.1 rfl rfl (Nat.le_of_ble_eq_true rfl) dL_law_965) [0] [] rfl rfl (by decide +kernel) (by decide +kernel) (fun f3 r4 H locs hP hD hS => ?_)
  have hP : va_P (dC, dI) CL [(a2, .inr (15, [.int (1), .int (0), .int (100), .int (0), .int (0), .ref a25, .ref a26, .ref a27, .ref a28, .ref a29, .ref a30, .ref a31, .ref a32, .ref a33, .ref a34, .ref a35, .null, .int (-1), .ref a36, .long (0)]))] _ := hP
  have hD : va_D A [(a2, .inr (15, [.int (1), .int (0), .int (100), .int (0), .int (0), .ref a25, .ref a26, .ref a27, .ref a28, .ref a29, .ref a30, .ref a31, .ref a32, .ref a33, .ref a34, .ref a35, .null, .int (-1), .ref a36, .long (0)]))] := hD
  refine W.widen (k := 244) (n := 2777) (Nat.le_of_ble_eq_true rfl) (Nat.le_of_ble_eq_true rfl) ?_
  refine W.eq (g2 := F0 m 968 ls [.int (0)]) rfl ?_
  refine lv_istore (lv' := [(7, .int (0)), (6, .int (1)), (5, .int (0)), (4, .ref a0), (3, .ref a1), (2, .ref a2), (1, .ref a3), (0, .ref b)]) hx hb dL_law_968 hl (by decide) rfl (fun ls hl => ?_)
  refine lv_aload_n hx hb dL_law_970 rfl (lv_at hl 5 rfl) ?_
  have hX : nCx p s m _ c code 9 "MinestrataLaw" dC dI g A [(a2, .inr (15, [.int (1), .int (0), .int (100), .int (0), .int (0), .ref a25, .ref a26, .ref a27, .ref a28, .ref a29, .ref a30, .ref a31, .ref a32, .ref a33, .ref a34, .ref a35, .null, .int (-1), .ref a36, .long (0)]))] _ _ := ⟨⟨hx, hb, hml, hown, hts⟩, hE, hS, hA, hP, hD⟩
  refine n_call (wr := []) hX (n_runV (n := 0) (wc := [(a2, .inr (15, [.int (1), .int (0), .int (100), .int (0), .int (0), .ref a25, .ref a26, .ref a27, .ref a28, .ref a29, .ref a30, .ref a31, .ref a32, .ref a33, .ref a34, .ref a35, .null, .int (-1), .ref a36, .long (0)]))]) (As := []) (rest := []) hX (m33 l hst dC dI g a2 a25 a26 a27 a28 a29 a30 a31 a32 a33 a34 a35 a36 _) [0] rfl (by decide +kernel) 0 (ci := 15) rfl (T := TX16) (N := 20) (C := "MinestrataModel") rfl q1495 q1496 q1497 q82 q1498 (by decide +kernel) ⟨(Nat.le_of_ble_eq_true rfl), (Nat.le_of_ble_eq_true rfl)⟩ ⟨(Nat.le_of_ble_eq_true rfl), (Nat.le_of_ble_eq_true rfl)⟩ hl.1 rfl rfl (Nat.le_of_ble_eq_true rfl) dL_law_971) [0] [] rfl rfl (by decide +kernel) (by decide +kernel) (fun f5 r6 H locs hP hD hS => ?_)
  have hP : va_P (dC, dI) CL [(a2, .inr (15, [.int (1), .int (0), .int (100), .int (0), .int (0), .ref a25, .ref a26, .ref a27, .ref a28, .ref a29, .ref a30, .ref a31, .ref a32, .ref a33, .ref a34, .ref a35, .null, .int (-1), .ref a36, .long (0)]))] _ := hP
  have hD : va_D A [(a2, .inr (15, [.int (1), .int (0), .int (100), .int (0), .int (0), .ref a25, .ref a26, .ref a27, .ref a28, .ref a29, .ref a30, .ref a31, .ref a32, .ref a33, .ref a34, .ref a35, .null, .int (-1), .ref a36, .long (0)]))] := hD
  refine W.widen (k := 244) (n := 2777) (Nat.le_of_ble_eq_true rfl) (Nat.le_of_ble_eq_true rfl) ?_
  refine W.eq (g2 := F0 m 974 ls [.int (1)]) rfl ?_
  refine lv_iload hx hb dL_law_974 (lv_at hl 1 rfl) ?_
  refine lv_icmp_eq (tgt := 981) hx hb dL_law_976 (by decide +kernel) (fun _ => ?_) (fun h => absurd (by decide +kernel) h)
  refine lv_iload hx hb dL_law_981 (lv_at hl 1 rfl) ?_
  refine lv_if_ne (tgt := 998) hx hb dL_law_983 (by decide +kernel) (fun _ => ?_) (fun h => absurd h (by decide +kernel))
  refine lv_goto (tgt := 2278) hx hb dL_law_998 (by decide +kernel) ?_
  refine lv_iinc (v := (5)) (lv' := [(5, .int (5)), (7, .int (0)), (6, .int (1)), (4, .ref a0), (3, .ref a1), (2, .ref a2), (1, .ref a3), (0, .ref b)]) hx hb dL_law_2278 hl (k := 2) rfl (by decide +kernel) (by decide) rfl (fun ls hl => ?_)
  refine lv_goto (tgt := 28) hx hb dL_law_2281 (by decide +kernel) ?_
  refine lv_iload hx hb dL_law_28 (lv_at hl 0 rfl) ?_
  refine lv_aload_n hx hb dL_law_30 rfl (lv_at hl 7 rfl) ?_
  refine va_slen hx hb hXs hbl hbA hS dL_law_31 ?_
  refine nt_i (v := (5)) (by decide +kernel) ?_
  refine lv_iconst (v := (5)) hx hb dL_law_32 (by decide +kernel) ?_
  refine lv_isub hx hb dL_law_33 ?_
  refine nt_i (v := (0)) (by decide +kernel) ?_
  refine lv_icmp_gt (tgt := 2284) hx hb dL_law_34 (by decide +kernel) (fun _ => ?_) (fun h => absurd (by decide +kernel) h)
  refine lv_iconst (v := (1)) hx hb dL_law_2284 (by decide +kernel) ?_
  refine va_forget (fun q9 hq9 => by have h9 := hS.2.2 q9 hq9; rw [← hAe] at h9; exact h9) ?_
  refine W.widen (k := 600006) (n := 7302056) (Nat.le_of_ble_eq_true rfl) (Nat.le_of_ble_eq_true rfl) ?_
  refine W.base ?_
  exact lw_ret (Drawn.sameBut.refl s.drawn lw_cs) hx hb hr hlk dL_law_2285

set_option maxHeartbeats 4000000 in
set_option maxRecDepth 100000 in
theorem lc_12 {p : Program} {e : Env} {s : State} {m : MethodId} {below : List Frame} {meth : Method} {c : Code} (l : Launch) (hst : l.stackTraces = false) {b : Nat} {xs : Nat → Int32} (C0 : lw_At p s m meth c b 5 xs) (dC : Nat → ClassId) (dI : Nat → Nat → Nat) (g : Nat → Nat) (a0 a1 a2 a3 a4 a5 a6 a7 a8 a9 a10 a11 a12 a13 a14 a15 a16 a17 a18 a19 a20 a21 a22 a23 a24 a25 a26 a27 a28 a29 a30 a31 a32 a33 a34 a35 a36 : Nat) {A : Nat → Prop} (hAe : (fun q : Nat => s.heap.size ≤ q) = A) (hE : EV dC dI g A s) (hA : ∀ q : Nat, s.heap.size ≤ q → A q) (hbA : ¬ A b) (H : Heap) (locs : List Loc) (hP : va_P (dC, dI) CL [(a3, .inr (12, [.ref a4, .ref a5, .ref a6, .ref a7, .ref a8, .ref a9, .ref a10, .ref a11, .null, .ref a12, .ref a13, .int (0), .int (100), .int (0), .int (0), .int (-1), .long (0), .int (1)])), (a4, .inr (8, [.int (0), .ref a14, .ref a15, .ref a16, .ref a17, .int (0), .ref a18, .ref a19, .ref a20, .ref a21, .ref a22, .ref a23, .ref a24])), (a2, .inr (15, [.int (0), .int (0), .int (100), .int (0), .int (0), .ref a25, .ref a26, .ref a27, .ref a28, .ref a29, .ref a30, .ref a31, .ref a32, .ref a33, .ref a34, .ref a35, .null, .int (-1), .ref a36, .long (0)]))] H) (hD : va_D A [(a3, .inr (12, [.ref a4, .ref a5, .ref a6, .ref a7, .ref a8, .ref a9, .ref a10, .ref a11, .null, .ref a12, .ref a13, .int (0), .int (100), .int (0), .int (0), .int (-1), .long (0), .int (1)])), (a4, .inr (8, [.int (0), .ref a14, .ref a15, .ref a16, .ref a17, .int (0), .ref a18, .ref a19, .ref a20, .ref a21, .ref a22, .ref a23, .ref a24])), (a2, .inr (15, [.int (0), .int (0), .int (100), .int (0), .int (0), .ref a25, .ref a26, .ref a27, .ref a28, .ref a29, .ref a30, .ref a31, .ref a32, .ref a33, .ref a34, .ref a35, .null, .int (-1), .ref a36, .long (0)]))]) (hS : va_S A s.heap H locs) (ls : Array Slot) (hl : lv_has ls 9 [(5, .int (0)), (4, .ref a0), (3, .ref a1), (2, .ref a2), (1, .ref a3), (0, .ref b)]) :
    W p l e room_1 s m #[Value.ref b] below meth c H locs 243 2771 (lw_Z below #[Value.ref b] s) (F0 m 44 ls [.int (12)]) := by
  obtain ⟨hx, hb, hr, hml, hown, hts0, hXs, hbl, hlk, hgv⟩ := id C0
  have hts : ∀ w ∈ AW, w.before #[Value.ref b] s = true := fun w h => hts0 w (aw_tbl h)
  have hown : s.vm.findClass "MinestrataLaw" = some m.cls := hown
  have hK := hE.1
  obtain ⟨s1, es1⟩ : ∃ y : Int32, xs (Int32.toNatClampNeg (1)) = y := ⟨_, rfl⟩
  obtain ⟨s2, es2⟩ : ∃ y : Int32, xs (Int32.toNatClampNeg (2)) = y := ⟨_, rfl⟩
  obtain ⟨s3, es3⟩ : ∃ y : Int32, xs (Int32.toNatClampNeg (3)) = y := ⟨_, rfl⟩
  obtain ⟨s4, es4⟩ : ∃ y : Int32, xs (Int32.toNatClampNeg (4)) = y := ⟨_, rfl⟩
  refine lv_tableIn (tgt := 1001) (off := 957) hx hb dL_law_44 (by decide +kernel) (by decide +kernel) rfl (by decide +kernel) ?_
  refine lv_aload_n hx hb dL_law_1001 rfl (lv_at hl 4 rfl) ?_
  refine lv_aload_n hx hb dL_law_1002 rfl (lv_at hl 5 rfl) ?_
  refine lv_iload hx hb dL_law_1003 (lv_at hl 0 rfl) ?_
  refine lv_iconst (v := (1)) hx hb dL_law_1005 (by decide +kernel) ?_
  refine lv_iadd hx hb dL_law_1006 ?_
  refine nt_i (v := (1)) (by decide +kernel) ?_
  refine va_sld hx hb hXs hbl hbA hS (show ¬ ((1 : Int32) < 0 ∨ 5 ≤ Int32.toNatClampNeg (1)) by decide +kernel) dL_law_1007 ?_
  refine nt_i (v := s1) es1 ?_
  refine lv_aload_n hx hb dL_law_1008 rfl (lv_at hl 2 rfl) ?_
  have hX : nCx p s m _ c code 9 "MinestrataLaw" dC dI g A [(a3, .inr (12, [.ref a4, .ref a5, .ref a6, .ref a7, .ref a8, .ref a9, .ref a10, .ref a11, .null, .ref a12, .ref a13, .int (0), .int (100), .int (0), .int (0), .int (-1), .long (0), .int (1)])), (a4, .inr (8, [.int (0), .ref a14, .ref a15, .ref a16, .ref a17, .int (0), .ref a18, .ref a19, .ref a20, .ref a21, .ref a22, .ref a23, .ref a24])), (a2, .inr (15, [.int (0), .int (0), .int (100), .int (0), .int (0), .ref a25, .ref a26, .ref a27, .ref a28, .ref a29, .ref a30, .ref a31, .ref a32, .ref a33, .ref a34, .ref a35, .null, .int (-1), .ref a36, .long (0)]))] _ _ := ⟨⟨hx, hb, hml, hown, hts⟩, hE, hS, hA, hP, hD⟩
  refine n_call (wr := [(a2, .inr (15, [.int (0), .int (0), .int (100), .int (0), .int (0), .ref a25, .ref a26, .ref a27, .ref a28, .ref a29, .ref a30, .ref a31, .ref a32, .ref a33, .ref a34, .ref a35, .null, .int (-1), .ref a36, .long (0)]))]) hX (n_runSW (n := 3) (wc := [(a3, .inr (12, [.ref a4, .ref a5, .ref a6, .ref a7, .ref a8, .ref a9, .ref a10, .ref a11, .null, .ref a12, .ref a13, .int (0), .int (100), .int (0), .int (0), .int (-1), .long (0), .int (1)])), (a4, .inr (8, [.int (0), .ref a14, .ref a15, .ref a16, .ref a17, .int (0), .ref a18, .ref a19, .ref a20, .ref a21, .ref a22, .ref a23, .ref a24]))]) (As := [.ref a3, .int s1, .ref a1]) (rest := []) hX (m297 l hst dC dI g a3 a1 a4 a5 a6 a7 a8 a9 a10 a11 a12 a13 a14 a15 a16 a17 a18 a19 a20 a21 a22 a23 a24 s1 _) [0, 1] rfl (by decide +kernel) q1158 q1159 q70 q1160 (by decide +kernel) ⟨(Nat.le_of_ble_eq_true rfl), (Nat.le_of_ble_eq_true rfl)⟩ ⟨(Nat.le_of_ble_eq_true rfl), (Nat.le_of_ble_eq_true rfl)⟩ hl.1 rfl rfl (Nat.le_of_ble_eq_true rfl) dL_law_1009) [0, 1] [2] rfl rfl (by decide +kernel) (by decide +kernel) (fun f1 r2 H locs hP hD hS => ?_)
  have hP : va_P (dC, dI) CL [(a2, .inr (15, [.int (0), .int (0), .int (100), .int (0), .int (0), .ref a25, .ref a26, .ref a27, .ref a28, .ref a29, .ref a30, .ref a31, .ref a32, .ref a33, .ref a34, .ref a35, .null, .int (-1), .ref a36, .long (0)]))] _ := hP
  have hD : va_D A [(a2, .inr (15, [.int (0), .int (0), .int (100), .int (0), .int (0), .ref a25, .ref a26, .ref a27, .ref a28, .ref a29, .ref a30, .ref a31, .ref a32, .ref a33, .ref a34, .ref a35, .null, .int (-1), .ref a36, .long (0)]))] := hD
  refine W.widen (k := 244) (n := 2777) (Nat.le_of_ble_eq_true rfl) (Nat.le_of_ble_eq_true rfl) ?_
  refine W.eq (g2 := F0 m 1012 ls [.int (1)]) rfl ?_
  refine lv_istore (lv' := [(6, .int (1)), (5, .int (0)), (4, .ref a0), (3, .ref a1), (2, .ref a2), (1, .ref a3), (0, .ref b)]) hx hb dL_law_1012 hl (by decide) rfl (fun ls hl => ?_)
  refine lv_aload_n hx hb dL_law_1014 rfl (lv_at hl 4 rfl) ?_
  refine lv_aload_n hx hb dL_law_1015 rfl (lv_at hl 6 rfl) ?_
  refine lv_iload hx hb dL_law_1016 (lv_at hl 1 rfl) ?_
  refine lv_iconst (v := (1)) hx hb dL_law_1018 (by decide +kernel) ?_
  refine lv_iadd hx hb dL_law_1019 ?_
  refine nt_i (v := (1)) (by decide +kernel) ?_
  refine va_sld hx hb hXs hbl hbA hS (show ¬ ((1 : Int32) < 0 ∨ 5 ≤ Int32.toNatClampNeg (1)) by decide +kernel) dL_law_1020 ?_
  refine nt_i (v := s1) es1 ?_
  have hX : nCx p s m _ c code 9 "MinestrataLaw" dC dI g A [(a2, .inr (15, [.int (0), .int (0), .int (100), .int (0), .int (0), .ref a25, .ref a26, .ref a27, .ref a28, .ref a29, .ref a30, .ref a31, .ref a32, .ref a33, .ref a34, .ref a35, .null, .int (-1), .ref a36, .long (0)]))] _ _ := ⟨⟨hx, hb, hml, hown, hts⟩, hE, hS, hA, hP, hD⟩
  refine n_call (wr := []) hX (n_runV (n := 1) (wc := [(a2, .inr (15, [.int (0), .int (0), .int (100), .int (0), .int (0), .ref a25, .ref a26, .ref a27, .ref a28, .ref a29, .ref a30, .ref a31, .ref a32, .ref a33, .ref a34, .ref a35, .null, .int (-1), .ref a36, .long (0)]))]) (As := [.int s1]) (rest := []) hX (m298 l hst dC dI g a2 a25 a26 a27 a28 a29 a30 a31 a32 a33 a34 a35 a36 s1 _) [0] rfl (by decide +kernel) 0 (ci := 15) rfl (T := TX16) (N := 20) (C := "MinestrataModel") rfl q1949 q1950 q1951 q82 q1952 (by decide +kernel) ⟨(Nat.le_of_ble_eq_true rfl), (Nat.le_of_ble_eq_true rfl)⟩ ⟨(Nat.le_of_ble_eq_true rfl), (Nat.le_of_ble_eq_true rfl)⟩ hl.1 rfl rfl (Nat.le_of_ble_eq_true rfl) dL_law_1021) [0] [] rfl rfl (by decide +kernel) (by decide +kernel) (fun f3 r4 H locs hP hD hS => ?_)
  have hP : va_P (dC, dI) CL [(a2, .inr (15, [.int (1), .int (0), .int (100), .int (0), .int (0), .ref a25, .ref a26, .ref a27, .ref a28, .ref a29, .ref a30, .ref a31, .ref a32, .ref a33, .ref a34, .ref a35, .null, .int (-1), .ref a36, .long (0)]))] _ := hP
  have hD : va_D A [(a2, .inr (15, [.int (1), .int (0), .int (100), .int (0), .int (0), .ref a25, .ref a26, .ref a27, .ref a28, .ref a29, .ref a30, .ref a31, .ref a32, .ref a33, .ref a34, .ref a35, .null, .int (-1), .ref a36, .long (0)]))] := hD
  refine W.widen (k := 244) (n := 2777) (Nat.le_of_ble_eq_true rfl) (Nat.le_of_ble_eq_true rfl) ?_
  refine W.eq (g2 := F0 m 1024 ls [.int (0)]) rfl ?_
  refine lv_istore (lv' := [(7, .int (0)), (6, .int (1)), (5, .int (0)), (4, .ref a0), (3, .ref a1), (2, .ref a2), (1, .ref a3), (0, .ref b)]) hx hb dL_law_1024 hl (by decide) rfl (fun ls hl => ?_)
  refine lv_aload_n hx hb dL_law_1026 rfl (lv_at hl 5 rfl) ?_
  have hX : nCx p s m _ c code 9 "MinestrataLaw" dC dI g A [(a2, .inr (15, [.int (1), .int (0), .int (100), .int (0), .int (0), .ref a25, .ref a26, .ref a27, .ref a28, .ref a29, .ref a30, .ref a31, .ref a32, .ref a33, .ref a34, .ref a35, .null, .int (-1), .ref a36, .long (0)]))] _ _ := ⟨⟨hx, hb, hml, hown, hts⟩, hE, hS, hA, hP, hD⟩
  refine n_call (wr := []) hX (n_runV (n := 0) (wc := [(a2, .inr (15, [.int (1), .int (0), .int (100), .int (0), .int (0), .ref a25, .ref a26, .ref a27, .ref a28, .ref a29, .ref a30, .ref a31, .ref a32, .ref a33, .ref a34, .ref a35, .null, .int (-1), .ref a36, .long (0)]))]) (As := []) (rest := []) hX (m33 l hst dC dI g a2 a25 a26 a27 a28 a29 a30 a31 a32 a33 a34 a35 a36 _) [0] rfl (by decide +kernel) 0 (ci := 15) rfl (T := TX16) (N := 20) (C := "MinestrataModel") rfl q1495 q1496 q1497 q82 q1498 (by decide +kernel) ⟨(Nat.le_of_ble_eq_true rfl), (Nat.le_of_ble_eq_true rfl)⟩ ⟨(Nat.le_of_ble_eq_true rfl), (Nat.le_of_ble_eq_true rfl)⟩ hl.1 rfl rfl (Nat.le_of_ble_eq_true rfl) dL_law_1027) [0] [] rfl rfl (by decide +kernel) (by decide +kernel) (fun f5 r6 H locs hP hD hS => ?_)
  have hP : va_P (dC, dI) CL [(a2, .inr (15, [.int (1), .int (0), .int (100), .int (0), .int (0), .ref a25, .ref a26, .ref a27, .ref a28, .ref a29, .ref a30, .ref a31, .ref a32, .ref a33, .ref a34, .ref a35, .null, .int (-1), .ref a36, .long (0)]))] _ := hP
  have hD : va_D A [(a2, .inr (15, [.int (1), .int (0), .int (100), .int (0), .int (0), .ref a25, .ref a26, .ref a27, .ref a28, .ref a29, .ref a30, .ref a31, .ref a32, .ref a33, .ref a34, .ref a35, .null, .int (-1), .ref a36, .long (0)]))] := hD
  refine W.widen (k := 244) (n := 2777) (Nat.le_of_ble_eq_true rfl) (Nat.le_of_ble_eq_true rfl) ?_
  refine W.eq (g2 := F0 m 1030 ls [.int (1)]) rfl ?_
  refine lv_iload hx hb dL_law_1030 (lv_at hl 1 rfl) ?_
  refine lv_icmp_eq (tgt := 1037) hx hb dL_law_1032 (by decide +kernel) (fun _ => ?_) (fun h => absurd (by decide +kernel) h)
  refine lv_iload hx hb dL_law_1037 (lv_at hl 1 rfl) ?_
  refine lv_if_ne (tgt := 1054) hx hb dL_law_1039 (by decide +kernel) (fun _ => ?_) (fun h => absurd h (by decide +kernel))
  refine lv_goto (tgt := 2278) hx hb dL_law_1054 (by decide +kernel) ?_
  refine lv_iinc (v := (5)) (lv' := [(5, .int (5)), (7, .int (0)), (6, .int (1)), (4, .ref a0), (3, .ref a1), (2, .ref a2), (1, .ref a3), (0, .ref b)]) hx hb dL_law_2278 hl (k := 2) rfl (by decide +kernel) (by decide) rfl (fun ls hl => ?_)
  refine lv_goto (tgt := 28) hx hb dL_law_2281 (by decide +kernel) ?_
  refine lv_iload hx hb dL_law_28 (lv_at hl 0 rfl) ?_
  refine lv_aload_n hx hb dL_law_30 rfl (lv_at hl 7 rfl) ?_
  refine va_slen hx hb hXs hbl hbA hS dL_law_31 ?_
  refine nt_i (v := (5)) (by decide +kernel) ?_
  refine lv_iconst (v := (5)) hx hb dL_law_32 (by decide +kernel) ?_
  refine lv_isub hx hb dL_law_33 ?_
  refine nt_i (v := (0)) (by decide +kernel) ?_
  refine lv_icmp_gt (tgt := 2284) hx hb dL_law_34 (by decide +kernel) (fun _ => ?_) (fun h => absurd (by decide +kernel) h)
  refine lv_iconst (v := (1)) hx hb dL_law_2284 (by decide +kernel) ?_
  refine va_forget (fun q9 hq9 => by have h9 := hS.2.2 q9 hq9; rw [← hAe] at h9; exact h9) ?_
  refine W.widen (k := 600006) (n := 7302056) (Nat.le_of_ble_eq_true rfl) (Nat.le_of_ble_eq_true rfl) ?_
  refine W.base ?_
  exact lw_ret (Drawn.sameBut.refl s.drawn lw_cs) hx hb hr hlk dL_law_2285

set_option maxHeartbeats 4000000 in
set_option maxRecDepth 100000 in
theorem lc_13 {p : Program} {e : Env} {s : State} {m : MethodId} {below : List Frame} {meth : Method} {c : Code} (l : Launch) (hst : l.stackTraces = false) {b : Nat} {xs : Nat → Int32} (C0 : lw_At p s m meth c b 5 xs) (dC : Nat → ClassId) (dI : Nat → Nat → Nat) (g : Nat → Nat) (a0 a1 a2 a3 a4 a5 a6 a7 a8 a9 a10 a11 a12 a13 a14 a15 a16 a17 a18 a19 a20 a21 a22 a23 a24 a25 a26 a27 a28 a29 a30 a31 a32 a33 a34 a35 a36 : Nat) {A : Nat → Prop} (hAe : (fun q : Nat => s.heap.size ≤ q) = A) (hE : EV dC dI g A s) (hA : ∀ q : Nat, s.heap.size ≤ q → A q) (hbA : ¬ A b) (H : Heap) (locs : List Loc) (hP : va_P (dC, dI) CL [(a3, .inr (12, [.ref a4, .ref a5, .ref a6, .ref a7, .ref a8, .ref a9, .ref a10, .ref a11, .null, .ref a12, .ref a13, .int (0), .int (100), .int (0), .int (0), .int (-1), .long (0), .int (1)])), (a4, .inr (8, [.int (0), .ref a14, .ref a15, .ref a16, .ref a17, .int (0), .ref a18, .ref a19, .ref a20, .ref a21, .ref a22, .ref a23, .ref a24])), (a2, .inr (15, [.int (0), .int (0), .int (100), .int (0), .int (0), .ref a25, .ref a26, .ref a27, .ref a28, .ref a29, .ref a30, .ref a31, .ref a32, .ref a33, .ref a34, .ref a35, .null, .int (-1), .ref a36, .long (0)]))] H) (hD : va_D A [(a3, .inr (12, [.ref a4, .ref a5, .ref a6, .ref a7, .ref a8, .ref a9, .ref a10, .ref a11, .null, .ref a12, .ref a13, .int (0), .int (100), .int (0), .int (0), .int (-1), .long (0), .int (1)])), (a4, .inr (8, [.int (0), .ref a14, .ref a15, .ref a16, .ref a17, .int (0), .ref a18, .ref a19, .ref a20, .ref a21, .ref a22, .ref a23, .ref a24])), (a2, .inr (15, [.int (0), .int (0), .int (100), .int (0), .int (0), .ref a25, .ref a26, .ref a27, .ref a28, .ref a29, .ref a30, .ref a31, .ref a32, .ref a33, .ref a34, .ref a35, .null, .int (-1), .ref a36, .long (0)]))]) (hS : va_S A s.heap H locs) (ls : Array Slot) (hl : lv_has ls 9 [(5, .int (0)), (4, .ref a0), (3, .ref a1), (2, .ref a2), (1, .ref a3), (0, .ref b)]) :
    W p l e room_1 s m #[Value.ref b] below meth c H locs 243 2771 (lw_Z below #[Value.ref b] s) (F0 m 44 ls [.int (13)]) := by
  obtain ⟨hx, hb, hr, hml, hown, hts0, hXs, hbl, hlk, hgv⟩ := id C0
  have hts : ∀ w ∈ AW, w.before #[Value.ref b] s = true := fun w h => hts0 w (aw_tbl h)
  have hown : s.vm.findClass "MinestrataLaw" = some m.cls := hown
  have hK := hE.1
  obtain ⟨s1, es1⟩ : ∃ y : Int32, xs (Int32.toNatClampNeg (1)) = y := ⟨_, rfl⟩
  obtain ⟨s2, es2⟩ : ∃ y : Int32, xs (Int32.toNatClampNeg (2)) = y := ⟨_, rfl⟩
  obtain ⟨s3, es3⟩ : ∃ y : Int32, xs (Int32.toNatClampNeg (3)) = y := ⟨_, rfl⟩
  obtain ⟨s4, es4⟩ : ∃ y : Int32, xs (Int32.toNatClampNeg (4)) = y := ⟨_, rfl⟩
  refine lv_tableIn (tgt := 1057) (off := 1013) hx hb dL_law_44 (by decide +kernel) (by decide +kernel) rfl (by decide +kernel) ?_
  refine lv_aload_n hx hb dL_law_1057 rfl (lv_at hl 4 rfl) ?_
  refine lv_aload_n hx hb dL_law_1058 rfl (lv_at hl 5 rfl) ?_
  refine lv_iload hx hb dL_law_1059 (lv_at hl 0 rfl) ?_
  refine lv_iconst (v := (1)) hx hb dL_law_1061 (by decide +kernel) ?_
  refine lv_iadd hx hb dL_law_1062 ?_
  refine nt_i (v := (1)) (by decide +kernel) ?_
  refine va_sld hx hb hXs hbl hbA hS (show ¬ ((1 : Int32) < 0 ∨ 5 ≤ Int32.toNatClampNeg (1)) by decide +kernel) dL_law_1063 ?_
  refine nt_i (v := s1) es1 ?_
  refine lv_aload_n hx hb dL_law_1064 rfl (lv_at hl 2 rfl) ?_
  have hX : nCx p s m _ c code 9 "MinestrataLaw" dC dI g A [(a3, .inr (12, [.ref a4, .ref a5, .ref a6, .ref a7, .ref a8, .ref a9, .ref a10, .ref a11, .null, .ref a12, .ref a13, .int (0), .int (100), .int (0), .int (0), .int (-1), .long (0), .int (1)])), (a4, .inr (8, [.int (0), .ref a14, .ref a15, .ref a16, .ref a17, .int (0), .ref a18, .ref a19, .ref a20, .ref a21, .ref a22, .ref a23, .ref a24])), (a2, .inr (15, [.int (0), .int (0), .int (100), .int (0), .int (0), .ref a25, .ref a26, .ref a27, .ref a28, .ref a29, .ref a30, .ref a31, .ref a32, .ref a33, .ref a34, .ref a35, .null, .int (-1), .ref a36, .long (0)]))] _ _ := ⟨⟨hx, hb, hml, hown, hts⟩, hE, hS, hA, hP, hD⟩
  refine n_call (wr := [(a2, .inr (15, [.int (0), .int (0), .int (100), .int (0), .int (0), .ref a25, .ref a26, .ref a27, .ref a28, .ref a29, .ref a30, .ref a31, .ref a32, .ref a33, .ref a34, .ref a35, .null, .int (-1), .ref a36, .long (0)]))]) hX (n_runSW (n := 3) (wc := [(a3, .inr (12, [.ref a4, .ref a5, .ref a6, .ref a7, .ref a8, .ref a9, .ref a10, .ref a11, .null, .ref a12, .ref a13, .int (0), .int (100), .int (0), .int (0), .int (-1), .long (0), .int (1)])), (a4, .inr (8, [.int (0), .ref a14, .ref a15, .ref a16, .ref a17, .int (0), .ref a18, .ref a19, .ref a20, .ref a21, .ref a22, .ref a23, .ref a24]))]) (As := [.ref a3, .int s1, .ref a1]) (rest := []) hX (m300 l hst dC dI g a3 a1 a4 a5 a6 a7 a8 a9 a10 a11 a12 a13 a14 a15 a16 a17 a18 a19 a20 a21 a22 a23 a24 s1 _) [0, 1] rfl (by decide +kernel) q1165 q1166 q70 q1167 (by decide +kernel) ⟨(Nat.le_of_ble_eq_true rfl), (Nat.le_of_ble_eq_true rfl)⟩ ⟨(Nat.le_of_ble_eq_true rfl), (Nat.le_of_ble_eq_true rfl)⟩ hl.1 rfl rfl (Nat.le_of_ble_eq_true rfl) dL_law_1065) [0, 1] [2] rfl rfl (by decide +kernel) (by decide +kernel) (fun f1 r2 H locs hP hD hS => ?_)
  have hP : va_P (dC, dI) CL [(a2, .inr (15, [.int (0), .int (0), .int (100), .int (0), .int (0), .ref a25, .ref a26, .ref a27, .ref a28, .ref a29, .ref a30, .ref a31, .ref a32, .ref a33, .ref a34, .ref a35, .null, .int (-1), .ref a36, .long (0)]))] _ := hP
  have hD : va_D A [(a2, .inr (15, [.int (0), .int (0), .int (100), .int (0), .int (0), .ref a25, .ref a26, .ref a27, .ref a28, .ref a29, .ref a30, .ref a31, .ref a32, .ref a33, .ref a34, .ref a35, .null, .int (-1), .ref a36, .long (0)]))] := hD
  refine W.widen (k := 244) (n := 2777) (Nat.le_of_ble_eq_true rfl) (Nat.le_of_ble_eq_true rfl) ?_
  refine W.eq (g2 := F0 m 1068 ls [.int (1)]) rfl ?_
  refine lv_istore (lv' := [(6, .int (1)), (5, .int (0)), (4, .ref a0), (3, .ref a1), (2, .ref a2), (1, .ref a3), (0, .ref b)]) hx hb dL_law_1068 hl (by decide) rfl (fun ls hl => ?_)
  refine lv_aload_n hx hb dL_law_1070 rfl (lv_at hl 4 rfl) ?_
  refine lv_aload_n hx hb dL_law_1071 rfl (lv_at hl 6 rfl) ?_
  refine lv_iload hx hb dL_law_1072 (lv_at hl 1 rfl) ?_
  refine lv_iconst (v := (1)) hx hb dL_law_1074 (by decide +kernel) ?_
  refine lv_iadd hx hb dL_law_1075 ?_
  refine nt_i (v := (1)) (by decide +kernel) ?_
  refine va_sld hx hb hXs hbl hbA hS (show ¬ ((1 : Int32) < 0 ∨ 5 ≤ Int32.toNatClampNeg (1)) by decide +kernel) dL_law_1076 ?_
  refine nt_i (v := s1) es1 ?_
  have hX : nCx p s m _ c code 9 "MinestrataLaw" dC dI g A [(a2, .inr (15, [.int (0), .int (0), .int (100), .int (0), .int (0), .ref a25, .ref a26, .ref a27, .ref a28, .ref a29, .ref a30, .ref a31, .ref a32, .ref a33, .ref a34, .ref a35, .null, .int (-1), .ref a36, .long (0)]))] _ _ := ⟨⟨hx, hb, hml, hown, hts⟩, hE, hS, hA, hP, hD⟩
  refine n_call (wr := []) hX (n_runV (n := 1) (wc := [(a2, .inr (15, [.int (0), .int (0), .int (100), .int (0), .int (0), .ref a25, .ref a26, .ref a27, .ref a28, .ref a29, .ref a30, .ref a31, .ref a32, .ref a33, .ref a34, .ref a35, .null, .int (-1), .ref a36, .long (0)]))]) (As := [.int s1]) (rest := []) hX (m301 l hst dC dI g a2 a25 a26 a27 a28 a29 a30 a31 a32 a33 a34 a35 a36 s1 _) [0] rfl (by decide +kernel) 0 (ci := 15) rfl (T := TX16) (N := 20) (C := "MinestrataModel") rfl q1960 q1961 q1962 q82 q1963 (by decide +kernel) ⟨(Nat.le_of_ble_eq_true rfl), (Nat.le_of_ble_eq_true rfl)⟩ ⟨(Nat.le_of_ble_eq_true rfl), (Nat.le_of_ble_eq_true rfl)⟩ hl.1 rfl rfl (Nat.le_of_ble_eq_true rfl) dL_law_1077) [0] [] rfl rfl (by decide +kernel) (by decide +kernel) (fun f3 r4 H locs hP hD hS => ?_)
  have hP : va_P (dC, dI) CL [(a2, .inr (15, [.int (1), .int (0), .int (100), .int (0), .int (0), .ref a25, .ref a26, .ref a27, .ref a28, .ref a29, .ref a30, .ref a31, .ref a32, .ref a33, .ref a34, .ref a35, .null, .int (-1), .ref a36, .long (0)]))] _ := hP
  have hD : va_D A [(a2, .inr (15, [.int (1), .int (0), .int (100), .int (0), .int (0), .ref a25, .ref a26, .ref a27, .ref a28, .ref a29, .ref a30, .ref a31, .ref a32, .ref a33, .ref a34, .ref a35, .null, .int (-1), .ref a36, .long (0)]))] := hD
  refine W.widen (k := 244) (n := 2777) (Nat.le_of_ble_eq_true rfl) (Nat.le_of_ble_eq_true rfl) ?_
  refine W.eq (g2 := F0 m 1080 ls [.int (0)]) rfl ?_
  refine lv_istore (lv' := [(7, .int (0)), (6, .int (1)), (5, .int (0)), (4, .ref a0), (3, .ref a1), (2, .ref a2), (1, .ref a3), (0, .ref b)]) hx hb dL_law_1080 hl (by decide) rfl (fun ls hl => ?_)
  refine lv_aload_n hx hb dL_law_1082 rfl (lv_at hl 5 rfl) ?_
  have hX : nCx p s m _ c code 9 "MinestrataLaw" dC dI g A [(a2, .inr (15, [.int (1), .int (0), .int (100), .int (0), .int (0), .ref a25, .ref a26, .ref a27, .ref a28, .ref a29, .ref a30, .ref a31, .ref a32, .ref a33, .ref a34, .ref a35, .null, .int (-1), .ref a36, .long (0)]))] _ _ := ⟨⟨hx, hb, hml, hown, hts⟩, hE, hS, hA, hP, hD⟩
  refine n_call (wr := []) hX (n_runV (n := 0) (wc := [(a2, .inr (15, [.int (1), .int (0), .int (100), .int (0), .int (0), .ref a25, .ref a26, .ref a27, .ref a28, .ref a29, .ref a30, .ref a31, .ref a32, .ref a33, .ref a34, .ref a35, .null, .int (-1), .ref a36, .long (0)]))]) (As := []) (rest := []) hX (m33 l hst dC dI g a2 a25 a26 a27 a28 a29 a30 a31 a32 a33 a34 a35 a36 _) [0] rfl (by decide +kernel) 0 (ci := 15) rfl (T := TX16) (N := 20) (C := "MinestrataModel") rfl q1495 q1496 q1497 q82 q1498 (by decide +kernel) ⟨(Nat.le_of_ble_eq_true rfl), (Nat.le_of_ble_eq_true rfl)⟩ ⟨(Nat.le_of_ble_eq_true rfl), (Nat.le_of_ble_eq_true rfl)⟩ hl.1 rfl rfl (Nat.le_of_ble_eq_true rfl) dL_law_1083) [0] [] rfl rfl (by decide +kernel) (by decide +kernel) (fun f5 r6 H locs hP hD hS => ?_)
  have hP : va_P (dC, dI) CL [(a2, .inr (15, [.int (1), .int (0), .int (100), .int (0), .int (0), .ref a25, .ref a26, .ref a27, .ref a28, .ref a29, .ref a30, .ref a31, .ref a32, .ref a33, .ref a34, .ref a35, .null, .int (-1), .ref a36, .long (0)]))] _ := hP
  have hD : va_D A [(a2, .inr (15, [.int (1), .int (0), .int (100), .int (0), .int (0), .ref a25, .ref a26, .ref a27, .ref a28, .ref a29, .ref a30, .ref a31, .ref a32, .ref a33, .ref a34, .ref a35, .null, .int (-1), .ref a36, .long (0)]))] := hD
  refine W.widen (k := 244) (n := 2777) (Nat.le_of_ble_eq_true rfl) (Nat.le_of_ble_eq_true rfl) ?_
  refine W.eq (g2 := F0 m 1086 ls [.int (1)]) rfl ?_
  refine lv_iload hx hb dL_law_1086 (lv_at hl 1 rfl) ?_
  refine lv_icmp_eq (tgt := 1093) hx hb dL_law_1088 (by decide +kernel) (fun _ => ?_) (fun h => absurd (by decide +kernel) h)
  refine lv_iload hx hb dL_law_1093 (lv_at hl 1 rfl) ?_
  refine lv_if_ne (tgt := 1117) hx hb dL_law_1095 (by decide +kernel) (fun _ => ?_) (fun h => absurd h (by decide +kernel))
  refine lv_goto (tgt := 2278) hx hb dL_law_1117 (by decide +kernel) ?_
  refine lv_iinc (v := (5)) (lv' := [(5, .int (5)), (7, .int (0)), (6, .int (1)), (4, .ref a0), (3, .ref a1), (2, .ref a2), (1, .ref a3), (0, .ref b)]) hx hb dL_law_2278 hl (k := 2) rfl (by decide +kernel) (by decide) rfl (fun ls hl => ?_)
  refine lv_goto (tgt := 28) hx hb dL_law_2281 (by decide +kernel) ?_
  refine lv_iload hx hb dL_law_28 (lv_at hl 0 rfl) ?_
  refine lv_aload_n hx hb dL_law_30 rfl (lv_at hl 7 rfl) ?_
  refine va_slen hx hb hXs hbl hbA hS dL_law_31 ?_
  refine nt_i (v := (5)) (by decide +kernel) ?_
  refine lv_iconst (v := (5)) hx hb dL_law_32 (by decide +kernel) ?_
  refine lv_isub hx hb dL_law_33 ?_
  refine nt_i (v := (0)) (by decide +kernel) ?_
  refine lv_icmp_gt (tgt := 2284) hx hb dL_law_34 (by decide +kernel) (fun _ => ?_) (fun h => absurd (by decide +kernel) h)
  refine lv_iconst (v := (1)) hx hb dL_law_2284 (by decide +kernel) ?_
  refine va_forget (fun q9 hq9 => by have h9 := hS.2.2 q9 hq9; rw [← hAe] at h9; exact h9) ?_
  refine W.widen (k := 600006) (n := 7302056) (Nat.le_of_ble_eq_true rfl) (Nat.le_of_ble_eq_true rfl) ?_
  refine W.base ?_
  exact lw_ret (Drawn.sameBut.refl s.drawn lw_cs) hx hb hr hlk dL_law_2285

set_option maxHeartbeats 4000000 in
set_option maxRecDepth 100000 in
theorem lc_14 {p : Program} {e : Env} {s : State} {m : MethodId} {below : List Frame} {meth : Method} {c : Code} (l : Launch) (hst : l.stackTraces = false) {b : Nat} {xs : Nat → Int32} (C0 : lw_At p s m meth c b 5 xs) (dC : Nat → ClassId) (dI : Nat → Nat → Nat) (g : Nat → Nat) (a0 a1 a2 a3 a4 a5 a6 a7 a8 a9 a10 a11 a12 a13 a14 a15 a16 a17 a18 a19 a20 a21 a22 a23 a24 a25 a26 a27 a28 a29 a30 a31 a32 a33 a34 a35 a36 : Nat) {A : Nat → Prop} (hAe : (fun q : Nat => s.heap.size ≤ q) = A) (hE : EV dC dI g A s) (hA : ∀ q : Nat, s.heap.size ≤ q → A q) (hbA : ¬ A b) (H : Heap) (locs : List Loc) (hP : va_P (dC, dI) CL [(a3, .inr (12, [.ref a4, .ref a5, .ref a6, .ref a7, .ref a8, .ref a9, .ref a10, .ref a11, .null, .ref a12, .ref a13, .int (0), .int (100), .int (0), .int (0), .int (-1), .long (0), .int (1)])), (a4, .inr (8, [.int (0), .ref a14, .ref a15, .ref a16, .ref a17, .int (0), .ref a18, .ref a19, .ref a20, .ref a21, .ref a22, .ref a23, .ref a24])), (a2, .inr (15, [.int (0), .int (0), .int (100), .int (0), .int (0), .ref a25, .ref a26, .ref a27, .ref a28, .ref a29, .ref a30, .ref a31, .ref a32, .ref a33, .ref a34, .ref a35, .null, .int (-1), .ref a36, .long (0)]))] H) (hD : va_D A [(a3, .inr (12, [.ref a4, .ref a5, .ref a6, .ref a7, .ref a8, .ref a9, .ref a10, .ref a11, .null, .ref a12, .ref a13, .int (0), .int (100), .int (0), .int (0), .int (-1), .long (0), .int (1)])), (a4, .inr (8, [.int (0), .ref a14, .ref a15, .ref a16, .ref a17, .int (0), .ref a18, .ref a19, .ref a20, .ref a21, .ref a22, .ref a23, .ref a24])), (a2, .inr (15, [.int (0), .int (0), .int (100), .int (0), .int (0), .ref a25, .ref a26, .ref a27, .ref a28, .ref a29, .ref a30, .ref a31, .ref a32, .ref a33, .ref a34, .ref a35, .null, .int (-1), .ref a36, .long (0)]))]) (hS : va_S A s.heap H locs) (ls : Array Slot) (hl : lv_has ls 9 [(5, .int (0)), (4, .ref a0), (3, .ref a1), (2, .ref a2), (1, .ref a3), (0, .ref b)]) :
    W p l e room_1 s m #[Value.ref b] below meth c H locs 243 2771 (lw_Z below #[Value.ref b] s) (F0 m 44 ls [.int (14)]) := by
  obtain ⟨hx, hb, hr, hml, hown, hts0, hXs, hbl, hlk, hgv⟩ := id C0
  have hts : ∀ w ∈ AW, w.before #[Value.ref b] s = true := fun w h => hts0 w (aw_tbl h)
  have hown : s.vm.findClass "MinestrataLaw" = some m.cls := hown
  have hK := hE.1
  obtain ⟨s1, es1⟩ : ∃ y : Int32, xs (Int32.toNatClampNeg (1)) = y := ⟨_, rfl⟩
  obtain ⟨s2, es2⟩ : ∃ y : Int32, xs (Int32.toNatClampNeg (2)) = y := ⟨_, rfl⟩
  obtain ⟨s3, es3⟩ : ∃ y : Int32, xs (Int32.toNatClampNeg (3)) = y := ⟨_, rfl⟩
  obtain ⟨s4, es4⟩ : ∃ y : Int32, xs (Int32.toNatClampNeg (4)) = y := ⟨_, rfl⟩
  refine lv_tableIn (tgt := 1120) (off := 1076) hx hb dL_law_44 (by decide +kernel) (by decide +kernel) rfl (by decide +kernel) ?_
  refine lv_aload_n hx hb dL_law_1120 rfl (lv_at hl 4 rfl) ?_
  refine lv_aload_n hx hb dL_law_1121 rfl (lv_at hl 5 rfl) ?_
  refine lv_iload hx hb dL_law_1122 (lv_at hl 0 rfl) ?_
  refine lv_iconst (v := (1)) hx hb dL_law_1124 (by decide +kernel) ?_
  refine lv_iadd hx hb dL_law_1125 ?_
  refine nt_i (v := (1)) (by decide +kernel) ?_
  refine va_sld hx hb hXs hbl hbA hS (show ¬ ((1 : Int32) < 0 ∨ 5 ≤ Int32.toNatClampNeg (1)) by decide +kernel) dL_law_1126 ?_
  refine nt_i (v := s1) es1 ?_
  refine lv_aload_n hx hb dL_law_1127 rfl (lv_at hl 2 rfl) ?_
  have hX : nCx p s m _ c code 9 "MinestrataLaw" dC dI g A [(a3, .inr (12, [.ref a4, .ref a5, .ref a6, .ref a7, .ref a8, .ref a9, .ref a10, .ref a11, .null, .ref a12, .ref a13, .int (0), .int (100), .int (0), .int (0), .int (-1), .long (0), .int (1)])), (a4, .inr (8, [.int (0), .ref a14, .ref a15, .ref a16, .ref a17, .int (0), .ref a18, .ref a19, .ref a20, .ref a21, .ref a22, .ref a23, .ref a24])), (a2, .inr (15, [.int (0), .int (0), .int (100), .int (0), .int (0), .ref a25, .ref a26, .ref a27, .ref a28, .ref a29, .ref a30, .ref a31, .ref a32, .ref a33, .ref a34, .ref a35, .null, .int (-1), .ref a36, .long (0)]))] _ _ := ⟨⟨hx, hb, hml, hown, hts⟩, hE, hS, hA, hP, hD⟩
  refine n_call (wr := [(a2, .inr (15, [.int (0), .int (0), .int (100), .int (0), .int (0), .ref a25, .ref a26, .ref a27, .ref a28, .ref a29, .ref a30, .ref a31, .ref a32, .ref a33, .ref a34, .ref a35, .null, .int (-1), .ref a36, .long (0)]))]) hX (n_runSW (n := 3) (wc := [(a3, .inr (12, [.ref a4, .ref a5, .ref a6, .ref a7, .ref a8, .ref a9, .ref a10, .ref a11, .null, .ref a12, .ref a13, .int (0), .int (100), .int (0), .int (0), .int (-1), .long (0), .int (1)])), (a4, .inr (8, [.int (0), .ref a14, .ref a15, .ref a16, .ref a17, .int (0), .ref a18, .ref a19, .ref a20, .ref a21, .ref a22, .ref a23, .ref a24]))]) (As := [.ref a3, .int s1, .ref a1]) (rest := []) hX (m303 l hst dC dI g a3 a1 a4 a5 a6 a7 a8 a9 a10 a11 a12 a13 a14 a15 a16 a17 a18 a19 a20 a21 a22 a23 a24 s1 _) [0, 1] rfl (by decide +kernel) q1172 q1173 q70 q1174 (by decide +kernel) ⟨(Nat.le_of_ble_eq_true rfl), (Nat.le_of_ble_eq_true rfl)⟩ ⟨(Nat.le_of_ble_eq_true rfl), (Nat.le_of_ble_eq_true rfl)⟩ hl.1 rfl rfl (Nat.le_of_ble_eq_true rfl) dL_law_1128) [0, 1] [2] rfl rfl (by decide +kernel) (by decide +kernel) (fun f1 r2 H locs hP hD hS => ?_)
  have hP : va_P (dC, dI) CL [(a2, .inr (15, [.int (0), .int (0), .int (100), .int (0), .int (0), .ref a25, .ref a26, .ref a27, .ref a28, .ref a29, .ref a30, .ref a31, .ref a32, .ref a33, .ref a34, .ref a35, .null, .int (-1), .ref a36, .long (0)]))] _ := hP
  have hD : va_D A [(a2, .inr (15, [.int (0), .int (0), .int (100), .int (0), .int (0), .ref a25, .ref a26, .ref a27, .ref a28, .ref a29, .ref a30, .ref a31, .ref a32, .ref a33, .ref a34, .ref a35, .null, .int (-1), .ref a36, .long (0)]))] := hD
  refine W.widen (k := 244) (n := 2777) (Nat.le_of_ble_eq_true rfl) (Nat.le_of_ble_eq_true rfl) ?_
  refine W.eq (g2 := F0 m 1131 ls [.int (1)]) rfl ?_
  refine lv_istore (lv' := [(6, .int (1)), (5, .int (0)), (4, .ref a0), (3, .ref a1), (2, .ref a2), (1, .ref a3), (0, .ref b)]) hx hb dL_law_1131 hl (by decide) rfl (fun ls hl => ?_)
  refine lv_aload_n hx hb dL_law_1133 rfl (lv_at hl 4 rfl) ?_
  refine lv_aload_n hx hb dL_law_1134 rfl (lv_at hl 6 rfl) ?_
  refine lv_iload hx hb dL_law_1135 (lv_at hl 1 rfl) ?_
  refine lv_iconst (v := (1)) hx hb dL_law_1137 (by decide +kernel) ?_
  refine lv_iadd hx hb dL_law_1138 ?_
  refine nt_i (v := (1)) (by decide +kernel) ?_
  refine va_sld hx hb hXs hbl hbA hS (show ¬ ((1 : Int32) < 0 ∨ 5 ≤ Int32.toNatClampNeg (1)) by decide +kernel) dL_law_1139 ?_
  refine nt_i (v := s1) es1 ?_
  have hX : nCx p s m _ c code 9 "MinestrataLaw" dC dI g A [(a2, .inr (15, [.int (0), .int (0), .int (100), .int (0), .int (0), .ref a25, .ref a26, .ref a27, .ref a28, .ref a29, .ref a30, .ref a31, .ref a32, .ref a33, .ref a34, .ref a35, .null, .int (-1), .ref a36, .long (0)]))] _ _ := ⟨⟨hx, hb, hml, hown, hts⟩, hE, hS, hA, hP, hD⟩
  refine n_call (wr := []) hX (n_runV (n := 1) (wc := [(a2, .inr (15, [.int (0), .int (0), .int (100), .int (0), .int (0), .ref a25, .ref a26, .ref a27, .ref a28, .ref a29, .ref a30, .ref a31, .ref a32, .ref a33, .ref a34, .ref a35, .null, .int (-1), .ref a36, .long (0)]))]) (As := [.int s1]) (rest := []) hX (m304 l hst dC dI g a2 a25 a26 a27 a28 a29 a30 a31 a32 a33 a34 a35 a36 s1 _) [0] rfl (by decide +kernel) 0 (ci := 15) rfl (T := TX16) (N := 20) (C := "MinestrataModel") rfl q1964 q1965 q1966 q82 q1967 (by decide +kernel) ⟨(Nat.le_of_ble_eq_true rfl), (Nat.le_of_ble_eq_true rfl)⟩ ⟨(Nat.le_of_ble_eq_true rfl), (Nat.le_of_ble_eq_true rfl)⟩ hl.1 rfl rfl (Nat.le_of_ble_eq_true rfl) dL_law_1140) [0] [] rfl rfl (by decide +kernel) (by decide +kernel) (fun f3 r4 H locs hP hD hS => ?_)
  have hP : va_P (dC, dI) CL [(a2, .inr (15, [.int (1), .int (0), .int (100), .int (0), .int (0), .ref a25, .ref a26, .ref a27, .ref a28, .ref a29, .ref a30, .ref a31, .ref a32, .ref a33, .ref a34, .ref a35, .null, .int (-1), .ref a36, .long (0)]))] _ := hP
  have hD : va_D A [(a2, .inr (15, [.int (1), .int (0), .int (100), .int (0), .int (0), .ref a25, .ref a26, .ref a27, .ref a28, .ref a29, .ref a30, .ref a31, .ref a32, .ref a33, .ref a34, .ref a35, .null, .int (-1), .ref a36, .long (0)]))] := hD
  refine W.widen (k := 244) (n := 2777) (Nat.le_of_ble_eq_true rfl) (Nat.le_of_ble_eq_true rfl) ?_
  refine W.eq (g2 := F0 m 1143 ls [.int (0)]) rfl ?_
  refine lv_istore (lv' := [(7, .int (0)), (6, .int (1)), (5, .int (0)), (4, .ref a0), (3, .ref a1), (2, .ref a2), (1, .ref a3), (0, .ref b)]) hx hb dL_law_1143 hl (by decide) rfl (fun ls hl => ?_)
  refine lv_aload_n hx hb dL_law_1145 rfl (lv_at hl 5 rfl) ?_
  have hX : nCx p s m _ c code 9 "MinestrataLaw" dC dI g A [(a2, .inr (15, [.int (1), .int (0), .int (100), .int (0), .int (0), .ref a25, .ref a26, .ref a27, .ref a28, .ref a29, .ref a30, .ref a31, .ref a32, .ref a33, .ref a34, .ref a35, .null, .int (-1), .ref a36, .long (0)]))] _ _ := ⟨⟨hx, hb, hml, hown, hts⟩, hE, hS, hA, hP, hD⟩
  refine n_call (wr := []) hX (n_runV (n := 0) (wc := [(a2, .inr (15, [.int (1), .int (0), .int (100), .int (0), .int (0), .ref a25, .ref a26, .ref a27, .ref a28, .ref a29, .ref a30, .ref a31, .ref a32, .ref a33, .ref a34, .ref a35, .null, .int (-1), .ref a36, .long (0)]))]) (As := []) (rest := []) hX (m33 l hst dC dI g a2 a25 a26 a27 a28 a29 a30 a31 a32 a33 a34 a35 a36 _) [0] rfl (by decide +kernel) 0 (ci := 15) rfl (T := TX16) (N := 20) (C := "MinestrataModel") rfl q1495 q1496 q1497 q82 q1498 (by decide +kernel) ⟨(Nat.le_of_ble_eq_true rfl), (Nat.le_of_ble_eq_true rfl)⟩ ⟨(Nat.le_of_ble_eq_true rfl), (Nat.le_of_ble_eq_true rfl)⟩ hl.1 rfl rfl (Nat.le_of_ble_eq_true rfl) dL_law_1146) [0] [] rfl rfl (by decide +kernel) (by decide +kernel) (fun f5 r6 H locs hP hD hS => ?_)
  have hP : va_P (dC, dI) CL [(a2, .inr (15, [.int (1), .int (0), .int (100), .int (0), .int (0), .ref a25, .ref a26, .ref a27, .ref a28, .ref a29, .ref a30, .ref a31, .ref a32, .ref a33, .ref a34, .ref a35, .null, .int (-1), .ref a36, .long (0)]))] _ := hP
  have hD : va_D A [(a2, .inr (15, [.int (1), .int (0), .int (100), .int (0), .int (0), .ref a25, .ref a26, .ref a27, .ref a28, .ref a29, .ref a30, .ref a31, .ref a32, .ref a33, .ref a34, .ref a35, .null, .int (-1), .ref a36, .long (0)]))] := hD
  refine W.widen (k := 244) (n := 2777) (Nat.le_of_ble_eq_true rfl) (Nat.le_of_ble_eq_true rfl) ?_
  refine W.eq (g2 := F0 m 1149 ls [.int (1)]) rfl ?_
  refine lv_iload hx hb dL_law_1149 (lv_at hl 1 rfl) ?_
  refine lv_icmp_eq (tgt := 1156) hx hb dL_law_1151 (by decide +kernel) (fun _ => ?_) (fun h => absurd (by decide +kernel) h)
  refine lv_iload hx hb dL_law_1156 (lv_at hl 1 rfl) ?_
  refine lv_if_ne (tgt := 1180) hx hb dL_law_1158 (by decide +kernel) (fun _ => ?_) (fun h => absurd h (by decide +kernel))
  refine lv_goto (tgt := 2278) hx hb dL_law_1180 (by decide +kernel) ?_
  refine lv_iinc (v := (5)) (lv' := [(5, .int (5)), (7, .int (0)), (6, .int (1)), (4, .ref a0), (3, .ref a1), (2, .ref a2), (1, .ref a3), (0, .ref b)]) hx hb dL_law_2278 hl (k := 2) rfl (by decide +kernel) (by decide) rfl (fun ls hl => ?_)
  refine lv_goto (tgt := 28) hx hb dL_law_2281 (by decide +kernel) ?_
  refine lv_iload hx hb dL_law_28 (lv_at hl 0 rfl) ?_
  refine lv_aload_n hx hb dL_law_30 rfl (lv_at hl 7 rfl) ?_
  refine va_slen hx hb hXs hbl hbA hS dL_law_31 ?_
  refine nt_i (v := (5)) (by decide +kernel) ?_
  refine lv_iconst (v := (5)) hx hb dL_law_32 (by decide +kernel) ?_
  refine lv_isub hx hb dL_law_33 ?_
  refine nt_i (v := (0)) (by decide +kernel) ?_
  refine lv_icmp_gt (tgt := 2284) hx hb dL_law_34 (by decide +kernel) (fun _ => ?_) (fun h => absurd (by decide +kernel) h)
  refine lv_iconst (v := (1)) hx hb dL_law_2284 (by decide +kernel) ?_
  refine va_forget (fun q9 hq9 => by have h9 := hS.2.2 q9 hq9; rw [← hAe] at h9; exact h9) ?_
  refine W.widen (k := 600006) (n := 7302056) (Nat.le_of_ble_eq_true rfl) (Nat.le_of_ble_eq_true rfl) ?_
  refine W.base ?_
  exact lw_ret (Drawn.sameBut.refl s.drawn lw_cs) hx hb hr hlk dL_law_2285

set_option maxHeartbeats 4000000 in
set_option maxRecDepth 100000 in
theorem lc_15 {p : Program} {e : Env} {s : State} {m : MethodId} {below : List Frame} {meth : Method} {c : Code} (l : Launch) (hst : l.stackTraces = false) {b : Nat} {xs : Nat → Int32} (C0 : lw_At p s m meth c b 5 xs) (dC : Nat → ClassId) (dI : Nat → Nat → Nat) (g : Nat → Nat) (a0 a1 a2 a3 a4 a5 a6 a7 a8 a9 a10 a11 a12 a13 a14 a15 a16 a17 a18 a19 a20 a21 a22 a23 a24 a25 a26 a27 a28 a29 a30 a31 a32 a33 a34 a35 a36 : Nat) {A : Nat → Prop} (hAe : (fun q : Nat => s.heap.size ≤ q) = A) (hE : EV dC dI g A s) (hA : ∀ q : Nat, s.heap.size ≤ q → A q) (hbA : ¬ A b) (H : Heap) (locs : List Loc) (hP : va_P (dC, dI) CL [(a3, .inr (12, [.ref a4, .ref a5, .ref a6, .ref a7, .ref a8, .ref a9, .ref a10, .ref a11, .null, .ref a12, .ref a13, .int (0), .int (100), .int (0), .int (0), .int (-1), .long (0), .int (1)])), (a4, .inr (8, [.int (0), .ref a14, .ref a15, .ref a16, .ref a17, .int (0), .ref a18, .ref a19, .ref a20, .ref a21, .ref a22, .ref a23, .ref a24])), (a2, .inr (15, [.int (0), .int (0), .int (100), .int (0), .int (0), .ref a25, .ref a26, .ref a27, .ref a28, .ref a29, .ref a30, .ref a31, .ref a32, .ref a33, .ref a34, .ref a35, .null, .int (-1), .ref a36, .long (0)]))] H) (hD : va_D A [(a3, .inr (12, [.ref a4, .ref a5, .ref a6, .ref a7, .ref a8, .ref a9, .ref a10, .ref a11, .null, .ref a12, .ref a13, .int (0), .int (100), .int (0), .int (0), .int (-1), .long (0), .int (1)])), (a4, .inr (8, [.int (0), .ref a14, .ref a15, .ref a16, .ref a17, .int (0), .ref a18, .ref a19, .ref a20, .ref a21, .ref a22, .ref a23, .ref a24])), (a2, .inr (15, [.int (0), .int (0), .int (100), .int (0), .int (0), .ref a25, .ref a26, .ref a27, .ref a28, .ref a29, .ref a30, .ref a31, .ref a32, .ref a33, .ref a34, .ref a35, .null, .int (-1), .ref a36, .long (0)]))]) (hS : va_S A s.heap H locs) (ls : Array Slot) (hl : lv_has ls 9 [(5, .int (0)), (4, .ref a0), (3, .ref a1), (2, .ref a2), (1, .ref a3), (0, .ref b)]) :
    W p l e room_1 s m #[Value.ref b] below meth c H locs 243 2771 (lw_Z below #[Value.ref b] s) (F0 m 44 ls [.int (15)]) := by
  obtain ⟨hx, hb, hr, hml, hown, hts0, hXs, hbl, hlk, hgv⟩ := id C0
  have hts : ∀ w ∈ AW, w.before #[Value.ref b] s = true := fun w h => hts0 w (aw_tbl h)
  have hown : s.vm.findClass "MinestrataLaw" = some m.cls := hown
  have hK := hE.1
  obtain ⟨s1, es1⟩ : ∃ y : Int32, xs (Int32.toNatClampNeg (1)) = y := ⟨_, rfl⟩
  obtain ⟨s2, es2⟩ : ∃ y : Int32, xs (Int32.toNatClampNeg (2)) = y := ⟨_, rfl⟩
  obtain ⟨s3, es3⟩ : ∃ y : Int32, xs (Int32.toNatClampNeg (3)) = y := ⟨_, rfl⟩
  obtain ⟨s4, es4⟩ : ∃ y : Int32, xs (Int32.toNatClampNeg (4)) = y := ⟨_, rfl⟩
  refine lv_tableIn (tgt := 1183) (off := 1139) hx hb dL_law_44 (by decide +kernel) (by decide +kernel) rfl (by decide +kernel) ?_
  refine lv_aload_n hx hb dL_law_1183 rfl (lv_at hl 4 rfl) ?_
  refine lv_aload_n hx hb dL_law_1184 rfl (lv_at hl 5 rfl) ?_
  refine lv_iload hx hb dL_law_1185 (lv_at hl 0 rfl) ?_
  refine lv_iconst (v := (1)) hx hb dL_law_1187 (by decide +kernel) ?_
  refine lv_iadd hx hb dL_law_1188 ?_
  refine nt_i (v := (1)) (by decide +kernel) ?_
  refine va_sld hx hb hXs hbl hbA hS (show ¬ ((1 : Int32) < 0 ∨ 5 ≤ Int32.toNatClampNeg (1)) by decide +kernel) dL_law_1189 ?_
  refine nt_i (v := s1) es1 ?_
  refine lv_aload_n hx hb dL_law_1190 rfl (lv_at hl 2 rfl) ?_
  have hX : nCx p s m _ c code 9 "MinestrataLaw" dC dI g A [(a3, .inr (12, [.ref a4, .ref a5, .ref a6, .ref a7, .ref a8, .ref a9, .ref a10, .ref a11, .null, .ref a12, .ref a13, .int (0), .int (100), .int (0), .int (0), .int (-1), .long (0), .int (1)])), (a4, .inr (8, [.int (0), .ref a14, .ref a15, .ref a16, .ref a17, .int (0), .ref a18, .ref a19, .ref a20, .ref a21, .ref a22, .ref a23, .ref a24])), (a2, .inr (15, [.int (0), .int (0), .int (100), .int (0), .int (0), .ref a25, .ref a26, .ref a27, .ref a28, .ref a29, .ref a30, .ref a31, .ref a32, .ref a33, .ref a34, .ref a35, .null, .int (-1), .ref a36, .long (0)]))] _ _ := ⟨⟨hx, hb, hml, hown, hts⟩, hE, hS, hA, hP, hD⟩
  refine n_call (wr := [(a2, .inr (15, [.int (0), .int (0), .int (100), .int (0), .int (0), .ref a25, .ref a26, .ref a27, .ref a28, .ref a29, .ref a30, .ref a31, .ref a32, .ref a33, .ref a34, .ref a35, .null, .int (-1), .ref a36, .long (0)]))]) hX (n_runSW (n := 3) (wc := [(a3, .inr (12, [.ref a4, .ref a5, .ref a6, .ref a7, .ref a8, .ref a9, .ref a10, .ref a11, .null, .ref a12, .ref a13, .int (0), .int (100), .int (0), .int (0), .int (-1), .long (0), .int (1)])), (a4, .inr (8, [.int (0), .ref a14, .ref a15, .ref a16, .ref a17, .int (0), .ref a18, .ref a19, .ref a20, .ref a21, .ref a22, .ref a23, .ref a24]))]) (As := [.ref a3, .int s1, .ref a1]) (rest := []) hX (m306 l hst dC dI g a3 a1 a4 a5 a6 a7 a8 a9 a10 a11 a12 a13 a14 a15 a16 a17 a18 a19 a20 a21 a22 a23 a24 s1 _) [0, 1] rfl (by decide +kernel) q1179 q1180 q70 q1181 (by decide +kernel) ⟨(Nat.le_of_ble_eq_true rfl), (Nat.le_of_ble_eq_true rfl)⟩ ⟨(Nat.le_of_ble_eq_true rfl), (Nat.le_of_ble_eq_true rfl)⟩ hl.1 rfl rfl (Nat.le_of_ble_eq_true rfl) dL_law_1191) [0, 1] [2] rfl rfl (by decide +kernel) (by decide +kernel) (fun f1 r2 H locs hP hD hS => ?_)
  have hP : va_P (dC, dI) CL [(a2, .inr (15, [.int (0), .int (0), .int (100), .int (0), .int (0), .ref a25, .ref a26, .ref a27, .ref a28, .ref a29, .ref a30, .ref a31, .ref a32, .ref a33, .ref a34, .ref a35, .null, .int (-1), .ref a36, .long (0)]))] _ := hP
  have hD : va_D A [(a2, .inr (15, [.int (0), .int (0), .int (100), .int (0), .int (0), .ref a25, .ref a26, .ref a27, .ref a28, .ref a29, .ref a30, .ref a31, .ref a32, .ref a33, .ref a34, .ref a35, .null, .int (-1), .ref a36, .long (0)]))] := hD
  refine W.widen (k := 244) (n := 2777) (Nat.le_of_ble_eq_true rfl) (Nat.le_of_ble_eq_true rfl) ?_
  refine W.eq (g2 := F0 m 1194 ls [.int (1)]) rfl ?_
  refine lv_istore (lv' := [(6, .int (1)), (5, .int (0)), (4, .ref a0), (3, .ref a1), (2, .ref a2), (1, .ref a3), (0, .ref b)]) hx hb dL_law_1194 hl (by decide) rfl (fun ls hl => ?_)
  refine lv_aload_n hx hb dL_law_1196 rfl (lv_at hl 4 rfl) ?_
  refine lv_aload_n hx hb dL_law_1197 rfl (lv_at hl 6 rfl) ?_
  refine lv_iload hx hb dL_law_1198 (lv_at hl 1 rfl) ?_
  refine lv_iconst (v := (1)) hx hb dL_law_1200 (by decide +kernel) ?_
  refine lv_iadd hx hb dL_law_1201 ?_
  refine nt_i (v := (1)) (by decide +kernel) ?_
  refine va_sld hx hb hXs hbl hbA hS (show ¬ ((1 : Int32) < 0 ∨ 5 ≤ Int32.toNatClampNeg (1)) by decide +kernel) dL_law_1202 ?_
  refine nt_i (v := s1) es1 ?_
  have hX : nCx p s m _ c code 9 "MinestrataLaw" dC dI g A [(a2, .inr (15, [.int (0), .int (0), .int (100), .int (0), .int (0), .ref a25, .ref a26, .ref a27, .ref a28, .ref a29, .ref a30, .ref a31, .ref a32, .ref a33, .ref a34, .ref a35, .null, .int (-1), .ref a36, .long (0)]))] _ _ := ⟨⟨hx, hb, hml, hown, hts⟩, hE, hS, hA, hP, hD⟩
  refine n_call (wr := []) hX (n_runV (n := 1) (wc := [(a2, .inr (15, [.int (0), .int (0), .int (100), .int (0), .int (0), .ref a25, .ref a26, .ref a27, .ref a28, .ref a29, .ref a30, .ref a31, .ref a32, .ref a33, .ref a34, .ref a35, .null, .int (-1), .ref a36, .long (0)]))]) (As := [.int s1]) (rest := []) hX (m307 l hst dC dI g a2 a25 a26 a27 a28 a29 a30 a31 a32 a33 a34 a35 a36 s1 _) [0] rfl (by decide +kernel) 0 (ci := 15) rfl (T := TX16) (N := 20) (C := "MinestrataModel") rfl q1990 q1991 q1992 q82 q1993 (by decide +kernel) ⟨(Nat.le_of_ble_eq_true rfl), (Nat.le_of_ble_eq_true rfl)⟩ ⟨(Nat.le_of_ble_eq_true rfl), (Nat.le_of_ble_eq_true rfl)⟩ hl.1 rfl rfl (Nat.le_of_ble_eq_true rfl) dL_law_1203) [0] [] rfl rfl (by decide +kernel) (by decide +kernel) (fun f3 r4 H locs hP hD hS => ?_)
  have hP : va_P (dC, dI) CL [(a2, .inr (15, [.int (1), .int (0), .int (100), .int (0), .int (0), .ref a25, .ref a26, .ref a27, .ref a28, .ref a29, .ref a30, .ref a31, .ref a32, .ref a33, .ref a34, .ref a35, .null, .int (-1), .ref a36, .long (0)]))] _ := hP
  have hD : va_D A [(a2, .inr (15, [.int (1), .int (0), .int (100), .int (0), .int (0), .ref a25, .ref a26, .ref a27, .ref a28, .ref a29, .ref a30, .ref a31, .ref a32, .ref a33, .ref a34, .ref a35, .null, .int (-1), .ref a36, .long (0)]))] := hD
  refine W.widen (k := 244) (n := 2777) (Nat.le_of_ble_eq_true rfl) (Nat.le_of_ble_eq_true rfl) ?_
  refine W.eq (g2 := F0 m 1206 ls [.int (0)]) rfl ?_
  refine lv_istore (lv' := [(7, .int (0)), (6, .int (1)), (5, .int (0)), (4, .ref a0), (3, .ref a1), (2, .ref a2), (1, .ref a3), (0, .ref b)]) hx hb dL_law_1206 hl (by decide) rfl (fun ls hl => ?_)
  refine lv_aload_n hx hb dL_law_1208 rfl (lv_at hl 5 rfl) ?_
  have hX : nCx p s m _ c code 9 "MinestrataLaw" dC dI g A [(a2, .inr (15, [.int (1), .int (0), .int (100), .int (0), .int (0), .ref a25, .ref a26, .ref a27, .ref a28, .ref a29, .ref a30, .ref a31, .ref a32, .ref a33, .ref a34, .ref a35, .null, .int (-1), .ref a36, .long (0)]))] _ _ := ⟨⟨hx, hb, hml, hown, hts⟩, hE, hS, hA, hP, hD⟩
  refine n_call (wr := []) hX (n_runV (n := 0) (wc := [(a2, .inr (15, [.int (1), .int (0), .int (100), .int (0), .int (0), .ref a25, .ref a26, .ref a27, .ref a28, .ref a29, .ref a30, .ref a31, .ref a32, .ref a33, .ref a34, .ref a35, .null, .int (-1), .ref a36, .long (0)]))]) (As := []) (rest := []) hX (m33 l hst dC dI g a2 a25 a26 a27 a28 a29 a30 a31 a32 a33 a34 a35 a36 _) [0] rfl (by decide +kernel) 0 (ci := 15) rfl (T := TX16) (N := 20) (C := "MinestrataModel") rfl q1495 q1496 q1497 q82 q1498 (by decide +kernel) ⟨(Nat.le_of_ble_eq_true rfl), (Nat.le_of_ble_eq_true rfl)⟩ ⟨(Nat.le_of_ble_eq_true rfl), (Nat.le_of_ble_eq_true rfl)⟩ hl.1 rfl rfl (Nat.le_of_ble_eq_true rfl) dL_law_1209) [0] [] rfl rfl (by decide +kernel) (by decide +kernel) (fun f5 r6 H locs hP hD hS => ?_)
  have hP : va_P (dC, dI) CL [(a2, .inr (15, [.int (1), .int (0), .int (100), .int (0), .int (0), .ref a25, .ref a26, .ref a27, .ref a28, .ref a29, .ref a30, .ref a31, .ref a32, .ref a33, .ref a34, .ref a35, .null, .int (-1), .ref a36, .long (0)]))] _ := hP
  have hD : va_D A [(a2, .inr (15, [.int (1), .int (0), .int (100), .int (0), .int (0), .ref a25, .ref a26, .ref a27, .ref a28, .ref a29, .ref a30, .ref a31, .ref a32, .ref a33, .ref a34, .ref a35, .null, .int (-1), .ref a36, .long (0)]))] := hD
  refine W.widen (k := 244) (n := 2777) (Nat.le_of_ble_eq_true rfl) (Nat.le_of_ble_eq_true rfl) ?_
  refine W.eq (g2 := F0 m 1212 ls [.int (1)]) rfl ?_
  refine lv_iload hx hb dL_law_1212 (lv_at hl 1 rfl) ?_
  refine lv_icmp_eq (tgt := 1219) hx hb dL_law_1214 (by decide +kernel) (fun _ => ?_) (fun h => absurd (by decide +kernel) h)
  refine lv_iload hx hb dL_law_1219 (lv_at hl 1 rfl) ?_
  refine lv_if_ne (tgt := 1236) hx hb dL_law_1221 (by decide +kernel) (fun _ => ?_) (fun h => absurd h (by decide +kernel))
  refine lv_goto (tgt := 2278) hx hb dL_law_1236 (by decide +kernel) ?_
  refine lv_iinc (v := (5)) (lv' := [(5, .int (5)), (7, .int (0)), (6, .int (1)), (4, .ref a0), (3, .ref a1), (2, .ref a2), (1, .ref a3), (0, .ref b)]) hx hb dL_law_2278 hl (k := 2) rfl (by decide +kernel) (by decide) rfl (fun ls hl => ?_)
  refine lv_goto (tgt := 28) hx hb dL_law_2281 (by decide +kernel) ?_
  refine lv_iload hx hb dL_law_28 (lv_at hl 0 rfl) ?_
  refine lv_aload_n hx hb dL_law_30 rfl (lv_at hl 7 rfl) ?_
  refine va_slen hx hb hXs hbl hbA hS dL_law_31 ?_
  refine nt_i (v := (5)) (by decide +kernel) ?_
  refine lv_iconst (v := (5)) hx hb dL_law_32 (by decide +kernel) ?_
  refine lv_isub hx hb dL_law_33 ?_
  refine nt_i (v := (0)) (by decide +kernel) ?_
  refine lv_icmp_gt (tgt := 2284) hx hb dL_law_34 (by decide +kernel) (fun _ => ?_) (fun h => absurd (by decide +kernel) h)
  refine lv_iconst (v := (1)) hx hb dL_law_2284 (by decide +kernel) ?_
  refine va_forget (fun q9 hq9 => by have h9 := hS.2.2 q9 hq9; rw [← hAe] at h9; exact h9) ?_
  refine W.widen (k := 600006) (n := 7302056) (Nat.le_of_ble_eq_true rfl) (Nat.le_of_ble_eq_true rfl) ?_
  refine W.base ?_
  exact lw_ret (Drawn.sameBut.refl s.drawn lw_cs) hx hb hr hlk dL_law_2285

set_option maxHeartbeats 4000000 in
set_option maxRecDepth 100000 in
theorem lc_16 {p : Program} {e : Env} {s : State} {m : MethodId} {below : List Frame} {meth : Method} {c : Code} (l : Launch) (hst : l.stackTraces = false) {b : Nat} {xs : Nat → Int32} (C0 : lw_At p s m meth c b 5 xs) (dC : Nat → ClassId) (dI : Nat → Nat → Nat) (g : Nat → Nat) (a0 a1 a2 a3 a4 a5 a6 a7 a8 a9 a10 a11 a12 a13 a14 a15 a16 a17 a18 a19 a20 a21 a22 a23 a24 a25 a26 a27 a28 a29 a30 a31 a32 a33 a34 a35 a36 : Nat) {A : Nat → Prop} (hAe : (fun q : Nat => s.heap.size ≤ q) = A) (hE : EV dC dI g A s) (hA : ∀ q : Nat, s.heap.size ≤ q → A q) (hbA : ¬ A b) (H : Heap) (locs : List Loc) (hP : va_P (dC, dI) CL [(a3, .inr (12, [.ref a4, .ref a5, .ref a6, .ref a7, .ref a8, .ref a9, .ref a10, .ref a11, .null, .ref a12, .ref a13, .int (0), .int (100), .int (0), .int (0), .int (-1), .long (0), .int (1)])), (a4, .inr (8, [.int (0), .ref a14, .ref a15, .ref a16, .ref a17, .int (0), .ref a18, .ref a19, .ref a20, .ref a21, .ref a22, .ref a23, .ref a24])), (a2, .inr (15, [.int (0), .int (0), .int (100), .int (0), .int (0), .ref a25, .ref a26, .ref a27, .ref a28, .ref a29, .ref a30, .ref a31, .ref a32, .ref a33, .ref a34, .ref a35, .null, .int (-1), .ref a36, .long (0)]))] H) (hD : va_D A [(a3, .inr (12, [.ref a4, .ref a5, .ref a6, .ref a7, .ref a8, .ref a9, .ref a10, .ref a11, .null, .ref a12, .ref a13, .int (0), .int (100), .int (0), .int (0), .int (-1), .long (0), .int (1)])), (a4, .inr (8, [.int (0), .ref a14, .ref a15, .ref a16, .ref a17, .int (0), .ref a18, .ref a19, .ref a20, .ref a21, .ref a22, .ref a23, .ref a24])), (a2, .inr (15, [.int (0), .int (0), .int (100), .int (0), .int (0), .ref a25, .ref a26, .ref a27, .ref a28, .ref a29, .ref a30, .ref a31, .ref a32, .ref a33, .ref a34, .ref a35, .null, .int (-1), .ref a36, .long (0)]))]) (hS : va_S A s.heap H locs) (ls : Array Slot) (hl : lv_has ls 9 [(5, .int (0)), (4, .ref a0), (3, .ref a1), (2, .ref a2), (1, .ref a3), (0, .ref b)]) :
    W p l e room_1 s m #[Value.ref b] below meth c H locs 243 2771 (lw_Z below #[Value.ref b] s) (F0 m 44 ls [.int (16)]) := by
  obtain ⟨hx, hb, hr, hml, hown, hts0, hXs, hbl, hlk, hgv⟩ := id C0
  have hts : ∀ w ∈ AW, w.before #[Value.ref b] s = true := fun w h => hts0 w (aw_tbl h)
  have hown : s.vm.findClass "MinestrataLaw" = some m.cls := hown
  have hK := hE.1
  obtain ⟨s1, es1⟩ : ∃ y : Int32, xs (Int32.toNatClampNeg (1)) = y := ⟨_, rfl⟩
  obtain ⟨s2, es2⟩ : ∃ y : Int32, xs (Int32.toNatClampNeg (2)) = y := ⟨_, rfl⟩
  obtain ⟨s3, es3⟩ : ∃ y : Int32, xs (Int32.toNatClampNeg (3)) = y := ⟨_, rfl⟩
  obtain ⟨s4, es4⟩ : ∃ y : Int32, xs (Int32.toNatClampNeg (4)) = y := ⟨_, rfl⟩
  refine lv_tableIn (tgt := 1239) (off := 1195) hx hb dL_law_44 (by decide +kernel) (by decide +kernel) rfl (by decide +kernel) ?_
  refine lv_aload_n hx hb dL_law_1239 rfl (lv_at hl 4 rfl) ?_
  refine lv_aload_n hx hb dL_law_1240 rfl (lv_at hl 5 rfl) ?_
  refine lv_iload hx hb dL_law_1241 (lv_at hl 0 rfl) ?_
  refine lv_iconst (v := (1)) hx hb dL_law_1243 (by decide +kernel) ?_
  refine lv_iadd hx hb dL_law_1244 ?_
  refine nt_i (v := (1)) (by decide +kernel) ?_
  refine va_sld hx hb hXs hbl hbA hS (show ¬ ((1 : Int32) < 0 ∨ 5 ≤ Int32.toNatClampNeg (1)) by decide +kernel) dL_law_1245 ?_
  refine nt_i (v := s1) es1 ?_
  refine lv_aload_n hx hb dL_law_1246 rfl (lv_at hl 2 rfl) ?_
  have hX : nCx p s m _ c code 9 "MinestrataLaw" dC dI g A [(a3, .inr (12, [.ref a4, .ref a5, .ref a6, .ref a7, .ref a8, .ref a9, .ref a10, .ref a11, .null, .ref a12, .ref a13, .int (0), .int (100), .int (0), .int (0), .int (-1), .long (0), .int (1)])), (a4, .inr (8, [.int (0), .ref a14, .ref a15, .ref a16, .ref a17, .int (0), .ref a18, .ref a19, .ref a20, .ref a21, .ref a22, .ref a23, .ref a24])), (a2, .inr (15, [.int (0), .int (0), .int (100), .int (0), .int (0), .ref a25, .ref a26, .ref a27, .ref a28, .ref a29, .ref a30, .ref a31, .ref a32, .ref a33, .ref a34, .ref a35, .null, .int (-1), .ref a36, .long (0)]))] _ _ := ⟨⟨hx, hb, hml, hown, hts⟩, hE, hS, hA, hP, hD⟩
  refine n_call (wr := [(a2, .inr (15, [.int (0), .int (0), .int (100), .int (0), .int (0), .ref a25, .ref a26, .ref a27, .ref a28, .ref a29, .ref a30, .ref a31, .ref a32, .ref a33, .ref a34, .ref a35, .null, .int (-1), .ref a36, .long (0)]))]) hX (n_runSW (n := 3) (wc := [(a3, .inr (12, [.ref a4, .ref a5, .ref a6, .ref a7, .ref a8, .ref a9, .ref a10, .ref a11, .null, .ref a12, .ref a13, .int (0), .int (100), .int (0), .int (0), .int (-1), .long (0), .int (1)])), (a4, .inr (8, [.int (0), .ref a14, .ref a15, .ref a16, .ref a17, .int (0), .ref a18, .ref a19, .ref a20, .ref a21, .ref a22, .ref a23, .ref a24]))]) (As := [.ref a3, .int s1, .ref a1]) (rest := []) hX (m309 l hst dC dI g a3 a1 a4 a5 a6 a7 a8 a9 a10 a11 a12 a13 a14 a15 a16 a17 a18 a19 a20 a21 a22 a23 a24 s1 _) [0, 1] rfl (by decide +kernel) q1186 q1187 q70 q1188 (by decide +kernel) ⟨(Nat.le_of_ble_eq_true rfl), (Nat.le_of_ble_eq_true rfl)⟩ ⟨(Nat.le_of_ble_eq_true rfl), (Nat.le_of_ble_eq_true rfl)⟩ hl.1 rfl rfl (Nat.le_of_ble_eq_true rfl) dL_law_1247) [0, 1] [2] rfl rfl (by decide +kernel) (by decide +kernel) (fun f1 r2 H locs hP hD hS => ?_)
  have hP : va_P (dC, dI) CL [(a2, .inr (15, [.int (0), .int (0), .int (100), .int (0), .int (0), .ref a25, .ref a26, .ref a27, .ref a28, .ref a29, .ref a30, .ref a31, .ref a32, .ref a33, .ref a34, .ref a35, .null, .int (-1), .ref a36, .long (0)]))] _ := hP
  have hD : va_D A [(a2, .inr (15, [.int (0), .int (0), .int (100), .int (0), .int (0), .ref a25, .ref a26, .ref a27, .ref a28, .ref a29, .ref a30, .ref a31, .ref a32, .ref a33, .ref a34, .ref a35, .null, .int (-1), .ref a36, .long (0)]))] := hD
  refine W.widen (k := 244) (n := 2777) (Nat.le_of_ble_eq_true rfl) (Nat.le_of_ble_eq_true rfl) ?_
  refine W.eq (g2 := F0 m 1250 ls [.int (1)]) rfl ?_
  refine lv_istore (lv' := [(6, .int (1)), (5, .int (0)), (4, .ref a0), (3, .ref a1), (2, .ref a2), (1, .ref a3), (0, .ref b)]) hx hb dL_law_1250 hl (by decide) rfl (fun ls hl => ?_)
  refine lv_aload_n hx hb dL_law_1252 rfl (lv_at hl 4 rfl) ?_
  refine lv_aload_n hx hb dL_law_1253 rfl (lv_at hl 6 rfl) ?_
  refine lv_iload hx hb dL_law_1254 (lv_at hl 1 rfl) ?_
  refine lv_iconst (v := (1)) hx hb dL_law_1256 (by decide +kernel) ?_
  refine lv_iadd hx hb dL_law_1257 ?_
  refine nt_i (v := (1)) (by decide +kernel) ?_
  refine va_sld hx hb hXs hbl hbA hS (show ¬ ((1 : Int32) < 0 ∨ 5 ≤ Int32.toNatClampNeg (1)) by decide +kernel) dL_law_1258 ?_
  refine nt_i (v := s1) es1 ?_
  have hX : nCx p s m _ c code 9 "MinestrataLaw" dC dI g A [(a2, .inr (15, [.int (0), .int (0), .int (100), .int (0), .int (0), .ref a25, .ref a26, .ref a27, .ref a28, .ref a29, .ref a30, .ref a31, .ref a32, .ref a33, .ref a34, .ref a35, .null, .int (-1), .ref a36, .long (0)]))] _ _ := ⟨⟨hx, hb, hml, hown, hts⟩, hE, hS, hA, hP, hD⟩
  refine n_call (wr := []) hX (n_runV (n := 1) (wc := [(a2, .inr (15, [.int (0), .int (0), .int (100), .int (0), .int (0), .ref a25, .ref a26, .ref a27, .ref a28, .ref a29, .ref a30, .ref a31, .ref a32, .ref a33, .ref a34, .ref a35, .null, .int (-1), .ref a36, .long (0)]))]) (As := [.int s1]) (rest := []) hX (m310 l hst dC dI g a2 a25 a26 a27 a28 a29 a30 a31 a32 a33 a34 a35 a36 s1 _) [0] rfl (by decide +kernel) 0 (ci := 15) rfl (T := TX16) (N := 20) (C := "MinestrataModel") rfl q1994 q1995 q1996 q82 q1997 (by decide +kernel) ⟨(Nat.le_of_ble_eq_true rfl), (Nat.le_of_ble_eq_true rfl)⟩ ⟨(Nat.le_of_ble_eq_true rfl), (Nat.le_of_ble_eq_true rfl)⟩ hl.1 rfl rfl (Nat.le_of_ble_eq_true rfl) dL_law_1259) [0] [] rfl rfl (by decide +kernel) (by decide +kernel) (fun f3 r4 H locs hP hD hS => ?_)
  have hP : va_P (dC, dI) CL [(a2, .inr (15, [.int (1), .int (0), .int (100), .int (0), .int (0), .ref a25, .ref a26, .ref a27, .ref a28, .ref a29, .ref a30, .ref a31, .ref a32, .ref a33, .ref a34, .ref a35, .null, .int (-1), .ref a36, .long (0)]))] _ := hP
  have hD : va_D A [(a2, .inr (15, [.int (1), .int (0), .int (100), .int (0), .int (0), .ref a25, .ref a26, .ref a27, .ref a28, .ref a29, .ref a30, .ref a31, .ref a32, .ref a33, .ref a34, .ref a35, .null, .int (-1), .ref a36, .long (0)]))] := hD
  refine W.widen (k := 244) (n := 2777) (Nat.le_of_ble_eq_true rfl) (Nat.le_of_ble_eq_true rfl) ?_
  refine W.eq (g2 := F0 m 1262 ls [.int (0)]) rfl ?_
  refine lv_istore (lv' := [(7, .int (0)), (6, .int (1)), (5, .int (0)), (4, .ref a0), (3, .ref a1), (2, .ref a2), (1, .ref a3), (0, .ref b)]) hx hb dL_law_1262 hl (by decide) rfl (fun ls hl => ?_)
  refine lv_aload_n hx hb dL_law_1264 rfl (lv_at hl 5 rfl) ?_
  have hX : nCx p s m _ c code 9 "MinestrataLaw" dC dI g A [(a2, .inr (15, [.int (1), .int (0), .int (100), .int (0), .int (0), .ref a25, .ref a26, .ref a27, .ref a28, .ref a29, .ref a30, .ref a31, .ref a32, .ref a33, .ref a34, .ref a35, .null, .int (-1), .ref a36, .long (0)]))] _ _ := ⟨⟨hx, hb, hml, hown, hts⟩, hE, hS, hA, hP, hD⟩
  refine n_call (wr := []) hX (n_runV (n := 0) (wc := [(a2, .inr (15, [.int (1), .int (0), .int (100), .int (0), .int (0), .ref a25, .ref a26, .ref a27, .ref a28, .ref a29, .ref a30, .ref a31, .ref a32, .ref a33, .ref a34, .ref a35, .null, .int (-1), .ref a36, .long (0)]))]) (As := []) (rest := []) hX (m33 l hst dC dI g a2 a25 a26 a27 a28 a29 a30 a31 a32 a33 a34 a35 a36 _) [0] rfl (by decide +kernel) 0 (ci := 15) rfl (T := TX16) (N := 20) (C := "MinestrataModel") rfl q1495 q1496 q1497 q82 q1498 (by decide +kernel) ⟨(Nat.le_of_ble_eq_true rfl), (Nat.le_of_ble_eq_true rfl)⟩ ⟨(Nat.le_of_ble_eq_true rfl), (Nat.le_of_ble_eq_true rfl)⟩ hl.1 rfl rfl (Nat.le_of_ble_eq_true rfl) dL_law_1265) [0] [] rfl rfl (by decide +kernel) (by decide +kernel) (fun f5 r6 H locs hP hD hS => ?_)
  have hP : va_P (dC, dI) CL [(a2, .inr (15, [.int (1), .int (0), .int (100), .int (0), .int (0), .ref a25, .ref a26, .ref a27, .ref a28, .ref a29, .ref a30, .ref a31, .ref a32, .ref a33, .ref a34, .ref a35, .null, .int (-1), .ref a36, .long (0)]))] _ := hP
  have hD : va_D A [(a2, .inr (15, [.int (1), .int (0), .int (100), .int (0), .int (0), .ref a25, .ref a26, .ref a27, .ref a28, .ref a29, .ref a30, .ref a31, .ref a32, .ref a33, .ref a34, .ref a35, .null, .int (-1), .ref a36, .long (0)]))] := hD
  refine W.widen (k := 244) (n := 2777) (Nat.le_of_ble_eq_true rfl) (Nat.le_of_ble_eq_true rfl) ?_
  refine W.eq (g2 := F0 m 1268 ls [.int (1)]) rfl ?_
  refine lv_iload hx hb dL_law_1268 (lv_at hl 1 rfl) ?_
  refine lv_icmp_eq (tgt := 1275) hx hb dL_law_1270 (by decide +kernel) (fun _ => ?_) (fun h => absurd (by decide +kernel) h)
  refine lv_iload hx hb dL_law_1275 (lv_at hl 1 rfl) ?_
  refine lv_if_ne (tgt := 1299) hx hb dL_law_1277 (by decide +kernel) (fun _ => ?_) (fun h => absurd h (by decide +kernel))
  refine lv_goto (tgt := 2278) hx hb dL_law_1299 (by decide +kernel) ?_
  refine lv_iinc (v := (5)) (lv' := [(5, .int (5)), (7, .int (0)), (6, .int (1)), (4, .ref a0), (3, .ref a1), (2, .ref a2), (1, .ref a3), (0, .ref b)]) hx hb dL_law_2278 hl (k := 2) rfl (by decide +kernel) (by decide) rfl (fun ls hl => ?_)
  refine lv_goto (tgt := 28) hx hb dL_law_2281 (by decide +kernel) ?_
  refine lv_iload hx hb dL_law_28 (lv_at hl 0 rfl) ?_
  refine lv_aload_n hx hb dL_law_30 rfl (lv_at hl 7 rfl) ?_
  refine va_slen hx hb hXs hbl hbA hS dL_law_31 ?_
  refine nt_i (v := (5)) (by decide +kernel) ?_
  refine lv_iconst (v := (5)) hx hb dL_law_32 (by decide +kernel) ?_
  refine lv_isub hx hb dL_law_33 ?_
  refine nt_i (v := (0)) (by decide +kernel) ?_
  refine lv_icmp_gt (tgt := 2284) hx hb dL_law_34 (by decide +kernel) (fun _ => ?_) (fun h => absurd (by decide +kernel) h)
  refine lv_iconst (v := (1)) hx hb dL_law_2284 (by decide +kernel) ?_
  refine va_forget (fun q9 hq9 => by have h9 := hS.2.2 q9 hq9; rw [← hAe] at h9; exact h9) ?_
  refine W.widen (k := 600006) (n := 7302056) (Nat.le_of_ble_eq_true rfl) (Nat.le_of_ble_eq_true rfl) ?_
  refine W.base ?_
  exact lw_ret (Drawn.sameBut.refl s.drawn lw_cs) hx hb hr hlk dL_law_2285

set_option maxHeartbeats 4000000 in
set_option maxRecDepth 100000 in
theorem lc_17 {p : Program} {e : Env} {s : State} {m : MethodId} {below : List Frame} {meth : Method} {c : Code} (l : Launch) (hst : l.stackTraces = false) {b : Nat} {xs : Nat → Int32} (C0 : lw_At p s m meth c b 5 xs) (dC : Nat → ClassId) (dI : Nat → Nat → Nat) (g : Nat → Nat) (a0 a1 a2 a3 a4 a5 a6 a7 a8 a9 a10 a11 a12 a13 a14 a15 a16 a17 a18 a19 a20 a21 a22 a23 a24 a25 a26 a27 a28 a29 a30 a31 a32 a33 a34 a35 a36 : Nat) {A : Nat → Prop} (hAe : (fun q : Nat => s.heap.size ≤ q) = A) (hE : EV dC dI g A s) (hA : ∀ q : Nat, s.heap.size ≤ q → A q) (hbA : ¬ A b) (H : Heap) (locs : List Loc) (hP : va_P (dC, dI) CL [(a3, .inr (12, [.ref a4, .ref a5, .ref a6, .ref a7, .ref a8, .ref a9, .ref a10, .ref a11, .null, .ref a12, .ref a13, .int (0), .int (100), .int (0), .int (0), .int (-1), .long (0), .int (1)])), (a4, .inr (8, [.int (0), .ref a14, .ref a15, .ref a16, .ref a17, .int (0), .ref a18, .ref a19, .ref a20, .ref a21, .ref a22, .ref a23, .ref a24])), (a2, .inr (15, [.int (0), .int (0), .int (100), .int (0), .int (0), .ref a25, .ref a26, .ref a27, .ref a28, .ref a29, .ref a30, .ref a31, .ref a32, .ref a33, .ref a34, .ref a35, .null, .int (-1), .ref a36, .long (0)]))] H) (hD : va_D A [(a3, .inr (12, [.ref a4, .ref a5, .ref a6, .ref a7, .ref a8, .ref a9, .ref a10, .ref a11, .null, .ref a12, .ref a13, .int (0), .int (100), .int (0), .int (0), .int (-1), .long (0), .int (1)])), (a4, .inr (8, [.int (0), .ref a14, .ref a15, .ref a16, .ref a17, .int (0), .ref a18, .ref a19, .ref a20, .ref a21, .ref a22, .ref a23, .ref a24])), (a2, .inr (15, [.int (0), .int (0), .int (100), .int (0), .int (0), .ref a25, .ref a26, .ref a27, .ref a28, .ref a29, .ref a30, .ref a31, .ref a32, .ref a33, .ref a34, .ref a35, .null, .int (-1), .ref a36, .long (0)]))]) (hS : va_S A s.heap H locs) (ls : Array Slot) (hl : lv_has ls 9 [(5, .int (0)), (4, .ref a0), (3, .ref a1), (2, .ref a2), (1, .ref a3), (0, .ref b)]) :
    W p l e room_1 s m #[Value.ref b] below meth c H locs 243 2771 (lw_Z below #[Value.ref b] s) (F0 m 44 ls [.int (17)]) := by
  obtain ⟨hx, hb, hr, hml, hown, hts0, hXs, hbl, hlk, hgv⟩ := id C0
  have hts : ∀ w ∈ AW, w.before #[Value.ref b] s = true := fun w h => hts0 w (aw_tbl h)
  have hown : s.vm.findClass "MinestrataLaw" = some m.cls := hown
  have hK := hE.1
  obtain ⟨s1, es1⟩ : ∃ y : Int32, xs (Int32.toNatClampNeg (1)) = y := ⟨_, rfl⟩
  obtain ⟨s2, es2⟩ : ∃ y : Int32, xs (Int32.toNatClampNeg (2)) = y := ⟨_, rfl⟩
  obtain ⟨s3, es3⟩ : ∃ y : Int32, xs (Int32.toNatClampNeg (3)) = y := ⟨_, rfl⟩
  obtain ⟨s4, es4⟩ : ∃ y : Int32, xs (Int32.toNatClampNeg (4)) = y := ⟨_, rfl⟩
  refine lv_tableIn (tgt := 1302) (off := 1258) hx hb dL_law_44 (by decide +kernel) (by decide +kernel) rfl (by decide +kernel) ?_
  refine lv_aload_n hx hb dL_law_1302 rfl (lv_at hl 4 rfl) ?_
  refine lv_aload_n hx hb dL_law_1303 rfl (lv_at hl 5 rfl) ?_
  refine lv_iload hx hb dL_law_1304 (lv_at hl 0 rfl) ?_
  refine lv_iconst (v := (1)) hx hb dL_law_1306 (by decide +kernel) ?_
  refine lv_iadd hx hb dL_law_1307 ?_
  refine nt_i (v := (1)) (by decide +kernel) ?_
  refine va_sld hx hb hXs hbl hbA hS (show ¬ ((1 : Int32) < 0 ∨ 5 ≤ Int32.toNatClampNeg (1)) by decide +kernel) dL_law_1308 ?_
  refine nt_i (v := s1) es1 ?_
  refine lv_aload_n hx hb dL_law_1309 rfl (lv_at hl 2 rfl) ?_
  have hX : nCx p s m _ c code 9 "MinestrataLaw" dC dI g A [(a3, .inr (12, [.ref a4, .ref a5, .ref a6, .ref a7, .ref a8, .ref a9, .ref a10, .ref a11, .null, .ref a12, .ref a13, .int (0), .int (100), .int (0), .int (0), .int (-1), .long (0), .int (1)])), (a4, .inr (8, [.int (0), .ref a14, .ref a15, .ref a16, .ref a17, .int (0), .ref a18, .ref a19, .ref a20, .ref a21, .ref a22, .ref a23, .ref a24])), (a2, .inr (15, [.int (0), .int (0), .int (100), .int (0), .int (0), .ref a25, .ref a26, .ref a27, .ref a28, .ref a29, .ref a30, .ref a31, .ref a32, .ref a33, .ref a34, .ref a35, .null, .int (-1), .ref a36, .long (0)]))] _ _ := ⟨⟨hx, hb, hml, hown, hts⟩, hE, hS, hA, hP, hD⟩
  refine n_call (wr := [(a2, .inr (15, [.int (0), .int (0), .int (100), .int (0), .int (0), .ref a25, .ref a26, .ref a27, .ref a28, .ref a29, .ref a30, .ref a31, .ref a32, .ref a33, .ref a34, .ref a35, .null, .int (-1), .ref a36, .long (0)]))]) hX (n_runSW (n := 3) (wc := [(a3, .inr (12, [.ref a4, .ref a5, .ref a6, .ref a7, .ref a8, .ref a9, .ref a10, .ref a11, .null, .ref a12, .ref a13, .int (0), .int (100), .int (0), .int (0), .int (-1), .long (0), .int (1)])), (a4, .inr (8, [.int (0), .ref a14, .ref a15, .ref a16, .ref a17, .int (0), .ref a18, .ref a19, .ref a20, .ref a21, .ref a22, .ref a23, .ref a24]))]) (As := [.ref a3, .int s1, .ref a1]) (rest := []) hX (m312 l hst dC dI g a3 a1 a4 a5 a6 a7 a8 a9 a10 a11 a12 a13 a14 a15 a16 a17 a18 a19 a20 a21 a22 a23 a24 s1 _) [0, 1] rfl (by decide +kernel) q1193 q1194 q70 q1195 (by decide +kernel) ⟨(Nat.le_of_ble_eq_true rfl), (Nat.le_of_ble_eq_true rfl)⟩ ⟨(Nat.le_of_ble_eq_true rfl), (Nat.le_of_ble_eq_true rfl)⟩ hl.1 rfl rfl (Nat.le_of_ble_eq_true rfl) dL_law_1310) [0, 1] [2] rfl rfl (by decide +kernel) (by decide +kernel) (fun f1 r2 H locs hP hD hS => ?_)
  have hP : va_P (dC, dI) CL [(a2, .inr (15, [.int (0), .int (0), .int (100), .int (0), .int (0), .ref a25, .ref a26, .ref a27, .ref a28, .ref a29, .ref a30, .ref a31, .ref a32, .ref a33, .ref a34, .ref a35, .null, .int (-1), .ref a36, .long (0)]))] _ := hP
  have hD : va_D A [(a2, .inr (15, [.int (0), .int (0), .int (100), .int (0), .int (0), .ref a25, .ref a26, .ref a27, .ref a28, .ref a29, .ref a30, .ref a31, .ref a32, .ref a33, .ref a34, .ref a35, .null, .int (-1), .ref a36, .long (0)]))] := hD
  refine W.widen (k := 244) (n := 2777) (Nat.le_of_ble_eq_true rfl) (Nat.le_of_ble_eq_true rfl) ?_
  refine W.eq (g2 := F0 m 1313 ls [.int (1)]) rfl ?_
  refine lv_istore (lv' := [(6, .int (1)), (5, .int (0)), (4, .ref a0), (3, .ref a1), (2, .ref a2), (1, .ref a3), (0, .ref b)]) hx hb dL_law_1313 hl (by decide) rfl (fun ls hl => ?_)
  refine lv_aload_n hx hb dL_law_1315 rfl (lv_at hl 4 rfl) ?_
  refine lv_aload_n hx hb dL_law_1316 rfl (lv_at hl 6 rfl) ?_
  refine lv_iload hx hb dL_law_1317 (lv_at hl 1 rfl) ?_
  refine lv_iconst (v := (1)) hx hb dL_law_1319 (by decide +kernel) ?_
  refine lv_iadd hx hb dL_law_1320 ?_
  refine nt_i (v := (1)) (by decide +kernel) ?_
  refine va_sld hx hb hXs hbl hbA hS (show ¬ ((1 : Int32) < 0 ∨ 5 ≤ Int32.toNatClampNeg (1)) by decide +kernel) dL_law_1321 ?_
  refine nt_i (v := s1) es1 ?_
  have hX : nCx p s m _ c code 9 "MinestrataLaw" dC dI g A [(a2, .inr (15, [.int (0), .int (0), .int (100), .int (0), .int (0), .ref a25, .ref a26, .ref a27, .ref a28, .ref a29, .ref a30, .ref a31, .ref a32, .ref a33, .ref a34, .ref a35, .null, .int (-1), .ref a36, .long (0)]))] _ _ := ⟨⟨hx, hb, hml, hown, hts⟩, hE, hS, hA, hP, hD⟩
  refine n_call (wr := []) hX (n_runV (n := 1) (wc := [(a2, .inr (15, [.int (0), .int (0), .int (100), .int (0), .int (0), .ref a25, .ref a26, .ref a27, .ref a28, .ref a29, .ref a30, .ref a31, .ref a32, .ref a33, .ref a34, .ref a35, .null, .int (-1), .ref a36, .long (0)]))]) (As := [.int s1]) (rest := []) hX (m313 l hst dC dI g a2 a25 a26 a27 a28 a29 a30 a31 a32 a33 a34 a35 a36 s1 _) [0] rfl (by decide +kernel) 0 (ci := 15) rfl (T := TX16) (N := 20) (C := "MinestrataModel") rfl q2007 q2008 q2009 q82 q2010 (by decide +kernel) ⟨(Nat.le_of_ble_eq_true rfl), (Nat.le_of_ble_eq_true rfl)⟩ ⟨(Nat.le_of_ble_eq_true rfl), (Nat.le_of_ble_eq_true rfl)⟩ hl.1 rfl rfl (Nat.le_of_ble_eq_true rfl) dL_law_1322) [0] [] rfl rfl (by decide +kernel) (by decide +kernel) (fun f3 r4 H locs hP hD hS => ?_)
  have hP : va_P (dC, dI) CL [(a2, .inr (15, [.int (1), .int (0), .int (100), .int (0), .int (0), .ref a25, .ref a26, .ref a27, .ref a28, .ref a29, .ref a30, .ref a31, .ref a32, .ref a33, .ref a34, .ref a35, .null, .int (-1), .ref a36, .long (0)]))] _ := hP
  have hD : va_D A [(a2, .inr (15, [.int (1), .int (0), .int (100), .int (0), .int (0), .ref a25, .ref a26, .ref a27, .ref a28, .ref a29, .ref a30, .ref a31, .ref a32, .ref a33, .ref a34, .ref a35, .null, .int (-1), .ref a36, .long (0)]))] := hD
  refine W.widen (k := 244) (n := 2777) (Nat.le_of_ble_eq_true rfl) (Nat.le_of_ble_eq_true rfl) ?_
  refine W.eq (g2 := F0 m 1325 ls [.int (0)]) rfl ?_
  refine lv_istore (lv' := [(7, .int (0)), (6, .int (1)), (5, .int (0)), (4, .ref a0), (3, .ref a1), (2, .ref a2), (1, .ref a3), (0, .ref b)]) hx hb dL_law_1325 hl (by decide) rfl (fun ls hl => ?_)
  refine lv_aload_n hx hb dL_law_1327 rfl (lv_at hl 5 rfl) ?_
  have hX : nCx p s m _ c code 9 "MinestrataLaw" dC dI g A [(a2, .inr (15, [.int (1), .int (0), .int (100), .int (0), .int (0), .ref a25, .ref a26, .ref a27, .ref a28, .ref a29, .ref a30, .ref a31, .ref a32, .ref a33, .ref a34, .ref a35, .null, .int (-1), .ref a36, .long (0)]))] _ _ := ⟨⟨hx, hb, hml, hown, hts⟩, hE, hS, hA, hP, hD⟩
  refine n_call (wr := []) hX (n_runV (n := 0) (wc := [(a2, .inr (15, [.int (1), .int (0), .int (100), .int (0), .int (0), .ref a25, .ref a26, .ref a27, .ref a28, .ref a29, .ref a30, .ref a31, .ref a32, .ref a33, .ref a34, .ref a35, .null, .int (-1), .ref a36, .long (0)]))]) (As := []) (rest := []) hX (m33 l hst dC dI g a2 a25 a26 a27 a28 a29 a30 a31 a32 a33 a34 a35 a36 _) [0] rfl (by decide +kernel) 0 (ci := 15) rfl (T := TX16) (N := 20) (C := "MinestrataModel") rfl q1495 q1496 q1497 q82 q1498 (by decide +kernel) ⟨(Nat.le_of_ble_eq_true rfl), (Nat.le_of_ble_eq_true rfl)⟩ ⟨(Nat.le_of_ble_eq_true rfl), (Nat.le_of_ble_eq_true rfl)⟩ hl.1 rfl rfl (Nat.le_of_ble_eq_true rfl) dL_law_1328) [0] [] rfl rfl (by decide +kernel) (by decide +kernel) (fun f5 r6 H locs hP hD hS => ?_)
  have hP : va_P (dC, dI) CL [(a2, .inr (15, [.int (1), .int (0), .int (100), .int (0), .int (0), .ref a25, .ref a26, .ref a27, .ref a28, .ref a29, .ref a30, .ref a31, .ref a32, .ref a33, .ref a34, .ref a35, .null, .int (-1), .ref a36, .long (0)]))] _ := hP
  have hD : va_D A [(a2, .inr (15, [.int (1), .int (0), .int (100), .int (0), .int (0), .ref a25, .ref a26, .ref a27, .ref a28, .ref a29, .ref a30, .ref a31, .ref a32, .ref a33, .ref a34, .ref a35, .null, .int (-1), .ref a36, .long (0)]))] := hD
  refine W.widen (k := 244) (n := 2777) (Nat.le_of_ble_eq_true rfl) (Nat.le_of_ble_eq_true rfl) ?_
  refine W.eq (g2 := F0 m 1331 ls [.int (1)]) rfl ?_
  refine lv_iload hx hb dL_law_1331 (lv_at hl 1 rfl) ?_
  refine lv_icmp_eq (tgt := 1338) hx hb dL_law_1333 (by decide +kernel) (fun _ => ?_) (fun h => absurd (by decide +kernel) h)
  refine lv_iload hx hb dL_law_1338 (lv_at hl 1 rfl) ?_
  refine lv_if_ne (tgt := 1355) hx hb dL_law_1340 (by decide +kernel) (fun _ => ?_) (fun h => absurd h (by decide +kernel))
  refine lv_goto (tgt := 2278) hx hb dL_law_1355 (by decide +kernel) ?_
  refine lv_iinc (v := (5)) (lv' := [(5, .int (5)), (7, .int (0)), (6, .int (1)), (4, .ref a0), (3, .ref a1), (2, .ref a2), (1, .ref a3), (0, .ref b)]) hx hb dL_law_2278 hl (k := 2) rfl (by decide +kernel) (by decide) rfl (fun ls hl => ?_)
  refine lv_goto (tgt := 28) hx hb dL_law_2281 (by decide +kernel) ?_
  refine lv_iload hx hb dL_law_28 (lv_at hl 0 rfl) ?_
  refine lv_aload_n hx hb dL_law_30 rfl (lv_at hl 7 rfl) ?_
  refine va_slen hx hb hXs hbl hbA hS dL_law_31 ?_
  refine nt_i (v := (5)) (by decide +kernel) ?_
  refine lv_iconst (v := (5)) hx hb dL_law_32 (by decide +kernel) ?_
  refine lv_isub hx hb dL_law_33 ?_
  refine nt_i (v := (0)) (by decide +kernel) ?_
  refine lv_icmp_gt (tgt := 2284) hx hb dL_law_34 (by decide +kernel) (fun _ => ?_) (fun h => absurd (by decide +kernel) h)
  refine lv_iconst (v := (1)) hx hb dL_law_2284 (by decide +kernel) ?_
  refine va_forget (fun q9 hq9 => by have h9 := hS.2.2 q9 hq9; rw [← hAe] at h9; exact h9) ?_
  refine W.widen (k := 600006) (n := 7302056) (Nat.le_of_ble_eq_true rfl) (Nat.le_of_ble_eq_true rfl) ?_
  refine W.base ?_
  exact lw_ret (Drawn.sameBut.refl s.drawn lw_cs) hx hb hr hlk dL_law_2285

set_option maxHeartbeats 4000000 in
set_option maxRecDepth 100000 in
theorem lc_18 {p : Program} {e : Env} {s : State} {m : MethodId} {below : List Frame} {meth : Method} {c : Code} (l : Launch) (hst : l.stackTraces = false) {b : Nat} {xs : Nat → Int32} (C0 : lw_At p s m meth c b 5 xs) (dC : Nat → ClassId) (dI : Nat → Nat → Nat) (g : Nat → Nat) (a0 a1 a2 a3 a4 a5 a6 a7 a8 a9 a10 a11 a12 a13 a14 a15 a16 a17 a18 a19 a20 a21 a22 a23 a24 a25 : Nat) {A : Nat → Prop} (hAe : (fun q : Nat => s.heap.size ≤ q) = A) (hE : EV dC dI g A s) (hA : ∀ q : Nat, s.heap.size ≤ q → A q) (hbA : ¬ A b) (H : Heap) (locs : List Loc) (hP : va_P (dC, dI) CL [(a3, .inr (12, [.ref a4, .ref a5, .ref a6, .ref a7, .ref a8, .ref a9, .ref a10, .ref a11, .null, .ref a12, .ref a13, .int (0), .int (100), .int (0), .int (0), .int (-1), .long (0), .int (1)])), (a2, .inr (15, [.int (0), .int (0), .int (100), .int (0), .int (0), .ref a14, .ref a15, .ref a16, .ref a17, .ref a18, .ref a19, .ref a20, .ref a21, .ref a22, .ref a23, .ref a24, .null, .int (-1), .ref a25, .long (0)])), (a24, .inr (1, [.int (0), .ref (g 21), .int (0)]))] H) (hD : va_D A [(a3, .inr (12, [.ref a4, .ref a5, .ref a6, .ref a7, .ref a8, .ref a9, .ref a10, .ref a11, .null, .ref a12, .ref a13, .int (0), .int (100), .int (0), .int (0), .int (-1), .long (0), .int (1)])), (a2, .inr (15, [.int (0), .int (0), .int (100), .int (0), .int (0), .ref a14, .ref a15, .ref a16, .ref a17, .ref a18, .ref a19, .ref a20, .ref a21, .ref a22, .ref a23, .ref a24, .null, .int (-1), .ref a25, .long (0)])), (a24, .inr (1, [.int (0), .ref (g 21), .int (0)]))]) (hS : va_S A s.heap H locs) (ls : Array Slot) (hl : lv_has ls 9 [(5, .int (0)), (4, .ref a0), (3, .ref a1), (2, .ref a2), (1, .ref a3), (0, .ref b)]) :
    W p l e room_1 s m #[Value.ref b] below meth c H locs 243 2771 (lw_Z below #[Value.ref b] s) (F0 m 44 ls [.int (18)]) := by
  obtain ⟨hx, hb, hr, hml, hown, hts0, hXs, hbl, hlk, hgv⟩ := id C0
  have hts : ∀ w ∈ AW, w.before #[Value.ref b] s = true := fun w h => hts0 w (aw_tbl h)
  have hown : s.vm.findClass "MinestrataLaw" = some m.cls := hown
  have hK := hE.1
  obtain ⟨s1, es1⟩ : ∃ y : Int32, xs (Int32.toNatClampNeg (1)) = y := ⟨_, rfl⟩
  obtain ⟨s2, es2⟩ : ∃ y : Int32, xs (Int32.toNatClampNeg (2)) = y := ⟨_, rfl⟩
  obtain ⟨s3, es3⟩ : ∃ y : Int32, xs (Int32.toNatClampNeg (3)) = y := ⟨_, rfl⟩
  obtain ⟨s4, es4⟩ : ∃ y : Int32, xs (Int32.toNatClampNeg (4)) = y := ⟨_, rfl⟩
  refine lv_tableIn (tgt := 1358) (off := 1314) hx hb dL_law_44 (by decide +kernel) (by decide +kernel) rfl (by decide +kernel) ?_
  refine lv_aload_n hx hb dL_law_1358 rfl (lv_at hl 4 rfl) ?_
  refine lv_aload_n hx hb dL_law_1359 rfl (lv_at hl 5 rfl) ?_
  refine lv_iload hx hb dL_law_1360 (lv_at hl 0 rfl) ?_
  refine lv_iconst (v := (1)) hx hb dL_law_1362 (by decide +kernel) ?_
  refine lv_iadd hx hb dL_law_1363 ?_
  refine nt_i (v := (1)) (by decide +kernel) ?_
  refine va_sld hx hb hXs hbl hbA hS (show ¬ ((1 : Int32) < 0 ∨ 5 ≤ Int32.toNatClampNeg (1)) by decide +kernel) dL_law_1364 ?_
  refine nt_i (v := s1) es1 ?_
  refine lv_aload_n hx hb dL_law_1365 rfl (lv_at hl 5 rfl) ?_
  refine lv_iload hx hb dL_law_1366 (lv_at hl 0 rfl) ?_
  refine lv_iconst (v := (2)) hx hb dL_law_1368 (by decide +kernel) ?_
  refine lv_iadd hx hb dL_law_1369 ?_
  refine nt_i (v := (2)) (by decide +kernel) ?_
  refine va_sld hx hb hXs hbl hbA hS (show ¬ ((2 : Int32) < 0 ∨ 5 ≤ Int32.toNatClampNeg (2)) by decide +kernel) dL_law_1370 ?_
  refine nt_i (v := s2) es2 ?_
  refine lv_aload_n hx hb dL_law_1371 rfl (lv_at hl 2 rfl) ?_
  have hX : nCx p s m _ c code 9 "MinestrataLaw" dC dI g A [(a3, .inr (12, [.ref a4, .ref a5, .ref a6, .ref a7, .ref a8, .ref a9, .ref a10, .ref a11, .null, .ref a12, .ref a13, .int (0), .int (100), .int (0), .int (0), .int (-1), .long (0), .int (1)])), (a2, .inr (15, [.int (0), .int (0), .int (100), .int (0), .int (0), .ref a14, .ref a15, .ref a16, .ref a17, .ref a18, .ref a19, .ref a20, .ref a21, .ref a22, .ref a23, .ref a24, .null, .int (-1), .ref a25, .long (0)])), (a24, .inr (1, [.int (0), .ref (g 21), .int (0)]))] _ _ := ⟨⟨hx, hb, hml, hown, hts⟩, hE, hS, hA, hP, hD⟩
  refine n_call (wr := [(a2, .inr (15, [.int (0), .int (0), .int (100), .int (0), .int (0), .ref a14, .ref a15, .ref a16, .ref a17, .ref a18, .ref a19, .ref a20, .ref a21, .ref a22, .ref a23, .ref a24, .null, .int (-1), .ref a25, .long (0)])), (a24, .inr (1, [.int (0), .ref (g 21), .int (0)]))]) hX (n_runSW (n := 4) (wc := [(a3, .inr (12, [.ref a4, .ref a5, .ref a6, .ref a7, .ref a8, .ref a9, .ref a10, .ref a11, .null, .ref a12, .ref a13, .int (0), .int (100), .int (0), .int (0), .int (-1), .long (0), .int (1)]))]) (As := [.ref a3, .int s1, .int s2, .ref a1]) (rest := []) hX (m316 l hst dC dI g a3 a1 a4 a5 a6 a7 a8 a9 a10 a11 a12 a13 s1 s2 _) [0] rfl (by decide +kernel) q1200 q1201 q70 q1202 (by decide +kernel) ⟨(Nat.le_of_ble_eq_true rfl), (Nat.le_of_ble_eq_true rfl)⟩ ⟨(Nat.le_of_ble_eq_true rfl), (Nat.le_of_ble_eq_true rfl)⟩ hl.1 rfl rfl (Nat.le_of_ble_eq_true rfl) dL_law_1372) [0] [1, 2] rfl rfl (by decide +kernel) (by decide +kernel) (fun f1 r2 H locs hP hD hS => ?_)
  have hP : va_P (dC, dI) CL [(a2, .inr (15, [.int (0), .int (0), .int (100), .int (0), .int (0), .ref a14, .ref a15, .ref a16, .ref a17, .ref a18, .ref a19, .ref a20, .ref a21, .ref a22, .ref a23, .ref a24, .null, .int (-1), .ref a25, .long (0)])), (a24, .inr (1, [.int (0), .ref (g 21), .int (0)]))] _ := hP
  have hD : va_D A [(a2, .inr (15, [.int (0), .int (0), .int (100), .int (0), .int (0), .ref a14, .ref a15, .ref a16, .ref a17, .ref a18, .ref a19, .ref a20, .ref a21, .ref a22, .ref a23, .ref a24, .null, .int (-1), .ref a25, .long (0)])), (a24, .inr (1, [.int (0), .ref (g 21), .int (0)]))] := hD
  refine W.widen (k := 244) (n := 2777) (Nat.le_of_ble_eq_true rfl) (Nat.le_of_ble_eq_true rfl) ?_
  refine W.eq (g2 := F0 m 1375 ls [.int (1)]) rfl ?_
  refine lv_istore (lv' := [(6, .int (1)), (5, .int (0)), (4, .ref a0), (3, .ref a1), (2, .ref a2), (1, .ref a3), (0, .ref b)]) hx hb dL_law_1375 hl (by decide) rfl (fun ls hl => ?_)
  refine lv_aload_n hx hb dL_law_1377 rfl (lv_at hl 4 rfl) ?_
  refine lv_aload_n hx hb dL_law_1378 rfl (lv_at hl 6 rfl) ?_
  refine lv_iload hx hb dL_law_1379 (lv_at hl 1 rfl) ?_
  refine lv_iconst (v := (1)) hx hb dL_law_1381 (by decide +kernel) ?_
  refine lv_iadd hx hb dL_law_1382 ?_
  refine nt_i (v := (1)) (by decide +kernel) ?_
  refine va_sld hx hb hXs hbl hbA hS (show ¬ ((1 : Int32) < 0 ∨ 5 ≤ Int32.toNatClampNeg (1)) by decide +kernel) dL_law_1383 ?_
  refine nt_i (v := s1) es1 ?_
  refine lv_aload_n hx hb dL_law_1384 rfl (lv_at hl 6 rfl) ?_
  refine lv_iload hx hb dL_law_1385 (lv_at hl 1 rfl) ?_
  refine lv_iconst (v := (2)) hx hb dL_law_1387 (by decide +kernel) ?_
  refine lv_iadd hx hb dL_law_1388 ?_
  refine nt_i (v := (2)) (by decide +kernel) ?_
  refine va_sld hx hb hXs hbl hbA hS (show ¬ ((2 : Int32) < 0 ∨ 5 ≤ Int32.toNatClampNeg (2)) by decide +kernel) dL_law_1389 ?_
  refine nt_i (v := s2) es2 ?_
  have hX : nCx p s m _ c code 9 "MinestrataLaw" dC dI g A [(a2, .inr (15, [.int (0), .int (0), .int (100), .int (0), .int (0), .ref a14, .ref a15, .ref a16, .ref a17, .ref a18, .ref a19, .ref a20, .ref a21, .ref a22, .ref a23, .ref a24, .null, .int (-1), .ref a25, .long (0)])), (a24, .inr (1, [.int (0), .ref (g 21), .int (0)]))] _ _ := ⟨⟨hx, hb, hml, hown, hts⟩, hE, hS, hA, hP, hD⟩
  refine n_call (wr := []) hX (n_runV (n := 2) (wc := [(a2, .inr (15, [.int (0), .int (0), .int (100), .int (0), .int (0), .ref a14, .ref a15, .ref a16, .ref a17, .ref a18, .ref a19, .ref a20, .ref a21, .ref a22, .ref a23, .ref a24, .null, .int (-1), .ref a25, .long (0)])), (a24, .inr (1, [.int (0), .ref (g 21), .int (0)]))]) (As := [.int s1, .int s2]) (rest := []) hX (m318 l hst dC dI g a2 a14 a15 a16 a17 a18 a19 a20 a21 a22 a23 a24 a25 s1 s2 _) [0, 1] rfl (by decide +kernel) 0 (ci := 15) rfl (T := TX16) (N := 20) (C := "MinestrataModel") rfl q2074 q2075 q2076 q82 q2077 (by decide +kernel) ⟨(Nat.le_of_ble_eq_true rfl), (Nat.le_of_ble_eq_true rfl)⟩ ⟨(Nat.le_of_ble_eq_true rfl), (Nat.le_of_ble_eq_true rfl)⟩ hl.1 rfl rfl (Nat.le_of_ble_eq_true rfl) dL_law_1390) [0, 1] [] rfl rfl (by decide +kernel) (by decide +kernel) (fun f3 r4 H locs hP hD hS => ?_)
  have hP : va_P (dC, dI) CL [(a2, .inr (15, [.int (1), .int (0), .int (100), .int (0), .int (0), .ref a14, .ref a15, .ref a16, .ref a17, .ref a18, .ref a19, .ref a20, .ref a21, .ref a22, .ref a23, .ref a24, .null, .int (-1), .ref a25, .long (0)])), (a24, .inr (1, [.int (0), .ref (g 21), .int (0)]))] _ := hP
  have hD : va_D A [(a2, .inr (15, [.int (1), .int (0), .int (100), .int (0), .int (0), .ref a14, .ref a15, .ref a16, .ref a17, .ref a18, .ref a19, .ref a20, .ref a21, .ref a22, .ref a23, .ref a24, .null, .int (-1), .ref a25, .long (0)])), (a24, .inr (1, [.int (0), .ref (g 21), .int (0)]))] := hD
  refine W.widen (k := 244) (n := 2777) (Nat.le_of_ble_eq_true rfl) (Nat.le_of_ble_eq_true rfl) ?_
  refine W.eq (g2 := F0 m 1393 ls [.int (0)]) rfl ?_
  refine lv_istore (lv' := [(7, .int (0)), (6, .int (1)), (5, .int (0)), (4, .ref a0), (3, .ref a1), (2, .ref a2), (1, .ref a3), (0, .ref b)]) hx hb dL_law_1393 hl (by decide) rfl (fun ls hl => ?_)
  refine lv_aload_n hx hb dL_law_1395 rfl (lv_at hl 5 rfl) ?_
  have hX : nCx p s m _ c code 9 "MinestrataLaw" dC dI g A [(a2, .inr (15, [.int (1), .int (0), .int (100), .int (0), .int (0), .ref a14, .ref a15, .ref a16, .ref a17, .ref a18, .ref a19, .ref a20, .ref a21, .ref a22, .ref a23, .ref a24, .null, .int (-1), .ref a25, .long (0)])), (a24, .inr (1, [.int (0), .ref (g 21), .int (0)]))] _ _ := ⟨⟨hx, hb, hml, hown, hts⟩, hE, hS, hA, hP, hD⟩
  refine n_call (wr := [(a24, .inr (1, [.int (0), .ref (g 21), .int (0)]))]) hX (n_runV (n := 0) (wc := [(a2, .inr (15, [.int (1), .int (0), .int (100), .int (0), .int (0), .ref a14, .ref a15, .ref a16, .ref a17, .ref a18, .ref a19, .ref a20, .ref a21, .ref a22, .ref a23, .ref a24, .null, .int (-1), .ref a25, .long (0)]))]) (As := []) (rest := []) hX (m33 l hst dC dI g a2 a14 a15 a16 a17 a18 a19 a20 a21 a22 a23 a24 a25 _) [0] rfl (by decide +kernel) 0 (ci := 15) rfl (T := TX16) (N := 20) (C := "MinestrataModel") rfl q1495 q1496 q1497 q82 q1498 (by decide +kernel) ⟨(Nat.le_of_ble_eq_true rfl), (Nat.le_of_ble_eq_true rfl)⟩ ⟨(Nat.le_of_ble_eq_true rfl), (Nat.le_of_ble_eq_true rfl)⟩ hl.1 rfl rfl (Nat.le_of_ble_eq_true rfl) dL_law_1396) [0] [1] rfl rfl (by decide +kernel) (by decide +kernel) (fun f5 r6 H locs hP hD hS => ?_)
  have hP : va_P (dC, dI) CL [(a24, .inr (1, [.int (0), .ref (g 21), .int (0)])), (a2, .inr (15, [.int (1), .int (0), .int (100), .int (0), .int (0), .ref a14, .ref a15, .ref a16, .ref a17, .ref a18, .ref a19, .ref a20, .ref a21, .ref a22, .ref a23, .ref a24, .null, .int (-1), .ref a25, .long (0)]))] _ := hP
  have hD : va_D A [(a24, .inr (1, [.int (0), .ref (g 21), .int (0)])), (a2, .inr (15, [.int (1), .int (0), .int (100), .int (0), .int (0), .ref a14, .ref a15, .ref a16, .ref a17, .ref a18, .ref a19, .ref a20, .ref a21, .ref a22, .ref a23, .ref a24, .null, .int (-1), .ref a25, .long (0)]))] := hD
  refine W.widen (k := 244) (n := 2777) (Nat.le_of_ble_eq_true rfl) (Nat.le_of_ble_eq_true rfl) ?_
  refine W.eq (g2 := F0 m 1399 ls [.int (1)]) rfl ?_
  refine lv_iload hx hb dL_law_1399 (lv_at hl 1 rfl) ?_
  refine lv_icmp_eq (tgt := 1406) hx hb dL_law_1401 (by decide +kernel) (fun _ => ?_) (fun h => absurd (by decide +kernel) h)
  refine lv_iload hx hb dL_law_1406 (lv_at hl 1 rfl) ?_
  refine lv_if_ne (tgt := 1430) hx hb dL_law_1408 (by decide +kernel) (fun _ => ?_) (fun h => absurd h (by decide +kernel))
  refine lv_goto (tgt := 2278) hx hb dL_law_1430 (by decide +kernel) ?_
  refine lv_iinc (v := (5)) (lv' := [(5, .int (5)), (7, .int (0)), (6, .int (1)), (4, .ref a0), (3, .ref a1), (2, .ref a2), (1, .ref a3), (0, .ref b)]) hx hb dL_law_2278 hl (k := 2) rfl (by decide +kernel) (by decide) rfl (fun ls hl => ?_)
  refine lv_goto (tgt := 28) hx hb dL_law_2281 (by decide +kernel) ?_
  refine lv_iload hx hb dL_law_28 (lv_at hl 0 rfl) ?_
  refine lv_aload_n hx hb dL_law_30 rfl (lv_at hl 7 rfl) ?_
  refine va_slen hx hb hXs hbl hbA hS dL_law_31 ?_
  refine nt_i (v := (5)) (by decide +kernel) ?_
  refine lv_iconst (v := (5)) hx hb dL_law_32 (by decide +kernel) ?_
  refine lv_isub hx hb dL_law_33 ?_
  refine nt_i (v := (0)) (by decide +kernel) ?_
  refine lv_icmp_gt (tgt := 2284) hx hb dL_law_34 (by decide +kernel) (fun _ => ?_) (fun h => absurd (by decide +kernel) h)
  refine lv_iconst (v := (1)) hx hb dL_law_2284 (by decide +kernel) ?_
  refine va_forget (fun q9 hq9 => by have h9 := hS.2.2 q9 hq9; rw [← hAe] at h9; exact h9) ?_
  refine W.widen (k := 600006) (n := 7302056) (Nat.le_of_ble_eq_true rfl) (Nat.le_of_ble_eq_true rfl) ?_
  refine W.base ?_
  exact lw_ret (Drawn.sameBut.refl s.drawn lw_cs) hx hb hr hlk dL_law_2285

set_option maxHeartbeats 4000000 in
set_option maxRecDepth 100000 in
theorem lc_19 {p : Program} {e : Env} {s : State} {m : MethodId} {below : List Frame} {meth : Method} {c : Code} (l : Launch) (hst : l.stackTraces = false) {b : Nat} {xs : Nat → Int32} (C0 : lw_At p s m meth c b 5 xs) (dC : Nat → ClassId) (dI : Nat → Nat → Nat) (g : Nat → Nat) (a0 a1 a2 a3 a4 a5 a6 a7 a8 a9 a10 a11 a12 a13 a14 a15 a16 a17 a18 a19 a20 a21 a22 a23 a24 a25 : Nat) {A : Nat → Prop} (hAe : (fun q : Nat => s.heap.size ≤ q) = A) (hE : EV dC dI g A s) (hA : ∀ q : Nat, s.heap.size ≤ q → A q) (hbA : ¬ A b) (H : Heap) (locs : List Loc) (hP : va_P (dC, dI) CL [(a3, .inr (12, [.ref a4, .ref a5, .ref a6, .ref a7, .ref a8, .ref a9, .ref a10, .ref a11, .null, .ref a12, .ref a13, .int (0), .int (100), .int (0), .int (0), .int (-1), .long (0), .int (1)])), (a2, .inr (15, [.int (0), .int (0), .int (100), .int (0), .int (0), .ref a14, .ref a15, .ref a16, .ref a17, .ref a18, .ref a19, .ref a20, .ref a21, .ref a22, .ref a23, .ref a24, .null, .int (-1), .ref a25, .long (0)])), (a24, .inr (1, [.int (0), .ref (g 21), .int (0)]))] H) (hD : va_D A [(a3, .inr (12, [.ref a4, .ref a5, .ref a6, .ref a7, .ref a8, .ref a9, .ref a10, .ref a11, .null, .ref a12, .ref a13, .int (0), .int (100), .int (0), .int (0), .int (-1), .long (0), .int (1)])), (a2, .inr (15, [.int (0), .int (0), .int (100), .int (0), .int (0), .ref a14, .ref a15, .ref a16, .ref a17, .ref a18, .ref a19, .ref a20, .ref a21, .ref a22, .ref a23, .ref a24, .null, .int (-1), .ref a25, .long (0)])), (a24, .inr (1, [.int (0), .ref (g 21), .int (0)]))]) (hS : va_S A s.heap H locs) (ls : Array Slot) (hl : lv_has ls 9 [(5, .int (0)), (4, .ref a0), (3, .ref a1), (2, .ref a2), (1, .ref a3), (0, .ref b)]) :
    W p l e room_1 s m #[Value.ref b] below meth c H locs 243 2771 (lw_Z below #[Value.ref b] s) (F0 m 44 ls [.int (19)]) := by
  obtain ⟨hx, hb, hr, hml, hown, hts0, hXs, hbl, hlk, hgv⟩ := id C0
  have hts : ∀ w ∈ AW, w.before #[Value.ref b] s = true := fun w h => hts0 w (aw_tbl h)
  have hown : s.vm.findClass "MinestrataLaw" = some m.cls := hown
  have hK := hE.1
  obtain ⟨s1, es1⟩ : ∃ y : Int32, xs (Int32.toNatClampNeg (1)) = y := ⟨_, rfl⟩
  obtain ⟨s2, es2⟩ : ∃ y : Int32, xs (Int32.toNatClampNeg (2)) = y := ⟨_, rfl⟩
  obtain ⟨s3, es3⟩ : ∃ y : Int32, xs (Int32.toNatClampNeg (3)) = y := ⟨_, rfl⟩
  obtain ⟨s4, es4⟩ : ∃ y : Int32, xs (Int32.toNatClampNeg (4)) = y := ⟨_, rfl⟩
  refine lv_tableIn (tgt := 1433) (off := 1389) hx hb dL_law_44 (by decide +kernel) (by decide +kernel) rfl (by decide +kernel) ?_
  refine lv_aload_n hx hb dL_law_1433 rfl (lv_at hl 4 rfl) ?_
  refine lv_aload_n hx hb dL_law_1434 rfl (lv_at hl 5 rfl) ?_
  refine lv_iload hx hb dL_law_1435 (lv_at hl 0 rfl) ?_
  refine lv_iconst (v := (1)) hx hb dL_law_1437 (by decide +kernel) ?_
  refine lv_iadd hx hb dL_law_1438 ?_
  refine nt_i (v := (1)) (by decide +kernel) ?_
  refine va_sld hx hb hXs hbl hbA hS (show ¬ ((1 : Int32) < 0 ∨ 5 ≤ Int32.toNatClampNeg (1)) by decide +kernel) dL_law_1439 ?_
  refine nt_i (v := s1) es1 ?_
  refine lv_aload_n hx hb dL_law_1440 rfl (lv_at hl 2 rfl) ?_
  have hX : nCx p s m _ c code 9 "MinestrataLaw" dC dI g A [(a3, .inr (12, [.ref a4, .ref a5, .ref a6, .ref a7, .ref a8, .ref a9, .ref a10, .ref a11, .null, .ref a12, .ref a13, .int (0), .int (100), .int (0), .int (0), .int (-1), .long (0), .int (1)])), (a2, .inr (15, [.int (0), .int (0), .int (100), .int (0), .int (0), .ref a14, .ref a15, .ref a16, .ref a17, .ref a18, .ref a19, .ref a20, .ref a21, .ref a22, .ref a23, .ref a24, .null, .int (-1), .ref a25, .long (0)])), (a24, .inr (1, [.int (0), .ref (g 21), .int (0)]))] _ _ := ⟨⟨hx, hb, hml, hown, hts⟩, hE, hS, hA, hP, hD⟩
  refine n_call (wr := [(a2, .inr (15, [.int (0), .int (0), .int (100), .int (0), .int (0), .ref a14, .ref a15, .ref a16, .ref a17, .ref a18, .ref a19, .ref a20, .ref a21, .ref a22, .ref a23, .ref a24, .null, .int (-1), .ref a25, .long (0)])), (a24, .inr (1, [.int (0), .ref (g 21), .int (0)]))]) hX (n_runSW (n := 3) (wc := [(a3, .inr (12, [.ref a4, .ref a5, .ref a6, .ref a7, .ref a8, .ref a9, .ref a10, .ref a11, .null, .ref a12, .ref a13, .int (0), .int (100), .int (0), .int (0), .int (-1), .long (0), .int (1)]))]) (As := [.ref a3, .int s1, .ref a1]) (rest := []) hX (m320 l hst dC dI g a3 a1 a4 a5 a6 a7 a8 a9 a10 a11 a12 a13 s1 _) [0] rfl (by decide +kernel) q1212 q1213 q70 q1214 (by decide +kernel) ⟨(Nat.le_of_ble_eq_true rfl), (Nat.le_of_ble_eq_true rfl)⟩ ⟨(Nat.le_of_ble_eq_true rfl), (Nat.le_of_ble_eq_true rfl)⟩ hl.1 rfl rfl (Nat.le_of_ble_eq_true rfl) dL_law_1441) [0] [1, 2] rfl rfl (by decide +kernel) (by decide +kernel) (fun f1 r2 H locs hP hD hS => ?_)
  have hP : va_P (dC, dI) CL [(a2, .inr (15, [.int (0), .int (0), .int (100), .int (0), .int (0), .ref a14, .ref a15, .ref a16, .ref a17, .ref a18, .ref a19, .ref a20, .ref a21, .ref a22, .ref a23, .ref a24, .null, .int (-1), .ref a25, .long (0)])), (a24, .inr (1, [.int (0), .ref (g 21), .int (0)]))] _ := hP
  have hD : va_D A [(a2, .inr (15, [.int (0), .int (0), .int (100), .int (0), .int (0), .ref a14, .ref a15, .ref a16, .ref a17, .ref a18, .ref a19, .ref a20, .ref a21, .ref a22, .ref a23, .ref a24, .null, .int (-1), .ref a25, .long (0)])), (a24, .inr (1, [.int (0), .ref (g 21), .int (0)]))] := hD
  refine W.widen (k := 244) (n := 2777) (Nat.le_of_ble_eq_true rfl) (Nat.le_of_ble_eq_true rfl) ?_
  refine W.eq (g2 := F0 m 1444 ls [.int (1)]) rfl ?_
  refine lv_istore (lv' := [(6, .int (1)), (5, .int (0)), (4, .ref a0), (3, .ref a1), (2, .ref a2), (1, .ref a3), (0, .ref b)]) hx hb dL_law_1444 hl (by decide) rfl (fun ls hl => ?_)
  refine lv_aload_n hx hb dL_law_1446 rfl (lv_at hl 4 rfl) ?_
  refine lv_aload_n hx hb dL_law_1447 rfl (lv_at hl 6 rfl) ?_
  refine lv_iload hx hb dL_law_1448 (lv_at hl 1 rfl) ?_
  refine lv_iconst (v := (1)) hx hb dL_law_1450 (by decide +kernel) ?_
  refine lv_iadd hx hb dL_law_1451 ?_
  refine nt_i (v := (1)) (by decide +kernel) ?_
  refine va_sld hx hb hXs hbl hbA hS (show ¬ ((1 : Int32) < 0 ∨ 5 ≤ Int32.toNatClampNeg (1)) by decide +kernel) dL_law_1452 ?_
  refine nt_i (v := s1) es1 ?_
  have hX : nCx p s m _ c code 9 "MinestrataLaw" dC dI g A [(a2, .inr (15, [.int (0), .int (0), .int (100), .int (0), .int (0), .ref a14, .ref a15, .ref a16, .ref a17, .ref a18, .ref a19, .ref a20, .ref a21, .ref a22, .ref a23, .ref a24, .null, .int (-1), .ref a25, .long (0)])), (a24, .inr (1, [.int (0), .ref (g 21), .int (0)]))] _ _ := ⟨⟨hx, hb, hml, hown, hts⟩, hE, hS, hA, hP, hD⟩
  refine n_call (wr := []) hX (n_runV (n := 1) (wc := [(a2, .inr (15, [.int (0), .int (0), .int (100), .int (0), .int (0), .ref a14, .ref a15, .ref a16, .ref a17, .ref a18, .ref a19, .ref a20, .ref a21, .ref a22, .ref a23, .ref a24, .null, .int (-1), .ref a25, .long (0)])), (a24, .inr (1, [.int (0), .ref (g 21), .int (0)]))]) (As := [.int s1]) (rest := []) hX (m321 l hst dC dI g a2 a14 a15 a16 a17 a18 a19 a20 a21 a22 a23 a24 a25 s1 _) [0, 1] rfl (by decide +kernel) 0 (ci := 15) rfl (T := TX16) (N := 20) (C := "MinestrataModel") rfl q2086 q2087 q2088 q82 q2089 (by decide +kernel) ⟨(Nat.le_of_ble_eq_true rfl), (Nat.le_of_ble_eq_true rfl)⟩ ⟨(Nat.le_of_ble_eq_true rfl), (Nat.le_of_ble_eq_true rfl)⟩ hl.1 rfl rfl (Nat.le_of_ble_eq_true rfl) dL_law_1453) [0, 1] [] rfl rfl (by decide +kernel) (by decide +kernel) (fun f3 r4 H locs hP hD hS => ?_)
  have hP : va_P (dC, dI) CL [(a2, .inr (15, [.int (1), .int (0), .int (100), .int (0), .int (0), .ref a14, .ref a15, .ref a16, .ref a17, .ref a18, .ref a19, .ref a20, .ref a21, .ref a22, .ref a23, .ref a24, .null, .int (-1), .ref a25, .long (0)])), (a24, .inr (1, [.int (0), .ref (g 21), .int (0)]))] _ := hP
  have hD : va_D A [(a2, .inr (15, [.int (1), .int (0), .int (100), .int (0), .int (0), .ref a14, .ref a15, .ref a16, .ref a17, .ref a18, .ref a19, .ref a20, .ref a21, .ref a22, .ref a23, .ref a24, .null, .int (-1), .ref a25, .long (0)])), (a24, .inr (1, [.int (0), .ref (g 21), .int (0)]))] := hD
  refine W.widen (k := 244) (n := 2777) (Nat.le_of_ble_eq_true rfl) (Nat.le_of_ble_eq_true rfl) ?_
  refine W.eq (g2 := F0 m 1456 ls [.int (0)]) rfl ?_
  refine lv_istore (lv' := [(7, .int (0)), (6, .int (1)), (5, .int (0)), (4, .ref a0), (3, .ref a1), (2, .ref a2), (1, .ref a3), (0, .ref b)]) hx hb dL_law_1456 hl (by decide) rfl (fun ls hl => ?_)
  refine lv_aload_n hx hb dL_law_1458 rfl (lv_at hl 5 rfl) ?_
  have hX : nCx p s m _ c code 9 "MinestrataLaw" dC dI g A [(a2, .inr (15, [.int (1), .int (0), .int (100), .int (0), .int (0), .ref a14, .ref a15, .ref a16, .ref a17, .ref a18, .ref a19, .ref a20, .ref a21, .ref a22, .ref a23, .ref a24, .null, .int (-1), .ref a25, .long (0)])), (a24, .inr (1, [.int (0), .ref (g 21), .int (0)]))] _ _ := ⟨⟨hx, hb, hml, hown, hts⟩, hE, hS, hA, hP, hD⟩
  refine n_call (wr := [(a24, .inr (1, [.int (0), .ref (g 21), .int (0)]))]) hX (n_runV (n := 0) (wc := [(a2, .inr (15, [.int (1), .int (0), .int (100), .int (0), .int (0), .ref a14, .ref a15, .ref a16, .ref a17, .ref a18, .ref a19, .ref a20, .ref a21, .ref a22, .ref a23, .ref a24, .null, .int (-1), .ref a25, .long (0)]))]) (As := []) (rest := []) hX (m33 l hst dC dI g a2 a14 a15 a16 a17 a18 a19 a20 a21 a22 a23 a24 a25 _) [0] rfl (by decide +kernel) 0 (ci := 15) rfl (T := TX16) (N := 20) (C := "MinestrataModel") rfl q1495 q1496 q1497 q82 q1498 (by decide +kernel) ⟨(Nat.le_of_ble_eq_true rfl), (Nat.le_of_ble_eq_true rfl)⟩ ⟨(Nat.le_of_ble_eq_true rfl), (Nat.le_of_ble_eq_true rfl)⟩ hl.1 rfl rfl (Nat.le_of_ble_eq_true rfl) dL_law_1459) [0] [1] rfl rfl (by decide +kernel) (by decide +kernel) (fun f5 r6 H locs hP hD hS => ?_)
  have hP : va_P (dC, dI) CL [(a24, .inr (1, [.int (0), .ref (g 21), .int (0)])), (a2, .inr (15, [.int (1), .int (0), .int (100), .int (0), .int (0), .ref a14, .ref a15, .ref a16, .ref a17, .ref a18, .ref a19, .ref a20, .ref a21, .ref a22, .ref a23, .ref a24, .null, .int (-1), .ref a25, .long (0)]))] _ := hP
  have hD : va_D A [(a24, .inr (1, [.int (0), .ref (g 21), .int (0)])), (a2, .inr (15, [.int (1), .int (0), .int (100), .int (0), .int (0), .ref a14, .ref a15, .ref a16, .ref a17, .ref a18, .ref a19, .ref a20, .ref a21, .ref a22, .ref a23, .ref a24, .null, .int (-1), .ref a25, .long (0)]))] := hD
  refine W.widen (k := 244) (n := 2777) (Nat.le_of_ble_eq_true rfl) (Nat.le_of_ble_eq_true rfl) ?_
  refine W.eq (g2 := F0 m 1462 ls [.int (1)]) rfl ?_
  refine lv_iload hx hb dL_law_1462 (lv_at hl 1 rfl) ?_
  refine lv_icmp_eq (tgt := 1469) hx hb dL_law_1464 (by decide +kernel) (fun _ => ?_) (fun h => absurd (by decide +kernel) h)
  refine lv_iload hx hb dL_law_1469 (lv_at hl 1 rfl) ?_
  refine lv_if_ne (tgt := 1486) hx hb dL_law_1471 (by decide +kernel) (fun _ => ?_) (fun h => absurd h (by decide +kernel))
  refine lv_goto (tgt := 2278) hx hb dL_law_1486 (by decide +kernel) ?_
  refine lv_iinc (v := (5)) (lv' := [(5, .int (5)), (7, .int (0)), (6, .int (1)), (4, .ref a0), (3, .ref a1), (2, .ref a2), (1, .ref a3), (0, .ref b)]) hx hb dL_law_2278 hl (k := 2) rfl (by decide +kernel) (by decide) rfl (fun ls hl => ?_)
  refine lv_goto (tgt := 28) hx hb dL_law_2281 (by decide +kernel) ?_
  refine lv_iload hx hb dL_law_28 (lv_at hl 0 rfl) ?_
  refine lv_aload_n hx hb dL_law_30 rfl (lv_at hl 7 rfl) ?_
  refine va_slen hx hb hXs hbl hbA hS dL_law_31 ?_
  refine nt_i (v := (5)) (by decide +kernel) ?_
  refine lv_iconst (v := (5)) hx hb dL_law_32 (by decide +kernel) ?_
  refine lv_isub hx hb dL_law_33 ?_
  refine nt_i (v := (0)) (by decide +kernel) ?_
  refine lv_icmp_gt (tgt := 2284) hx hb dL_law_34 (by decide +kernel) (fun _ => ?_) (fun h => absurd (by decide +kernel) h)
  refine lv_iconst (v := (1)) hx hb dL_law_2284 (by decide +kernel) ?_
  refine va_forget (fun q9 hq9 => by have h9 := hS.2.2 q9 hq9; rw [← hAe] at h9; exact h9) ?_
  refine W.widen (k := 600006) (n := 7302056) (Nat.le_of_ble_eq_true rfl) (Nat.le_of_ble_eq_true rfl) ?_
  refine W.base ?_
  exact lw_ret (Drawn.sameBut.refl s.drawn lw_cs) hx hb hr hlk dL_law_2285

