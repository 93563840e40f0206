set_option maxHeartbeats 4000000 in
set_option maxRecDepth 100000 in
theorem lc_0 {p : Program} {e : Env} {s : State} {m : MethodId} {below : List Frame} {meth : Method} {c : Code} (l : Launch) (hst : l.stackTraces = false) {b : Nat} {xs : Nat → Int32} (C0 : lw_At p s m meth c b 5 xs) (dC : Nat → ClassId) (dI : Nat → Nat → Nat) (g : Nat → Nat) (a0 a1 a2 a3 a4 a5 a6 a7 a8 a9 a10 a11 a12 a13 a14 a15 a16 a17 a18 a19 a20 a21 a22 a23 a24 a25 a26 a27 a28 a29 a30 a31 a32 a33 a34 a35 a36 : Nat) {A : Nat → Prop} (hAe : (fun q : Nat => s.heap.size ≤ q) = A) (hE : EV dC dI g A s) (hA : ∀ q : Nat, s.heap.size ≤ q → A q) (hbA : ¬ A b) (H : Heap) (locs : List Loc) (hP : va_P (dC, dI) CL [(a3, .inr (12, [.ref a4, .ref a5, .ref a6, .ref a7, .ref a8, .ref a9, .ref a10, .ref a11, .null, .ref a12, .ref a13, .int (0), .int (100), .int (0), .int (0), .int (-1), .long (0), .int (1)])), (a4, .inr (8, [.int (0), .ref a14, .ref a15, .ref a16, .ref a17, .int (0), .ref a18, .ref a19, .ref a20, .ref a21, .ref a22, .ref a23, .ref a24])), (a14, .inl (g 2, 9, .inl (fun _ => 0))), (a15, .inl (g 0, 9, .inl (fun _ => 0))), (a2, .inr (15, [.int (0), .int (0), .int (100), .int (0), .int (0), .ref a25, .ref a26, .ref a27, .ref a28, .ref a29, .ref a30, .ref a31, .ref a32, .ref a33, .ref a34, .ref a35, .null, .int (-1), .ref a36, .long (0)])), (a25, .inl (g 2, 9, .inl (fun _ => 0))), (a28, .inl (g 0, 9, .inl (fun _ => 0))), (a1, .inl (g 1, 1, .inr (.inl (fun _ => 0))))] H) (hD : va_D A [(a3, .inr (12, [.ref a4, .ref a5, .ref a6, .ref a7, .ref a8, .ref a9, .ref a10, .ref a11, .null, .ref a12, .ref a13, .int (0), .int (100), .int (0), .int (0), .int (-1), .long (0), .int (1)])), (a4, .inr (8, [.int (0), .ref a14, .ref a15, .ref a16, .ref a17, .int (0), .ref a18, .ref a19, .ref a20, .ref a21, .ref a22, .ref a23, .ref a24])), (a14, .inl (g 2, 9, .inl (fun _ => 0))), (a15, .inl (g 0, 9, .inl (fun _ => 0))), (a2, .inr (15, [.int (0), .int (0), .int (100), .int (0), .int (0), .ref a25, .ref a26, .ref a27, .ref a28, .ref a29, .ref a30, .ref a31, .ref a32, .ref a33, .ref a34, .ref a35, .null, .int (-1), .ref a36, .long (0)])), (a25, .inl (g 2, 9, .inl (fun _ => 0))), (a28, .inl (g 0, 9, .inl (fun _ => 0))), (a1, .inl (g 1, 1, .inr (.inl (fun _ => 0))))]) (hS : va_S A s.heap H locs) (ls : Array Slot) (hl : lv_has ls 9 [(5, .int (0)), (4, .ref a0), (3, .ref a1), (2, .ref a2), (1, .ref a3), (0, .ref b)]) :
    W p l e room_1 s m #[Value.ref b] below meth c H locs 243 2771 (lw_Z below #[Value.ref b] s) (F0 m 44 ls [.int (0)]) := by
  obtain ⟨hx, hb, hr, hml, hown, hts0, hXs, hbl, hlk, hgv⟩ := id C0
  have hts : ∀ w ∈ AW, w.before #[Value.ref b] s = true := fun w h => hts0 w (aw_tbl h)
  have hown : s.vm.findClass "MinestrataLaw" = some m.cls := hown
  have hK := hE.1
  obtain ⟨s1, es1⟩ : ∃ y : Int32, xs (Int32.toNatClampNeg (1)) = y := ⟨_, rfl⟩
  obtain ⟨s2, es2⟩ : ∃ y : Int32, xs (Int32.toNatClampNeg (2)) = y := ⟨_, rfl⟩
  obtain ⟨s3, es3⟩ : ∃ y : Int32, xs (Int32.toNatClampNeg (3)) = y := ⟨_, rfl⟩
  obtain ⟨s4, es4⟩ : ∃ y : Int32, xs (Int32.toNatClampNeg (4)) = y := ⟨_, rfl⟩
  refine lv_tableIn (tgt := 204) (off := 160) hx hb dL_law_44 (by decide +kernel) (by decide +kernel) rfl (by decide +kernel) ?_
  refine lv_aload_n hx hb dL_law_204 rfl (lv_at hl 4 rfl) ?_
  refine lv_aload_n hx hb dL_law_205 rfl (lv_at hl 5 rfl) ?_
  refine lv_iload hx hb dL_law_206 (lv_at hl 0 rfl) ?_
  refine lv_iconst (v := (1)) hx hb dL_law_208 (by decide +kernel) ?_
  refine lv_iadd hx hb dL_law_209 ?_
  refine nt_i (v := (1)) (by decide +kernel) ?_
  refine va_sld hx hb hXs hbl hbA hS (show ¬ ((1 : Int32) < 0 ∨ 5 ≤ Int32.toNatClampNeg (1)) by decide +kernel) dL_law_210 ?_
  refine nt_i (v := s1) es1 ?_
  refine lv_if_eq (tgt := 218) hx hb dL_law_211 (by decide +kernel) (fun h1 => ?_) (fun h1 => ?_)
  · skip
    subst h1
    refine lv_iconst (v := (0)) hx hb dL_law_218 (by decide +kernel) ?_
    refine lv_aload_n hx hb dL_law_219 rfl (lv_at hl 5 rfl) ?_
    refine lv_iload hx hb dL_law_220 (lv_at hl 0 rfl) ?_
    refine lv_iconst (v := (2)) hx hb dL_law_222 (by decide +kernel) ?_
    refine lv_iadd hx hb dL_law_223 ?_
    refine nt_i (v := (2)) (by decide +kernel) ?_
    refine va_sld hx hb hXs hbl hbA hS (show ¬ ((2 : Int32) < 0 ∨ 5 ≤ Int32.toNatClampNeg (2)) by decide +kernel) dL_law_224 ?_
    refine nt_i (v := s2) es2 ?_
    refine lv_aload_n hx hb dL_law_225 rfl (lv_at hl 2 rfl) ?_
    have hX : nCx p s m _ c code 9 "MinestrataLaw" dC dI g A [(a3, .inr (12, [.ref a4, .ref a5, .ref a6, .ref a7, .ref a8, .ref a9, .ref a10, .ref a11, .null, .ref a12, .ref a13, .int (0), .int (100), .int (0), .int (0), .int (-1), .long (0), .int (1)])), (a4, .inr (8, [.int (0), .ref a14, .ref a15, .ref a16, .ref a17, .int (0), .ref a18, .ref a19, .ref a20, .ref a21, .ref a22, .ref a23, .ref a24])), (a14, .inl (g 2, 9, .inl (fun _ => 0))), (a15, .inl (g 0, 9, .inl (fun _ => 0))), (a2, .inr (15, [.int (0), .int (0), .int (100), .int (0), .int (0), .ref a25, .ref a26, .ref a27, .ref a28, .ref a29, .ref a30, .ref a31, .ref a32, .ref a33, .ref a34, .ref a35, .null, .int (-1), .ref a36, .long (0)])), (a25, .inl (g 2, 9, .inl (fun _ => 0))), (a28, .inl (g 0, 9, .inl (fun _ => 0))), (a1, .inl (g 1, 1, .inr (.inl (fun _ => 0))))] _ _ := ⟨⟨hx, hb, hml, hown, hts⟩, hE, hS, hA, hP, hD⟩
    refine n_call (wr := [(a2, .inr (15, [.int (0), .int (0), .int (100), .int (0), .int (0), .ref a25, .ref a26, .ref a27, .ref a28, .ref a29, .ref a30, .ref a31, .ref a32, .ref a33, .ref a34, .ref a35, .null, .int (-1), .ref a36, .long (0)])), (a25, .inl (g 2, 9, .inl (fun _ => 0))), (a28, .inl (g 0, 9, .inl (fun _ => 0)))]) hX (n_runSW (n := 4) (wc := [(a3, .inr (12, [.ref a4, .ref a5, .ref a6, .ref a7, .ref a8, .ref a9, .ref a10, .ref a11, .null, .ref a12, .ref a13, .int (0), .int (100), .int (0), .int (0), .int (-1), .long (0), .int (1)])), (a4, .inr (8, [.int (0), .ref a14, .ref a15, .ref a16, .ref a17, .int (0), .ref a18, .ref a19, .ref a20, .ref a21, .ref a22, .ref a23, .ref a24])), (a14, .inl (g 2, 9, .inl (fun _ => 0))), (a15, .inl (g 0, 9, .inl (fun _ => 0))), (a1, .inl (g 1, 1, .inr (.inl (fun _ => 0))))]) (As := [.ref a3, .int (0), .int s2, .ref a1]) (rest := []) hX (m23 l hst dC dI g a3 a1 a4 a5 a6 a7 a8 a9 a10 a11 a12 a13 a14 a15 a16 a17 a18 a19 a20 a21 a22 a23 a24 s2 _) [0, 1, 2, 3, 7] rfl (by decide +kernel) q805 q806 q70 q807 (by decide +kernel) ⟨(Nat.le_of_ble_eq_true rfl), (Nat.le_of_ble_eq_true rfl)⟩ ⟨(Nat.le_of_ble_eq_true rfl), (Nat.le_of_ble_eq_true rfl)⟩ hl.1 rfl rfl (Nat.le_of_ble_eq_true rfl) dL_law_226) [0, 1, 2, 3, 7] [4, 5, 6] rfl rfl (by decide +kernel) (by decide +kernel) (fun f2 r3 H locs hP hD hS => ?_)
    have hP : va_P (dC, dI) CL [(a2, .inr (15, [.int (0), .int (0), .int (100), .int (0), .int (0), .ref a25, .ref a26, .ref a27, .ref a28, .ref a29, .ref a30, .ref a31, .ref a32, .ref a33, .ref a34, .ref a35, .null, .int (-1), .ref a36, .long (0)])), (a25, .inl (g 2, 9, .inl (fun _ => 0))), (a28, .inl (g 0, 9, .inl (fun _ => 0))), (a3, .inr (12, [.ref a4, .ref a5, .ref a6, .ref a7, .ref a8, .ref a9, .ref a10, .ref a11, .null, .ref a12, .ref a13, .int (0), .int (100), .int (0), .int (0), .int (-1), .long (0), .int (1)])), (a4, .inr (8, [.int (1), .ref a14, .ref a15, .ref a16, .ref a17, .int (0), .ref a18, .ref a19, .ref a20, .ref a21, .ref a22, .ref a23, .ref a24])), (a14, .inl (g 2, 9, .inl (upd (fun _ => 0) (Int32.toNatClampNeg (0)) (vp_nar .boolean (0))))), (a15, .inl (g 0, 9, .inl (upd (fun _ => 0) (Int32.toNatClampNeg (0)) (0)))), (a1, .inl (g 1, 1, .inr (.inl (vp_updL (fun _ => 0) (Int32.toNatClampNeg (0)) (0)))))] _ := hP
    have hD : va_D A [(a2, .inr (15, [.int (0), .int (0), .int (100), .int (0), .int (0), .ref a25, .ref a26, .ref a27, .ref a28, .ref a29, .ref a30, .ref a31, .ref a32, .ref a33, .ref a34, .ref a35, .null, .int (-1), .ref a36, .long (0)])), (a25, .inl (g 2, 9, .inl (fun _ => 0))), (a28, .inl (g 0, 9, .inl (fun _ => 0))), (a3, .inr (12, [.ref a4, .ref a5, .ref a6, .ref a7, .ref a8, .ref a9, .ref a10, .ref a11, .null, .ref a12, .ref a13, .int (0), .int (100), .int (0), .int (0), .int (-1), .long (0), .int (1)])), (a4, .inr (8, [.int (1), .ref a14, .ref a15, .ref a16, .ref a17, .int (0), .ref a18, .ref a19, .ref a20, .ref a21, .ref a22, .ref a23, .ref a24])), (a14, .inl (g 2, 9, .inl (upd (fun _ => 0) (Int32.toNatClampNeg (0)) (vp_nar .boolean (0))))), (a15, .inl (g 0, 9, .inl (upd (fun _ => 0) (Int32.toNatClampNeg (0)) (0)))), (a1, .inl (g 1, 1, .inr (.inl (vp_updL (fun _ => 0) (Int32.toNatClampNeg (0)) (0)))))] := hD
    refine W.widen (k := 243) (n := 2771) (Nat.le_of_ble_eq_true rfl) (Nat.le_of_ble_eq_true rfl) ?_
    refine W.eq (g2 := F0 m 229 ls [.int (0)]) rfl ?_
    refine lv_istore (lv' := [(6, .int (0)), (5, .int (0)), (4, .ref a0), (3, .ref a1), (2, .ref a2), (1, .ref a3), (0, .ref b)]) hx hb dL_law_229 hl (by decide) rfl (fun ls hl => ?_)
    refine lv_aload_n hx hb dL_law_231 rfl (lv_at hl 4 rfl) ?_
    refine lv_aload_n hx hb dL_law_232 rfl (lv_at hl 6 rfl) ?_
    refine lv_iload hx hb dL_law_233 (lv_at hl 1 rfl) ?_
    refine lv_iconst (v := (1)) hx hb dL_law_235 (by decide +kernel) ?_
    refine lv_iadd hx hb dL_law_236 ?_
    refine nt_i (v := (1)) (by decide +kernel) ?_
    refine va_sld hx hb hXs hbl hbA hS (show ¬ ((1 : Int32) < 0 ∨ 5 ≤ Int32.toNatClampNeg (1)) by decide +kernel) dL_law_237 ?_
    refine nt_i (v := (0)) es1 ?_
    refine lv_if_eq (tgt := 245) hx hb dL_law_238 (by decide +kernel) (fun _ => ?_) (fun h => absurd (by decide +kernel) h)
    refine lv_iconst (v := (0)) hx hb dL_law_245 (by decide +kernel) ?_
    refine lv_aload_n hx hb dL_law_246 rfl (lv_at hl 6 rfl) ?_
    refine lv_iload hx hb dL_law_247 (lv_at hl 1 rfl) ?_
    refine lv_iconst (v := (2)) hx hb dL_law_249 (by decide +kernel) ?_
    refine lv_iadd hx hb dL_law_250 ?_
    refine nt_i (v := (2)) (by decide +kernel) ?_
    refine va_sld hx hb hXs hbl hbA hS (show ¬ ((2 : Int32) < 0 ∨ 5 ≤ Int32.toNatClampNeg (2)) by decide +kernel) dL_law_251 ?_
    refine nt_i (v := s2) es2 ?_
    have hX : nCx p s m _ c code 9 "MinestrataLaw" dC dI g A [(a2, .inr (15, [.int (0), .int (0), .int (100), .int (0), .int (0), .ref a25, .ref a26, .ref a27, .ref a28, .ref a29, .ref a30, .ref a31, .ref a32, .ref a33, .ref a34, .ref a35, .null, .int (-1), .ref a36, .long (0)])), (a25, .inl (g 2, 9, .inl (fun _ => 0))), (a28, .inl (g 0, 9, .inl (fun _ => 0))), (a3, .inr (12, [.ref a4, .ref a5, .ref a6, .ref a7, .ref a8, .ref a9, .ref a10, .ref a11, .null, .ref a12, .ref a13, .int (0), .int (100), .int (0), .int (0), .int (-1), .long (0), .int (1)])), (a4, .inr (8, [.int (1), .ref a14, .ref a15, .ref a16, .ref a17, .int (0), .ref a18, .ref a19, .ref a20, .ref a21, .ref a22, .ref a23, .ref a24])), (a14, .inl (g 2, 9, .inl (upd (fun _ => 0) (Int32.toNatClampNeg (0)) (vp_nar .boolean (0))))), (a15, .inl (g 0, 9, .inl (upd (fun _ => 0) (Int32.toNatClampNeg (0)) (0)))), (a1, .inl (g 1, 1, .inr (.inl (vp_updL (fun _ => 0) (Int32.toNatClampNeg (0)) (0)))))] _ _ := ⟨⟨hx, hb, hml, hown, hts⟩, hE, hS, hA, hP, hD⟩
    refine n_call (wr := [(a3, .inr (12, [.ref a4, .ref a5, .ref a6, .ref a7, .ref a8, .ref a9, .ref a10, .ref a11, .null, .ref a12, .ref a13, .int (0), .int (100), .int (0), .int (0), .int (-1), .long (0), .int (1)])), (a4, .inr (8, [.int (1), .ref a14, .ref a15, .ref a16, .ref a17, .int (0), .ref a18, .ref a19, .ref a20, .ref a21, .ref a22, .ref a23, .ref a24])), (a14, .inl (g 2, 9, .inl (upd (fun _ => 0) (Int32.toNatClampNeg (0)) (vp_nar .boolean (0))))), (a15, .inl (g 0, 9, .inl (upd (fun _ => 0) (Int32.toNatClampNeg (0)) (0)))), (a1, .inl (g 1, 1, .inr (.inl (vp_updL (fun _ => 0) (Int32.toNatClampNeg (0)) (0)))))]) hX (n_runV (n := 2) (wc := [(a2, .inr (15, [.int (0), .int (0), .int (100), .int (0), .int (0), .ref a25, .ref a26, .ref a27, .ref a28, .ref a29, .ref a30, .ref a31, .ref a32, .ref a33, .ref a34, .ref a35, .null, .int (-1), .ref a36, .long (0)])), (a25, .inl (g 2, 9, .inl (fun _ => 0))), (a28, .inl (g 0, 9, .inl (fun _ => 0)))]) (As := [.int (0), .int s2]) (rest := []) hX (m25 l hst dC dI g a2 a25 a26 a27 a28 a29 a30 a31 a32 a33 a34 a35 a36 s2 _) [0, 1, 2] rfl (by decide +kernel) 0 (ci := 15) rfl (T := TX16) (N := 20) (C := "MinestrataModel") rfl q1499 q1500 q1501 q82 q1502 (by decide +kernel) ⟨(Nat.le_of_ble_eq_true rfl), (Nat.le_of_ble_eq_true rfl)⟩ ⟨(Nat.le_of_ble_eq_true rfl), (Nat.le_of_ble_eq_true rfl)⟩ hl.1 rfl rfl (Nat.le_of_ble_eq_true rfl) dL_law_252) [0, 1, 2] [3, 4, 5, 6, 7] rfl rfl (by decide +kernel) (by decide +kernel) (fun f4 r5 H locs hP hD hS => ?_)
    have hP : va_P (dC, dI) CL [(a3, .inr (12, [.ref a4, .ref a5, .ref a6, .ref a7, .ref a8, .ref a9, .ref a10, .ref a11, .null, .ref a12, .ref a13, .int (0), .int (100), .int (0), .int (0), .int (-1), .long (0), .int (1)])), (a4, .inr (8, [.int (1), .ref a14, .ref a15, .ref a16, .ref a17, .int (0), .ref a18, .ref a19, .ref a20, .ref a21, .ref a22, .ref a23, .ref a24])), (a14, .inl (g 2, 9, .inl (upd (fun _ => 0) (Int32.toNatClampNeg (0)) (vp_nar .boolean (0))))), (a15, .inl (g 0, 9, .inl (upd (fun _ => 0) (Int32.toNatClampNeg (0)) (0)))), (a1, .inl (g 1, 1, .inr (.inl (vp_updL (fun _ => 0) (Int32.toNatClampNeg (0)) (0))))), (a2, .inr (15, [.int (0), .int (1), .int (100), .int (0), .int (0), .ref a25, .ref a26, .ref a27, .ref a28, .ref a29, .ref a30, .ref a31, .ref a32, .ref a33, .ref a34, .ref a35, .null, .int (-1), .ref a36, .long (0)])), (a25, .inl (g 2, 9, .inl (upd (fun _ => 0) (Int32.toNatClampNeg (0)) (vp_nar .boolean (0))))), (a28, .inl (g 0, 9, .inl (upd (fun _ => 0) (Int32.toNatClampNeg (0)) (0))))] _ := hP
    have hD : va_D A [(a3, .inr (12, [.ref a4, .ref a5, .ref a6, .ref a7, .ref a8, .ref a9, .ref a10, .ref a11, .null, .ref a12, .ref a13, .int (0), .int (100), .int (0), .int (0), .int (-1), .long (0), .int (1)])), (a4, .inr (8, [.int (1), .ref a14, .ref a15, .ref a16, .ref a17, .int (0), .ref a18, .ref a19, .ref a20, .ref a21, .ref a22, .ref a23, .ref a24])), (a14, .inl (g 2, 9, .inl (upd (fun _ => 0) (Int32.toNatClampNeg (0)) (vp_nar .boolean (0))))), (a15, .inl (g 0, 9, .inl (upd (fun _ => 0) (Int32.toNatClampNeg (0)) (0)))), (a1, .inl (g 1, 1, .inr (.inl (vp_updL (fun _ => 0) (Int32.toNatClampNeg (0)) (0))))), (a2, .inr (15, [.int (0), .int (1), .int (100), .int (0), .int (0), .ref a25, .ref a26, .ref a27, .ref a28, .ref a29, .ref a30, .ref a31, .ref a32, .ref a33, .ref a34, .ref a35, .null, .int (-1), .ref a36, .long (0)])), (a25, .inl (g 2, 9, .inl (upd (fun _ => 0) (Int32.toNatClampNeg (0)) (vp_nar .boolean (0))))), (a28, .inl (g 0, 9, .inl (upd (fun _ => 0) (Int32.toNatClampNeg (0)) (0))))] := hD
    refine W.widen (k := 243) (n := 2771) (Nat.le_of_ble_eq_true rfl) (Nat.le_of_ble_eq_true rfl) ?_
    refine W.eq (g2 := F0 m 255 ls [.int (0)]) rfl ?_
    refine lv_istore (lv' := [(7, .int (0)), (6, .int (0)), (5, .int (0)), (4, .ref a0), (3, .ref a1), (2, .ref a2), (1, .ref a3), (0, .ref b)]) hx hb dL_law_255 hl (by decide) rfl (fun ls hl => ?_)
    refine lv_aload_n hx hb dL_law_257 rfl (lv_at hl 5 rfl) ?_
    have hX : nCx p s m _ c code 9 "MinestrataLaw" dC dI g A [(a3, .inr (12, [.ref a4, .ref a5, .ref a6, .ref a7, .ref a8, .ref a9, .ref a10, .ref a11, .null, .ref a12, .ref a13, .int (0), .int (100), .int (0), .int (0), .int (-1), .long (0), .int (1)])), (a4, .inr (8, [.int (1), .ref a14, .ref a15, .ref a16, .ref a17, .int (0), .ref a18, .ref a19, .ref a20, .ref a21, .ref a22, .ref a23, .ref a24])), (a14, .inl (g 2, 9, .inl (upd (fun _ => 0) (Int32.toNatClampNeg (0)) (vp_nar .boolean (0))))), (a15, .inl (g 0, 9, .inl (upd (fun _ => 0) (Int32.toNatClampNeg (0)) (0)))), (a1, .inl (g 1, 1, .inr (.inl (vp_updL (fun _ => 0) (Int32.toNatClampNeg (0)) (0))))), (a2, .inr (15, [.int (0), .int (1), .int (100), .int (0), .int (0), .ref a25, .ref a26, .ref a27, .ref a28, .ref a29, .ref a30, .ref a31, .ref a32, .ref a33, .ref a34, .ref a35, .null, .int (-1), .ref a36, .long (0)])), (a25, .inl (g 2, 9, .inl (upd (fun _ => 0) (Int32.toNatClampNeg (0)) (vp_nar .boolean (0))))), (a28, .inl (g 0, 9, .inl (upd (fun _ => 0) (Int32.toNatClampNeg (0)) (0))))] _ _ := ⟨⟨hx, hb, hml, hown, hts⟩, hE, hS, hA, hP, hD⟩
    refine n_call (wr := [(a3, .inr (12, [.ref a4, .ref a5, .ref a6, .ref a7, .ref a8, .ref a9, .ref a10, .ref a11, .null, .ref a12, .ref a13, .int (0), .int (100), .int (0), .int (0), .int (-1), .long (0), .int (1)])), (a4, .inr (8, [.int (1), .ref a14, .ref a15, .ref a16, .ref a17, .int (0), .ref a18, .ref a19, .ref a20, .ref a21, .ref a22, .ref a23, .ref a24])), (a14, .inl (g 2, 9, .inl (upd (fun _ => 0) (Int32.toNatClampNeg (0)) (vp_nar .boolean (0))))), (a15, .inl (g 0, 9, .inl (upd (fun _ => 0) (Int32.toNatClampNeg (0)) (0)))), (a1, .inl (g 1, 1, .inr (.inl (vp_updL (fun _ => 0) (Int32.toNatClampNeg (0)) (0))))), (a25, .inl (g 2, 9, .inl (upd (fun _ => 0) (Int32.toNatClampNeg (0)) (vp_nar .boolean (0))))), (a28, .inl (g 0, 9, .inl (upd (fun _ => 0) (Int32.toNatClampNeg (0)) (0))))]) hX (n_runV (n := 0) (wc := [(a2, .inr (15, [.int (0), .int (1), .int (100), .int (0), .int (0), .ref a25, .ref a26, .ref a27, .ref a28, .ref a29, .ref a30, .ref a31, .ref a32, .ref a33, .ref a34, .ref a35, .null, .int (-1), .ref a36, .long (0)]))]) (As := []) (rest := []) hX (m26 l hst dC dI g a2 a25 a26 a27 a28 a29 a30 a31 a32 a33 a34 a35 a36 _) [5] rfl (by decide +kernel) 5 (ci := 15) rfl (T := TX16) (N := 20) (C := "MinestrataModel") rfl q1495 q1496 q1497 q82 q1498 (by decide +kernel) ⟨(Nat.le_of_ble_eq_true rfl), (Nat.le_of_ble_eq_true rfl)⟩ ⟨(Nat.le_of_ble_eq_true rfl), (Nat.le_of_ble_eq_true rfl)⟩ hl.1 rfl rfl (Nat.le_of_ble_eq_true rfl) dL_law_258) [5] [0, 1, 2, 3, 4, 6, 7] rfl rfl (by decide +kernel) (by decide +kernel) (fun f6 r7 H locs hP hD hS => ?_)
    have hP : va_P (dC, dI) CL [(a3, .inr (12, [.ref a4, .ref a5, .ref a6, .ref a7, .ref a8, .ref a9, .ref a10, .ref a11, .null, .ref a12, .ref a13, .int (0), .int (100), .int (0), .int (0), .int (-1), .long (0), .int (1)])), (a4, .inr (8, [.int (1), .ref a14, .ref a15, .ref a16, .ref a17, .int (0), .ref a18, .ref a19, .ref a20, .ref a21, .ref a22, .ref a23, .ref a24])), (a14, .inl (g 2, 9, .inl (upd (fun _ => 0) (Int32.toNatClampNeg (0)) (vp_nar .boolean (0))))), (a15, .inl (g 0, 9, .inl (upd (fun _ => 0) (Int32.toNatClampNeg (0)) (0)))), (a1, .inl (g 1, 1, .inr (.inl (vp_updL (fun _ => 0) (Int32.toNatClampNeg (0)) (0))))), (a25, .inl (g 2, 9, .inl (upd (fun _ => 0) (Int32.toNatClampNeg (0)) (vp_nar .boolean (0))))), (a28, .inl (g 0, 9, .inl (upd (fun _ => 0) (Int32.toNatClampNeg (0)) (0)))), (a2, .inr (15, [.int (0), .int (1), .int (100), .int (0), .int (0), .ref a25, .ref a26, .ref a27, .ref a28, .ref a29, .ref a30, .ref a31, .ref a32, .ref a33, .ref a34, .ref a35, .null, .int (-1), .ref a36, .long (0)]))] _ := hP
    have hD : va_D A [(a3, .inr (12, [.ref a4, .ref a5, .ref a6, .ref a7, .ref a8, .ref a9, .ref a10, .ref a11, .null, .ref a12, .ref a13, .int (0), .int (100), .int (0), .int (0), .int (-1), .long (0), .int (1)])), (a4, .inr (8, [.int (1), .ref a14, .ref a15, .ref a16, .ref a17, .int (0), .ref a18, .ref a19, .ref a20, .ref a21, .ref a22, .ref a23, .ref a24])), (a14, .inl (g 2, 9, .inl (upd (fun _ => 0) (Int32.toNatClampNeg (0)) (vp_nar .boolean (0))))), (a15, .inl (g 0, 9, .inl (upd (fun _ => 0) (Int32.toNatClampNeg (0)) (0)))), (a1, .inl (g 1, 1, .inr (.inl (vp_updL (fun _ => 0) (Int32.toNatClampNeg (0)) (0))))), (a25, .inl (g 2, 9, .inl (upd (fun _ => 0) (Int32.toNatClampNeg (0)) (vp_nar .boolean (0))))), (a28, .inl (g 0, 9, .inl (upd (fun _ => 0) (Int32.toNatClampNeg (0)) (0)))), (a2, .inr (15, [.int (0), .int (1), .int (100), .int (0), .int (0), .ref a25, .ref a26, .ref a27, .ref a28, .ref a29, .ref a30, .ref a31, .ref a32, .ref a33, .ref a34, .ref a35, .null, .int (-1), .ref a36, .long (0)]))] := hD
    refine W.widen (k := 243) (n := 2771) (Nat.le_of_ble_eq_true rfl) (Nat.le_of_ble_eq_true rfl) ?_
    refine W.eq (g2 := F0 m 261 ls [.int (0)]) rfl ?_
    refine lv_iload hx hb dL_law_261 (lv_at hl 1 rfl) ?_
    refine lv_icmp_eq (tgt := 268) hx hb dL_law_263 (by decide +kernel) (fun _ => ?_) (fun h => absurd (by decide +kernel) h)
    refine lv_iload hx hb dL_law_268 (lv_at hl 1 rfl) ?_
    refine lv_if_ne (tgt := 285) hx hb dL_law_270 (by decide +kernel) (fun h => absurd (by decide +kernel) h) (fun _ => ?_)
    refine lv_aload_n hx hb dL_law_273 rfl (lv_at hl 4 rfl) ?_
    refine lv_iconst (v := (0)) hx hb dL_law_274 (by decide +kernel) ?_
    refine va_lald hx hb hK hP 4 1 rfl rfl (show ¬ ((0 : Int32) < 0 ∨ 1 ≤ Int32.toNatClampNeg (0)) by decide +kernel) dL_law_275 ?_
    refine nt_l (v := (0)) (by decide +kernel) ?_
    refine lv_iload hx hb dL_law_276 (lv_at hl 0 rfl) ?_
    refine lv_i2l (v := (0)) hx hb dL_law_278 (by decide +kernel) ?_
    refine W.lcmp hx hb dL_law_279 ?_
    refine nt_i (v := (0)) (by decide +kernel) ?_
    refine lv_if_eq (tgt := 285) hx hb dL_law_280 (by decide +kernel) (fun _ => ?_) (fun h => absurd (by decide +kernel) h)
    refine lv_goto (tgt := 2278) hx hb dL_law_285 (by decide +kernel) ?_
    refine lv_iinc (v := (5)) (lv' := [(5, .int (5)), (7, .int (0)), (6, .int (0)), (4, .ref a0), (3, .ref a1), (2, .ref a2), (1, .ref a3), (0, .ref b)]) hx hb dL_law_2278 hl (k := 2) rfl (by decide +kernel) (by decide) rfl (fun ls hl => ?_)
    refine lv_goto (tgt := 28) hx hb dL_law_2281 (by decide +kernel) ?_
    refine lv_iload hx hb dL_law_28 (lv_at hl 0 rfl) ?_
    refine lv_aload_n hx hb dL_law_30 rfl (lv_at hl 7 rfl) ?_
    refine va_slen hx hb hXs hbl hbA hS dL_law_31 ?_
    refine nt_i (v := (5)) (by decide +kernel) ?_
    refine lv_iconst (v := (5)) hx hb dL_law_32 (by decide +kernel) ?_
    refine lv_isub hx hb dL_law_33 ?_
    refine nt_i (v := (0)) (by decide +kernel) ?_
    refine lv_icmp_gt (tgt := 2284) hx hb dL_law_34 (by decide +kernel) (fun _ => ?_) (fun h => absurd (by decide +kernel) h)
    refine lv_iconst (v := (1)) hx hb dL_law_2284 (by decide +kernel) ?_
    refine va_forget (fun q9 hq9 => by have h9 := hS.2.2 q9 hq9; rw [← hAe] at h9; exact h9) ?_
    refine W.widen (k := 600006) (n := 7302056) (Nat.le_of_ble_eq_true rfl) (Nat.le_of_ble_eq_true rfl) ?_
    refine W.base ?_
    exact lw_ret (Drawn.sameBut.refl s.drawn lw_cs) hx hb hr hlk dL_law_2285
  · skip
    refine lv_iconst (v := (1)) hx hb dL_law_214 (by decide +kernel) ?_
    refine lv_goto (tgt := 219) hx hb dL_law_215 (by decide +kernel) ?_
    refine lv_aload_n hx hb dL_law_219 rfl (lv_at hl 5 rfl) ?_
    refine lv_iload hx hb dL_law_220 (lv_at hl 0 rfl) ?_
    refine lv_iconst (v := (2)) hx hb dL_law_222 (by decide +kernel) ?_
    refine lv_iadd hx hb dL_law_223 ?_
    refine nt_i (v := (2)) (by decide +kernel) ?_
    refine va_sld hx hb hXs hbl hbA hS (show ¬ ((2 : Int32) < 0 ∨ 5 ≤ Int32.toNatClampNeg (2)) by decide +kernel) dL_law_224 ?_
    refine nt_i (v := s2) es2 ?_
    refine lv_aload_n hx hb dL_law_225 rfl (lv_at hl 2 rfl) ?_
    by_cases h8 : s2 < (-50)
    · skip
      have hX : nCx p s m _ c code 9 "MinestrataLaw" dC dI g A [(a3, .inr (12, [.ref a4, .ref a5, .ref a6, .ref a7, .ref a8, .ref a9, .ref a10, .ref a11, .null, .ref a12, .ref a13, .int (0), .int (100), .int (0), .int (0), .int (-1), .long (0), .int (1)])), (a4, .inr (8, [.int (0), .ref a14, .ref a15, .ref a16, .ref a17, .int (0), .ref a18, .ref a19, .ref a20, .ref a21, .ref a22, .ref a23, .ref a24])), (a14, .inl (g 2, 9, .inl (fun _ => 0))), (a15, .inl (g 0, 9, .inl (fun _ => 0))), (a2, .inr (15, [.int (0), .int (0), .int (100), .int (0), .int (0), .ref a25, .ref a26, .ref a27, .ref a28, .ref a29, .ref a30, .ref a31, .ref a32, .ref a33, .ref a34, .ref a35, .null, .int (-1), .ref a36, .long (0)])), (a25, .inl (g 2, 9, .inl (fun _ => 0))), (a28, .inl (g 0, 9, .inl (fun _ => 0))), (a1, .inl (g 1, 1, .inr (.inl (fun _ => 0))))] _ _ := ⟨⟨hx, hb, hml, hown, hts⟩, hE, hS, hA, hP, hD⟩
      refine n_call (wr := [(a2, .inr (15, [.int (0), .int (0), .int (100), .int (0), .int (0), .ref a25, .ref a26, .ref a27, .ref a28, .ref a29, .ref a30, .ref a31, .ref a32, .ref a33, .ref a34, .ref a35, .null, .int (-1), .ref a36, .long (0)])), (a25, .inl (g 2, 9, .inl (fun _ => 0))), (a28, .inl (g 0, 9, .inl (fun _ => 0)))]) hX (n_runSW (n := 4) (wc := [(a3, .inr (12, [.ref a4, .ref a5, .ref a6, .ref a7, .ref a8, .ref a9, .ref a10, .ref a11, .null, .ref a12, .ref a13, .int (0), .int (100), .int (0), .int (0), .int (-1), .long (0), .int (1)])), (a4, .inr (8, [.int (0), .ref a14, .ref a15, .ref a16, .ref a17, .int (0), .ref a18, .ref a19, .ref a20, .ref a21, .ref a22, .ref a23, .ref a24])), (a14, .inl (g 2, 9, .inl (fun _ => 0))), (a15, .inl (g 0, 9, .inl (fun _ => 0))), (a1, .inl (g 1, 1, .inr (.inl (fun _ => 0))))]) (As := [.ref a3, .int (1), .int s2, .ref a1]) (rest := []) hX (m29 l hst dC dI g a3 a1 a4 a5 a6 a7 a8 a9 a10 a11 a12 a13 a14 a15 a16 a17 a18 a19 a20 a21 a22 a23 a24 s2 h8 _) [0, 1, 2, 3, 7] rfl (by decide +kernel) q805 q806 q70 q807 (by decide +kernel) ⟨(Nat.le_of_ble_eq_true rfl), (Nat.le_of_ble_eq_true rfl)⟩ ⟨(Nat.le_of_ble_eq_true rfl), (Nat.le_of_ble_eq_true rfl)⟩ hl.1 rfl rfl (Nat.le_of_ble_eq_true rfl) dL_law_226) [0, 1, 2, 3, 7] [4, 5, 6] rfl rfl (by decide +kernel) (by decide +kernel) (fun f9 r10 H locs hP hD hS => ?_)
      have hP : va_P (dC, dI) CL [(a2, .inr (15, [.int (0), .int (0), .int (100), .int (0), .int (0), .ref a25, .ref a26, .ref a27, .ref a28, .ref a29, .ref a30, .ref a31, .ref a32, .ref a33, .ref a34, .ref a35, .null, .int (-1), .ref a36, .long (0)])), (a25, .inl (g 2, 9, .inl (fun _ => 0))), (a28, .inl (g 0, 9, .inl (fun _ => 0)))] _ := hP
      have hD : va_D A [(a2, .inr (15, [.int (0), .int (0), .int (100), .int (0), .int (0), .ref a25, .ref a26, .ref a27, .ref a28, .ref a29, .ref a30, .ref a31, .ref a32, .ref a33, .ref a34, .ref a35, .null, .int (-1), .ref a36, .long (0)])), (a25, .inl (g 2, 9, .inl (fun _ => 0))), (a28, .inl (g 0, 9, .inl (fun _ => 0)))] := hD
      refine W.widen (k := 244) (n := 2777) (Nat.le_of_ble_eq_true rfl) (Nat.le_of_ble_eq_true rfl) ?_
      refine W.eq (g2 := F0 m 229 ls [.int (1)]) rfl ?_
      refine lv_istore (lv' := [(6, .int (1)), (5, .int (0)), (4, .ref a0), (3, .ref a1), (2, .ref a2), (1, .ref a3), (0, .ref b)]) hx hb dL_law_229 hl (by decide) rfl (fun ls hl => ?_)
      refine lv_aload_n hx hb dL_law_231 rfl (lv_at hl 4 rfl) ?_
      refine lv_aload_n hx hb dL_law_232 rfl (lv_at hl 6 rfl) ?_
      refine lv_iload hx hb dL_law_233 (lv_at hl 1 rfl) ?_
      refine lv_iconst (v := (1)) hx hb dL_law_235 (by decide +kernel) ?_
      refine lv_iadd hx hb dL_law_236 ?_
      refine nt_i (v := (1)) (by decide +kernel) ?_
      refine va_sld hx hb hXs hbl hbA hS (show ¬ ((1 : Int32) < 0 ∨ 5 ≤ Int32.toNatClampNeg (1)) by decide +kernel) dL_law_237 ?_
      refine nt_i (v := s1) es1 ?_
      refine lv_if_eq (tgt := 245) hx hb dL_law_238 (by decide +kernel) (fun h => absurd h h1) (fun _ => ?_)
      refine lv_iconst (v := (1)) hx hb dL_law_241 (by decide +kernel) ?_
      refine lv_goto (tgt := 246) hx hb dL_law_242 (by decide +kernel) ?_
      refine lv_aload_n hx hb dL_law_246 rfl (lv_at hl 6 rfl) ?_
      refine lv_iload hx hb dL_law_247 (lv_at hl 1 rfl) ?_
      refine lv_iconst (v := (2)) hx hb dL_law_249 (by decide +kernel) ?_
      refine lv_iadd hx hb dL_law_250 ?_
      refine nt_i (v := (2)) (by decide +kernel) ?_
      refine va_sld hx hb hXs hbl hbA hS (show ¬ ((2 : Int32) < 0 ∨ 5 ≤ Int32.toNatClampNeg (2)) by decide +kernel) dL_law_251 ?_
      refine nt_i (v := s2) es2 ?_
      have hX : nCx p s m _ c code 9 "MinestrataLaw" dC dI g A [(a2, .inr (15, [.int (0), .int (0), .int (100), .int (0), .int (0), .ref a25, .ref a26, .ref a27, .ref a28, .ref a29, .ref a30, .ref a31, .ref a32, .ref a33, .ref a34, .ref a35, .null, .int (-1), .ref a36, .long (0)])), (a25, .inl (g 2, 9, .inl (fun _ => 0))), (a28, .inl (g 0, 9, .inl (fun _ => 0)))] _ _ := ⟨⟨hx, hb, hml, hown, hts⟩, hE, hS, hA, hP, hD⟩
      refine n_call (wr := [(a25, .inl (g 2, 9, .inl (fun _ => 0))), (a28, .inl (g 0, 9, .inl (fun _ => 0)))]) hX (n_runV (n := 2) (wc := [(a2, .inr (15, [.int (0), .int (0), .int (100), .int (0), .int (0), .ref a25, .ref a26, .ref a27, .ref a28, .ref a29, .ref a30, .ref a31, .ref a32, .ref a33, .ref a34, .ref a35, .null, .int (-1), .ref a36, .long (0)]))]) (As := [.int (1), .int s2]) (rest := []) hX (m32 l hst dC dI g a2 a25 a26 a27 a28 a29 a30 a31 a32 a33 a34 a35 a36 s2 h8 _) [0] rfl (by decide +kernel) 0 (ci := 15) rfl (T := TX16) (N := 20) (C := "MinestrataModel") rfl q1499 q1500 q1501 q82 q1502 (by decide +kernel) ⟨(Nat.le_of_ble_eq_true rfl), (Nat.le_of_ble_eq_true rfl)⟩ ⟨(Nat.le_of_ble_eq_true rfl), (Nat.le_of_ble_eq_true rfl)⟩ hl.1 rfl rfl (Nat.le_of_ble_eq_true rfl) dL_law_252) [0] [1, 2] rfl rfl (by decide +kernel) (by decide +kernel) (fun f11 r12 H locs hP hD hS => ?_)
      have hP : va_P (dC, dI) CL [(a25, .inl (g 2, 9, .inl (fun _ => 0))), (a28, .inl (g 0, 9, .inl (fun _ => 0))), (a2, .inr (15, [.int (1), .int (0), .int (100), .int (0), .int (0), .ref a25, .ref a26, .ref a27, .ref a28, .ref a29, .ref a30, .ref a31, .ref a32, .ref a33, .ref a34, .ref a35, .null, .int (-1), .ref a36, .long (0)]))] _ := hP
      have hD : va_D A [(a25, .inl (g 2, 9, .inl (fun _ => 0))), (a28, .inl (g 0, 9, .inl (fun _ => 0))), (a2, .inr (15, [.int (1), .int (0), .int (100), .int (0), .int (0), .ref a25, .ref a26, .ref a27, .ref a28, .ref a29, .ref a30, .ref a31, .ref a32, .ref a33, .ref a34, .ref a35, .null, .int (-1), .ref a36, .long (0)]))] := hD
      refine W.widen (k := 244) (n := 2777) (Nat.le_of_ble_eq_true rfl) (Nat.le_of_ble_eq_true rfl) ?_
      refine W.eq (g2 := F0 m 255 ls [.int (0)]) rfl ?_
      refine lv_istore (lv' := [(7, .int (0)), (6, .int (1)), (5, .int (0)), (4, .ref a0), (3, .ref a1), (2, .ref a2), (1, .ref a3), (0, .ref b)]) hx hb dL_law_255 hl (by decide) rfl (fun ls hl => ?_)
      refine lv_aload_n hx hb dL_law_257 rfl (lv_at hl 5 rfl) ?_
      have hX : nCx p s m _ c code 9 "MinestrataLaw" dC dI g A [(a25, .inl (g 2, 9, .inl (fun _ => 0))), (a28, .inl (g 0, 9, .inl (fun _ => 0))), (a2, .inr (15, [.int (1), .int (0), .int (100), .int (0), .int (0), .ref a25, .ref a26, .ref a27, .ref a28, .ref a29, .ref a30, .ref a31, .ref a32, .ref a33, .ref a34, .ref a35, .null, .int (-1), .ref a36, .long (0)]))] _ _ := ⟨⟨hx, hb, hml, hown, hts⟩, hE, hS, hA, hP, hD⟩
      refine n_call (wr := [(a25, .inl (g 2, 9, .inl (fun _ => 0))), (a28, .inl (g 0, 9, .inl (fun _ => 0)))]) hX (n_runV (n := 0) (wc := [(a2, .inr (15, [.int (1), .int (0), .int (100), .int (0), .int (0), .ref a25, .ref a26, .ref a27, .ref a28, .ref a29, .ref a30, .ref a31, .ref a32, .ref a33, .ref a34, .ref a35, .null, .int (-1), .ref a36, .long (0)]))]) (As := []) (rest := []) hX (m33 l hst dC dI g a2 a25 a26 a27 a28 a29 a30 a31 a32 a33 a34 a35 a36 _) [2] rfl (by decide +kernel) 2 (ci := 15) rfl (T := TX16) (N := 20) (C := "MinestrataModel") rfl q1495 q1496 q1497 q82 q1498 (by decide +kernel) ⟨(Nat.le_of_ble_eq_true rfl), (Nat.le_of_ble_eq_true rfl)⟩ ⟨(Nat.le_of_ble_eq_true rfl), (Nat.le_of_ble_eq_true rfl)⟩ hl.1 rfl rfl (Nat.le_of_ble_eq_true rfl) dL_law_258) [2] [0, 1] rfl rfl (by decide +kernel) (by decide +kernel) (fun f13 r14 H locs hP hD hS => ?_)
      have hP : va_P (dC, dI) CL [(a25, .inl (g 2, 9, .inl (fun _ => 0))), (a28, .inl (g 0, 9, .inl (fun _ => 0))), (a2, .inr (15, [.int (1), .int (0), .int (100), .int (0), .int (0), .ref a25, .ref a26, .ref a27, .ref a28, .ref a29, .ref a30, .ref a31, .ref a32, .ref a33, .ref a34, .ref a35, .null, .int (-1), .ref a36, .long (0)]))] _ := hP
      have hD : va_D A [(a25, .inl (g 2, 9, .inl (fun _ => 0))), (a28, .inl (g 0, 9, .inl (fun _ => 0))), (a2, .inr (15, [.int (1), .int (0), .int (100), .int (0), .int (0), .ref a25, .ref a26, .ref a27, .ref a28, .ref a29, .ref a30, .ref a31, .ref a32, .ref a33, .ref a34, .ref a35, .null, .int (-1), .ref a36, .long (0)]))] := hD
      refine W.widen (k := 244) (n := 2777) (Nat.le_of_ble_eq_true rfl) (Nat.le_of_ble_eq_true rfl) ?_
      refine W.eq (g2 := F0 m 261 ls [.int (1)]) rfl ?_
      refine lv_iload hx hb dL_law_261 (lv_at hl 1 rfl) ?_
      refine lv_icmp_eq (tgt := 268) hx hb dL_law_263 (by decide +kernel) (fun _ => ?_) (fun h => absurd (by decide +kernel) h)
      refine lv_iload hx hb dL_law_268 (lv_at hl 1 rfl) ?_
      refine lv_if_ne (tgt := 285) hx hb dL_law_270 (by decide +kernel) (fun _ => ?_) (fun h => absurd h (by decide +kernel))
      refine lv_goto (tgt := 2278) hx hb dL_law_285 (by decide +kernel) ?_
      refine lv_iinc (v := (5)) (lv' := [(5, .int (5)), (7, .int (0)), (6, .int (1)), (4, .ref a0), (3, .ref a1), (2, .ref a2), (1, .ref a3), (0, .ref b)]) hx hb dL_law_2278 hl (k := 2) rfl (by decide +kernel) (by decide) rfl (fun ls hl => ?_)
      refine lv_goto (tgt := 28) hx hb dL_law_2281 (by decide +kernel) ?_
      refine lv_iload hx hb dL_law_28 (lv_at hl 0 rfl) ?_
      refine lv_aload_n hx hb dL_law_30 rfl (lv_at hl 7 rfl) ?_
      refine va_slen hx hb hXs hbl hbA hS dL_law_31 ?_
      refine nt_i (v := (5)) (by decide +kernel) ?_
      refine lv_iconst (v := (5)) hx hb dL_law_32 (by decide +kernel) ?_
      refine lv_isub hx hb dL_law_33 ?_
      refine nt_i (v := (0)) (by decide +kernel) ?_
      refine lv_icmp_gt (tgt := 2284) hx hb dL_law_34 (by decide +kernel) (fun _ => ?_) (fun h => absurd (by decide +kernel) h)
      refine lv_iconst (v := (1)) hx hb dL_law_2284 (by decide +kernel) ?_
      refine va_forget (fun q9 hq9 => by have h9 := hS.2.2 q9 hq9; rw [← hAe] at h9; exact h9) ?_
      refine W.widen (k := 600006) (n := 7302056) (Nat.le_of_ble_eq_true rfl) (Nat.le_of_ble_eq_true rfl) ?_
      refine W.base ?_
      exact lw_ret (Drawn.sameBut.refl s.drawn lw_cs) hx hb hr hlk dL_law_2285
    · skip
      by_cases h15 : (50) < s2
      · skip
        have hX : nCx p s m _ c code 9 "MinestrataLaw" dC dI g A [(a3, .inr (12, [.ref a4, .ref a5, .ref a6, .ref a7, .ref a8, .ref a9, .ref a10, .ref a11, .null, .ref a12, .ref a13, .int (0), .int (100), .int (0), .int (0), .int (-1), .long (0), .int (1)])), (a4, .inr (8, [.int (0), .ref a14, .ref a15, .ref a16, .ref a17, .int (0), .ref a18, .ref a19, .ref a20, .ref a21, .ref a22, .ref a23, .ref a24])), (a14, .inl (g 2, 9, .inl (fun _ => 0))), (a15, .inl (g 0, 9, .inl (fun _ => 0))), (a2, .inr (15, [.int (0), .int (0), .int (100), .int (0), .int (0), .ref a25, .ref a26, .ref a27, .ref a28, .ref a29, .ref a30, .ref a31, .ref a32, .ref a33, .ref a34, .ref a35, .null, .int (-1), .ref a36, .long (0)])), (a25, .inl (g 2, 9, .inl (fun _ => 0))), (a28, .inl (g 0, 9, .inl (fun _ => 0))), (a1, .inl (g 1, 1, .inr (.inl (fun _ => 0))))] _ _ := ⟨⟨hx, hb, hml, hown, hts⟩, hE, hS, hA, hP, hD⟩
        refine n_call (wr := [(a2, .inr (15, [.int (0), .int (0), .int (100), .int (0), .int (0), .ref a25, .ref a26, .ref a27, .ref a28, .ref a29, .ref a30, .ref a31, .ref a32, .ref a33, .ref a34, .ref a35, .null, .int (-1), .ref a36, .long (0)])), (a25, .inl (g 2, 9, .inl (fun _ => 0))), (a28, .inl (g 0, 9, .inl (fun _ => 0)))]) hX (n_runSW (n := 4) (wc := [(a3, .inr (12, [.ref a4, .ref a5, .ref a6, .ref a7, .ref a8, .ref a9, .ref a10, .ref a11, .null, .ref a12, .ref a13, .int (0), .int (100), .int (0), .int (0), .int (-1), .long (0), .int (1)])), (a4, .inr (8, [.int (0), .ref a14, .ref a15, .ref a16, .ref a17, .int (0), .ref a18, .ref a19, .ref a20, .ref a21, .ref a22, .ref a23, .ref a24])), (a14, .inl (g 2, 9, .inl (fun _ => 0))), (a15, .inl (g 0, 9, .inl (fun _ => 0))), (a1, .inl (g 1, 1, .inr (.inl (fun _ => 0))))]) (As := [.ref a3, .int (1), .int s2, .ref a1]) (rest := []) hX (m36 l hst dC dI g a3 a1 a4 a5 a6 a7 a8 a9 a10 a11 a12 a13 a14 a15 a16 a17 a18 a19 a20 a21 a22 a23 a24 s2 h8 h15 _) [0, 1, 2, 3, 7] rfl (by decide +kernel) q805 q806 q70 q807 (by decide +kernel) ⟨(Nat.le_of_ble_eq_true rfl), (Nat.le_of_ble_eq_true rfl)⟩ ⟨(Nat.le_of_ble_eq_true rfl), (Nat.le_of_ble_eq_true rfl)⟩ hl.1 rfl rfl (Nat.le_of_ble_eq_true rfl) dL_law_226) [0, 1, 2, 3, 7] [4, 5, 6] rfl rfl (by decide +kernel) (by decide +kernel) (fun f16 r17 H locs hP hD hS => ?_)
        have hP : va_P (dC, dI) CL [(a2, .inr (15, [.int (0), .int (0), .int (100), .int (0), .int (0), .ref a25, .ref a26, .ref a27, .ref a28, .ref a29, .ref a30, .ref a31, .ref a32, .ref a33, .ref a34, .ref a35, .null, .int (-1), .ref a36, .long (0)])), (a25, .inl (g 2, 9, .inl (fun _ => 0))), (a28, .inl (g 0, 9, .inl (fun _ => 0)))] _ := hP
        have hD : va_D A [(a2, .inr (15, [.int (0), .int (0), .int (100), .int (0), .int (0), .ref a25, .ref a26, .ref a27, .ref a28, .ref a29, .ref a30, .ref a31, .ref a32, .ref a33, .ref a34, .ref a35, .null, .int (-1), .ref a36, .long (0)])), (a25, .inl (g 2, 9, .inl (fun _ => 0))), (a28, .inl (g 0, 9, .inl (fun _ => 0)))] := hD
        refine W.widen (k := 244) (n := 2777) (Nat.le_of_ble_eq_true rfl) (Nat.le_of_ble_eq_true rfl) ?_
        refine W.eq (g2 := F0 m 229 ls [.int (1)]) rfl ?_
        refine lv_istore (lv' := [(6, .int (1)), (5, .int (0)), (4, .ref a0), (3, .ref a1), (2, .ref a2), (1, .ref a3), (0, .ref b)]) hx hb dL_law_229 hl (by decide) rfl (fun ls hl => ?_)
        refine lv_aload_n hx hb dL_law_231 rfl (lv_at hl 4 rfl) ?_
        refine lv_aload_n hx hb dL_law_232 rfl (lv_at hl 6 rfl) ?_
        refine lv_iload hx hb dL_law_233 (lv_at hl 1 rfl) ?_
        refine lv_iconst (v := (1)) hx hb dL_law_235 (by decide +kernel) ?_
        refine lv_iadd hx hb dL_law_236 ?_
        refine nt_i (v := (1)) (by decide +kernel) ?_
        refine va_sld hx hb hXs hbl hbA hS (show ¬ ((1 : Int32) < 0 ∨ 5 ≤ Int32.toNatClampNeg (1)) by decide +kernel) dL_law_237 ?_
        refine nt_i (v := s1) es1 ?_
        refine lv_if_eq (tgt := 245) hx hb dL_law_238 (by decide +kernel) (fun h => absurd h h1) (fun _ => ?_)
        refine lv_iconst (v := (1)) hx hb dL_law_241 (by decide +kernel) ?_
        refine lv_goto (tgt := 246) hx hb dL_law_242 (by decide +kernel) ?_
        refine lv_aload_n hx hb dL_law_246 rfl (lv_at hl 6 rfl) ?_
        refine lv_iload hx hb dL_law_247 (lv_at hl 1 rfl) ?_
        refine lv_iconst (v := (2)) hx hb dL_law_249 (by decide +kernel) ?_
        refine lv_iadd hx hb dL_law_250 ?_
        refine nt_i (v := (2)) (by decide +kernel) ?_
        refine va_sld hx hb hXs hbl hbA hS (show ¬ ((2 : Int32) < 0 ∨ 5 ≤ Int32.toNatClampNeg (2)) by decide +kernel) dL_law_251 ?_
        refine nt_i (v := s2) es2 ?_
        have hX : nCx p s m _ c code 9 "MinestrataLaw" dC dI g A [(a2, .inr (15, [.int (0), .int (0), .int (100), .int (0), .int (0), .ref a25, .ref a26, .ref a27, .ref a28, .ref a29, .ref a30, .ref a31, .ref a32, .ref a33, .ref a34, .ref a35, .null, .int (-1), .ref a36, .long (0)])), (a25, .inl (g 2, 9, .inl (fun _ => 0))), (a28, .inl (g 0, 9, .inl (fun _ => 0)))] _ _ := ⟨⟨hx, hb, hml, hown, hts⟩, hE, hS, hA, hP, hD⟩
        refine n_call (wr := [(a25, .inl (g 2, 9, .inl (fun _ => 0))), (a28, .inl (g 0, 9, .inl (fun _ => 0)))]) hX (n_runV (n := 2) (wc := [(a2, .inr (15, [.int (0), .int (0), .int (100), .int (0), .int (0), .ref a25, .ref a26, .ref a27, .ref a28, .ref a29, .ref a30, .ref a31, .ref a32, .ref a33, .ref a34, .ref a35, .null, .int (-1), .ref a36, .long (0)]))]) (As := [.int (1), .int s2]) (rest := []) hX (m38 l hst dC dI g a2 a25 a26 a27 a28 a29 a30 a31 a32 a33 a34 a35 a36 s2 h8 h15 _) [0] rfl (by decide +kernel) 0 (ci := 15) rfl (T := TX16) (N := 20) (C := "MinestrataModel") rfl q1499 q1500 q1501 q82 q1502 (by decide +kernel) ⟨(Nat.le_of_ble_eq_true rfl), (Nat.le_of_ble_eq_true rfl)⟩ ⟨(Nat.le_of_ble_eq_true rfl), (Nat.le_of_ble_eq_true rfl)⟩ hl.1 rfl rfl (Nat.le_of_ble_eq_true rfl) dL_law_252) [0] [1, 2] rfl rfl (by decide +kernel) (by decide +kernel) (fun f18 r19 H locs hP hD hS => ?_)
        have hP : va_P (dC, dI) CL [(a25, .inl (g 2, 9, .inl (fun _ => 0))), (a28, .inl (g 0, 9, .inl (fun _ => 0))), (a2, .inr (15, [.int (1), .int (0), .int (100), .int (0), .int (0), .ref a25, .ref a26, .ref a27, .ref a28, .ref a29, .ref a30, .ref a31, .ref a32, .ref a33, .ref a34, .ref a35, .null, .int (-1), .ref a36, .long (0)]))] _ := hP
        have hD : va_D A [(a25, .inl (g 2, 9, .inl (fun _ => 0))), (a28, .inl (g 0, 9, .inl (fun _ => 0))), (a2, .inr (15, [.int (1), .int (0), .int (100), .int (0), .int (0), .ref a25, .ref a26, .ref a27, .ref a28, .ref a29, .ref a30, .ref a31, .ref a32, .ref a33, .ref a34, .ref a35, .null, .int (-1), .ref a36, .long (0)]))] := hD
        refine W.widen (k := 244) (n := 2777) (Nat.le_of_ble_eq_true rfl) (Nat.le_of_ble_eq_true rfl) ?_
        refine W.eq (g2 := F0 m 255 ls [.int (0)]) rfl ?_
        refine lv_istore (lv' := [(7, .int (0)), (6, .int (1)), (5, .int (0)), (4, .ref a0), (3, .ref a1), (2, .ref a2), (1, .ref a3), (0, .ref b)]) hx hb dL_law_255 hl (by decide) rfl (fun ls hl => ?_)
        refine lv_aload_n hx hb dL_law_257 rfl (lv_at hl 5 rfl) ?_
        have hX : nCx p s m _ c code 9 "MinestrataLaw" dC dI g A [(a25, .inl (g 2, 9, .inl (fun _ => 0))), (a28, .inl (g 0, 9, .inl (fun _ => 0))), (a2, .inr (15, [.int (1), .int (0), .int (100), .int (0), .int (0), .ref a25, .ref a26, .ref a27, .ref a28, .ref a29, .ref a30, .ref a31, .ref a32, .ref a33, .ref a34, .ref a35, .null, .int (-1), .ref a36, .long (0)]))] _ _ := ⟨⟨hx, hb, hml, hown, hts⟩, hE, hS, hA, hP, hD⟩
        refine n_call (wr := [(a25, .inl (g 2, 9, .inl (fun _ => 0))), (a28, .inl (g 0, 9, .inl (fun _ => 0)))]) hX (n_runV (n := 0) (wc := [(a2, .inr (15, [.int (1), .int (0), .int (100), .int (0), .int (0), .ref a25, .ref a26, .ref a27, .ref a28, .ref a29, .ref a30, .ref a31, .ref a32, .ref a33, .ref a34, .ref a35, .null, .int (-1), .ref a36, .long (0)]))]) (As := []) (rest := []) hX (m33 l hst dC dI g a2 a25 a26 a27 a28 a29 a30 a31 a32 a33 a34 a35 a36 _) [2] rfl (by decide +kernel) 2 (ci := 15) rfl (T := TX16) (N := 20) (C := "MinestrataModel") rfl q1495 q1496 q1497 q82 q1498 (by decide +kernel) ⟨(Nat.le_of_ble_eq_true rfl), (Nat.le_of_ble_eq_true rfl)⟩ ⟨(Nat.le_of_ble_eq_true rfl), (Nat.le_of_ble_eq_true rfl)⟩ hl.1 rfl rfl (Nat.le_of_ble_eq_true rfl) dL_law_258) [2] [0, 1] rfl rfl (by decide +kernel) (by decide +kernel) (fun f20 r21 H locs hP hD hS => ?_)
        have hP : va_P (dC, dI) CL [(a25, .inl (g 2, 9, .inl (fun _ => 0))), (a28, .inl (g 0, 9, .inl (fun _ => 0))), (a2, .inr (15, [.int (1), .int (0), .int (100), .int (0), .int (0), .ref a25, .ref a26, .ref a27, .ref a28, .ref a29, .ref a30, .ref a31, .ref a32, .ref a33, .ref a34, .ref a35, .null, .int (-1), .ref a36, .long (0)]))] _ := hP
        have hD : va_D A [(a25, .inl (g 2, 9, .inl (fun _ => 0))), (a28, .inl (g 0, 9, .inl (fun _ => 0))), (a2, .inr (15, [.int (1), .int (0), .int (100), .int (0), .int (0), .ref a25, .ref a26, .ref a27, .ref a28, .ref a29, .ref a30, .ref a31, .ref a32, .ref a33, .ref a34, .ref a35, .null, .int (-1), .ref a36, .long (0)]))] := hD
        refine W.widen (k := 244) (n := 2777) (Nat.le_of_ble_eq_true rfl) (Nat.le_of_ble_eq_true rfl) ?_
        refine W.eq (g2 := F0 m 261 ls [.int (1)]) rfl ?_
        refine lv_iload hx hb dL_law_261 (lv_at hl 1 rfl) ?_
        refine lv_icmp_eq (tgt := 268) hx hb dL_law_263 (by decide +kernel) (fun _ => ?_) (fun h => absurd (by decide +kernel) h)
        refine lv_iload hx hb dL_law_268 (lv_at hl 1 rfl) ?_
        refine lv_if_ne (tgt := 285) hx hb dL_law_270 (by decide +kernel) (fun _ => ?_) (fun h => absurd h (by decide +kernel))
        refine lv_goto (tgt := 2278) hx hb dL_law_285 (by decide +kernel) ?_
        refine lv_iinc (v := (5)) (lv' := [(5, .int (5)), (7, .int (0)), (6, .int (1)), (4, .ref a0), (3, .ref a1), (2, .ref a2), (1, .ref a3), (0, .ref b)]) hx hb dL_law_2278 hl (k := 2) rfl (by decide +kernel) (by decide) rfl (fun ls hl => ?_)
        refine lv_goto (tgt := 28) hx hb dL_law_2281 (by decide +kernel) ?_
        refine lv_iload hx hb dL_law_28 (lv_at hl 0 rfl) ?_
        refine lv_aload_n hx hb dL_law_30 rfl (lv_at hl 7 rfl) ?_
        refine va_slen hx hb hXs hbl hbA hS dL_law_31 ?_
        refine nt_i (v := (5)) (by decide +kernel) ?_
        refine lv_iconst (v := (5)) hx hb dL_law_32 (by decide +kernel) ?_
        refine lv_isub hx hb dL_law_33 ?_
        refine nt_i (v := (0)) (by decide +kernel) ?_
        refine lv_icmp_gt (tgt := 2284) hx hb dL_law_34 (by decide +kernel) (fun _ => ?_) (fun h => absurd (by decide +kernel) h)
        refine lv_iconst (v := (1)) hx hb dL_law_2284 (by decide +kernel) ?_
        refine va_forget (fun q9 hq9 => by have h9 := hS.2.2 q9 hq9; rw [← hAe] at h9; exact h9) ?_
        refine W.widen (k := 600006) (n := 7302056) (Nat.le_of_ble_eq_true rfl) (Nat.le_of_ble_eq_true rfl) ?_
        refine W.base ?_
        exact lw_ret (Drawn.sameBut.refl s.drawn lw_cs) hx hb hr hlk dL_law_2285
      · skip
        have hX : nCx p s m _ c code 9 "MinestrataLaw" dC dI g A [(a3, .inr (12, [.ref a4, .ref a5, .ref a6, .ref a7, .ref a8, .ref a9, .ref a10, .ref a11, .null, .ref a12, .ref a13, .int (0), .int (100), .int (0), .int (0), .int (-1), .long (0), .int (1)])), (a4, .inr (8, [.int (0), .ref a14, .ref a15, .ref a16, .ref a17, .int (0), .ref a18, .ref a19, .ref a20, .ref a21, .ref a22, .ref a23, .ref a24])), (a14, .inl (g 2, 9, .inl (fun _ => 0))), (a15, .inl (g 0, 9, .inl (fun _ => 0))), (a2, .inr (15, [.int (0), .int (0), .int (100), .int (0), .int (0), .ref a25, .ref a26, .ref a27, .ref a28, .ref a29, .ref a30, .ref a31, .ref a32, .ref a33, .ref a34, .ref a35, .null, .int (-1), .ref a36, .long (0)])), (a25, .inl (g 2, 9, .inl (fun _ => 0))), (a28, .inl (g 0, 9, .inl (fun _ => 0))), (a1, .inl (g 1, 1, .inr (.inl (fun _ => 0))))] _ _ := ⟨⟨hx, hb, hml, hown, hts⟩, hE, hS, hA, hP, hD⟩
        refine n_call (wr := [(a2, .inr (15, [.int (0), .int (0), .int (100), .int (0), .int (0), .ref a25, .ref a26, .ref a27, .ref a28, .ref a29, .ref a30, .ref a31, .ref a32, .ref a33, .ref a34, .ref a35, .null, .int (-1), .ref a36, .long (0)])), (a25, .inl (g 2, 9, .inl (fun _ => 0))), (a28, .inl (g 0, 9, .inl (fun _ => 0)))]) hX (n_runSW (n := 4) (wc := [(a3, .inr (12, [.ref a4, .ref a5, .ref a6, .ref a7, .ref a8, .ref a9, .ref a10, .ref a11, .null, .ref a12, .ref a13, .int (0), .int (100), .int (0), .int (0), .int (-1), .long (0), .int (1)])), (a4, .inr (8, [.int (0), .ref a14, .ref a15, .ref a16, .ref a17, .int (0), .ref a18, .ref a19, .ref a20, .ref a21, .ref a22, .ref a23, .ref a24])), (a14, .inl (g 2, 9, .inl (fun _ => 0))), (a15, .inl (g 0, 9, .inl (fun _ => 0))), (a1, .inl (g 1, 1, .inr (.inl (fun _ => 0))))]) (As := [.ref a3, .int (1), .int s2, .ref a1]) (rest := []) hX (m42 l hst dC dI g a3 a1 a4 a5 a6 a7 a8 a9 a10 a11 a12 a13 a14 a15 a16 a17 a18 a19 a20 a21 a22 a23 a24 s2 h8 h15 _) [0, 1, 2, 3, 7] rfl (by decide +kernel) q805 q806 q70 q807 (by decide +kernel) ⟨(Nat.le_of_ble_eq_true rfl), (Nat.le_of_ble_eq_true rfl)⟩ ⟨(Nat.le_of_ble_eq_true rfl), (Nat.le_of_ble_eq_true rfl)⟩ hl.1 rfl rfl (Nat.le_of_ble_eq_true rfl) dL_law_226) [0, 1, 2, 3, 7] [4, 5, 6] rfl rfl (by decide +kernel) (by decide +kernel) (fun f22 r23 H locs hP hD hS => ?_)
        have hP : va_P (dC, dI) CL [(a2, .inr (15, [.int (0), .int (0), .int (100), .int (0), .int (0), .ref a25, .ref a26, .ref a27, .ref a28, .ref a29, .ref a30, .ref a31, .ref a32, .ref a33, .ref a34, .ref a35, .null, .int (-1), .ref a36, .long (0)])), (a25, .inl (g 2, 9, .inl (fun _ => 0))), (a28, .inl (g 0, 9, .inl (fun _ => 0))), (a3, .inr (12, [.ref a4, .ref a5, .ref a6, .ref a7, .ref a8, .ref a9, .ref a10, .ref a11, .null, .ref a12, .ref a13, .int (0), .int (100), .int (0), .int (0), .int (-1), .long (0), .int (1)])), (a4, .inr (8, [.int (1), .ref a14, .ref a15, .ref a16, .ref a17, .int (0), .ref a18, .ref a19, .ref a20, .ref a21, .ref a22, .ref a23, .ref a24])), (a1, .inl (g 1, 1, .inr (.inl (vp_updL (fun _ => 0) (Int32.toNatClampNeg (0)) (0)))))] _ := hP
        have hD : va_D A [(a2, .inr (15, [.int (0), .int (0), .int (100), .int (0), .int (0), .ref a25, .ref a26, .ref a27, .ref a28, .ref a29, .ref a30, .ref a31, .ref a32, .ref a33, .ref a34, .ref a35, .null, .int (-1), .ref a36, .long (0)])), (a25, .inl (g 2, 9, .inl (fun _ => 0))), (a28, .inl (g 0, 9, .inl (fun _ => 0))), (a3, .inr (12, [.ref a4, .ref a5, .ref a6, .ref a7, .ref a8, .ref a9, .ref a10, .ref a11, .null, .ref a12, .ref a13, .int (0), .int (100), .int (0), .int (0), .int (-1), .long (0), .int (1)])), (a4, .inr (8, [.int (1), .ref a14, .ref a15, .ref a16, .ref a17, .int (0), .ref a18, .ref a19, .ref a20, .ref a21, .ref a22, .ref a23, .ref a24])), (a1, .inl (g 1, 1, .inr (.inl (vp_updL (fun _ => 0) (Int32.toNatClampNeg (0)) (0)))))] := hD
        refine W.widen (k := 243) (n := 2771) (Nat.le_of_ble_eq_true rfl) (Nat.le_of_ble_eq_true rfl) ?_
        refine W.eq (g2 := F0 m 229 ls [.int (0)]) rfl ?_
        refine lv_istore (lv' := [(6, .int (0)), (5, .int (0)), (4, .ref a0), (3, .ref a1), (2, .ref a2), (1, .ref a3), (0, .ref b)]) hx hb dL_law_229 hl (by decide) rfl (fun ls hl => ?_)
        refine lv_aload_n hx hb dL_law_231 rfl (lv_at hl 4 rfl) ?_
        refine lv_aload_n hx hb dL_law_232 rfl (lv_at hl 6 rfl) ?_
        refine lv_iload hx hb dL_law_233 (lv_at hl 1 rfl) ?_
        refine lv_iconst (v := (1)) hx hb dL_law_235 (by decide +kernel) ?_
        refine lv_iadd hx hb dL_law_236 ?_
        refine nt_i (v := (1)) (by decide +kernel) ?_
        refine va_sld hx hb hXs hbl hbA hS (show ¬ ((1 : Int32) < 0 ∨ 5 ≤ Int32.toNatClampNeg (1)) by decide +kernel) dL_law_237 ?_
        refine nt_i (v := s1) es1 ?_
        refine lv_if_eq (tgt := 245) hx hb dL_law_238 (by decide +kernel) (fun h => absurd h h1) (fun _ => ?_)
        refine lv_iconst (v := (1)) hx hb dL_law_241 (by decide +kernel) ?_
        refine lv_goto (tgt := 246) hx hb dL_law_242 (by decide +kernel) ?_
        refine lv_aload_n hx hb dL_law_246 rfl (lv_at hl 6 rfl) ?_
        refine lv_iload hx hb dL_law_247 (lv_at hl 1 rfl) ?_
        refine lv_iconst (v := (2)) hx hb dL_law_249 (by decide +kernel) ?_
        refine lv_iadd hx hb dL_law_250 ?_
        refine nt_i (v := (2)) (by decide +kernel) ?_
        refine va_sld hx hb hXs hbl hbA hS (show ¬ ((2 : Int32) < 0 ∨ 5 ≤ Int32.toNatClampNeg (2)) by decide +kernel) dL_law_251 ?_
        refine nt_i (v := s2) es2 ?_
        have hX : nCx p s m _ c code 9 "MinestrataLaw" dC dI g A [(a2, .inr (15, [.int (0), .int (0), .int (100), .int (0), .int (0), .ref a25, .ref a26, .ref a27, .ref a28, .ref a29, .ref a30, .ref a31, .ref a32, .ref a33, .ref a34, .ref a35, .null, .int (-1), .ref a36, .long (0)])), (a25, .inl (g 2, 9, .inl (fun _ => 0))), (a28, .inl (g 0, 9, .inl (fun _ => 0))), (a3, .inr (12, [.ref a4, .ref a5, .ref a6, .ref a7, .ref a8, .ref a9, .ref a10, .ref a11, .null, .ref a12, .ref a13, .int (0), .int (100), .int (0), .int (0), .int (-1), .long (0), .int (1)])), (a4, .inr (8, [.int (1), .ref a14, .ref a15, .ref a16, .ref a17, .int (0), .ref a18, .ref a19, .ref a20, .ref a21, .ref a22, .ref a23, .ref a24])), (a1, .inl (g 1, 1, .inr (.inl (vp_updL (fun _ => 0) (Int32.toNatClampNeg (0)) (0)))))] _ _ := ⟨⟨hx, hb, hml, hown, hts⟩, hE, hS, hA, hP, hD⟩
        refine n_call (wr := [(a3, .inr (12, [.ref a4, .ref a5, .ref a6, .ref a7, .ref a8, .ref a9, .ref a10, .ref a11, .null, .ref a12, .ref a13, .int (0), .int (100), .int (0), .int (0), .int (-1), .long (0), .int (1)])), (a4, .inr (8, [.int (1), .ref a14, .ref a15, .ref a16, .ref a17, .int (0), .ref a18, .ref a19, .ref a20, .ref a21, .ref a22, .ref a23, .ref a24])), (a1, .inl (g 1, 1, .inr (.inl (vp_updL (fun _ => 0) (Int32.toNatClampNeg (0)) (0)))))]) hX (n_runV (n := 2) (wc := [(a2, .inr (15, [.int (0), .int (0), .int (100), .int (0), .int (0), .ref a25, .ref a26, .ref a27, .ref a28, .ref a29, .ref a30, .ref a31, .ref a32, .ref a33, .ref a34, .ref a35, .null, .int (-1), .ref a36, .long (0)])), (a25, .inl (g 2, 9, .inl (fun _ => 0))), (a28, .inl (g 0, 9, .inl (fun _ => 0)))]) (As := [.int (1), .int s2]) (rest := []) hX (m44 l hst dC dI g a2 a25 a26 a27 a28 a29 a30 a31 a32 a33 a34 a35 a36 s2 h8 h15 _) [0, 1, 2] rfl (by decide +kernel) 0 (ci := 15) rfl (T := TX16) (N := 20) (C := "MinestrataModel") rfl q1499 q1500 q1501 q82 q1502 (by decide +kernel) ⟨(Nat.le_of_ble_eq_true rfl), (Nat.le_of_ble_eq_true rfl)⟩ ⟨(Nat.le_of_ble_eq_true rfl), (Nat.le_of_ble_eq_true rfl)⟩ hl.1 rfl rfl (Nat.le_of_ble_eq_true rfl) dL_law_252) [0, 1, 2] [3, 4, 5] rfl rfl (by decide +kernel) (by decide +kernel) (fun f24 r25 H locs hP hD hS => ?_)
        have hP : va_P (dC, dI) CL [(a3, .inr (12, [.ref a4, .ref a5, .ref a6, .ref a7, .ref a8, .ref a9, .ref a10, .ref a11, .null, .ref a12, .ref a13, .int (0), .int (100), .int (0), .int (0), .int (-1), .long (0), .int (1)])), (a4, .inr (8, [.int (1), .ref a14, .ref a15, .ref a16, .ref a17, .int (0), .ref a18, .ref a19, .ref a20, .ref a21, .ref a22, .ref a23, .ref a24])), (a1, .inl (g 1, 1, .inr (.inl (vp_updL (fun _ => 0) (Int32.toNatClampNeg (0)) (0))))), (a2, .inr (15, [.int (0), .int (1), .int (100), .int (0), .int (0), .ref a25, .ref a26, .ref a27, .ref a28, .ref a29, .ref a30, .ref a31, .ref a32, .ref a33, .ref a34, .ref a35, .null, .int (-1), .ref a36, .long (0)]))] _ := hP
        have hD : va_D A [(a3, .inr (12, [.ref a4, .ref a5, .ref a6, .ref a7, .ref a8, .ref a9, .ref a10, .ref a11, .null, .ref a12, .ref a13, .int (0), .int (100), .int (0), .int (0), .int (-1), .long (0), .int (1)])), (a4, .inr (8, [.int (1), .ref a14, .ref a15, .ref a16, .ref a17, .int (0), .ref a18, .ref a19, .ref a20, .ref a21, .ref a22, .ref a23, .ref a24])), (a1, .inl (g 1, 1, .inr (.inl (vp_updL (fun _ => 0) (Int32.toNatClampNeg (0)) (0))))), (a2, .inr (15, [.int (0), .int (1), .int (100), .int (0), .int (0), .ref a25, .ref a26, .ref a27, .ref a28, .ref a29, .ref a30, .ref a31, .ref a32, .ref a33, .ref a34, .ref a35, .null, .int (-1), .ref a36, .long (0)]))] := hD
        refine W.widen (k := 243) (n := 2771) (Nat.le_of_ble_eq_true rfl) (Nat.le_of_ble_eq_true rfl) ?_
        refine W.eq (g2 := F0 m 255 ls [.int (0)]) rfl ?_
        refine lv_istore (lv' := [(7, .int (0)), (6, .int (0)), (5, .int (0)), (4, .ref a0), (3, .ref a1), (2, .ref a2), (1, .ref a3), (0, .ref b)]) hx hb dL_law_255 hl (by decide) rfl (fun ls hl => ?_)
        refine lv_aload_n hx hb dL_law_257 rfl (lv_at hl 5 rfl) ?_
        have hX : nCx p s m _ c code 9 "MinestrataLaw" dC dI g A [(a3, .inr (12, [.ref a4, .ref a5, .ref a6, .ref a7, .ref a8, .ref a9, .ref a10, .ref a11, .null, .ref a12, .ref a13, .int (0), .int (100), .int (0), .int (0), .int (-1), .long (0), .int (1)])), (a4, .inr (8, [.int (1), .ref a14, .ref a15, .ref a16, .ref a17, .int (0), .ref a18, .ref a19, .ref a20, .ref a21, .ref a22, .ref a23, .ref a24])), (a1, .inl (g 1, 1, .inr (.inl (vp_updL (fun _ => 0) (Int32.toNatClampNeg (0)) (0))))), (a2, .inr (15, [.int (0), .int (1), .int (100), .int (0), .int (0), .ref a25, .ref a26, .ref a27, .ref a28, .ref a29, .ref a30, .ref a31, .ref a32, .ref a33, .ref a34, .ref a35, .null, .int (-1), .ref a36, .long (0)]))] _ _ := ⟨⟨hx, hb, hml, hown, hts⟩, hE, hS, hA, hP, hD⟩
        refine n_call (wr := [(a3, .inr (12, [.ref a4, .ref a5, .ref a6, .ref a7, .ref a8, .ref a9, .ref a10, .ref a11, .null, .ref a12, .ref a13, .int (0), .int (100), .int (0), .int (0), .int (-1), .long (0), .int (1)])), (a4, .inr (8, [.int (1), .ref a14, .ref a15, .ref a16, .ref a17, .int (0), .ref a18, .ref a19, .ref a20, .ref a21, .ref a22, .ref a23, .ref a24])), (a1, .inl (g 1, 1, .inr (.inl (vp_updL (fun _ => 0) (Int32.toNatClampNeg (0)) (0)))))]) hX (n_runV (n := 0) (wc := [(a2, .inr (15, [.int (0), .int (1), .int (100), .int (0), .int (0), .ref a25, .ref a26, .ref a27, .ref a28, .ref a29, .ref a30, .ref a31, .ref a32, .ref a33, .ref a34, .ref a35, .null, .int (-1), .ref a36, .long (0)]))]) (As := []) (rest := []) hX (m26 l hst dC dI g a2 a25 a26 a27 a28 a29 a30 a31 a32 a33 a34 a35 a36 _) [3] rfl (by decide +kernel) 3 (ci := 15) rfl (T := TX16) (N := 20) (C := "MinestrataModel") rfl q1495 q1496 q1497 q82 q1498 (by decide +kernel) ⟨(Nat.le_of_ble_eq_true rfl), (Nat.le_of_ble_eq_true rfl)⟩ ⟨(Nat.le_of_ble_eq_true rfl), (Nat.le_of_ble_eq_true rfl)⟩ hl.1 rfl rfl (Nat.le_of_ble_eq_true rfl) dL_law_258) [3] [0, 1, 2] rfl rfl (by decide +kernel) (by decide +kernel) (fun f26 r27 H locs hP hD hS => ?_)
        have hP : va_P (dC, dI) CL [(a3, .inr (12, [.ref a4, .ref a5, .ref a6, .ref a7, .ref a8, .ref a9, .ref a10, .ref a11, .null, .ref a12, .ref a13, .int (0), .int (100), .int (0), .int (0), .int (-1), .long (0), .int (1)])), (a4, .inr (8, [.int (1), .ref a14, .ref a15, .ref a16, .ref a17, .int (0), .ref a18, .ref a19, .ref a20, .ref a21, .ref a22, .ref a23, .ref a24])), (a1, .inl (g 1, 1, .inr (.inl (vp_updL (fun _ => 0) (Int32.toNatClampNeg (0)) (0))))), (a2, .inr (15, [.int (0), .int (1), .int (100), .int (0), .int (0), .ref a25, .ref a26, .ref a27, .ref a28, .ref a29, .ref a30, .ref a31, .ref a32, .ref a33, .ref a34, .ref a35, .null, .int (-1), .ref a36, .long (0)]))] _ := hP
        have hD : va_D A [(a3, .inr (12, [.ref a4, .ref a5, .ref a6, .ref a7, .ref a8, .ref a9, .ref a10, .ref a11, .null, .ref a12, .ref a13, .int (0), .int (100), .int (0), .int (0), .int (-1), .long (0), .int (1)])), (a4, .inr (8, [.int (1), .ref a14, .ref a15, .ref a16, .ref a17, .int (0), .ref a18, .ref a19, .ref a20, .ref a21, .ref a22, .ref a23, .ref a24])), (a1, .inl (g 1, 1, .inr (.inl (vp_updL (fun _ => 0) (Int32.toNatClampNeg (0)) (0))))), (a2, .inr (15, [.int (0), .int (1), .int (100), .int (0), .int (0), .ref a25, .ref a26, .ref a27, .ref a28, .ref a29, .ref a30, .ref a31, .ref a32, .ref a33, .ref a34, .ref a35, .null, .int (-1), .ref a36, .long (0)]))] := hD
        refine W.widen (k := 243) (n := 2771) (Nat.le_of_ble_eq_true rfl) (Nat.le_of_ble_eq_true rfl) ?_
        refine W.eq (g2 := F0 m 261 ls [.int (0)]) rfl ?_
        refine lv_iload hx hb dL_law_261 (lv_at hl 1 rfl) ?_
        refine lv_icmp_eq (tgt := 268) hx hb dL_law_263 (by decide +kernel) (fun _ => ?_) (fun h => absurd (by decide +kernel) h)
        refine lv_iload hx hb dL_law_268 (lv_at hl 1 rfl) ?_
        refine lv_if_ne (tgt := 285) hx hb dL_law_270 (by decide +kernel) (fun h => absurd (by decide +kernel) h) (fun _ => ?_)
        refine lv_aload_n hx hb dL_law_273 rfl (lv_at hl 4 rfl) ?_
        refine lv_iconst (v := (0)) hx hb dL_law_274 (by decide +kernel) ?_
        refine va_lald hx hb hK hP 2 1 rfl rfl (show ¬ ((0 : Int32) < 0 ∨ 1 ≤ Int32.toNatClampNeg (0)) by decide +kernel) dL_law_275 ?_
        refine nt_l (v := (0)) (by decide +kernel) ?_
        refine lv_iload hx hb dL_law_276 (lv_at hl 0 rfl) ?_
        refine lv_i2l (v := (0)) hx hb dL_law_278 (by decide +kernel) ?_
        refine W.lcmp hx hb dL_law_279 ?_
        refine nt_i (v := (0)) (by decide +kernel) ?_
        refine lv_if_eq (tgt := 285) hx hb dL_law_280 (by decide +kernel) (fun _ => ?_) (fun h => absurd (by decide +kernel) h)
        refine lv_goto (tgt := 2278) hx hb dL_law_285 (by decide +kernel) ?_
        refine lv_iinc (v := (5)) (lv' := [(5, .int (5)), (7, .int (0)), (6, .int (0)), (4, .ref a0), (3, .ref a1), (2, .ref a2), (1, .ref a3), (0, .ref b)]) hx hb dL_law_2278 hl (k := 2) rfl (by decide +kernel) (by decide) rfl (fun ls hl => ?_)
        refine lv_goto (tgt := 28) hx hb dL_law_2281 (by decide +kernel) ?_
        refine lv_iload hx hb dL_law_28 (lv_at hl 0 rfl) ?_
        refine lv_aload_n hx hb dL_law_30 rfl (lv_at hl 7 rfl) ?_
        refine va_slen hx hb hXs hbl hbA hS dL_law_31 ?_
        refine nt_i (v := (5)) (by decide +kernel) ?_
        refine lv_iconst (v := (5)) hx hb dL_law_32 (by decide +kernel) ?_
        refine lv_isub hx hb dL_law_33 ?_
        refine nt_i (v := (0)) (by decide +kernel) ?_
        refine lv_icmp_gt (tgt := 2284) hx hb dL_law_34 (by decide +kernel) (fun _ => ?_) (fun h => absurd (by decide +kernel) h)
        refine lv_iconst (v := (1)) hx hb dL_law_2284 (by decide +kernel) ?_
        refine va_forget (fun q9 hq9 => by have h9 := hS.2.2 q9 hq9; rw [← hAe] at h9; exact h9) ?_
        refine W.widen (k := 600006) (n := 7302056) (Nat.le_of_ble_eq_true rfl) (Nat.le_of_ble_eq_true rfl) ?_
        refine W.base ?_
        exact lw_ret (Drawn.sameBut.refl s.drawn lw_cs) hx hb hr hlk dL_law_2285

set_option maxHeartbeats 4000000 in
set_option maxRecDepth 100000 in
theorem lc_1 {p : Program} {e : Env} {s : State} {m : MethodId} {below : List Frame} {meth : Method} {c : Code} (l : Launch) (hst : l.stackTraces = false) {b : Nat} {xs : Nat → Int32} (C0 : lw_At p s m meth c b 5 xs) (dC : Nat → ClassId) (dI : Nat → Nat → Nat) (g : Nat → Nat) (a0 a1 a2 a3 a4 a5 a6 a7 a8 a9 a10 a11 a12 a13 a14 a15 a16 a17 a18 a19 a20 a21 a22 a23 a24 a25 a26 a27 a28 a29 a30 a31 a32 a33 a34 a35 a36 : Nat) {A : Nat → Prop} (hAe : (fun q : Nat => s.heap.size ≤ q) = A) (hE : EV dC dI g A s) (hA : ∀ q : Nat, s.heap.size ≤ q → A q) (hbA : ¬ A b) (H : Heap) (locs : List Loc) (hP : va_P (dC, dI) CL [(a3, .inr (12, [.ref a4, .ref a5, .ref a6, .ref a7, .ref a8, .ref a9, .ref a10, .ref a11, .null, .ref a12, .ref a13, .int (0), .int (100), .int (0), .int (0), .int (-1), .long (0), .int (1)])), (a4, .inr (8, [.int (0), .ref a14, .ref a15, .ref a16, .ref a17, .int (0), .ref a18, .ref a19, .ref a20, .ref a21, .ref a22, .ref a23, .ref a24])), (a2, .inr (15, [.int (0), .int (0), .int (100), .int (0), .int (0), .ref a25, .ref a26, .ref a27, .ref a28, .ref a29, .ref a30, .ref a31, .ref a32, .ref a33, .ref a34, .ref a35, .null, .int (-1), .ref a36, .long (0)]))] H) (hD : va_D A [(a3, .inr (12, [.ref a4, .ref a5, .ref a6, .ref a7, .ref a8, .ref a9, .ref a10, .ref a11, .null, .ref a12, .ref a13, .int (0), .int (100), .int (0), .int (0), .int (-1), .long (0), .int (1)])), (a4, .inr (8, [.int (0), .ref a14, .ref a15, .ref a16, .ref a17, .int (0), .ref a18, .ref a19, .ref a20, .ref a21, .ref a22, .ref a23, .ref a24])), (a2, .inr (15, [.int (0), .int (0), .int (100), .int (0), .int (0), .ref a25, .ref a26, .ref a27, .ref a28, .ref a29, .ref a30, .ref a31, .ref a32, .ref a33, .ref a34, .ref a35, .null, .int (-1), .ref a36, .long (0)]))]) (hS : va_S A s.heap H locs) (ls : Array Slot) (hl : lv_has ls 9 [(5, .int (0)), (4, .ref a0), (3, .ref a1), (2, .ref a2), (1, .ref a3), (0, .ref b)]) :
    W p l e room_1 s m #[Value.ref b] below meth c H locs 243 2771 (lw_Z below #[Value.ref b] s) (F0 m 44 ls [.int (1)]) := by
  obtain ⟨hx, hb, hr, hml, hown, hts0, hXs, hbl, hlk, hgv⟩ := id C0
  have hts : ∀ w ∈ AW, w.before #[Value.ref b] s = true := fun w h => hts0 w (aw_tbl h)
  have hown : s.vm.findClass "MinestrataLaw" = some m.cls := hown
  have hK := hE.1
  obtain ⟨s1, es1⟩ : ∃ y : Int32, xs (Int32.toNatClampNeg (1)) = y := ⟨_, rfl⟩
  obtain ⟨s2, es2⟩ : ∃ y : Int32, xs (Int32.toNatClampNeg (2)) = y := ⟨_, rfl⟩
  obtain ⟨s3, es3⟩ : ∃ y : Int32, xs (Int32.toNatClampNeg (3)) = y := ⟨_, rfl⟩
  obtain ⟨s4, es4⟩ : ∃ y : Int32, xs (Int32.toNatClampNeg (4)) = y := ⟨_, rfl⟩
  refine lv_tableIn (tgt := 288) (off := 244) hx hb dL_law_44 (by decide +kernel) (by decide +kernel) rfl (by decide +kernel) ?_
  refine lv_aload_n hx hb dL_law_288 rfl (lv_at hl 4 rfl) ?_
  refine lv_aload_n hx hb dL_law_289 rfl (lv_at hl 5 rfl) ?_
  refine lv_iload hx hb dL_law_290 (lv_at hl 0 rfl) ?_
  refine lv_iconst (v := (1)) hx hb dL_law_292 (by decide +kernel) ?_
  refine lv_iadd hx hb dL_law_293 ?_
  refine nt_i (v := (1)) (by decide +kernel) ?_
  refine va_sld hx hb hXs hbl hbA hS (show ¬ ((1 : Int32) < 0 ∨ 5 ≤ Int32.toNatClampNeg (1)) by decide +kernel) dL_law_294 ?_
  refine nt_i (v := s1) es1 ?_
  refine lv_aload_n hx hb dL_law_295 rfl (lv_at hl 5 rfl) ?_
  refine lv_iload hx hb dL_law_296 (lv_at hl 0 rfl) ?_
  refine lv_iconst (v := (2)) hx hb dL_law_298 (by decide +kernel) ?_
  refine lv_iadd hx hb dL_law_299 ?_
  refine nt_i (v := (2)) (by decide +kernel) ?_
  refine va_sld hx hb hXs hbl hbA hS (show ¬ ((2 : Int32) < 0 ∨ 5 ≤ Int32.toNatClampNeg (2)) by decide +kernel) dL_law_300 ?_
  refine nt_i (v := s2) es2 ?_
  refine lv_aload_n hx hb dL_law_301 rfl (lv_at hl 5 rfl) ?_
  refine lv_iload hx hb dL_law_302 (lv_at hl 0 rfl) ?_
  refine lv_iconst (v := (3)) hx hb dL_law_304 (by decide +kernel) ?_
  refine lv_iadd hx hb dL_law_305 ?_
  refine nt_i (v := (3)) (by decide +kernel) ?_
  refine va_sld hx hb hXs hbl hbA hS (show ¬ ((3 : Int32) < 0 ∨ 5 ≤ Int32.toNatClampNeg (3)) by decide +kernel) dL_law_306 ?_
  refine nt_i (v := s3) es3 ?_
  refine lv_aload_n hx hb dL_law_307 rfl (lv_at hl 5 rfl) ?_
  refine lv_iload hx hb dL_law_308 (lv_at hl 0 rfl) ?_
  refine lv_iconst (v := (4)) hx hb dL_law_310 (by decide +kernel) ?_
  refine lv_iadd hx hb dL_law_311 ?_
  refine nt_i (v := (4)) (by decide +kernel) ?_
  refine va_sld hx hb hXs hbl hbA hS (show ¬ ((4 : Int32) < 0 ∨ 5 ≤ Int32.toNatClampNeg (4)) by decide +kernel) dL_law_312 ?_
  refine nt_i (v := s4) es4 ?_
  refine lv_if_eq (tgt := 320) hx hb dL_law_313 (by decide +kernel) (fun h1 => ?_) (fun h1 => ?_)
  · skip
    subst h1
    refine lv_iconst (v := (0)) hx hb dL_law_320 (by decide +kernel) ?_
    refine lv_aload_n hx hb dL_law_321 rfl (lv_at hl 2 rfl) ?_
    have hX : nCx p s m _ c code 9 "MinestrataLaw" dC dI g A [(a3, .inr (12, [.ref a4, .ref a5, .ref a6, .ref a7, .ref a8, .ref a9, .ref a10, .ref a11, .null, .ref a12, .ref a13, .int (0), .int (100), .int (0), .int (0), .int (-1), .long (0), .int (1)])), (a4, .inr (8, [.int (0), .ref a14, .ref a15, .ref a16, .ref a17, .int (0), .ref a18, .ref a19, .ref a20, .ref a21, .ref a22, .ref a23, .ref a24])), (a2, .inr (15, [.int (0), .int (0), .int (100), .int (0), .int (0), .ref a25, .ref a26, .ref a27, .ref a28, .ref a29, .ref a30, .ref a31, .ref a32, .ref a33, .ref a34, .ref a35, .null, .int (-1), .ref a36, .long (0)]))] _ _ := ⟨⟨hx, hb, hml, hown, hts⟩, hE, hS, hA, hP, hD⟩
    refine n_call (wr := [(a2, .inr (15, [.int (0), .int (0), .int (100), .int (0), .int (0), .ref a25, .ref a26, .ref a27, .ref a28, .ref a29, .ref a30, .ref a31, .ref a32, .ref a33, .ref a34, .ref a35, .null, .int (-1), .ref a36, .long (0)]))]) hX (n_runSW (n := 6) (wc := [(a3, .inr (12, [.ref a4, .ref a5, .ref a6, .ref a7, .ref a8, .ref a9, .ref a10, .ref a11, .null, .ref a12, .ref a13, .int (0), .int (100), .int (0), .int (0), .int (-1), .long (0), .int (1)])), (a4, .inr (8, [.int (0), .ref a14, .ref a15, .ref a16, .ref a17, .int (0), .ref a18, .ref a19, .ref a20, .ref a21, .ref a22, .ref a23, .ref a24]))]) (As := [.ref a3, .int s1, .int s2, .int s3, .int (0), .ref a1]) (rest := []) hX (m47 l hst dC dI g a3 a1 a4 a5 a6 a7 a8 a9 a10 a11 a12 a13 a14 a15 a16 a17 a18 a19 a20 a21 a22 a23 a24 s1 s2 s3 _) [0, 1] rfl (by decide +kernel) q904 q905 q70 q906 (by decide +kernel) ⟨(Nat.le_of_ble_eq_true rfl), (Nat.le_of_ble_eq_true rfl)⟩ ⟨(Nat.le_of_ble_eq_true rfl), (Nat.le_of_ble_eq_true rfl)⟩ hl.1 rfl rfl (Nat.le_of_ble_eq_true rfl) dL_law_322) [0, 1] [2] rfl rfl (by decide +kernel) (by decide +kernel) (fun f2 r3 H locs hP hD hS => ?_)
    have hP : va_P (dC, dI) CL [(a2, .inr (15, [.int (0), .int (0), .int (100), .int (0), .int (0), .ref a25, .ref a26, .ref a27, .ref a28, .ref a29, .ref a30, .ref a31, .ref a32, .ref a33, .ref a34, .ref a35, .null, .int (-1), .ref a36, .long (0)]))] _ := hP
    have hD : va_D A [(a2, .inr (15, [.int (0), .int (0), .int (100), .int (0), .int (0), .ref a25, .ref a26, .ref a27, .ref a28, .ref a29, .ref a30, .ref a31, .ref a32, .ref a33, .ref a34, .ref a35, .null, .int (-1), .ref a36, .long (0)]))] := hD
    refine W.widen (k := 244) (n := 2777) (Nat.le_of_ble_eq_true rfl) (Nat.le_of_ble_eq_true rfl) ?_
    refine W.eq (g2 := F0 m 325 ls [.int (1)]) rfl ?_
    refine lv_istore (lv' := [(6, .int (1)), (5, .int (0)), (4, .ref a0), (3, .ref a1), (2, .ref a2), (1, .ref a3), (0, .ref b)]) hx hb dL_law_325 hl (by decide) rfl (fun ls hl => ?_)
    refine lv_aload_n hx hb dL_law_327 rfl (lv_at hl 4 rfl) ?_
    refine lv_aload_n hx hb dL_law_328 rfl (lv_at hl 6 rfl) ?_
    refine lv_iload hx hb dL_law_329 (lv_at hl 1 rfl) ?_
    refine lv_iconst (v := (1)) hx hb dL_law_331 (by decide +kernel) ?_
    refine lv_iadd hx hb dL_law_332 ?_
    refine nt_i (v := (1)) (by decide +kernel) ?_
    refine va_sld hx hb hXs hbl hbA hS (show ¬ ((1 : Int32) < 0 ∨ 5 ≤ Int32.toNatClampNeg (1)) by decide +kernel) dL_law_333 ?_
    refine nt_i (v := s1) es1 ?_
    refine lv_aload_n hx hb dL_law_334 rfl (lv_at hl 6 rfl) ?_
    refine lv_iload hx hb dL_law_335 (lv_at hl 1 rfl) ?_
    refine lv_iconst (v := (2)) hx hb dL_law_337 (by decide +kernel) ?_
    refine lv_iadd hx hb dL_law_338 ?_
    refine nt_i (v := (2)) (by decide +kernel) ?_
    refine va_sld hx hb hXs hbl hbA hS (show ¬ ((2 : Int32) < 0 ∨ 5 ≤ Int32.toNatClampNeg (2)) by decide +kernel) dL_law_339 ?_
    refine nt_i (v := s2) es2 ?_
    refine lv_aload_n hx hb dL_law_340 rfl (lv_at hl 6 rfl) ?_
    refine lv_iload hx hb dL_law_341 (lv_at hl 1 rfl) ?_
    refine lv_iconst (v := (3)) hx hb dL_law_343 (by decide +kernel) ?_
    refine lv_iadd hx hb dL_law_344 ?_
    refine nt_i (v := (3)) (by decide +kernel) ?_
    refine va_sld hx hb hXs hbl hbA hS (show ¬ ((3 : Int32) < 0 ∨ 5 ≤ Int32.toNatClampNeg (3)) by decide +kernel) dL_law_345 ?_
    refine nt_i (v := s3) es3 ?_
    refine lv_aload_n hx hb dL_law_346 rfl (lv_at hl 6 rfl) ?_
    refine lv_iload hx hb dL_law_347 (lv_at hl 1 rfl) ?_
    refine lv_iconst (v := (4)) hx hb dL_law_349 (by decide +kernel) ?_
    refine lv_iadd hx hb dL_law_350 ?_
    refine nt_i (v := (4)) (by decide +kernel) ?_
    refine va_sld hx hb hXs hbl hbA hS (show ¬ ((4 : Int32) < 0 ∨ 5 ≤ Int32.toNatClampNeg (4)) by decide +kernel) dL_law_351 ?_
    refine nt_i (v := (0)) es4 ?_
    refine lv_if_eq (tgt := 359) hx hb dL_law_352 (by decide +kernel) (fun _ => ?_) (fun h => absurd (by decide +kernel) h)
    refine lv_iconst (v := (0)) hx hb dL_law_359 (by decide +kernel) ?_
    have hX : nCx p s m _ c code 9 "MinestrataLaw" dC dI g A [(a2, .inr (15, [.int (0), .int (0), .int (100), .int (0), .int (0), .ref a25, .ref a26, .ref a27, .ref a28, .ref a29, .ref a30, .ref a31, .ref a32, .ref a33, .ref a34, .ref a35, .null, .int (-1), .ref a36, .long (0)]))] _ _ := ⟨⟨hx, hb, hml, hown, hts⟩, hE, hS, hA, hP, hD⟩
    refine n_call (wr := []) hX (n_runV (n := 4) (wc := [(a2, .inr (15, [.int (0), .int (0), .int (100), .int (0), .int (0), .ref a25, .ref a26, .ref a27, .ref a28, .ref a29, .ref a30, .ref a31, .ref a32, .ref a33, .ref a34, .ref a35, .null, .int (-1), .ref a36, .long (0)]))]) (As := [.int s1, .int s2, .int s3, .int (0)]) (rest := []) hX (m50 l hst dC dI g a2 a25 a26 a27 a28 a29 a30 a31 a32 a33 a34 a35 a36 s1 s2 s3 _) [0] rfl (by decide +kernel) 0 (ci := 15) rfl (T := TX16) (N := 20) (C := "MinestrataModel") rfl q1514 q1515 q1516 q82 q1517 (by decide +kernel) ⟨(Nat.le_of_ble_eq_true rfl), (Nat.le_of_ble_eq_true rfl)⟩ ⟨(Nat.le_of_ble_eq_true rfl), (Nat.le_of_ble_eq_true rfl)⟩ hl.1 rfl rfl (Nat.le_of_ble_eq_true rfl) dL_law_360) [0] [] rfl rfl (by decide +kernel) (by decide +kernel) (fun f4 r5 H locs hP hD hS => ?_)
    have hP : va_P (dC, dI) CL [(a2, .inr (15, [.int (1), .int (0), .int (100), .int (0), .int (0), .ref a25, .ref a26, .ref a27, .ref a28, .ref a29, .ref a30, .ref a31, .ref a32, .ref a33, .ref a34, .ref a35, .null, .int (-1), .ref a36, .long (0)]))] _ := hP
    have hD : va_D A [(a2, .inr (15, [.int (1), .int (0), .int (100), .int (0), .int (0), .ref a25, .ref a26, .ref a27, .ref a28, .ref a29, .ref a30, .ref a31, .ref a32, .ref a33, .ref a34, .ref a35, .null, .int (-1), .ref a36, .long (0)]))] := hD
    refine W.widen (k := 244) (n := 2777) (Nat.le_of_ble_eq_true rfl) (Nat.le_of_ble_eq_true rfl) ?_
    refine W.eq (g2 := F0 m 363 ls [.int (0)]) rfl ?_
    refine lv_istore (lv' := [(7, .int (0)), (6, .int (1)), (5, .int (0)), (4, .ref a0), (3, .ref a1), (2, .ref a2), (1, .ref a3), (0, .ref b)]) hx hb dL_law_363 hl (by decide) rfl (fun ls hl => ?_)
    refine lv_aload_n hx hb dL_law_365 rfl (lv_at hl 5 rfl) ?_
    have hX : nCx p s m _ c code 9 "MinestrataLaw" dC dI g A [(a2, .inr (15, [.int (1), .int (0), .int (100), .int (0), .int (0), .ref a25, .ref a26, .ref a27, .ref a28, .ref a29, .ref a30, .ref a31, .ref a32, .ref a33, .ref a34, .ref a35, .null, .int (-1), .ref a36, .long (0)]))] _ _ := ⟨⟨hx, hb, hml, hown, hts⟩, hE, hS, hA, hP, hD⟩
    refine n_call (wr := []) hX (n_runV (n := 0) (wc := [(a2, .inr (15, [.int (1), .int (0), .int (100), .int (0), .int (0), .ref a25, .ref a26, .ref a27, .ref a28, .ref a29, .ref a30, .ref a31, .ref a32, .ref a33, .ref a34, .ref a35, .null, .int (-1), .ref a36, .long (0)]))]) (As := []) (rest := []) hX (m33 l hst dC dI g a2 a25 a26 a27 a28 a29 a30 a31 a32 a33 a34 a35 a36 _) [0] rfl (by decide +kernel) 0 (ci := 15) rfl (T := TX16) (N := 20) (C := "MinestrataModel") rfl q1495 q1496 q1497 q82 q1498 (by decide +kernel) ⟨(Nat.le_of_ble_eq_true rfl), (Nat.le_of_ble_eq_true rfl)⟩ ⟨(Nat.le_of_ble_eq_true rfl), (Nat.le_of_ble_eq_true rfl)⟩ hl.1 rfl rfl (Nat.le_of_ble_eq_true rfl) dL_law_366) [0] [] rfl rfl (by decide +kernel) (by decide +kernel) (fun f6 r7 H locs hP hD hS => ?_)
    have hP : va_P (dC, dI) CL [(a2, .inr (15, [.int (1), .int (0), .int (100), .int (0), .int (0), .ref a25, .ref a26, .ref a27, .ref a28, .ref a29, .ref a30, .ref a31, .ref a32, .ref a33, .ref a34, .ref a35, .null, .int (-1), .ref a36, .long (0)]))] _ := hP
    have hD : va_D A [(a2, .inr (15, [.int (1), .int (0), .int (100), .int (0), .int (0), .ref a25, .ref a26, .ref a27, .ref a28, .ref a29, .ref a30, .ref a31, .ref a32, .ref a33, .ref a34, .ref a35, .null, .int (-1), .ref a36, .long (0)]))] := hD
    refine W.widen (k := 244) (n := 2777) (Nat.le_of_ble_eq_true rfl) (Nat.le_of_ble_eq_true rfl) ?_
    refine W.eq (g2 := F0 m 369 ls [.int (1)]) rfl ?_
    refine lv_iload hx hb dL_law_369 (lv_at hl 1 rfl) ?_
    refine lv_icmp_eq (tgt := 376) hx hb dL_law_371 (by decide +kernel) (fun _ => ?_) (fun h => absurd (by decide +kernel) h)
    refine lv_iload hx hb dL_law_376 (lv_at hl 1 rfl) ?_
    refine lv_if_ne (tgt := 393) hx hb dL_law_378 (by decide +kernel) (fun _ => ?_) (fun h => absurd h (by decide +kernel))
    refine lv_goto (tgt := 2278) hx hb dL_law_393 (by decide +kernel) ?_
    refine lv_iinc (v := (5)) (lv' := [(5, .int (5)), (7, .int (0)), (6, .int (1)), (4, .ref a0), (3, .ref a1), (2, .ref a2), (1, .ref a3), (0, .ref b)]) hx hb dL_law_2278 hl (k := 2) rfl (by decide +kernel) (by decide) rfl (fun ls hl => ?_)
    refine lv_goto (tgt := 28) hx hb dL_law_2281 (by decide +kernel) ?_
    refine lv_iload hx hb dL_law_28 (lv_at hl 0 rfl) ?_
    refine lv_aload_n hx hb dL_law_30 rfl (lv_at hl 7 rfl) ?_
    refine va_slen hx hb hXs hbl hbA hS dL_law_31 ?_
    refine nt_i (v := (5)) (by decide +kernel) ?_
    refine lv_iconst (v := (5)) hx hb dL_law_32 (by decide +kernel) ?_
    refine lv_isub hx hb dL_law_33 ?_
    refine nt_i (v := (0)) (by decide +kernel) ?_
    refine lv_icmp_gt (tgt := 2284) hx hb dL_law_34 (by decide +kernel) (fun _ => ?_) (fun h => absurd (by decide +kernel) h)
    refine lv_iconst (v := (1)) hx hb dL_law_2284 (by decide +kernel) ?_
    refine va_forget (fun q9 hq9 => by have h9 := hS.2.2 q9 hq9; rw [← hAe] at h9; exact h9) ?_
    refine W.widen (k := 600006) (n := 7302056) (Nat.le_of_ble_eq_true rfl) (Nat.le_of_ble_eq_true rfl) ?_
    refine W.base ?_
    exact lw_ret (Drawn.sameBut.refl s.drawn lw_cs) hx hb hr hlk dL_law_2285
  · skip
    refine lv_iconst (v := (1)) hx hb dL_law_316 (by decide +kernel) ?_
    refine lv_goto (tgt := 321) hx hb dL_law_317 (by decide +kernel) ?_
    refine lv_aload_n hx hb dL_law_321 rfl (lv_at hl 2 rfl) ?_
    have hX : nCx p s m _ c code 9 "MinestrataLaw" dC dI g A [(a3, .inr (12, [.ref a4, .ref a5, .ref a6, .ref a7, .ref a8, .ref a9, .ref a10, .ref a11, .null, .ref a12, .ref a13, .int (0), .int (100), .int (0), .int (0), .int (-1), .long (0), .int (1)])), (a4, .inr (8, [.int (0), .ref a14, .ref a15, .ref a16, .ref a17, .int (0), .ref a18, .ref a19, .ref a20, .ref a21, .ref a22, .ref a23, .ref a24])), (a2, .inr (15, [.int (0), .int (0), .int (100), .int (0), .int (0), .ref a25, .ref a26, .ref a27, .ref a28, .ref a29, .ref a30, .ref a31, .ref a32, .ref a33, .ref a34, .ref a35, .null, .int (-1), .ref a36, .long (0)]))] _ _ := ⟨⟨hx, hb, hml, hown, hts⟩, hE, hS, hA, hP, hD⟩
    refine n_call (wr := [(a2, .inr (15, [.int (0), .int (0), .int (100), .int (0), .int (0), .ref a25, .ref a26, .ref a27, .ref a28, .ref a29, .ref a30, .ref a31, .ref a32, .ref a33, .ref a34, .ref a35, .null, .int (-1), .ref a36, .long (0)]))]) hX (n_runSW (n := 6) (wc := [(a3, .inr (12, [.ref a4, .ref a5, .ref a6, .ref a7, .ref a8, .ref a9, .ref a10, .ref a11, .null, .ref a12, .ref a13, .int (0), .int (100), .int (0), .int (0), .int (-1), .long (0), .int (1)])), (a4, .inr (8, [.int (0), .ref a14, .ref a15, .ref a16, .ref a17, .int (0), .ref a18, .ref a19, .ref a20, .ref a21, .ref a22, .ref a23, .ref a24]))]) (As := [.ref a3, .int s1, .int s2, .int s3, .int (1), .ref a1]) (rest := []) hX (m52 l hst dC dI g a3 a1 a4 a5 a6 a7 a8 a9 a10 a11 a12 a13 a14 a15 a16 a17 a18 a19 a20 a21 a22 a23 a24 s1 s2 s3 _) [0, 1] rfl (by decide +kernel) q904 q905 q70 q906 (by decide +kernel) ⟨(Nat.le_of_ble_eq_true rfl), (Nat.le_of_ble_eq_true rfl)⟩ ⟨(Nat.le_of_ble_eq_true rfl), (Nat.le_of_ble_eq_true rfl)⟩ hl.1 rfl rfl (Nat.le_of_ble_eq_true rfl) dL_law_322) [0, 1] [2] rfl rfl (by decide +kernel) (by decide +kernel) (fun f8 r9 H locs hP hD hS => ?_)
    have hP : va_P (dC, dI) CL [(a2, .inr (15, [.int (0), .int (0), .int (100), .int (0), .int (0), .ref a25, .ref a26, .ref a27, .ref a28, .ref a29, .ref a30, .ref a31, .ref a32, .ref a33, .ref a34, .ref a35, .null, .int (-1), .ref a36, .long (0)]))] _ := hP
    have hD : va_D A [(a2, .inr (15, [.int (0), .int (0), .int (100), .int (0), .int (0), .ref a25, .ref a26, .ref a27, .ref a28, .ref a29, .ref a30, .ref a31, .ref a32, .ref a33, .ref a34, .ref a35, .null, .int (-1), .ref a36, .long (0)]))] := hD
    refine W.widen (k := 244) (n := 2777) (Nat.le_of_ble_eq_true rfl) (Nat.le_of_ble_eq_true rfl) ?_
    refine W.eq (g2 := F0 m 325 ls [.int (1)]) rfl ?_
    refine lv_istore (lv' := [(6, .int (1)), (5, .int (0)), (4, .ref a0), (3, .ref a1), (2, .ref a2), (1, .ref a3), (0, .ref b)]) hx hb dL_law_325 hl (by decide) rfl (fun ls hl => ?_)
    refine lv_aload_n hx hb dL_law_327 rfl (lv_at hl 4 rfl) ?_
    refine lv_aload_n hx hb dL_law_328 rfl (lv_at hl 6 rfl) ?_
    refine lv_iload hx hb dL_law_329 (lv_at hl 1 rfl) ?_
    refine lv_iconst (v := (1)) hx hb dL_law_331 (by decide +kernel) ?_
    refine lv_iadd hx hb dL_law_332 ?_
    refine nt_i (v := (1)) (by decide +kernel) ?_
    refine va_sld hx hb hXs hbl hbA hS (show ¬ ((1 : Int32) < 0 ∨ 5 ≤ Int32.toNatClampNeg (1)) by decide +kernel) dL_law_333 ?_
    refine nt_i (v := s1) es1 ?_
    refine lv_aload_n hx hb dL_law_334 rfl (lv_at hl 6 rfl) ?_
    refine lv_iload hx hb dL_law_335 (lv_at hl 1 rfl) ?_
    refine lv_iconst (v := (2)) hx hb dL_law_337 (by decide +kernel) ?_
    refine lv_iadd hx hb dL_law_338 ?_
    refine nt_i (v := (2)) (by decide +kernel) ?_
    refine va_sld hx hb hXs hbl hbA hS (show ¬ ((2 : Int32) < 0 ∨ 5 ≤ Int32.toNatClampNeg (2)) by decide +kernel) dL_law_339 ?_
    refine nt_i (v := s2) es2 ?_
    refine lv_aload_n hx hb dL_law_340 rfl (lv_at hl 6 rfl) ?_
    refine lv_iload hx hb dL_law_341 (lv_at hl 1 rfl) ?_
    refine lv_iconst (v := (3)) hx hb dL_law_343 (by decide +kernel) ?_
    refine lv_iadd hx hb dL_law_344 ?_
    refine nt_i (v := (3)) (by decide +kernel) ?_
    refine va_sld hx hb hXs hbl hbA hS (show ¬ ((3 : Int32) < 0 ∨ 5 ≤ Int32.toNatClampNeg (3)) by decide +kernel) dL_law_345 ?_
    refine nt_i (v := s3) es3 ?_
    refine lv_aload_n hx hb dL_law_346 rfl (lv_at hl 6 rfl) ?_
    refine lv_iload hx hb dL_law_347 (lv_at hl 1 rfl) ?_
    refine lv_iconst (v := (4)) hx hb dL_law_349 (by decide +kernel) ?_
    refine lv_iadd hx hb dL_law_350 ?_
    refine nt_i (v := (4)) (by decide +kernel) ?_
    refine va_sld hx hb hXs hbl hbA hS (show ¬ ((4 : Int32) < 0 ∨ 5 ≤ Int32.toNatClampNeg (4)) by decide +kernel) dL_law_351 ?_
    refine nt_i (v := s4) es4 ?_
    refine lv_if_eq (tgt := 359) hx hb dL_law_352 (by decide +kernel) (fun h => absurd h h1) (fun _ => ?_)
    refine lv_iconst (v := (1)) hx hb dL_law_355 (by decide +kernel) ?_
    refine lv_goto (tgt := 360) hx hb dL_law_356 (by decide +kernel) ?_
    have hX : nCx p s m _ c code 9 "MinestrataLaw" dC dI g A [(a2, .inr (15, [.int (0), .int (0), .int (100), .int (0), .int (0), .ref a25, .ref a26, .ref a27, .ref a28, .ref a29, .ref a30, .ref a31, .ref a32, .ref a33, .ref a34, .ref a35, .null, .int (-1), .ref a36, .long (0)]))] _ _ := ⟨⟨hx, hb, hml, hown, hts⟩, hE, hS, hA, hP, hD⟩
    refine n_call (wr := []) hX (n_runV (n := 4) (wc := [(a2, .inr (15, [.int (0), .int (0), .int (100), .int (0), .int (0), .ref a25, .ref a26, .ref a27, .ref a28, .ref a29, .ref a30, .ref a31, .ref a32, .ref a33, .ref a34, .ref a35, .null, .int (-1), .ref a36, .long (0)]))]) (As := [.int s1, .int s2, .int s3, .int (1)]) (rest := []) hX (m53 l hst dC dI g a2 a25 a26 a27 a28 a29 a30 a31 a32 a33 a34 a35 a36 s1 s2 s3 _) [0] rfl (by decide +kernel) 0 (ci := 15) rfl (T := TX16) (N := 20) (C := "MinestrataModel") rfl q1514 q1515 q1516 q82 q1517 (by decide +kernel) ⟨(Nat.le_of_ble_eq_true rfl), (Nat.le_of_ble_eq_true rfl)⟩ ⟨(Nat.le_of_ble_eq_true rfl), (Nat.le_of_ble_eq_true rfl)⟩ hl.1 rfl rfl (Nat.le_of_ble_eq_true rfl) dL_law_360) [0] [] rfl rfl (by decide +kernel) (by decide +kernel) (fun f10 r11 H locs hP hD hS => ?_)
    have hP : va_P (dC, dI) CL [(a2, .inr (15, [.int (1), .int (0), .int (100), .int (0), .int (0), .ref a25, .ref a26, .ref a27, .ref a28, .ref a29, .ref a30, .ref a31, .ref a32, .ref a33, .ref a34, .ref a35, .null, .int (-1), .ref a36, .long (0)]))] _ := hP
    have hD : va_D A [(a2, .inr (15, [.int (1), .int (0), .int (100), .int (0), .int (0), .ref a25, .ref a26, .ref a27, .ref a28, .ref a29, .ref a30, .ref a31, .ref a32, .ref a33, .ref a34, .ref a35, .null, .int (-1), .ref a36, .long (0)]))] := hD
    refine W.widen (k := 244) (n := 2777) (Nat.le_of_ble_eq_true rfl) (Nat.le_of_ble_eq_true rfl) ?_
    refine W.eq (g2 := F0 m 363 ls [.int (0)]) rfl ?_
    refine lv_istore (lv' := [(7, .int (0)), (6, .int (1)), (5, .int (0)), (4, .ref a0), (3, .ref a1), (2, .ref a2), (1, .ref a3), (0, .ref b)]) hx hb dL_law_363 hl (by decide) rfl (fun ls hl => ?_)
    refine lv_aload_n hx hb dL_law_365 rfl (lv_at hl 5 rfl) ?_
    have hX : nCx p s m _ c code 9 "MinestrataLaw" dC dI g A [(a2, .inr (15, [.int (1), .int (0), .int (100), .int (0), .int (0), .ref a25, .ref a26, .ref a27, .ref a28, .ref a29, .ref a30, .ref a31, .ref a32, .ref a33, .ref a34, .ref a35, .null, .int (-1), .ref a36, .long (0)]))] _ _ := ⟨⟨hx, hb, hml, hown, hts⟩, hE, hS, hA, hP, hD⟩
    refine n_call (wr := []) hX (n_runV (n := 0) (wc := [(a2, .inr (15, [.int (1), .int (0), .int (100), .int (0), .int (0), .ref a25, .ref a26, .ref a27, .ref a28, .ref a29, .ref a30, .ref a31, .ref a32, .ref a33, .ref a34, .ref a35, .null, .int (-1), .ref a36, .long (0)]))]) (As := []) (rest := []) hX (m33 l hst dC dI g a2 a25 a26 a27 a28 a29 a30 a31 a32 a33 a34 a35 a36 _) [0] rfl (by decide +kernel) 0 (ci := 15) rfl (T := TX16) (N := 20) (C := "MinestrataModel") rfl q1495 q1496 q1497 q82 q1498 (by decide +kernel) ⟨(Nat.le_of_ble_eq_true rfl), (Nat.le_of_ble_eq_true rfl)⟩ ⟨(Nat.le_of_ble_eq_true rfl), (Nat.le_of_ble_eq_true rfl)⟩ hl.1 rfl rfl (Nat.le_of_ble_eq_true rfl) dL_law_366) [0] [] rfl rfl (by decide +kernel) (by decide +kernel) (fun f12 r13 H locs hP hD hS => ?_)
    have hP : va_P (dC, dI) CL [(a2, .inr (15, [.int (1), .int (0), .int (100), .int (0), .int (0), .ref a25, .ref a26, .ref a27, .ref a28, .ref a29, .ref a30, .ref a31, .ref a32, .ref a33, .ref a34, .ref a35, .null, .int (-1), .ref a36, .long (0)]))] _ := hP
    have hD : va_D A [(a2, .inr (15, [.int (1), .int (0), .int (100), .int (0), .int (0), .ref a25, .ref a26, .ref a27, .ref a28, .ref a29, .ref a30, .ref a31, .ref a32, .ref a33, .ref a34, .ref a35, .null, .int (-1), .ref a36, .long (0)]))] := hD
    refine W.widen (k := 244) (n := 2777) (Nat.le_of_ble_eq_true rfl) (Nat.le_of_ble_eq_true rfl) ?_
    refine W.eq (g2 := F0 m 369 ls [.int (1)]) rfl ?_
    refine lv_iload hx hb dL_law_369 (lv_at hl 1 rfl) ?_
    refine lv_icmp_eq (tgt := 376) hx hb dL_law_371 (by decide +kernel) (fun _ => ?_) (fun h => absurd (by decide +kernel) h)
    refine lv_iload hx hb dL_law_376 (lv_at hl 1 rfl) ?_
    refine lv_if_ne (tgt := 393) hx hb dL_law_378 (by decide +kernel) (fun _ => ?_) (fun h => absurd h (by decide +kernel))
    refine lv_goto (tgt := 2278) hx hb dL_law_393 (by decide +kernel) ?_
    refine lv_iinc (v := (5)) (lv' := [(5, .int (5)), (7, .int (0)), (6, .int (1)), (4, .ref a0), (3, .ref a1), (2, .ref a2), (1, .ref a3), (0, .ref b)]) hx hb dL_law_2278 hl (k := 2) rfl (by decide +kernel) (by decide) rfl (fun ls hl => ?_)
    refine lv_goto (tgt := 28) hx hb dL_law_2281 (by decide +kernel) ?_
    refine lv_iload hx hb dL_law_28 (lv_at hl 0 rfl) ?_
    refine lv_aload_n hx hb dL_law_30 rfl (lv_at hl 7 rfl) ?_
    refine va_slen hx hb hXs hbl hbA hS dL_law_31 ?_
    refine nt_i (v := (5)) (by decide +kernel) ?_
    refine lv_iconst (v := (5)) hx hb dL_law_32 (by decide +kernel) ?_
    refine lv_isub hx hb dL_law_33 ?_
    refine nt_i (v := (0)) (by decide +kernel) ?_
    refine lv_icmp_gt (tgt := 2284) hx hb dL_law_34 (by decide +kernel) (fun _ => ?_) (fun h => absurd (by decide +kernel) h)
    refine lv_iconst (v := (1)) hx hb dL_law_2284 (by decide +kernel) ?_
    refine va_forget (fun q9 hq9 => by have h9 := hS.2.2 q9 hq9; rw [← hAe] at h9; exact h9) ?_
    refine W.widen (k := 600006) (n := 7302056) (Nat.le_of_ble_eq_true rfl) (Nat.le_of_ble_eq_true rfl) ?_
    refine W.base ?_
    exact lw_ret (Drawn.sameBut.refl s.drawn lw_cs) hx hb hr hlk dL_law_2285

set_option maxHeartbeats 4000000 in
set_option maxRecDepth 100000 in
theorem lc_2 {p : Program} {e : Env} {s : State} {m : MethodId} {below : List Frame} {meth : Method} {c : Code} (l : Launch) (hst : l.stackTraces = false) {b : Nat} {xs : Nat → Int32} (C0 : lw_At p s m meth c b 5 xs) (dC : Nat → ClassId) (dI : Nat → Nat → Nat) (g : Nat → Nat) (a0 a1 a2 a3 a4 a5 a6 a7 a8 a9 a10 a11 a12 a13 a14 a15 a16 a17 a18 a19 a20 a21 a22 a23 a24 a25 a26 a27 a28 a29 a30 a31 a32 a33 a34 a35 a36 : Nat) {A : Nat → Prop} (hAe : (fun q : Nat => s.heap.size ≤ q) = A) (hE : EV dC dI g A s) (hA : ∀ q : Nat, s.heap.size ≤ q → A q) (hbA : ¬ A b) (H : Heap) (locs : List Loc) (hP : va_P (dC, dI) CL [(a3, .inr (12, [.ref a4, .ref a5, .ref a6, .ref a7, .ref a8, .ref a9, .ref a10, .ref a11, .null, .ref a12, .ref a13, .int (0), .int (100), .int (0), .int (0), .int (-1), .long (0), .int (1)])), (a4, .inr (8, [.int (0), .ref a14, .ref a15, .ref a16, .ref a17, .int (0), .ref a18, .ref a19, .ref a20, .ref a21, .ref a22, .ref a23, .ref a24])), (a2, .inr (15, [.int (0), .int (0), .int (100), .int (0), .int (0), .ref a25, .ref a26, .ref a27, .ref a28, .ref a29, .ref a30, .ref a31, .ref a32, .ref a33, .ref a34, .ref a35, .null, .int (-1), .ref a36, .long (0)]))] H) (hD : va_D A [(a3, .inr (12, [.ref a4, .ref a5, .ref a6, .ref a7, .ref a8, .ref a9, .ref a10, .ref a11, .null, .ref a12, .ref a13, .int (0), .int (100), .int (0), .int (0), .int (-1), .long (0), .int (1)])), (a4, .inr (8, [.int (0), .ref a14, .ref a15, .ref a16, .ref a17, .int (0), .ref a18, .ref a19, .ref a20, .ref a21, .ref a22, .ref a23, .ref a24])), (a2, .inr (15, [.int (0), .int (0), .int (100), .int (0), .int (0), .ref a25, .ref a26, .ref a27, .ref a28, .ref a29, .ref a30, .ref a31, .ref a32, .ref a33, .ref a34, .ref a35, .null, .int (-1), .ref a36, .long (0)]))]) (hS : va_S A s.heap H locs) (ls : Array Slot) (hl : lv_has ls 9 [(5, .int (0)), (4, .ref a0), (3, .ref a1), (2, .ref a2), (1, .ref a3), (0, .ref b)]) :
    W p l e room_1 s m #[Value.ref b] below meth c H locs 243 2771 (lw_Z below #[Value.ref b] s) (F0 m 44 ls [.int (2)]) := by
  obtain ⟨hx, hb, hr, hml, hown, hts0, hXs, hbl, hlk, hgv⟩ := id C0
  have hts : ∀ w ∈ AW, w.before #[Value.ref b] s = true := fun w h => hts0 w (aw_tbl h)
  have hown : s.vm.findClass "MinestrataLaw" = some m.cls := hown
  have hK := hE.1
  obtain ⟨s1, es1⟩ : ∃ y : Int32, xs (Int32.toNatClampNeg (1)) = y := ⟨_, rfl⟩
  obtain ⟨s2, es2⟩ : ∃ y : Int32, xs (Int32.toNatClampNeg (2)) = y := ⟨_, rfl⟩
  obtain ⟨s3, es3⟩ : ∃ y : Int32, xs (Int32.toNatClampNeg (3)) = y := ⟨_, rfl⟩
  obtain ⟨s4, es4⟩ : ∃ y : Int32, xs (Int32.toNatClampNeg (4)) = y := ⟨_, rfl⟩
  refine lv_tableIn (tgt := 396) (off := 352) hx hb dL_law_44 (by decide +kernel) (by decide +kernel) rfl (by decide +kernel) ?_
  refine lv_aload_n hx hb dL_law_396 rfl (lv_at hl 4 rfl) ?_
  refine lv_aload_n hx hb dL_law_397 rfl (lv_at hl 5 rfl) ?_
  refine lv_iload hx hb dL_law_398 (lv_at hl 0 rfl) ?_
  refine lv_iconst (v := (1)) hx hb dL_law_400 (by decide +kernel) ?_
  refine lv_iadd hx hb dL_law_401 ?_
  refine nt_i (v := (1)) (by decide +kernel) ?_
  refine va_sld hx hb hXs hbl hbA hS (show ¬ ((1 : Int32) < 0 ∨ 5 ≤ Int32.toNatClampNeg (1)) by decide +kernel) dL_law_402 ?_
  refine nt_i (v := s1) es1 ?_
  refine lv_aload_n hx hb dL_law_403 rfl (lv_at hl 5 rfl) ?_
  refine lv_iload hx hb dL_law_404 (lv_at hl 0 rfl) ?_
  refine lv_iconst (v := (2)) hx hb dL_law_406 (by decide +kernel) ?_
  refine lv_iadd hx hb dL_law_407 ?_
  refine nt_i (v := (2)) (by decide +kernel) ?_
  refine va_sld hx hb hXs hbl hbA hS (show ¬ ((2 : Int32) < 0 ∨ 5 ≤ Int32.toNatClampNeg (2)) by decide +kernel) dL_law_408 ?_
  refine nt_i (v := s2) es2 ?_
  refine lv_aload_n hx hb dL_law_409 rfl (lv_at hl 5 rfl) ?_
  refine lv_iload hx hb dL_law_410 (lv_at hl 0 rfl) ?_
  refine lv_iconst (v := (3)) hx hb dL_law_412 (by decide +kernel) ?_
  refine lv_iadd hx hb dL_law_413 ?_
  refine nt_i (v := (3)) (by decide +kernel) ?_
  refine va_sld hx hb hXs hbl hbA hS (show ¬ ((3 : Int32) < 0 ∨ 5 ≤ Int32.toNatClampNeg (3)) by decide +kernel) dL_law_414 ?_
  refine nt_i (v := s3) es3 ?_
  refine lv_aload_n hx hb dL_law_415 rfl (lv_at hl 5 rfl) ?_
  refine lv_iload hx hb dL_law_416 (lv_at hl 0 rfl) ?_
  refine lv_iconst (v := (4)) hx hb dL_law_418 (by decide +kernel) ?_
  refine lv_iadd hx hb dL_law_419 ?_
  refine nt_i (v := (4)) (by decide +kernel) ?_
  refine va_sld hx hb hXs hbl hbA hS (show ¬ ((4 : Int32) < 0 ∨ 5 ≤ Int32.toNatClampNeg (4)) by decide +kernel) dL_law_420 ?_
  refine nt_i (v := s4) es4 ?_
  refine lv_aload_n hx hb dL_law_421 rfl (lv_at hl 2 rfl) ?_
  have hX : nCx p s m _ c code 9 "MinestrataLaw" dC dI g A [(a3, .inr (12, [.ref a4, .ref a5, .ref a6, .ref a7, .ref a8, .ref a9, .ref a10, .ref a11, .null, .ref a12, .ref a13, .int (0), .int (100), .int (0), .int (0), .int (-1), .long (0), .int (1)])), (a4, .inr (8, [.int (0), .ref a14, .ref a15, .ref a16, .ref a17, .int (0), .ref a18, .ref a19, .ref a20, .ref a21, .ref a22, .ref a23, .ref a24])), (a2, .inr (15, [.int (0), .int (0), .int (100), .int (0), .int (0), .ref a25, .ref a26, .ref a27, .ref a28, .ref a29, .ref a30, .ref a31, .ref a32, .ref a33, .ref a34, .ref a35, .null, .int (-1), .ref a36, .long (0)]))] _ _ := ⟨⟨hx, hb, hml, hown, hts⟩, hE, hS, hA, hP, hD⟩
  refine n_call (wr := [(a2, .inr (15, [.int (0), .int (0), .int (100), .int (0), .int (0), .ref a25, .ref a26, .ref a27, .ref a28, .ref a29, .ref a30, .ref a31, .ref a32, .ref a33, .ref a34, .ref a35, .null, .int (-1), .ref a36, .long (0)]))]) hX (n_runSW (n := 6) (wc := [(a3, .inr (12, [.ref a4, .ref a5, .ref a6, .ref a7, .ref a8, .ref a9, .ref a10, .ref a11, .null, .ref a12, .ref a13, .int (0), .int (100), .int (0), .int (0), .int (-1), .long (0), .int (1)])), (a4, .inr (8, [.int (0), .ref a14, .ref a15, .ref a16, .ref a17, .int (0), .ref a18, .ref a19, .ref a20, .ref a21, .ref a22, .ref a23, .ref a24]))]) (As := [.ref a3, .int s1, .int s2, .int s3, .int s4, .ref a1]) (rest := []) hX (m55 l hst dC dI g a3 a1 a4 a5 a6 a7 a8 a9 a10 a11 a12 a13 a14 a15 a16 a17 a18 a19 a20 a21 a22 a23 a24 s1 s2 s3 s4 _) [0, 1] rfl (by decide +kernel) q967 q968 q70 q969 (by decide +kernel) ⟨(Nat.le_of_ble_eq_true rfl), (Nat.le_of_ble_eq_true rfl)⟩ ⟨(Nat.le_of_ble_eq_true rfl), (Nat.le_of_ble_eq_true rfl)⟩ hl.1 rfl rfl (Nat.le_of_ble_eq_true rfl) dL_law_422) [0, 1] [2] rfl rfl (by decide +kernel) (by decide +kernel) (fun f1 r2 H locs hP hD hS => ?_)
  have hP : va_P (dC, dI) CL [(a2, .inr (15, [.int (0), .int (0), .int (100), .int (0), .int (0), .ref a25, .ref a26, .ref a27, .ref a28, .ref a29, .ref a30, .ref a31, .ref a32, .ref a33, .ref a34, .ref a35, .null, .int (-1), .ref a36, .long (0)]))] _ := hP
  have hD : va_D A [(a2, .inr (15, [.int (0), .int (0), .int (100), .int (0), .int (0), .ref a25, .ref a26, .ref a27, .ref a28, .ref a29, .ref a30, .ref a31, .ref a32, .ref a33, .ref a34, .ref a35, .null, .int (-1), .ref a36, .long (0)]))] := hD
  refine W.widen (k := 244) (n := 2777) (Nat.le_of_ble_eq_true rfl) (Nat.le_of_ble_eq_true rfl) ?_
  refine W.eq (g2 := F0 m 425 ls [.int (1)]) rfl ?_
  refine lv_istore (lv' := [(6, .int (1)), (5, .int (0)), (4, .ref a0), (3, .ref a1), (2, .ref a2), (1, .ref a3), (0, .ref b)]) hx hb dL_law_425 hl (by decide) rfl (fun ls hl => ?_)
  refine lv_aload_n hx hb dL_law_427 rfl (lv_at hl 4 rfl) ?_
  refine lv_aload_n hx hb dL_law_428 rfl (lv_at hl 6 rfl) ?_
  refine lv_iload hx hb dL_law_429 (lv_at hl 1 rfl) ?_
  refine lv_iconst (v := (1)) hx hb dL_law_431 (by decide +kernel) ?_
  refine lv_iadd hx hb dL_law_432 ?_
  refine nt_i (v := (1)) (by decide +kernel) ?_
  refine va_sld hx hb hXs hbl hbA hS (show ¬ ((1 : Int32) < 0 ∨ 5 ≤ Int32.toNatClampNeg (1)) by decide +kernel) dL_law_433 ?_
  refine nt_i (v := s1) es1 ?_
  refine lv_aload_n hx hb dL_law_434 rfl (lv_at hl 6 rfl) ?_
  refine lv_iload hx hb dL_law_435 (lv_at hl 1 rfl) ?_
  refine lv_iconst (v := (2)) hx hb dL_law_437 (by decide +kernel) ?_
  refine lv_iadd hx hb dL_law_438 ?_
  refine nt_i (v := (2)) (by decide +kernel) ?_
  refine va_sld hx hb hXs hbl hbA hS (show ¬ ((2 : Int32) < 0 ∨ 5 ≤ Int32.toNatClampNeg (2)) by decide +kernel) dL_law_439 ?_
  refine nt_i (v := s2) es2 ?_
  refine lv_aload_n hx hb dL_law_440 rfl (lv_at hl 6 rfl) ?_
  refine lv_iload hx hb dL_law_441 (lv_at hl 1 rfl) ?_
  refine lv_iconst (v := (3)) hx hb dL_law_443 (by decide +kernel) ?_
  refine lv_iadd hx hb dL_law_444 ?_
  refine nt_i (v := (3)) (by decide +kernel) ?_
  refine va_sld hx hb hXs hbl hbA hS (show ¬ ((3 : Int32) < 0 ∨ 5 ≤ Int32.toNatClampNeg (3)) by decide +kernel) dL_law_445 ?_
  refine nt_i (v := s3) es3 ?_
  refine lv_aload_n hx hb dL_law_446 rfl (lv_at hl 6 rfl) ?_
  refine lv_iload hx hb dL_law_447 (lv_at hl 1 rfl) ?_
  refine lv_iconst (v := (4)) hx hb dL_law_449 (by decide +kernel) ?_
  refine lv_iadd hx hb dL_law_450 ?_
  refine nt_i (v := (4)) (by decide +kernel) ?_
  refine va_sld hx hb hXs hbl hbA hS (show ¬ ((4 : Int32) < 0 ∨ 5 ≤ Int32.toNatClampNeg (4)) by decide +kernel) dL_law_451 ?_
  refine nt_i (v := s4) es4 ?_
  have hX : nCx p s m _ c code 9 "MinestrataLaw" dC dI g A [(a2, .inr (15, [.int (0), .int (0), .int (100), .int (0), .int (0), .ref a25, .ref a26, .ref a27, .ref a28, .ref a29, .ref a30, .ref a31, .ref a32, .ref a33, .ref a34, .ref a35, .null, .int (-1), .ref a36, .long (0)]))] _ _ := ⟨⟨hx, hb, hml, hown, hts⟩, hE, hS, hA, hP, hD⟩
  refine n_call (wr := []) hX (n_runV (n := 4) (wc := [(a2, .inr (15, [.int (0), .int (0), .int (100), .int (0), .int (0), .ref a25, .ref a26, .ref a27, .ref a28, .ref a29, .ref a30, .ref a31, .ref a32, .ref a33, .ref a34, .ref a35, .null, .int (-1), .ref a36, .long (0)]))]) (As := [.int s1, .int s2, .int s3, .int s4]) (rest := []) hX (m56 l hst dC dI g a2 a25 a26 a27 a28 a29 a30 a31 a32 a33 a34 a35 a36 s1 s2 s3 s4 _) [0] rfl (by decide +kernel) 0 (ci := 15) rfl (T := TX16) (N := 20) (C := "MinestrataModel") rfl q1636 q1637 q1638 q82 q1639 (by decide +kernel) ⟨(Nat.le_of_ble_eq_true rfl), (Nat.le_of_ble_eq_true rfl)⟩ ⟨(Nat.le_of_ble_eq_true rfl), (Nat.le_of_ble_eq_true rfl)⟩ hl.1 rfl rfl (Nat.le_of_ble_eq_true rfl) dL_law_452) [0] [] rfl rfl (by decide +kernel) (by decide +kernel) (fun f3 r4 H locs hP hD hS => ?_)
  have hP : va_P (dC, dI) CL [(a2, .inr (15, [.int (1), .int (0), .int (100), .int (0), .int (0), .ref a25, .ref a26, .ref a27, .ref a28, .ref a29, .ref a30, .ref a31, .ref a32, .ref a33, .ref a34, .ref a35, .null, .int (-1), .ref a36, .long (0)]))] _ := hP
  have hD : va_D A [(a2, .inr (15, [.int (1), .int (0), .int (100), .int (0), .int (0), .ref a25, .ref a26, .ref a27, .ref a28, .ref a29, .ref a30, .ref a31, .ref a32, .ref a33, .ref a34, .ref a35, .null, .int (-1), .ref a36, .long (0)]))] := hD
  refine W.widen (k := 244) (n := 2777) (Nat.le_of_ble_eq_true rfl) (Nat.le_of_ble_eq_true rfl) ?_
  refine W.eq (g2 := F0 m 455 ls [.int (0)]) rfl ?_
  refine lv_istore (lv' := [(7, .int (0)), (6, .int (1)), (5, .int (0)), (4, .ref a0), (3, .ref a1), (2, .ref a2), (1, .ref a3), (0, .ref b)]) hx hb dL_law_455 hl (by decide) rfl (fun ls hl => ?_)
  refine lv_aload_n hx hb dL_law_457 rfl (lv_at hl 5 rfl) ?_
  have hX : nCx p s m _ c code 9 "MinestrataLaw" dC dI g A [(a2, .inr (15, [.int (1), .int (0), .int (100), .int (0), .int (0), .ref a25, .ref a26, .ref a27, .ref a28, .ref a29, .ref a30, .ref a31, .ref a32, .ref a33, .ref a34, .ref a35, .null, .int (-1), .ref a36, .long (0)]))] _ _ := ⟨⟨hx, hb, hml, hown, hts⟩, hE, hS, hA, hP, hD⟩
  refine n_call (wr := []) hX (n_runV (n := 0) (wc := [(a2, .inr (15, [.int (1), .int (0), .int (100), .int (0), .int (0), .ref a25, .ref a26, .ref a27, .ref a28, .ref a29, .ref a30, .ref a31, .ref a32, .ref a33, .ref a34, .ref a35, .null, .int (-1), .ref a36, .long (0)]))]) (As := []) (rest := []) hX (m33 l hst dC dI g a2 a25 a26 a27 a28 a29 a30 a31 a32 a33 a34 a35 a36 _) [0] rfl (by decide +kernel) 0 (ci := 15) rfl (T := TX16) (N := 20) (C := "MinestrataModel") rfl q1495 q1496 q1497 q82 q1498 (by decide +kernel) ⟨(Nat.le_of_ble_eq_true rfl), (Nat.le_of_ble_eq_true rfl)⟩ ⟨(Nat.le_of_ble_eq_true rfl), (Nat.le_of_ble_eq_true rfl)⟩ hl.1 rfl rfl (Nat.le_of_ble_eq_true rfl) dL_law_458) [0] [] rfl rfl (by decide +kernel) (by decide +kernel) (fun f5 r6 H locs hP hD hS => ?_)
  have hP : va_P (dC, dI) CL [(a2, .inr (15, [.int (1), .int (0), .int (100), .int (0), .int (0), .ref a25, .ref a26, .ref a27, .ref a28, .ref a29, .ref a30, .ref a31, .ref a32, .ref a33, .ref a34, .ref a35, .null, .int (-1), .ref a36, .long (0)]))] _ := hP
  have hD : va_D A [(a2, .inr (15, [.int (1), .int (0), .int (100), .int (0), .int (0), .ref a25, .ref a26, .ref a27, .ref a28, .ref a29, .ref a30, .ref a31, .ref a32, .ref a33, .ref a34, .ref a35, .null, .int (-1), .ref a36, .long (0)]))] := hD
  refine W.widen (k := 244) (n := 2777) (Nat.le_of_ble_eq_true rfl) (Nat.le_of_ble_eq_true rfl) ?_
  refine W.eq (g2 := F0 m 461 ls [.int (1)]) rfl ?_
  refine lv_iload hx hb dL_law_461 (lv_at hl 1 rfl) ?_
  refine lv_icmp_eq (tgt := 468) hx hb dL_law_463 (by decide +kernel) (fun _ => ?_) (fun h => absurd (by decide +kernel) h)
  refine lv_iload hx hb dL_law_468 (lv_at hl 1 rfl) ?_
  refine lv_if_ne (tgt := 485) hx hb dL_law_470 (by decide +kernel) (fun _ => ?_) (fun h => absurd h (by decide +kernel))
  refine lv_goto (tgt := 2278) hx hb dL_law_485 (by decide +kernel) ?_
  refine lv_iinc (v := (5)) (lv' := [(5, .int (5)), (7, .int (0)), (6, .int (1)), (4, .ref a0), (3, .ref a1), (2, .ref a2), (1, .ref a3), (0, .ref b)]) hx hb dL_law_2278 hl (k := 2) rfl (by decide +kernel) (by decide) rfl (fun ls hl => ?_)
  refine lv_goto (tgt := 28) hx hb dL_law_2281 (by decide +kernel) ?_
  refine lv_iload hx hb dL_law_28 (lv_at hl 0 rfl) ?_
  refine lv_aload_n hx hb dL_law_30 rfl (lv_at hl 7 rfl) ?_
  refine va_slen hx hb hXs hbl hbA hS dL_law_31 ?_
  refine nt_i (v := (5)) (by decide +kernel) ?_
  refine lv_iconst (v := (5)) hx hb dL_law_32 (by decide +kernel) ?_
  refine lv_isub hx hb dL_law_33 ?_
  refine nt_i (v := (0)) (by decide +kernel) ?_
  refine lv_icmp_gt (tgt := 2284) hx hb dL_law_34 (by decide +kernel) (fun _ => ?_) (fun h => absurd (by decide +kernel) h)
  refine lv_iconst (v := (1)) hx hb dL_law_2284 (by decide +kernel) ?_
  refine va_forget (fun q9 hq9 => by have h9 := hS.2.2 q9 hq9; rw [← hAe] at h9; exact h9) ?_
  refine W.widen (k := 600006) (n := 7302056) (Nat.le_of_ble_eq_true rfl) (Nat.le_of_ble_eq_true rfl) ?_
  refine W.base ?_
  exact lw_ret (Drawn.sameBut.refl s.drawn lw_cs) hx hb hr hlk dL_law_2285

set_option maxHeartbeats 4000000 in
set_option maxRecDepth 100000 in
theorem lc_3 {p : Program} {e : Env} {s : State} {m : MethodId} {below : List Frame} {meth : Method} {c : Code} (l : Launch) (hst : l.stackTraces = false) {b : Nat} {xs : Nat → Int32} (C0 : lw_At p s m meth c b 5 xs) (dC : Nat → ClassId) (dI : Nat → Nat → Nat) (g : Nat → Nat) (a0 a1 a2 a3 a4 a5 a6 a7 a8 a9 a10 a11 a12 a13 a14 a15 a16 a17 a18 a19 a20 a21 a22 a23 a24 a25 a26 a27 a28 a29 a30 a31 a32 a33 a34 : Nat) {A : Nat → Prop} (hAe : (fun q : Nat => s.heap.size ≤ q) = A) (hE : EV dC dI g A s) (hA : ∀ q : Nat, s.heap.size ≤ q → A q) (hbA : ¬ A b) (H : Heap) (locs : List Loc) (hP : va_P (dC, dI) CL [(a3, .inr (12, [.ref a4, .ref a5, .ref a6, .ref a7, .ref a8, .ref a9, .ref a10, .ref a11, .null, .ref a12, .ref a13, .int (0), .int (100), .int (0), .int (0), .int (-1), .long (0), .int (1)])), (a6, .inr (11, [.int (0), .ref a14, .ref a15, .ref a16, .ref a17, .ref a18, .ref a19, .ref a20, .ref a21, .ref a22])), (a2, .inr (15, [.int (0), .int (0), .int (100), .int (0), .int (0), .ref a23, .ref a24, .ref a25, .ref a26, .ref a27, .ref a28, .ref a29, .ref a30, .ref a31, .ref a32, .ref a33, .null, .int (-1), .ref a34, .long (0)])), (a31, .inr (1, [.int (0), .ref (g 21), .int (0)]))] H) (hD : va_D A [(a3, .inr (12, [.ref a4, .ref a5, .ref a6, .ref a7, .ref a8, .ref a9, .ref a10, .ref a11, .null, .ref a12, .ref a13, .int (0), .int (100), .int (0), .int (0), .int (-1), .long (0), .int (1)])), (a6, .inr (11, [.int (0), .ref a14, .ref a15, .ref a16, .ref a17, .ref a18, .ref a19, .ref a20, .ref a21, .ref a22])), (a2, .inr (15, [.int (0), .int (0), .int (100), .int (0), .int (0), .ref a23, .ref a24, .ref a25, .ref a26, .ref a27, .ref a28, .ref a29, .ref a30, .ref a31, .ref a32, .ref a33, .null, .int (-1), .ref a34, .long (0)])), (a31, .inr (1, [.int (0), .ref (g 21), .int (0)]))]) (hS : va_S A s.heap H locs) (ls : Array Slot) (hl : lv_has ls 9 [(5, .int (0)), (4, .ref a0), (3, .ref a1), (2, .ref a2), (1, .ref a3), (0, .ref b)]) :
    W p l e room_1 s m #[Value.ref b] below meth c H locs 243 2771 (lw_Z below #[Value.ref b] s) (F0 m 44 ls [.int (3)]) := by
  obtain ⟨hx, hb, hr, hml, hown, hts0, hXs, hbl, hlk, hgv⟩ := id C0
  have hts : ∀ w ∈ AW, w.before #[Value.ref b] s = true := fun w h => hts0 w (aw_tbl h)
  have hown : s.vm.findClass "MinestrataLaw" = some m.cls := hown
  have hK := hE.1
  obtain ⟨s1, es1⟩ : ∃ y : Int32, xs (Int32.toNatClampNeg (1)) = y := ⟨_, rfl⟩
  obtain ⟨s2, es2⟩ : ∃ y : Int32, xs (Int32.toNatClampNeg (2)) = y := ⟨_, rfl⟩
  obtain ⟨s3, es3⟩ : ∃ y : Int32, xs (Int32.toNatClampNeg (3)) = y := ⟨_, rfl⟩
  obtain ⟨s4, es4⟩ : ∃ y : Int32, xs (Int32.toNatClampNeg (4)) = y := ⟨_, rfl⟩
  refine lv_tableIn (tgt := 488) (off := 444) hx hb dL_law_44 (by decide +kernel) (by decide +kernel) rfl (by decide +kernel) ?_
  refine lv_aload_n hx hb dL_law_488 rfl (lv_at hl 4 rfl) ?_
  refine lv_aload_n hx hb dL_law_489 rfl (lv_at hl 5 rfl) ?_
  refine lv_iload hx hb dL_law_490 (lv_at hl 0 rfl) ?_
  refine lv_iconst (v := (1)) hx hb dL_law_492 (by decide +kernel) ?_
  refine lv_iadd hx hb dL_law_493 ?_
  refine nt_i (v := (1)) (by decide +kernel) ?_
  refine va_sld hx hb hXs hbl hbA hS (show ¬ ((1 : Int32) < 0 ∨ 5 ≤ Int32.toNatClampNeg (1)) by decide +kernel) dL_law_494 ?_
  refine nt_i (v := s1) es1 ?_
  refine lv_aload_n hx hb dL_law_495 rfl (lv_at hl 5 rfl) ?_
  refine lv_iload hx hb dL_law_496 (lv_at hl 0 rfl) ?_
  refine lv_iconst (v := (2)) hx hb dL_law_498 (by decide +kernel) ?_
  refine lv_iadd hx hb dL_law_499 ?_
  refine nt_i (v := (2)) (by decide +kernel) ?_
  refine va_sld hx hb hXs hbl hbA hS (show ¬ ((2 : Int32) < 0 ∨ 5 ≤ Int32.toNatClampNeg (2)) by decide +kernel) dL_law_500 ?_
  refine nt_i (v := s2) es2 ?_
  refine lv_aload_n hx hb dL_law_501 rfl (lv_at hl 2 rfl) ?_
  have hX : nCx p s m _ c code 9 "MinestrataLaw" dC dI g A [(a3, .inr (12, [.ref a4, .ref a5, .ref a6, .ref a7, .ref a8, .ref a9, .ref a10, .ref a11, .null, .ref a12, .ref a13, .int (0), .int (100), .int (0), .int (0), .int (-1), .long (0), .int (1)])), (a6, .inr (11, [.int (0), .ref a14, .ref a15, .ref a16, .ref a17, .ref a18, .ref a19, .ref a20, .ref a21, .ref a22])), (a2, .inr (15, [.int (0), .int (0), .int (100), .int (0), .int (0), .ref a23, .ref a24, .ref a25, .ref a26, .ref a27, .ref a28, .ref a29, .ref a30, .ref a31, .ref a32, .ref a33, .null, .int (-1), .ref a34, .long (0)])), (a31, .inr (1, [.int (0), .ref (g 21), .int (0)]))] _ _ := ⟨⟨hx, hb, hml, hown, hts⟩, hE, hS, hA, hP, hD⟩
  refine n_call (wr := [(a2, .inr (15, [.int (0), .int (0), .int (100), .int (0), .int (0), .ref a23, .ref a24, .ref a25, .ref a26, .ref a27, .ref a28, .ref a29, .ref a30, .ref a31, .ref a32, .ref a33, .null, .int (-1), .ref a34, .long (0)])), (a31, .inr (1, [.int (0), .ref (g 21), .int (0)]))]) hX (n_runSW (n := 4) (wc := [(a3, .inr (12, [.ref a4, .ref a5, .ref a6, .ref a7, .ref a8, .ref a9, .ref a10, .ref a11, .null, .ref a12, .ref a13, .int (0), .int (100), .int (0), .int (0), .int (-1), .long (0), .int (1)])), (a6, .inr (11, [.int (0), .ref a14, .ref a15, .ref a16, .ref a17, .ref a18, .ref a19, .ref a20, .ref a21, .ref a22]))]) (As := [.ref a3, .int s1, .int s2, .ref a1]) (rest := []) hX (m59 l hst dC dI g a3 a1 a4 a5 a6 a7 a8 a9 a10 a11 a12 a13 a14 a15 a16 a17 a18 a19 a20 a21 a22 s1 s2 _) [0, 1] rfl (by decide +kernel) q978 q979 q70 q980 (by decide +kernel) ⟨(Nat.le_of_ble_eq_true rfl), (Nat.le_of_ble_eq_true rfl)⟩ ⟨(Nat.le_of_ble_eq_true rfl), (Nat.le_of_ble_eq_true rfl)⟩ hl.1 rfl rfl (Nat.le_of_ble_eq_true rfl) dL_law_502) [0, 1] [2, 3] rfl rfl (by decide +kernel) (by decide +kernel) (fun f1 r2 H locs hP hD hS => ?_)
  have hP : va_P (dC, dI) CL [(a2, .inr (15, [.int (0), .int (0), .int (100), .int (0), .int (0), .ref a23, .ref a24, .ref a25, .ref a26, .ref a27, .ref a28, .ref a29, .ref a30, .ref a31, .ref a32, .ref a33, .null, .int (-1), .ref a34, .long (0)])), (a31, .inr (1, [.int (0), .ref (g 21), .int (0)]))] _ := hP
  have hD : va_D A [(a2, .inr (15, [.int (0), .int (0), .int (100), .int (0), .int (0), .ref a23, .ref a24, .ref a25, .ref a26, .ref a27, .ref a28, .ref a29, .ref a30, .ref a31, .ref a32, .ref a33, .null, .int (-1), .ref a34, .long (0)])), (a31, .inr (1, [.int (0), .ref (g 21), .int (0)]))] := hD
  refine W.widen (k := 244) (n := 2777) (Nat.le_of_ble_eq_true rfl) (Nat.le_of_ble_eq_true rfl) ?_
  refine W.eq (g2 := F0 m 505 ls [.int (1)]) rfl ?_
  refine lv_istore (lv' := [(6, .int (1)), (5, .int (0)), (4, .ref a0), (3, .ref a1), (2, .ref a2), (1, .ref a3), (0, .ref b)]) hx hb dL_law_505 hl (by decide) rfl (fun ls hl => ?_)
  refine lv_aload_n hx hb dL_law_507 rfl (lv_at hl 4 rfl) ?_
  refine lv_aload_n hx hb dL_law_508 rfl (lv_at hl 6 rfl) ?_
  refine lv_iload hx hb dL_law_509 (lv_at hl 1 rfl) ?_
  refine lv_iconst (v := (1)) hx hb dL_law_511 (by decide +kernel) ?_
  refine lv_iadd hx hb dL_law_512 ?_
  refine nt_i (v := (1)) (by decide +kernel) ?_
  refine va_sld hx hb hXs hbl hbA hS (show ¬ ((1 : Int32) < 0 ∨ 5 ≤ Int32.toNatClampNeg (1)) by decide +kernel) dL_law_513 ?_
  refine nt_i (v := s1) es1 ?_
  refine lv_aload_n hx hb dL_law_514 rfl (lv_at hl 6 rfl) ?_
  refine lv_iload hx hb dL_law_515 (lv_at hl 1 rfl) ?_
  refine lv_iconst (v := (2)) hx hb dL_law_517 (by decide +kernel) ?_
  refine lv_iadd hx hb dL_law_518 ?_
  refine nt_i (v := (2)) (by decide +kernel) ?_
  refine va_sld hx hb hXs hbl hbA hS (show ¬ ((2 : Int32) < 0 ∨ 5 ≤ Int32.toNatClampNeg (2)) by decide +kernel) dL_law_519 ?_
  refine nt_i (v := s2) es2 ?_
  have hX : nCx p s m _ c code 9 "MinestrataLaw" dC dI g A [(a2, .inr (15, [.int (0), .int (0), .int (100), .int (0), .int (0), .ref a23, .ref a24, .ref a25, .ref a26, .ref a27, .ref a28, .ref a29, .ref a30, .ref a31, .ref a32, .ref a33, .null, .int (-1), .ref a34, .long (0)])), (a31, .inr (1, [.int (0), .ref (g 21), .int (0)]))] _ _ := ⟨⟨hx, hb, hml, hown, hts⟩, hE, hS, hA, hP, hD⟩
  refine n_call (wr := []) hX (n_runV (n := 2) (wc := [(a2, .inr (15, [.int (0), .int (0), .int (100), .int (0), .int (0), .ref a23, .ref a24, .ref a25, .ref a26, .ref a27, .ref a28, .ref a29, .ref a30, .ref a31, .ref a32, .ref a33, .null, .int (-1), .ref a34, .long (0)])), (a31, .inr (1, [.int (0), .ref (g 21), .int (0)]))]) (As := [.int s1, .int s2]) (rest := []) hX (m62 l hst dC dI g a2 a23 a24 a25 a26 a27 a28 a29 a30 a31 a32 a33 a34 s1 s2 _) [0, 1] rfl (by decide +kernel) 0 (ci := 15) rfl (T := TX16) (N := 20) (C := "MinestrataModel") rfl q1675 q1676 q1677 q82 q1678 (by decide +kernel) ⟨(Nat.le_of_ble_eq_true rfl), (Nat.le_of_ble_eq_true rfl)⟩ ⟨(Nat.le_of_ble_eq_true rfl), (Nat.le_of_ble_eq_true rfl)⟩ hl.1 rfl rfl (Nat.le_of_ble_eq_true rfl) dL_law_520) [0, 1] [] rfl rfl (by decide +kernel) (by decide +kernel) (fun f3 r4 H locs hP hD hS => ?_)
  have hP : va_P (dC, dI) CL [(a2, .inr (15, [.int (1), .int (0), .int (100), .int (0), .int (0), .ref a23, .ref a24, .ref a25, .ref a26, .ref a27, .ref a28, .ref a29, .ref a30, .ref a31, .ref a32, .ref a33, .null, .int (-1), .ref a34, .long (0)])), (a31, .inr (1, [.int (0), .ref (g 21), .int (0)]))] _ := hP
  have hD : va_D A [(a2, .inr (15, [.int (1), .int (0), .int (100), .int (0), .int (0), .ref a23, .ref a24, .ref a25, .ref a26, .ref a27, .ref a28, .ref a29, .ref a30, .ref a31, .ref a32, .ref a33, .null, .int (-1), .ref a34, .long (0)])), (a31, .inr (1, [.int (0), .ref (g 21), .int (0)]))] := hD
  refine W.widen (k := 244) (n := 2777) (Nat.le_of_ble_eq_true rfl) (Nat.le_of_ble_eq_true rfl) ?_
  refine W.eq (g2 := F0 m 523 ls [.int (0)]) rfl ?_
  refine lv_istore (lv' := [(7, .int (0)), (6, .int (1)), (5, .int (0)), (4, .ref a0), (3, .ref a1), (2, .ref a2), (1, .ref a3), (0, .ref b)]) hx hb dL_law_523 hl (by decide) rfl (fun ls hl => ?_)
  refine lv_aload_n hx hb dL_law_525 rfl (lv_at hl 5 rfl) ?_
  have hX : nCx p s m _ c code 9 "MinestrataLaw" dC dI g A [(a2, .inr (15, [.int (1), .int (0), .int (100), .int (0), .int (0), .ref a23, .ref a24, .ref a25, .ref a26, .ref a27, .ref a28, .ref a29, .ref a30, .ref a31, .ref a32, .ref a33, .null, .int (-1), .ref a34, .long (0)])), (a31, .inr (1, [.int (0), .ref (g 21), .int (0)]))] _ _ := ⟨⟨hx, hb, hml, hown, hts⟩, hE, hS, hA, hP, hD⟩
  refine n_call (wr := [(a31, .inr (1, [.int (0), .ref (g 21), .int (0)]))]) hX (n_runV (n := 0) (wc := [(a2, .inr (15, [.int (1), .int (0), .int (100), .int (0), .int (0), .ref a23, .ref a24, .ref a25, .ref a26, .ref a27, .ref a28, .ref a29, .ref a30, .ref a31, .ref a32, .ref a33, .null, .int (-1), .ref a34, .long (0)]))]) (As := []) (rest := []) hX (m33 l hst dC dI g a2 a23 a24 a25 a26 a27 a28 a29 a30 a31 a32 a33 a34 _) [0] rfl (by decide +kernel) 0 (ci := 15) rfl (T := TX16) (N := 20) (C := "MinestrataModel") rfl q1495 q1496 q1497 q82 q1498 (by decide +kernel) ⟨(Nat.le_of_ble_eq_true rfl), (Nat.le_of_ble_eq_true rfl)⟩ ⟨(Nat.le_of_ble_eq_true rfl), (Nat.le_of_ble_eq_true rfl)⟩ hl.1 rfl rfl (Nat.le_of_ble_eq_true rfl) dL_law_526) [0] [1] rfl rfl (by decide +kernel) (by decide +kernel) (fun f5 r6 H locs hP hD hS => ?_)
  have hP : va_P (dC, dI) CL [(a31, .inr (1, [.int (0), .ref (g 21), .int (0)])), (a2, .inr (15, [.int (1), .int (0), .int (100), .int (0), .int (0), .ref a23, .ref a24, .ref a25, .ref a26, .ref a27, .ref a28, .ref a29, .ref a30, .ref a31, .ref a32, .ref a33, .null, .int (-1), .ref a34, .long (0)]))] _ := hP
  have hD : va_D A [(a31, .inr (1, [.int (0), .ref (g 21), .int (0)])), (a2, .inr (15, [.int (1), .int (0), .int (100), .int (0), .int (0), .ref a23, .ref a24, .ref a25, .ref a26, .ref a27, .ref a28, .ref a29, .ref a30, .ref a31, .ref a32, .ref a33, .null, .int (-1), .ref a34, .long (0)]))] := hD
  refine W.widen (k := 244) (n := 2777) (Nat.le_of_ble_eq_true rfl) (Nat.le_of_ble_eq_true rfl) ?_
  refine W.eq (g2 := F0 m 529 ls [.int (1)]) rfl ?_
  refine lv_iload hx hb dL_law_529 (lv_at hl 1 rfl) ?_
  refine lv_icmp_eq (tgt := 536) hx hb dL_law_531 (by decide +kernel) (fun _ => ?_) (fun h => absurd (by decide +kernel) h)
  refine lv_iload hx hb dL_law_536 (lv_at hl 1 rfl) ?_
  refine lv_if_ne (tgt := 560) hx hb dL_law_538 (by decide +kernel) (fun _ => ?_) (fun h => absurd h (by decide +kernel))
  refine lv_goto (tgt := 2278) hx hb dL_law_560 (by decide +kernel) ?_
  refine lv_iinc (v := (5)) (lv' := [(5, .int (5)), (7, .int (0)), (6, .int (1)), (4, .ref a0), (3, .ref a1), (2, .ref a2), (1, .ref a3), (0, .ref b)]) hx hb dL_law_2278 hl (k := 2) rfl (by decide +kernel) (by decide) rfl (fun ls hl => ?_)
  refine lv_goto (tgt := 28) hx hb dL_law_2281 (by decide +kernel) ?_
  refine lv_iload hx hb dL_law_28 (lv_at hl 0 rfl) ?_
  refine lv_aload_n hx hb dL_law_30 rfl (lv_at hl 7 rfl) ?_
  refine va_slen hx hb hXs hbl hbA hS dL_law_31 ?_
  refine nt_i (v := (5)) (by decide +kernel) ?_
  refine lv_iconst (v := (5)) hx hb dL_law_32 (by decide +kernel) ?_
  refine lv_isub hx hb dL_law_33 ?_
  refine nt_i (v := (0)) (by decide +kernel) ?_
  refine lv_icmp_gt (tgt := 2284) hx hb dL_law_34 (by decide +kernel) (fun _ => ?_) (fun h => absurd (by decide +kernel) h)
  refine lv_iconst (v := (1)) hx hb dL_law_2284 (by decide +kernel) ?_
  refine va_forget (fun q9 hq9 => by have h9 := hS.2.2 q9 hq9; rw [← hAe] at h9; exact h9) ?_
  refine W.widen (k := 600006) (n := 7302056) (Nat.le_of_ble_eq_true rfl) (Nat.le_of_ble_eq_true rfl) ?_
  refine W.base ?_
  exact lw_ret (Drawn.sameBut.refl s.drawn lw_cs) hx hb hr hlk dL_law_2285

set_option maxHeartbeats 4000000 in
set_option maxRecDepth 100000 in
theorem lc_4 {p : Program} {e : Env} {s : State} {m : MethodId} {below : List Frame} {meth : Method} {c : Code} (l : Launch) (hst : l.stackTraces = false) {b : Nat} {xs : Nat → Int32} (C0 : lw_At p s m meth c b 5 xs) (dC : Nat → ClassId) (dI : Nat → Nat → Nat) (g : Nat → Nat) (a0 a1 a2 a3 a4 a5 a6 a7 a8 a9 a10 a11 a12 a13 a14 a15 a16 a17 a18 a19 a20 a21 a22 a23 a24 a25 : Nat) {A : Nat → Prop} (hAe : (fun q : Nat => s.heap.size ≤ q) = A) (hE : EV dC dI g A s) (hA : ∀ q : Nat, s.heap.size ≤ q → A q) (hbA : ¬ A b) (H : Heap) (locs : List Loc) (hP : va_P (dC, dI) CL [(a3, .inr (12, [.ref a4, .ref a5, .ref a6, .ref a7, .ref a8, .ref a9, .ref a10, .ref a11, .null, .ref a12, .ref a13, .int (0), .int (100), .int (0), .int (0), .int (-1), .long (0), .int (1)])), (a2, .inr (15, [.int (0), .int (0), .int (100), .int (0), .int (0), .ref a14, .ref a15, .ref a16, .ref a17, .ref a18, .ref a19, .ref a20, .ref a21, .ref a22, .ref a23, .ref a24, .null, .int (-1), .ref a25, .long (0)])), (a1, .inl (g 1, 1, .inr (.inl (fun _ => 0))))] H) (hD : va_D A [(a3, .inr (12, [.ref a4, .ref a5, .ref a6, .ref a7, .ref a8, .ref a9, .ref a10, .ref a11, .null, .ref a12, .ref a13, .int (0), .int (100), .int (0), .int (0), .int (-1), .long (0), .int (1)])), (a2, .inr (15, [.int (0), .int (0), .int (100), .int (0), .int (0), .ref a14, .ref a15, .ref a16, .ref a17, .ref a18, .ref a19, .ref a20, .ref a21, .ref a22, .ref a23, .ref a24, .null, .int (-1), .ref a25, .long (0)])), (a1, .inl (g 1, 1, .inr (.inl (fun _ => 0))))]) (hS : va_S A s.heap H locs) (ls : Array Slot) (hl : lv_has ls 9 [(5, .int (0)), (4, .ref a0), (3, .ref a1), (2, .ref a2), (1, .ref a3), (0, .ref b)]) :
    W p l e room_1 s m #[Value.ref b] below meth c H locs 243 2771 (lw_Z below #[Value.ref b] s) (F0 m 44 ls [.int (4)]) := by
  obtain ⟨hx, hb, hr, hml, hown, hts0, hXs, hbl, hlk, hgv⟩ := id C0
  have hts : ∀ w ∈ AW, w.before #[Value.ref b] s = true := fun w h => hts0 w (aw_tbl h)
  have hown : s.vm.findClass "MinestrataLaw" = some m.cls := hown
  have hK := hE.1
  obtain ⟨s1, es1⟩ : ∃ y : Int32, xs (Int32.toNatClampNeg (1)) = y := ⟨_, rfl⟩
  obtain ⟨s2, es2⟩ : ∃ y : Int32, xs (Int32.toNatClampNeg (2)) = y := ⟨_, rfl⟩
  obtain ⟨s3, es3⟩ : ∃ y : Int32, xs (Int32.toNatClampNeg (3)) = y := ⟨_, rfl⟩
  obtain ⟨s4, es4⟩ : ∃ y : Int32, xs (Int32.toNatClampNeg (4)) = y := ⟨_, rfl⟩
  refine lv_tableIn (tgt := 563) (off := 519) hx hb dL_law_44 (by decide +kernel) (by decide +kernel) rfl (by decide +kernel) ?_
  refine lv_aload_n hx hb dL_law_563 rfl (lv_at hl 4 rfl) ?_
  refine lv_aload_n hx hb dL_law_564 rfl (lv_at hl 5 rfl) ?_
  refine lv_iload hx hb dL_law_565 (lv_at hl 0 rfl) ?_
  refine lv_iconst (v := (1)) hx hb dL_law_567 (by decide +kernel) ?_
  refine lv_iadd hx hb dL_law_568 ?_
  refine nt_i (v := (1)) (by decide +kernel) ?_
  refine va_sld hx hb hXs hbl hbA hS (show ¬ ((1 : Int32) < 0 ∨ 5 ≤ Int32.toNatClampNeg (1)) by decide +kernel) dL_law_569 ?_
  refine nt_i (v := s1) es1 ?_
  refine lv_aload_n hx hb dL_law_570 rfl (lv_at hl 2 rfl) ?_
  by_cases h1 : s1 < (0)
  · skip
    have hX : nCx p s m _ c code 9 "MinestrataLaw" dC dI g A [(a3, .inr (12, [.ref a4, .ref a5, .ref a6, .ref a7, .ref a8, .ref a9, .ref a10, .ref a11, .null, .ref a12, .ref a13, .int (0), .int (100), .int (0), .int (0), .int (-1), .long (0), .int (1)])), (a2, .inr (15, [.int (0), .int (0), .int (100), .int (0), .int (0), .ref a14, .ref a15, .ref a16, .ref a17, .ref a18, .ref a19, .ref a20, .ref a21, .ref a22, .ref a23, .ref a24, .null, .int (-1), .ref a25, .long (0)])), (a1, .inl (g 1, 1, .inr (.inl (fun _ => 0))))] _ _ := ⟨⟨hx, hb, hml, hown, hts⟩, hE, hS, hA, hP, hD⟩
    refine n_call (wr := [(a2, .inr (15, [.int (0), .int (0), .int (100), .int (0), .int (0), .ref a14, .ref a15, .ref a16, .ref a17, .ref a18, .ref a19, .ref a20, .ref a21, .ref a22, .ref a23, .ref a24, .null, .int (-1), .ref a25, .long (0)]))]) hX (n_runSW (n := 3) (wc := [(a3, .inr (12, [.ref a4, .ref a5, .ref a6, .ref a7, .ref a8, .ref a9, .ref a10, .ref a11, .null, .ref a12, .ref a13, .int (0), .int (100), .int (0), .int (0), .int (-1), .long (0), .int (1)])), (a1, .inl (g 1, 1, .inr (.inl (fun _ => 0))))]) (As := [.ref a3, .int s1, .ref a1]) (rest := []) hX (m65 l hst dC dI g a3 a1 a4 a5 a6 a7 a8 a9 a10 a11 a12 a13 s1 h1 _) [0, 2] rfl (by decide +kernel) q997 q998 q70 q999 (by decide +kernel) ⟨(Nat.le_of_ble_eq_true rfl), (Nat.le_of_ble_eq_true rfl)⟩ ⟨(Nat.le_of_ble_eq_true rfl), (Nat.le_of_ble_eq_true rfl)⟩ hl.1 rfl rfl (Nat.le_of_ble_eq_true rfl) dL_law_571) [0, 2] [1] rfl rfl (by decide +kernel) (by decide +kernel) (fun f2 r3 H locs hP hD hS => ?_)
    have hP : va_P (dC, dI) CL [(a2, .inr (15, [.int (0), .int (0), .int (100), .int (0), .int (0), .ref a14, .ref a15, .ref a16, .ref a17, .ref a18, .ref a19, .ref a20, .ref a21, .ref a22, .ref a23, .ref a24, .null, .int (-1), .ref a25, .long (0)]))] _ := hP
    have hD : va_D A [(a2, .inr (15, [.int (0), .int (0), .int (100), .int (0), .int (0), .ref a14, .ref a15, .ref a16, .ref a17, .ref a18, .ref a19, .ref a20, .ref a21, .ref a22, .ref a23, .ref a24, .null, .int (-1), .ref a25, .long (0)]))] := hD
    refine W.widen (k := 244) (n := 2777) (Nat.le_of_ble_eq_true rfl) (Nat.le_of_ble_eq_true rfl) ?_
    refine W.eq (g2 := F0 m 574 ls [.int (1)]) rfl ?_
    refine lv_istore (lv' := [(6, .int (1)), (5, .int (0)), (4, .ref a0), (3, .ref a1), (2, .ref a2), (1, .ref a3), (0, .ref b)]) hx hb dL_law_574 hl (by decide) rfl (fun ls hl => ?_)
    refine lv_aload_n hx hb dL_law_576 rfl (lv_at hl 4 rfl) ?_
    refine lv_aload_n hx hb dL_law_577 rfl (lv_at hl 6 rfl) ?_
    refine lv_iload hx hb dL_law_578 (lv_at hl 1 rfl) ?_
    refine lv_iconst (v := (1)) hx hb dL_law_580 (by decide +kernel) ?_
    refine lv_iadd hx hb dL_law_581 ?_
    refine nt_i (v := (1)) (by decide +kernel) ?_
    refine va_sld hx hb hXs hbl hbA hS (show ¬ ((1 : Int32) < 0 ∨ 5 ≤ Int32.toNatClampNeg (1)) by decide +kernel) dL_law_582 ?_
    refine nt_i (v := s1) es1 ?_
    have hX : nCx p s m _ c code 9 "MinestrataLaw" dC dI g A [(a2, .inr (15, [.int (0), .int (0), .int (100), .int (0), .int (0), .ref a14, .ref a15, .ref a16, .ref a17, .ref a18, .ref a19, .ref a20, .ref a21, .ref a22, .ref a23, .ref a24, .null, .int (-1), .ref a25, .long (0)]))] _ _ := ⟨⟨hx, hb, hml, hown, hts⟩, hE, hS, hA, hP, hD⟩
    refine n_call (wr := []) hX (n_runV (n := 1) (wc := [(a2, .inr (15, [.int (0), .int (0), .int (100), .int (0), .int (0), .ref a14, .ref a15, .ref a16, .ref a17, .ref a18, .ref a19, .ref a20, .ref a21, .ref a22, .ref a23, .ref a24, .null, .int (-1), .ref a25, .long (0)]))]) (As := [.int s1]) (rest := []) hX (m67 l hst dC dI g a2 a14 a15 a16 a17 a18 a19 a20 a21 a22 a23 a24 a25 s1 h1 _) [0] rfl (by decide +kernel) 0 (ci := 15) rfl (T := TX16) (N := 20) (C := "MinestrataModel") rfl q1683 q1684 q1685 q82 q1686 (by decide +kernel) ⟨(Nat.le_of_ble_eq_true rfl), (Nat.le_of_ble_eq_true rfl)⟩ ⟨(Nat.le_of_ble_eq_true rfl), (Nat.le_of_ble_eq_true rfl)⟩ hl.1 rfl rfl (Nat.le_of_ble_eq_true rfl) dL_law_583) [0] [] rfl rfl (by decide +kernel) (by decide +kernel) (fun f4 r5 H locs hP hD hS => ?_)
    have hP : va_P (dC, dI) CL [(a2, .inr (15, [.int (1), .int (0), .int (100), .int (0), .int (0), .ref a14, .ref a15, .ref a16, .ref a17, .ref a18, .ref a19, .ref a20, .ref a21, .ref a22, .ref a23, .ref a24, .null, .int (-1), .ref a25, .long (0)]))] _ := hP
    have hD : va_D A [(a2, .inr (15, [.int (1), .int (0), .int (100), .int (0), .int (0), .ref a14, .ref a15, .ref a16, .ref a17, .ref a18, .ref a19, .ref a20, .ref a21, .ref a22, .ref a23, .ref a24, .null, .int (-1), .ref a25, .long (0)]))] := hD
    refine W.widen (k := 244) (n := 2777) (Nat.le_of_ble_eq_true rfl) (Nat.le_of_ble_eq_true rfl) ?_
    refine W.eq (g2 := F0 m 586 ls [.int (0)]) rfl ?_
    refine lv_istore (lv' := [(7, .int (0)), (6, .int (1)), (5, .int (0)), (4, .ref a0), (3, .ref a1), (2, .ref a2), (1, .ref a3), (0, .ref b)]) hx hb dL_law_586 hl (by decide) rfl (fun ls hl => ?_)
    refine lv_aload_n hx hb dL_law_588 rfl (lv_at hl 5 rfl) ?_
    have hX : nCx p s m _ c code 9 "MinestrataLaw" dC dI g A [(a2, .inr (15, [.int (1), .int (0), .int (100), .int (0), .int (0), .ref a14, .ref a15, .ref a16, .ref a17, .ref a18, .ref a19, .ref a20, .ref a21, .ref a22, .ref a23, .ref a24, .null, .int (-1), .ref a25, .long (0)]))] _ _ := ⟨⟨hx, hb, hml, hown, hts⟩, hE, hS, hA, hP, hD⟩
    refine n_call (wr := []) hX (n_runV (n := 0) (wc := [(a2, .inr (15, [.int (1), .int (0), .int (100), .int (0), .int (0), .ref a14, .ref a15, .ref a16, .ref a17, .ref a18, .ref a19, .ref a20, .ref a21, .ref a22, .ref a23, .ref a24, .null, .int (-1), .ref a25, .long (0)]))]) (As := []) (rest := []) hX (m33 l hst dC dI g a2 a14 a15 a16 a17 a18 a19 a20 a21 a22 a23 a24 a25 _) [0] rfl (by decide +kernel) 0 (ci := 15) rfl (T := TX16) (N := 20) (C := "MinestrataModel") rfl q1495 q1496 q1497 q82 q1498 (by decide +kernel) ⟨(Nat.le_of_ble_eq_true rfl), (Nat.le_of_ble_eq_true rfl)⟩ ⟨(Nat.le_of_ble_eq_true rfl), (Nat.le_of_ble_eq_true rfl)⟩ hl.1 rfl rfl (Nat.le_of_ble_eq_true rfl) dL_law_589) [0] [] rfl rfl (by decide +kernel) (by decide +kernel) (fun f6 r7 H locs hP hD hS => ?_)
    have hP : va_P (dC, dI) CL [(a2, .inr (15, [.int (1), .int (0), .int (100), .int (0), .int (0), .ref a14, .ref a15, .ref a16, .ref a17, .ref a18, .ref a19, .ref a20, .ref a21, .ref a22, .ref a23, .ref a24, .null, .int (-1), .ref a25, .long (0)]))] _ := hP
    have hD : va_D A [(a2, .inr (15, [.int (1), .int (0), .int (100), .int (0), .int (0), .ref a14, .ref a15, .ref a16, .ref a17, .ref a18, .ref a19, .ref a20, .ref a21, .ref a22, .ref a23, .ref a24, .null, .int (-1), .ref a25, .long (0)]))] := hD
    refine W.widen (k := 244) (n := 2777) (Nat.le_of_ble_eq_true rfl) (Nat.le_of_ble_eq_true rfl) ?_
    refine W.eq (g2 := F0 m 592 ls [.int (1)]) rfl ?_
    refine lv_iload hx hb dL_law_592 (lv_at hl 1 rfl) ?_
    refine lv_icmp_eq (tgt := 599) hx hb dL_law_594 (by decide +kernel) (fun _ => ?_) (fun h => absurd (by decide +kernel) h)
    refine lv_iload hx hb dL_law_599 (lv_at hl 1 rfl) ?_
    refine lv_if_ne (tgt := 616) hx hb dL_law_601 (by decide +kernel) (fun _ => ?_) (fun h => absurd h (by decide +kernel))
    refine lv_goto (tgt := 2278) hx hb dL_law_616 (by decide +kernel) ?_
    refine lv_iinc (v := (5)) (lv' := [(5, .int (5)), (7, .int (0)), (6, .int (1)), (4, .ref a0), (3, .ref a1), (2, .ref a2), (1, .ref a3), (0, .ref b)]) hx hb dL_law_2278 hl (k := 2) rfl (by decide +kernel) (by decide) rfl (fun ls hl => ?_)
    refine lv_goto (tgt := 28) hx hb dL_law_2281 (by decide +kernel) ?_
    refine lv_iload hx hb dL_law_28 (lv_at hl 0 rfl) ?_
    refine lv_aload_n hx hb dL_law_30 rfl (lv_at hl 7 rfl) ?_
    refine va_slen hx hb hXs hbl hbA hS dL_law_31 ?_
    refine nt_i (v := (5)) (by decide +kernel) ?_
    refine lv_iconst (v := (5)) hx hb dL_law_32 (by decide +kernel) ?_
    refine lv_isub hx hb dL_law_33 ?_
    refine nt_i (v := (0)) (by decide +kernel) ?_
    refine lv_icmp_gt (tgt := 2284) hx hb dL_law_34 (by decide +kernel) (fun _ => ?_) (fun h => absurd (by decide +kernel) h)
    refine lv_iconst (v := (1)) hx hb dL_law_2284 (by decide +kernel) ?_
    refine va_forget (fun q9 hq9 => by have h9 := hS.2.2 q9 hq9; rw [← hAe] at h9; exact h9) ?_
    refine W.widen (k := 600006) (n := 7302056) (Nat.le_of_ble_eq_true rfl) (Nat.le_of_ble_eq_true rfl) ?_
    refine W.base ?_
    exact lw_ret (Drawn.sameBut.refl s.drawn lw_cs) hx hb hr hlk dL_law_2285
  · skip
    by_cases h8 : (9998) < s1
    · skip
      have hX : nCx p s m _ c code 9 "MinestrataLaw" dC dI g A [(a3, .inr (12, [.ref a4, .ref a5, .ref a6, .ref a7, .ref a8, .ref a9, .ref a10, .ref a11, .null, .ref a12, .ref a13, .int (0), .int (100), .int (0), .int (0), .int (-1), .long (0), .int (1)])), (a2, .inr (15, [.int (0), .int (0), .int (100), .int (0), .int (0), .ref a14, .ref a15, .ref a16, .ref a17, .ref a18, .ref a19, .ref a20, .ref a21, .ref a22, .ref a23, .ref a24, .null, .int (-1), .ref a25, .long (0)])), (a1, .inl (g 1, 1, .inr (.inl (fun _ => 0))))] _ _ := ⟨⟨hx, hb, hml, hown, hts⟩, hE, hS, hA, hP, hD⟩
      refine n_call (wr := [(a2, .inr (15, [.int (0), .int (0), .int (100), .int (0), .int (0), .ref a14, .ref a15, .ref a16, .ref a17, .ref a18, .ref a19, .ref a20, .ref a21, .ref a22, .ref a23, .ref a24, .null, .int (-1), .ref a25, .long (0)]))]) hX (n_runSW (n := 3) (wc := [(a3, .inr (12, [.ref a4, .ref a5, .ref a6, .ref a7, .ref a8, .ref a9, .ref a10, .ref a11, .null, .ref a12, .ref a13, .int (0), .int (100), .int (0), .int (0), .int (-1), .long (0), .int (1)])), (a1, .inl (g 1, 1, .inr (.inl (fun _ => 0))))]) (As := [.ref a3, .int s1, .ref a1]) (rest := []) hX (m70 l hst dC dI g a3 a1 a4 a5 a6 a7 a8 a9 a10 a11 a12 a13 s1 h1 h8 _) [0, 2] rfl (by decide +kernel) q997 q998 q70 q999 (by decide +kernel) ⟨(Nat.le_of_ble_eq_true rfl), (Nat.le_of_ble_eq_true rfl)⟩ ⟨(Nat.le_of_ble_eq_true rfl), (Nat.le_of_ble_eq_true rfl)⟩ hl.1 rfl rfl (Nat.le_of_ble_eq_true rfl) dL_law_571) [0, 2] [1] rfl rfl (by decide +kernel) (by decide +kernel) (fun f9 r10 H locs hP hD hS => ?_)
      have hP : va_P (dC, dI) CL [(a2, .inr (15, [.int (0), .int (0), .int (100), .int (0), .int (0), .ref a14, .ref a15, .ref a16, .ref a17, .ref a18, .ref a19, .ref a20, .ref a21, .ref a22, .ref a23, .ref a24, .null, .int (-1), .ref a25, .long (0)]))] _ := hP
      have hD : va_D A [(a2, .inr (15, [.int (0), .int (0), .int (100), .int (0), .int (0), .ref a14, .ref a15, .ref a16, .ref a17, .ref a18, .ref a19, .ref a20, .ref a21, .ref a22, .ref a23, .ref a24, .null, .int (-1), .ref a25, .long (0)]))] := hD
      refine W.widen (k := 244) (n := 2777) (Nat.le_of_ble_eq_true rfl) (Nat.le_of_ble_eq_true rfl) ?_
      refine W.eq (g2 := F0 m 574 ls [.int (1)]) rfl ?_
      refine lv_istore (lv' := [(6, .int (1)), (5, .int (0)), (4, .ref a0), (3, .ref a1), (2, .ref a2), (1, .ref a3), (0, .ref b)]) hx hb dL_law_574 hl (by decide) rfl (fun ls hl => ?_)
      refine lv_aload_n hx hb dL_law_576 rfl (lv_at hl 4 rfl) ?_
      refine lv_aload_n hx hb dL_law_577 rfl (lv_at hl 6 rfl) ?_
      refine lv_iload hx hb dL_law_578 (lv_at hl 1 rfl) ?_
      refine lv_iconst (v := (1)) hx hb dL_law_580 (by decide +kernel) ?_
      refine lv_iadd hx hb dL_law_581 ?_
      refine nt_i (v := (1)) (by decide +kernel) ?_
      refine va_sld hx hb hXs hbl hbA hS (show ¬ ((1 : Int32) < 0 ∨ 5 ≤ Int32.toNatClampNeg (1)) by decide +kernel) dL_law_582 ?_
      refine nt_i (v := s1) es1 ?_
      have hX : nCx p s m _ c code 9 "MinestrataLaw" dC dI g A [(a2, .inr (15, [.int (0), .int (0), .int (100), .int (0), .int (0), .ref a14, .ref a15, .ref a16, .ref a17, .ref a18, .ref a19, .ref a20, .ref a21, .ref a22, .ref a23, .ref a24, .null, .int (-1), .ref a25, .long (0)]))] _ _ := ⟨⟨hx, hb, hml, hown, hts⟩, hE, hS, hA, hP, hD⟩
      refine n_call (wr := []) hX (n_runV (n := 1) (wc := [(a2, .inr (15, [.int (0), .int (0), .int (100), .int (0), .int (0), .ref a14, .ref a15, .ref a16, .ref a17, .ref a18, .ref a19, .ref a20, .ref a21, .ref a22, .ref a23, .ref a24, .null, .int (-1), .ref a25, .long (0)]))]) (As := [.int s1]) (rest := []) hX (m72 l hst dC dI g a2 a14 a15 a16 a17 a18 a19 a20 a21 a22 a23 a24 a25 s1 h1 h8 _) [0] rfl (by decide +kernel) 0 (ci := 15) rfl (T := TX16) (N := 20) (C := "MinestrataModel") rfl q1683 q1684 q1685 q82 q1686 (by decide +kernel) ⟨(Nat.le_of_ble_eq_true rfl), (Nat.le_of_ble_eq_true rfl)⟩ ⟨(Nat.le_of_ble_eq_true rfl), (Nat.le_of_ble_eq_true rfl)⟩ hl.1 rfl rfl (Nat.le_of_ble_eq_true rfl) dL_law_583) [0] [] rfl rfl (by decide +kernel) (by decide +kernel) (fun f11 r12 H locs hP hD hS => ?_)
      have hP : va_P (dC, dI) CL [(a2, .inr (15, [.int (1), .int (0), .int (100), .int (0), .int (0), .ref a14, .ref a15, .ref a16, .ref a17, .ref a18, .ref a19, .ref a20, .ref a21, .ref a22, .ref a23, .ref a24, .null, .int (-1), .ref a25, .long (0)]))] _ := hP
      have hD : va_D A [(a2, .inr (15, [.int (1), .int (0), .int (100), .int (0), .int (0), .ref a14, .ref a15, .ref a16, .ref a17, .ref a18, .ref a19, .ref a20, .ref a21, .ref a22, .ref a23, .ref a24, .null, .int (-1), .ref a25, .long (0)]))] := hD
      refine W.widen (k := 244) (n := 2777) (Nat.le_of_ble_eq_true rfl) (Nat.le_of_ble_eq_true rfl) ?_
      refine W.eq (g2 := F0 m 586 ls [.int (0)]) rfl ?_
      refine lv_istore (lv' := [(7, .int (0)), (6, .int (1)), (5, .int (0)), (4, .ref a0), (3, .ref a1), (2, .ref a2), (1, .ref a3), (0, .ref b)]) hx hb dL_law_586 hl (by decide) rfl (fun ls hl => ?_)
      refine lv_aload_n hx hb dL_law_588 rfl (lv_at hl 5 rfl) ?_
      have hX : nCx p s m _ c code 9 "MinestrataLaw" dC dI g A [(a2, .inr (15, [.int (1), .int (0), .int (100), .int (0), .int (0), .ref a14, .ref a15, .ref a16, .ref a17, .ref a18, .ref a19, .ref a20, .ref a21, .ref a22, .ref a23, .ref a24, .null, .int (-1), .ref a25, .long (0)]))] _ _ := ⟨⟨hx, hb, hml, hown, hts⟩, hE, hS, hA, hP, hD⟩
      refine n_call (wr := []) hX (n_runV (n := 0) (wc := [(a2, .inr (15, [.int (1), .int (0), .int (100), .int (0), .int (0), .ref a14, .ref a15, .ref a16, .ref a17, .ref a18, .ref a19, .ref a20, .ref a21, .ref a22, .ref a23, .ref a24, .null, .int (-1), .ref a25, .long (0)]))]) (As := []) (rest := []) hX (m33 l hst dC dI g a2 a14 a15 a16 a17 a18 a19 a20 a21 a22 a23 a24 a25 _) [0] rfl (by decide +kernel) 0 (ci := 15) rfl (T := TX16) (N := 20) (C := "MinestrataModel") rfl q1495 q1496 q1497 q82 q1498 (by decide +kernel) ⟨(Nat.le_of_ble_eq_true rfl), (Nat.le_of_ble_eq_true rfl)⟩ ⟨(Nat.le_of_ble_eq_true rfl), (Nat.le_of_ble_eq_true rfl)⟩ hl.1 rfl rfl (Nat.le_of_ble_eq_true rfl) dL_law_589) [0] [] rfl rfl (by decide +kernel) (by decide +kernel) (fun f13 r14 H locs hP hD hS => ?_)
      have hP : va_P (dC, dI) CL [(a2, .inr (15, [.int (1), .int (0), .int (100), .int (0), .int (0), .ref a14, .ref a15, .ref a16, .ref a17, .ref a18, .ref a19, .ref a20, .ref a21, .ref a22, .ref a23, .ref a24, .null, .int (-1), .ref a25, .long (0)]))] _ := hP
      have hD : va_D A [(a2, .inr (15, [.int (1), .int (0), .int (100), .int (0), .int (0), .ref a14, .ref a15, .ref a16, .ref a17, .ref a18, .ref a19, .ref a20, .ref a21, .ref a22, .ref a23, .ref a24, .null, .int (-1), .ref a25, .long (0)]))] := hD
      refine W.widen (k := 244) (n := 2777) (Nat.le_of_ble_eq_true rfl) (Nat.le_of_ble_eq_true rfl) ?_
      refine W.eq (g2 := F0 m 592 ls [.int (1)]) rfl ?_
      refine lv_iload hx hb dL_law_592 (lv_at hl 1 rfl) ?_
      refine lv_icmp_eq (tgt := 599) hx hb dL_law_594 (by decide +kernel) (fun _ => ?_) (fun h => absurd (by decide +kernel) h)
      refine lv_iload hx hb dL_law_599 (lv_at hl 1 rfl) ?_
      refine lv_if_ne (tgt := 616) hx hb dL_law_601 (by decide +kernel) (fun _ => ?_) (fun h => absurd h (by decide +kernel))
      refine lv_goto (tgt := 2278) hx hb dL_law_616 (by decide +kernel) ?_
      refine lv_iinc (v := (5)) (lv' := [(5, .int (5)), (7, .int (0)), (6, .int (1)), (4, .ref a0), (3, .ref a1), (2, .ref a2), (1, .ref a3), (0, .ref b)]) hx hb dL_law_2278 hl (k := 2) rfl (by decide +kernel) (by decide) rfl (fun ls hl => ?_)
      refine lv_goto (tgt := 28) hx hb dL_law_2281 (by decide +kernel) ?_
      refine lv_iload hx hb dL_law_28 (lv_at hl 0 rfl) ?_
      refine lv_aload_n hx hb dL_law_30 rfl (lv_at hl 7 rfl) ?_
      refine va_slen hx hb hXs hbl hbA hS dL_law_31 ?_
      refine nt_i (v := (5)) (by decide +kernel) ?_
      refine lv_iconst (v := (5)) hx hb dL_law_32 (by decide +kernel) ?_
      refine lv_isub hx hb dL_law_33 ?_
      refine nt_i (v := (0)) (by decide +kernel) ?_
      refine lv_icmp_gt (tgt := 2284) hx hb dL_law_34 (by decide +kernel) (fun _ => ?_) (fun h => absurd (by decide +kernel) h)
      refine lv_iconst (v := (1)) hx hb dL_law_2284 (by decide +kernel) ?_
      refine va_forget (fun q9 hq9 => by have h9 := hS.2.2 q9 hq9; rw [← hAe] at h9; exact h9) ?_
      refine W.widen (k := 600006) (n := 7302056) (Nat.le_of_ble_eq_true rfl) (Nat.le_of_ble_eq_true rfl) ?_
      refine W.base ?_
      exact lw_ret (Drawn.sameBut.refl s.drawn lw_cs) hx hb hr hlk dL_law_2285
    · skip
      have hX : nCx p s m _ c code 9 "MinestrataLaw" dC dI g A [(a3, .inr (12, [.ref a4, .ref a5, .ref a6, .ref a7, .ref a8, .ref a9, .ref a10, .ref a11, .null, .ref a12, .ref a13, .int (0), .int (100), .int (0), .int (0), .int (-1), .long (0), .int (1)])), (a2, .inr (15, [.int (0), .int (0), .int (100), .int (0), .int (0), .ref a14, .ref a15, .ref a16, .ref a17, .ref a18, .ref a19, .ref a20, .ref a21, .ref a22, .ref a23, .ref a24, .null, .int (-1), .ref a25, .long (0)])), (a1, .inl (g 1, 1, .inr (.inl (fun _ => 0))))] _ _ := ⟨⟨hx, hb, hml, hown, hts⟩, hE, hS, hA, hP, hD⟩
      refine n_call (wr := [(a2, .inr (15, [.int (0), .int (0), .int (100), .int (0), .int (0), .ref a14, .ref a15, .ref a16, .ref a17, .ref a18, .ref a19, .ref a20, .ref a21, .ref a22, .ref a23, .ref a24, .null, .int (-1), .ref a25, .long (0)]))]) hX (n_runSW (n := 3) (wc := [(a3, .inr (12, [.ref a4, .ref a5, .ref a6, .ref a7, .ref a8, .ref a9, .ref a10, .ref a11, .null, .ref a12, .ref a13, .int (0), .int (100), .int (0), .int (0), .int (-1), .long (0), .int (1)])), (a1, .inl (g 1, 1, .inr (.inl (fun _ => 0))))]) (As := [.ref a3, .int s1, .ref a1]) (rest := []) hX (m75 l hst dC dI g a3 a1 a4 a5 a6 a7 a8 a9 a10 a11 a12 a13 s1 h1 h8 _) [0, 2] rfl (by decide +kernel) q997 q998 q70 q999 (by decide +kernel) ⟨(Nat.le_of_ble_eq_true rfl), (Nat.le_of_ble_eq_true rfl)⟩ ⟨(Nat.le_of_ble_eq_true rfl), (Nat.le_of_ble_eq_true rfl)⟩ hl.1 rfl rfl (Nat.le_of_ble_eq_true rfl) dL_law_571) [0, 2] [1] rfl rfl (by decide +kernel) (by decide +kernel) (fun f15 r16 H locs hP hD hS => ?_)
      have hP : va_P (dC, dI) CL [(a2, .inr (15, [.int (0), .int (0), .int (100), .int (0), .int (0), .ref a14, .ref a15, .ref a16, .ref a17, .ref a18, .ref a19, .ref a20, .ref a21, .ref a22, .ref a23, .ref a24, .null, .int (-1), .ref a25, .long (0)])), (a3, .inr (12, [.ref a4, .ref a5, .ref a6, .ref a7, .ref a8, .ref a9, .ref a10, .ref a11, .null, .ref a12, .ref a13, .int (0), .int s1, .int (0), .int (0), .int (-1), .long (0), .int (1)])), (a1, .inl (g 1, 1, .inr (.inl (vp_updL (fun _ => 0) (Int32.toNatClampNeg (0)) (100)))))] _ := hP
      have hD : va_D A [(a2, .inr (15, [.int (0), .int (0), .int (100), .int (0), .int (0), .ref a14, .ref a15, .ref a16, .ref a17, .ref a18, .ref a19, .ref a20, .ref a21, .ref a22, .ref a23, .ref a24, .null, .int (-1), .ref a25, .long (0)])), (a3, .inr (12, [.ref a4, .ref a5, .ref a6, .ref a7, .ref a8, .ref a9, .ref a10, .ref a11, .null, .ref a12, .ref a13, .int (0), .int s1, .int (0), .int (0), .int (-1), .long (0), .int (1)])), (a1, .inl (g 1, 1, .inr (.inl (vp_updL (fun _ => 0) (Int32.toNatClampNeg (0)) (100)))))] := hD
      refine W.widen (k := 243) (n := 2771) (Nat.le_of_ble_eq_true rfl) (Nat.le_of_ble_eq_true rfl) ?_
      refine W.eq (g2 := F0 m 574 ls [.int (0)]) rfl ?_
      refine lv_istore (lv' := [(6, .int (0)), (5, .int (0)), (4, .ref a0), (3, .ref a1), (2, .ref a2), (1, .ref a3), (0, .ref b)]) hx hb dL_law_574 hl (by decide) rfl (fun ls hl => ?_)
      refine lv_aload_n hx hb dL_law_576 rfl (lv_at hl 4 rfl) ?_
      refine lv_aload_n hx hb dL_law_577 rfl (lv_at hl 6 rfl) ?_
      refine lv_iload hx hb dL_law_578 (lv_at hl 1 rfl) ?_
      refine lv_iconst (v := (1)) hx hb dL_law_580 (by decide +kernel) ?_
      refine lv_iadd hx hb dL_law_581 ?_
      refine nt_i (v := (1)) (by decide +kernel) ?_
      refine va_sld hx hb hXs hbl hbA hS (show ¬ ((1 : Int32) < 0 ∨ 5 ≤ Int32.toNatClampNeg (1)) by decide +kernel) dL_law_582 ?_
      refine nt_i (v := s1) es1 ?_
      have hX : nCx p s m _ c code 9 "MinestrataLaw" dC dI g A [(a2, .inr (15, [.int (0), .int (0), .int (100), .int (0), .int (0), .ref a14, .ref a15, .ref a16, .ref a17, .ref a18, .ref a19, .ref a20, .ref a21, .ref a22, .ref a23, .ref a24, .null, .int (-1), .ref a25, .long (0)])), (a3, .inr (12, [.ref a4, .ref a5, .ref a6, .ref a7, .ref a8, .ref a9, .ref a10, .ref a11, .null, .ref a12, .ref a13, .int (0), .int s1, .int (0), .int (0), .int (-1), .long (0), .int (1)])), (a1, .inl (g 1, 1, .inr (.inl (vp_updL (fun _ => 0) (Int32.toNatClampNeg (0)) (100)))))] _ _ := ⟨⟨hx, hb, hml, hown, hts⟩, hE, hS, hA, hP, hD⟩
      refine n_call (wr := [(a3, .inr (12, [.ref a4, .ref a5, .ref a6, .ref a7, .ref a8, .ref a9, .ref a10, .ref a11, .null, .ref a12, .ref a13, .int (0), .int s1, .int (0), .int (0), .int (-1), .long (0), .int (1)])), (a1, .inl (g 1, 1, .inr (.inl (vp_updL (fun _ => 0) (Int32.toNatClampNeg (0)) (100)))))]) hX (n_runV (n := 1) (wc := [(a2, .inr (15, [.int (0), .int (0), .int (100), .int (0), .int (0), .ref a14, .ref a15, .ref a16, .ref a17, .ref a18, .ref a19, .ref a20, .ref a21, .ref a22, .ref a23, .ref a24, .null, .int (-1), .ref a25, .long (0)]))]) (As := [.int s1]) (rest := []) hX (m78 l hst dC dI g a2 a14 a15 a16 a17 a18 a19 a20 a21 a22 a23 a24 a25 s1 h1 h8 _) [0] rfl (by decide +kernel) 0 (ci := 15) rfl (T := TX16) (N := 20) (C := "MinestrataModel") rfl q1683 q1684 q1685 q82 q1686 (by decide +kernel) ⟨(Nat.le_of_ble_eq_true rfl), (Nat.le_of_ble_eq_true rfl)⟩ ⟨(Nat.le_of_ble_eq_true rfl), (Nat.le_of_ble_eq_true rfl)⟩ hl.1 rfl rfl (Nat.le_of_ble_eq_true rfl) dL_law_583) [0] [1, 2] rfl rfl (by decide +kernel) (by decide +kernel) (fun f17 r18 H locs hP hD hS => ?_)
      have hP : va_P (dC, dI) CL [(a3, .inr (12, [.ref a4, .ref a5, .ref a6, .ref a7, .ref a8, .ref a9, .ref a10, .ref a11, .null, .ref a12, .ref a13, .int (0), .int s1, .int (0), .int (0), .int (-1), .long (0), .int (1)])), (a1, .inl (g 1, 1, .inr (.inl (vp_updL (fun _ => 0) (Int32.toNatClampNeg (0)) (100))))), (a2, .inr (15, [.int (0), .int (0), .int s1, .int (0), .int (0), .ref a14, .ref a15, .ref a16, .ref a17, .ref a18, .ref a19, .ref a20, .ref a21, .ref a22, .ref a23, .ref a24, .null, .int (-1), .ref a25, .long (0)]))] _ := hP
      have hD : va_D A [(a3, .inr (12, [.ref a4, .ref a5, .ref a6, .ref a7, .ref a8, .ref a9, .ref a10, .ref a11, .null, .ref a12, .ref a13, .int (0), .int s1, .int (0), .int (0), .int (-1), .long (0), .int (1)])), (a1, .inl (g 1, 1, .inr (.inl (vp_updL (fun _ => 0) (Int32.toNatClampNeg (0)) (100))))), (a2, .inr (15, [.int (0), .int (0), .int s1, .int (0), .int (0), .ref a14, .ref a15, .ref a16, .ref a17, .ref a18, .ref a19, .ref a20, .ref a21, .ref a22, .ref a23, .ref a24, .null, .int (-1), .ref a25, .long (0)]))] := hD
      refine W.widen (k := 243) (n := 2771) (Nat.le_of_ble_eq_true rfl) (Nat.le_of_ble_eq_true rfl) ?_
      refine W.eq (g2 := F0 m 586 ls [.int (100)]) rfl ?_
      refine lv_istore (lv' := [(7, .int (100)), (6, .int (0)), (5, .int (0)), (4, .ref a0), (3, .ref a1), (2, .ref a2), (1, .ref a3), (0, .ref b)]) hx hb dL_law_586 hl (by decide) rfl (fun ls hl => ?_)
      refine lv_aload_n hx hb dL_law_588 rfl (lv_at hl 5 rfl) ?_
      have hX : nCx p s m _ c code 9 "MinestrataLaw" dC dI g A [(a3, .inr (12, [.ref a4, .ref a5, .ref a6, .ref a7, .ref a8, .ref a9, .ref a10, .ref a11, .null, .ref a12, .ref a13, .int (0), .int s1, .int (0), .int (0), .int (-1), .long (0), .int (1)])), (a1, .inl (g 1, 1, .inr (.inl (vp_updL (fun _ => 0) (Int32.toNatClampNeg (0)) (100))))), (a2, .inr (15, [.int (0), .int (0), .int s1, .int (0), .int (0), .ref a14, .ref a15, .ref a16, .ref a17, .ref a18, .ref a19, .ref a20, .ref a21, .ref a22, .ref a23, .ref a24, .null, .int (-1), .ref a25, .long (0)]))] _ _ := ⟨⟨hx, hb, hml, hown, hts⟩, hE, hS, hA, hP, hD⟩
      refine n_call (wr := [(a3, .inr (12, [.ref a4, .ref a5, .ref a6, .ref a7, .ref a8, .ref a9, .ref a10, .ref a11, .null, .ref a12, .ref a13, .int (0), .int s1, .int (0), .int (0), .int (-1), .long (0), .int (1)])), (a1, .inl (g 1, 1, .inr (.inl (vp_updL (fun _ => 0) (Int32.toNatClampNeg (0)) (100)))))]) hX (n_runV (n := 0) (wc := [(a2, .inr (15, [.int (0), .int (0), .int s1, .int (0), .int (0), .ref a14, .ref a15, .ref a16, .ref a17, .ref a18, .ref a19, .ref a20, .ref a21, .ref a22, .ref a23, .ref a24, .null, .int (-1), .ref a25, .long (0)]))]) (As := []) (rest := []) hX (m79 l hst dC dI g a2 a14 a15 a16 a17 a18 a19 a20 a21 a22 a23 a24 a25 s1 h1 h8 _) [2] rfl (by decide +kernel) 2 (ci := 15) rfl (T := TX16) (N := 20) (C := "MinestrataModel") rfl q1495 q1496 q1497 q82 q1498 (by decide +kernel) ⟨(Nat.le_of_ble_eq_true rfl), (Nat.le_of_ble_eq_true rfl)⟩ ⟨(Nat.le_of_ble_eq_true rfl), (Nat.le_of_ble_eq_true rfl)⟩ hl.1 rfl rfl (Nat.le_of_ble_eq_true rfl) dL_law_589) [2] [0, 1] rfl rfl (by decide +kernel) (by decide +kernel) (fun f19 r20 H locs hP hD hS => ?_)
      have hP : va_P (dC, dI) CL [(a3, .inr (12, [.ref a4, .ref a5, .ref a6, .ref a7, .ref a8, .ref a9, .ref a10, .ref a11, .null, .ref a12, .ref a13, .int (0), .int s1, .int (0), .int (0), .int (-1), .long (0), .int (1)])), (a1, .inl (g 1, 1, .inr (.inl (vp_updL (fun _ => 0) (Int32.toNatClampNeg (0)) (100))))), (a2, .inr (15, [.int (0), .int (0), .int s1, .int (0), .int (0), .ref a14, .ref a15, .ref a16, .ref a17, .ref a18, .ref a19, .ref a20, .ref a21, .ref a22, .ref a23, .ref a24, .null, .int (-1), .ref a25, .long (0)]))] _ := hP
      have hD : va_D A [(a3, .inr (12, [.ref a4, .ref a5, .ref a6, .ref a7, .ref a8, .ref a9, .ref a10, .ref a11, .null, .ref a12, .ref a13, .int (0), .int s1, .int (0), .int (0), .int (-1), .long (0), .int (1)])), (a1, .inl (g 1, 1, .inr (.inl (vp_updL (fun _ => 0) (Int32.toNatClampNeg (0)) (100))))), (a2, .inr (15, [.int (0), .int (0), .int s1, .int (0), .int (0), .ref a14, .ref a15, .ref a16, .ref a17, .ref a18, .ref a19, .ref a20, .ref a21, .ref a22, .ref a23, .ref a24, .null, .int (-1), .ref a25, .long (0)]))] := hD
      refine W.widen (k := 243) (n := 2771) (Nat.le_of_ble_eq_true rfl) (Nat.le_of_ble_eq_true rfl) ?_
      refine W.eq (g2 := F0 m 592 ls [.int (0)]) rfl ?_
      refine lv_iload hx hb dL_law_592 (lv_at hl 1 rfl) ?_
      refine lv_icmp_eq (tgt := 599) hx hb dL_law_594 (by decide +kernel) (fun _ => ?_) (fun h => absurd (by decide +kernel) h)
      refine lv_iload hx hb dL_law_599 (lv_at hl 1 rfl) ?_
      refine lv_if_ne (tgt := 616) hx hb dL_law_601 (by decide +kernel) (fun h => absurd (by decide +kernel) h) (fun _ => ?_)
      refine lv_aload_n hx hb dL_law_604 rfl (lv_at hl 4 rfl) ?_
      refine lv_iconst (v := (0)) hx hb dL_law_605 (by decide +kernel) ?_
      refine va_lald hx hb hK hP 1 1 rfl rfl (show ¬ ((0 : Int32) < 0 ∨ 1 ≤ Int32.toNatClampNeg (0)) by decide +kernel) dL_law_606 ?_
      refine nt_l (v := (100)) (by decide +kernel) ?_
      refine lv_iload hx hb dL_law_607 (lv_at hl 0 rfl) ?_
      refine lv_i2l (v := (100)) hx hb dL_law_609 (by decide +kernel) ?_
      refine W.lcmp hx hb dL_law_610 ?_
      refine nt_i (v := (0)) (by decide +kernel) ?_
      refine lv_if_eq (tgt := 616) hx hb dL_law_611 (by decide +kernel) (fun _ => ?_) (fun h => absurd (by decide +kernel) h)
      refine lv_goto (tgt := 2278) hx hb dL_law_616 (by decide +kernel) ?_
      refine lv_iinc (v := (5)) (lv' := [(5, .int (5)), (7, .int (100)), (6, .int (0)), (4, .ref a0), (3, .ref a1), (2, .ref a2), (1, .ref a3), (0, .ref b)]) hx hb dL_law_2278 hl (k := 2) rfl (by decide +kernel) (by decide) rfl (fun ls hl => ?_)
      refine lv_goto (tgt := 28) hx hb dL_law_2281 (by decide +kernel) ?_
      refine lv_iload hx hb dL_law_28 (lv_at hl 0 rfl) ?_
      refine lv_aload_n hx hb dL_law_30 rfl (lv_at hl 7 rfl) ?_
      refine va_slen hx hb hXs hbl hbA hS dL_law_31 ?_
      refine nt_i (v := (5)) (by decide +kernel) ?_
      refine lv_iconst (v := (5)) hx hb dL_law_32 (by decide +kernel) ?_
      refine lv_isub hx hb dL_law_33 ?_
      refine nt_i (v := (0)) (by decide +kernel) ?_
      refine lv_icmp_gt (tgt := 2284) hx hb dL_law_34 (by decide +kernel) (fun _ => ?_) (fun h => absurd (by decide +kernel) h)
      refine lv_iconst (v := (1)) hx hb dL_law_2284 (by decide +kernel) ?_
      refine va_forget (fun q9 hq9 => by have h9 := hS.2.2 q9 hq9; rw [← hAe] at h9; exact h9) ?_
      refine W.widen (k := 600006) (n := 7302056) (Nat.le_of_ble_eq_true rfl) (Nat.le_of_ble_eq_true rfl) ?_
      refine W.base ?_
      exact lw_ret (Drawn.sameBut.refl s.drawn lw_cs) hx hb hr hlk dL_law_2285

set_option maxHeartbeats 4000000 in
set_option maxRecDepth 100000 in
theorem lc_5 {p : Program} {e : Env} {s : State} {m : MethodId} {below : List Frame} {meth : Method} {c : Code} (l : Launch) (hst : l.stackTraces = false) {b : Nat} {xs : Nat → Int32} (C0 : lw_At p s m meth c b 5 xs) (dC : Nat → ClassId) (dI : Nat → Nat → Nat) (g : Nat → Nat) (a0 a1 a2 a3 a4 a5 a6 a7 a8 a9 a10 a11 a12 a13 a14 a15 a16 a17 a18 a19 a20 a21 a22 a23 a24 a25 a26 a27 a28 a29 a30 a31 a32 a33 a34 a35 a36 : Nat) {A : Nat → Prop} (hAe : (fun q : Nat => s.heap.size ≤ q) = A) (hE : EV dC dI g A s) (hA : ∀ q : Nat, s.heap.size ≤ q → A q) (hbA : ¬ A b) (H : Heap) (locs : List Loc) (hP : va_P (dC, dI) CL [(a3, .inr (12, [.ref a4, .ref a5, .ref a6, .ref a7, .ref a8, .ref a9, .ref a10, .ref a11, .null, .ref a12, .ref a13, .int (0), .int (100), .int (0), .int (0), .int (-1), .long (0), .int (1)])), (a4, .inr (8, [.int (0), .ref a14, .ref a15, .ref a16, .ref a17, .int (0), .ref a18, .ref a19, .ref a20, .ref a21, .ref a22, .ref a23, .ref a24])), (a2, .inr (15, [.int (0), .int (0), .int (100), .int (0), .int (0), .ref a25, .ref a26, .ref a27, .ref a28, .ref a29, .ref a30, .ref a31, .ref a32, .ref a33, .ref a34, .ref a35, .null, .int (-1), .ref a36, .long (0)]))] H) (hD : va_D A [(a3, .inr (12, [.ref a4, .ref a5, .ref a6, .ref a7, .ref a8, .ref a9, .ref a10, .ref a11, .null, .ref a12, .ref a13, .int (0), .int (100), .int (0), .int (0), .int (-1), .long (0), .int (1)])), (a4, .inr (8, [.int (0), .ref a14, .ref a15, .ref a16, .ref a17, .int (0), .ref a18, .ref a19, .ref a20, .ref a21, .ref a22, .ref a23, .ref a24])), (a2, .inr (15, [.int (0), .int (0), .int (100), .int (0), .int (0), .ref a25, .ref a26, .ref a27, .ref a28, .ref a29, .ref a30, .ref a31, .ref a32, .ref a33, .ref a34, .ref a35, .null, .int (-1), .ref a36, .long (0)]))]) (hS : va_S A s.heap H locs) (ls : Array Slot) (hl : lv_has ls 9 [(5, .int (0)), (4, .ref a0), (3, .ref a1), (2, .ref a2), (1, .ref a3), (0, .ref b)]) :
    W p l e room_1 s m #[Value.ref b] below meth c H locs 243 2771 (lw_Z below #[Value.ref b] s) (F0 m 44 ls [.int (5)]) := by
  obtain ⟨hx, hb, hr, hml, hown, hts0, hXs, hbl, hlk, hgv⟩ := id C0
  have hts : ∀ w ∈ AW, w.before #[Value.ref b] s = true := fun w h => hts0 w (aw_tbl h)
  have hown : s.vm.findClass "MinestrataLaw" = some m.cls := hown
  have hK := hE.1
  obtain ⟨s1, es1⟩ : ∃ y : Int32, xs (Int32.toNatClampNeg (1)) = y := ⟨_, rfl⟩
  obtain ⟨s2, es2⟩ : ∃ y : Int32, xs (Int32.toNatClampNeg (2)) = y := ⟨_, rfl⟩
  obtain ⟨s3, es3⟩ : ∃ y : Int32, xs (Int32.toNatClampNeg (3)) = y := ⟨_, rfl⟩
  obtain ⟨s4, es4⟩ : ∃ y : Int32, xs (Int32.toNatClampNeg (4)) = y := ⟨_, rfl⟩
  refine lv_tableIn (tgt := 619) (off := 575) hx hb dL_law_44 (by decide +kernel) (by decide +kernel) rfl (by decide +kernel) ?_
  refine lv_aload_n hx hb dL_law_619 rfl (lv_at hl 4 rfl) ?_
  refine lv_aload_n hx hb dL_law_620 rfl (lv_at hl 5 rfl) ?_
  refine lv_iload hx hb dL_law_621 (lv_at hl 0 rfl) ?_
  refine lv_iconst (v := (1)) hx hb dL_law_623 (by decide +kernel) ?_
  refine lv_iadd hx hb dL_law_624 ?_
  refine nt_i (v := (1)) (by decide +kernel) ?_
  refine va_sld hx hb hXs hbl hbA hS (show ¬ ((1 : Int32) < 0 ∨ 5 ≤ Int32.toNatClampNeg (1)) by decide +kernel) dL_law_625 ?_
  refine nt_i (v := s1) es1 ?_
  refine lv_aload_n hx hb dL_law_626 rfl (lv_at hl 5 rfl) ?_
  refine lv_iload hx hb dL_law_627 (lv_at hl 0 rfl) ?_
  refine lv_iconst (v := (2)) hx hb dL_law_629 (by decide +kernel) ?_
  refine lv_iadd hx hb dL_law_630 ?_
  refine nt_i (v := (2)) (by decide +kernel) ?_
  refine va_sld hx hb hXs hbl hbA hS (show ¬ ((2 : Int32) < 0 ∨ 5 ≤ Int32.toNatClampNeg (2)) by decide +kernel) dL_law_631 ?_
  refine nt_i (v := s2) es2 ?_
  refine lv_aload_n hx hb dL_law_632 rfl (lv_at hl 2 rfl) ?_
  have hX : nCx p s m _ c code 9 "MinestrataLaw" dC dI g A [(a3, .inr (12, [.ref a4, .ref a5, .ref a6, .ref a7, .ref a8, .ref a9, .ref a10, .ref a11, .null, .ref a12, .ref a13, .int (0), .int (100), .int (0), .int (0), .int (-1), .long (0), .int (1)])), (a4, .inr (8, [.int (0), .ref a14, .ref a15, .ref a16, .ref a17, .int (0), .ref a18, .ref a19, .ref a20, .ref a21, .ref a22, .ref a23, .ref a24])), (a2, .inr (15, [.int (0), .int (0), .int (100), .int (0), .int (0), .ref a25, .ref a26, .ref a27, .ref a28, .ref a29, .ref a30, .ref a31, .ref a32, .ref a33, .ref a34, .ref a35, .null, .int (-1), .ref a36, .long (0)]))] _ _ := ⟨⟨hx, hb, hml, hown, hts⟩, hE, hS, hA, hP, hD⟩
  refine n_call (wr := [(a2, .inr (15, [.int (0), .int (0), .int (100), .int (0), .int (0), .ref a25, .ref a26, .ref a27, .ref a28, .ref a29, .ref a30, .ref a31, .ref a32, .ref a33, .ref a34, .ref a35, .null, .int (-1), .ref a36, .long (0)]))]) hX (n_runSW (n := 4) (wc := [(a3, .inr (12, [.ref a4, .ref a5, .ref a6, .ref a7, .ref a8, .ref a9, .ref a10, .ref a11, .null, .ref a12, .ref a13, .int (0), .int (100), .int (0), .int (0), .int (-1), .long (0), .int (1)])), (a4, .inr (8, [.int (0), .ref a14, .ref a15, .ref a16, .ref a17, .int (0), .ref a18, .ref a19, .ref a20, .ref a21, .ref a22, .ref a23, .ref a24]))]) (As := [.ref a3, .int s1, .int s2, .ref a1]) (rest := []) hX (m81 l hst dC dI g a3 a1 a4 a5 a6 a7 a8 a9 a10 a11 a12 a13 a14 a15 a16 a17 a18 a19 a20 a21 a22 a23 a24 s1 s2 _) [0, 1] rfl (by decide +kernel) q1004 q1005 q70 q1006 (by decide +kernel) ⟨(Nat.le_of_ble_eq_true rfl), (Nat.le_of_ble_eq_true rfl)⟩ ⟨(Nat.le_of_ble_eq_true rfl), (Nat.le_of_ble_eq_true rfl)⟩ hl.1 rfl rfl (Nat.le_of_ble_eq_true rfl) dL_law_633) [0, 1] [2] rfl rfl (by decide +kernel) (by decide +kernel) (fun f1 r2 H locs hP hD hS => ?_)
  have hP : va_P (dC, dI) CL [(a2, .inr (15, [.int (0), .int (0), .int (100), .int (0), .int (0), .ref a25, .ref a26, .ref a27, .ref a28, .ref a29, .ref a30, .ref a31, .ref a32, .ref a33, .ref a34, .ref a35, .null, .int (-1), .ref a36, .long (0)]))] _ := hP
  have hD : va_D A [(a2, .inr (15, [.int (0), .int (0), .int (100), .int (0), .int (0), .ref a25, .ref a26, .ref a27, .ref a28, .ref a29, .ref a30, .ref a31, .ref a32, .ref a33, .ref a34, .ref a35, .null, .int (-1), .ref a36, .long (0)]))] := hD
  refine W.widen (k := 244) (n := 2777) (Nat.le_of_ble_eq_true rfl) (Nat.le_of_ble_eq_true rfl) ?_
  refine W.eq (g2 := F0 m 636 ls [.int (1)]) rfl ?_
  refine lv_istore (lv' := [(6, .int (1)), (5, .int (0)), (4, .ref a0), (3, .ref a1), (2, .ref a2), (1, .ref a3), (0, .ref b)]) hx hb dL_law_636 hl (by decide) rfl (fun ls hl => ?_)
  refine lv_aload_n hx hb dL_law_638 rfl (lv_at hl 4 rfl) ?_
  refine lv_aload_n hx hb dL_law_639 rfl (lv_at hl 6 rfl) ?_
  refine lv_iload hx hb dL_law_640 (lv_at hl 1 rfl) ?_
  refine lv_iconst (v := (1)) hx hb dL_law_642 (by decide +kernel) ?_
  refine lv_iadd hx hb dL_law_643 ?_
  refine nt_i (v := (1)) (by decide +kernel) ?_
  refine va_sld hx hb hXs hbl hbA hS (show ¬ ((1 : Int32) < 0 ∨ 5 ≤ Int32.toNatClampNeg (1)) by decide +kernel) dL_law_644 ?_
  refine nt_i (v := s1) es1 ?_
  refine lv_aload_n hx hb dL_law_645 rfl (lv_at hl 6 rfl) ?_
  refine lv_iload hx hb dL_law_646 (lv_at hl 1 rfl) ?_
  refine lv_iconst (v := (2)) hx hb dL_law_648 (by decide +kernel) ?_
  refine lv_iadd hx hb dL_law_649 ?_
  refine nt_i (v := (2)) (by decide +kernel) ?_
  refine va_sld hx hb hXs hbl hbA hS (show ¬ ((2 : Int32) < 0 ∨ 5 ≤ Int32.toNatClampNeg (2)) by decide +kernel) dL_law_650 ?_
  refine nt_i (v := s2) es2 ?_
  have hX : nCx p s m _ c code 9 "MinestrataLaw" dC dI g A [(a2, .inr (15, [.int (0), .int (0), .int (100), .int (0), .int (0), .ref a25, .ref a26, .ref a27, .ref a28, .ref a29, .ref a30, .ref a31, .ref a32, .ref a33, .ref a34, .ref a35, .null, .int (-1), .ref a36, .long (0)]))] _ _ := ⟨⟨hx, hb, hml, hown, hts⟩, hE, hS, hA, hP, hD⟩
  refine n_call (wr := []) hX (n_runV (n := 2) (wc := [(a2, .inr (15, [.int (0), .int (0), .int (100), .int (0), .int (0), .ref a25, .ref a26, .ref a27, .ref a28, .ref a29, .ref a30, .ref a31, .ref a32, .ref a33, .ref a34, .ref a35, .null, .int (-1), .ref a36, .long (0)]))]) (As := [.int s1, .int s2]) (rest := []) hX (m82 l hst dC dI g a2 a25 a26 a27 a28 a29 a30 a31 a32 a33 a34 a35 a36 s1 s2 _) [0] rfl (by decide +kernel) 0 (ci := 15) rfl (T := TX16) (N := 20) (C := "MinestrataModel") rfl q1977 q1978 q1979 q82 q1980 (by decide +kernel) ⟨(Nat.le_of_ble_eq_true rfl), (Nat.le_of_ble_eq_true rfl)⟩ ⟨(Nat.le_of_ble_eq_true rfl), (Nat.le_of_ble_eq_true rfl)⟩ hl.1 rfl rfl (Nat.le_of_ble_eq_true rfl) dL_law_651) [0] [] rfl rfl (by decide +kernel) (by decide +kernel) (fun f3 r4 H locs hP hD hS => ?_)
  have hP : va_P (dC, dI) CL [(a2, .inr (15, [.int (1), .int (0), .int (100), .int (0), .int (0), .ref a25, .ref a26, .ref a27, .ref a28, .ref a29, .ref a30, .ref a31, .ref a32, .ref a33, .ref a34, .ref a35, .null, .int (-1), .ref a36, .long (0)]))] _ := hP
  have hD : va_D A [(a2, .inr (15, [.int (1), .int (0), .int (100), .int (0), .int (0), .ref a25, .ref a26, .ref a27, .ref a28, .ref a29, .ref a30, .ref a31, .ref a32, .ref a33, .ref a34, .ref a35, .null, .int (-1), .ref a36, .long (0)]))] := hD
  refine W.widen (k := 244) (n := 2777) (Nat.le_of_ble_eq_true rfl) (Nat.le_of_ble_eq_true rfl) ?_
  refine W.eq (g2 := F0 m 654 ls [.int (0)]) rfl ?_
  refine lv_istore (lv' := [(7, .int (0)), (6, .int (1)), (5, .int (0)), (4, .ref a0), (3, .ref a1), (2, .ref a2), (1, .ref a3), (0, .ref b)]) hx hb dL_law_654 hl (by decide) rfl (fun ls hl => ?_)
  refine lv_aload_n hx hb dL_law_656 rfl (lv_at hl 5 rfl) ?_
  have hX : nCx p s m _ c code 9 "MinestrataLaw" dC dI g A [(a2, .inr (15, [.int (1), .int (0), .int (100), .int (0), .int (0), .ref a25, .ref a26, .ref a27, .ref a28, .ref a29, .ref a30, .ref a31, .ref a32, .ref a33, .ref a34, .ref a35, .null, .int (-1), .ref a36, .long (0)]))] _ _ := ⟨⟨hx, hb, hml, hown, hts⟩, hE, hS, hA, hP, hD⟩
  refine n_call (wr := []) hX (n_runV (n := 0) (wc := [(a2, .inr (15, [.int (1), .int (0), .int (100), .int (0), .int (0), .ref a25, .ref a26, .ref a27, .ref a28, .ref a29, .ref a30, .ref a31, .ref a32, .ref a33, .ref a34, .ref a35, .null, .int (-1), .ref a36, .long (0)]))]) (As := []) (rest := []) hX (m33 l hst dC dI g a2 a25 a26 a27 a28 a29 a30 a31 a32 a33 a34 a35 a36 _) [0] rfl (by decide +kernel) 0 (ci := 15) rfl (T := TX16) (N := 20) (C := "MinestrataModel") rfl q1495 q1496 q1497 q82 q1498 (by decide +kernel) ⟨(Nat.le_of_ble_eq_true rfl), (Nat.le_of_ble_eq_true rfl)⟩ ⟨(Nat.le_of_ble_eq_true rfl), (Nat.le_of_ble_eq_true rfl)⟩ hl.1 rfl rfl (Nat.le_of_ble_eq_true rfl) dL_law_657) [0] [] rfl rfl (by decide +kernel) (by decide +kernel) (fun f5 r6 H locs hP hD hS => ?_)
  have hP : va_P (dC, dI) CL [(a2, .inr (15, [.int (1), .int (0), .int (100), .int (0), .int (0), .ref a25, .ref a26, .ref a27, .ref a28, .ref a29, .ref a30, .ref a31, .ref a32, .ref a33, .ref a34, .ref a35, .null, .int (-1), .ref a36, .long (0)]))] _ := hP
  have hD : va_D A [(a2, .inr (15, [.int (1), .int (0), .int (100), .int (0), .int (0), .ref a25, .ref a26, .ref a27, .ref a28, .ref a29, .ref a30, .ref a31, .ref a32, .ref a33, .ref a34, .ref a35, .null, .int (-1), .ref a36, .long (0)]))] := hD
  refine W.widen (k := 244) (n := 2777) (Nat.le_of_ble_eq_true rfl) (Nat.le_of_ble_eq_true rfl) ?_
  refine W.eq (g2 := F0 m 660 ls [.int (1)]) rfl ?_
  refine lv_iload hx hb dL_law_660 (lv_at hl 1 rfl) ?_
  refine lv_icmp_eq (tgt := 667) hx hb dL_law_662 (by decide +kernel) (fun _ => ?_) (fun h => absurd (by decide +kernel) h)
  refine lv_iload hx hb dL_law_667 (lv_at hl 1 rfl) ?_
  refine lv_if_ne (tgt := 691) hx hb dL_law_669 (by decide +kernel) (fun _ => ?_) (fun h => absurd h (by decide +kernel))
  refine lv_goto (tgt := 2278) hx hb dL_law_691 (by decide +kernel) ?_
  refine lv_iinc (v := (5)) (lv' := [(5, .int (5)), (7, .int (0)), (6, .int (1)), (4, .ref a0), (3, .ref a1), (2, .ref a2), (1, .ref a3), (0, .ref b)]) hx hb dL_law_2278 hl (k := 2) rfl (by decide +kernel) (by decide) rfl (fun ls hl => ?_)
  refine lv_goto (tgt := 28) hx hb dL_law_2281 (by decide +kernel) ?_
  refine lv_iload hx hb dL_law_28 (lv_at hl 0 rfl) ?_
  refine lv_aload_n hx hb dL_law_30 rfl (lv_at hl 7 rfl) ?_
  refine va_slen hx hb hXs hbl hbA hS dL_law_31 ?_
  refine nt_i (v := (5)) (by decide +kernel) ?_
  refine lv_iconst (v := (5)) hx hb dL_law_32 (by decide +kernel) ?_
  refine lv_isub hx hb dL_law_33 ?_
  refine nt_i (v := (0)) (by decide +kernel) ?_
  refine lv_icmp_gt (tgt := 2284) hx hb dL_law_34 (by decide +kernel) (fun _ => ?_) (fun h => absurd (by decide +kernel) h)
  refine lv_iconst (v := (1)) hx hb dL_law_2284 (by decide +kernel) ?_
  refine va_forget (fun q9 hq9 => by have h9 := hS.2.2 q9 hq9; rw [← hAe] at h9; exact h9) ?_
  refine W.widen (k := 600006) (n := 7302056) (Nat.le_of_ble_eq_true rfl) (Nat.le_of_ble_eq_true rfl) ?_
  refine W.base ?_
  exact lw_ret (Drawn.sameBut.refl s.drawn lw_cs) hx hb hr hlk dL_law_2285

