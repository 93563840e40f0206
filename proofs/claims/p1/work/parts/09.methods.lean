set_option maxHeartbeats 4000000 in
set_option maxRecDepth 100000 in
/-- Minestrata.addJunction -/
theorem m41 (l : Launch) (hst : l.stackTraces = false) (dC : Nat → ClassId) (dI : Nat → Nat → Nat) (g : Nat → Nat) (a0 a1 a2 a3 a4 a5 a6 a7 a8 a9 a10 a11 a12 a13 a14 a15 a16 a17 a18 a19 a20 a21 : Nat) (s2 : Int32) (e0 : ¬ (s2 < (-50))) (e1 : ¬ ((50) < s2)) (sz : Nat) :
    Met l Y16 (Cond.code Y16 prog_1_method_2_code 3 (Option.some Jvm.ClassFile.FieldType.int) :: AW) ({ frames := 6, cells := 0, slots := 0, locals := 81 } : Room) (nP dC dI g [.ref a0, .int (1), .int s2] [(a0, .inr (12, [.ref a1, .ref a2, .ref a3, .ref a4, .ref a5, .ref a6, .ref a7, .ref a8, .null, .ref a9, .ref a10, .int (0), .int (100), .int (0), .int (0), .int (-1), .long (0), .int (1)])), (a1, .inr (8, [.int (0), .ref a11, .ref a12, .ref a13, .ref a14, .int (0), .ref a15, .ref a16, .ref a17, .ref a18, .ref a19, .ref a20, .ref a21])), (a11, .inl (g 2, 9, .inl (fun _ => 0))), (a12, .inl (g 0, 9, .inl (fun _ => 0)))] sz) (nQ dC dI (fun f => some (.int (0))) (fun f r => [(a0, .inr (12, [.ref a1, .ref a2, .ref a3, .ref a4, .ref a5, .ref a6, .ref a7, .ref a8, .null, .ref a9, .ref a10, .int (0), .int (100), .int (0), .int (0), .int (-1), .long (0), .int (1)])), (a1, .inr (8, [.int (1), .ref a11, .ref a12, .ref a13, .ref a14, .int (0), .ref a15, .ref a16, .ref a17, .ref a18, .ref a19, .ref a20, .ref a21]))]) (va_A [(a0, .inr (12, [.ref a1, .ref a2, .ref a3, .ref a4, .ref a5, .ref a6, .ref a7, .ref a8, .null, .ref a9, .ref a10, .int (0), .int (100), .int (0), .int (0), .int (-1), .long (0), .int (1)])), (a1, .inr (8, [.int (0), .ref a11, .ref a12, .ref a13, .ref a14, .int (0), .ref a15, .ref a16, .ref a17, .ref a18, .ref a19, .ref a20, .ref a21])), (a11, .inl (g 2, 9, .inl (fun _ => 0))), (a12, .inl (g 0, 9, .inl (fun _ => 0)))] sz)) 0 0 (va_A [(a0, .inr (12, [.ref a1, .ref a2, .ref a3, .ref a4, .ref a5, .ref a6, .ref a7, .ref a8, .null, .ref a9, .ref a10, .int (0), .int (100), .int (0), .int (0), .int (-1), .long (0), .int (1)])), (a1, .inr (8, [.int (0), .ref a11, .ref a12, .ref a13, .ref a14, .int (0), .ref a15, .ref a16, .ref a17, .ref a18, .ref a19, .ref a20, .ref a21])), (a11, .inl (g 2, 9, .inl (fun _ => 0))), (a12, .inl (g 0, 9, .inl (fun _ => 0)))] sz) := by
  refine n_met (by decide +kernel) (Nat.le_of_ble_eq_true rfl) (fun f => some (.int (0))) (fun f r => [(a0, .inr (12, [.ref a1, .ref a2, .ref a3, .ref a4, .ref a5, .ref a6, .ref a7, .ref a8, .null, .ref a9, .ref a10, .int (0), .int (100), .int (0), .int (0), .int (-1), .long (0), .int (1)])), (a1, .inr (8, [.int (1), .ref a11, .ref a12, .ref a13, .ref a14, .int (0), .ref a15, .ref a16, .ref a17, .ref a18, .ref a19, .ref a20, .ref a21]))]) ?_
  intro p e s m below meth c A ls ⟨hx, hb, hr, hml, hown, hts, hlk, hnm⟩ hE hP hD hA hl
  have hown : s.vm.findClass "Minestrata" = some m.cls := hown
  have hK := hE.1
  have hS : va_S A s.heap s.heap [] := va_S.rf
  have hl : lv_has ls 3 [(0, .ref a0), (1, .int (1)), (2, .int s2)] := hl
  refine lv_iload_n hx hb dX11_addJunction_0 rfl (lv_at hl 1 rfl) ?_
  refine lv_if_eq (tgt := 23) hx hb dX11_addJunction_1 (by decide +kernel) (fun h => absurd h (by decide +kernel)) (fun _ => ?_)
  refine lv_iload_n hx hb dX11_addJunction_4 rfl (lv_at hl 2 rfl) ?_
  refine lv_bipush (v := (-50)) hx hb dX11_addJunction_5 (by decide +kernel) ?_
  refine lv_bipush (v := (50)) hx hb dX11_addJunction_7 (by decide +kernel) ?_
  have hX : nCx p s m _ c prog_1_method_2_code 3 "Minestrata" dC dI g A [(a0, .inr (12, [.ref a1, .ref a2, .ref a3, .ref a4, .ref a5, .ref a6, .ref a7, .ref a8, .null, .ref a9, .ref a10, .int (0), .int (100), .int (0), .int (0), .int (-1), .long (0), .int (1)])), (a1, .inr (8, [.int (0), .ref a11, .ref a12, .ref a13, .ref a14, .int (0), .ref a15, .ref a16, .ref a17, .ref a18, .ref a19, .ref a20, .ref a21])), (a11, .inl (g 2, 9, .inl (fun _ => 0))), (a12, .inl (g 0, 9, .inl (fun _ => 0)))] _ _ := ⟨⟨hx, hb, hml, hown, hts⟩, hE, hS, hA, hP, hD⟩
  refine n_call (wr := [(a0, .inr (12, [.ref a1, .ref a2, .ref a3, .ref a4, .ref a5, .ref a6, .ref a7, .ref a8, .null, .ref a9, .ref a10, .int (0), .int (100), .int (0), .int (0), .int (-1), .long (0), .int (1)])), (a1, .inr (8, [.int (0), .ref a11, .ref a12, .ref a13, .ref a14, .int (0), .ref a15, .ref a16, .ref a17, .ref a18, .ref a19, .ref a20, .ref a21])), (a11, .inl (g 2, 9, .inl (fun _ => 0))), (a12, .inl (g 0, 9, .inl (fun _ => 0)))]) hX (n_runS (n := 3) (wc := []) (As := [.int s2, .int (-50), .int (50)]) (rest := []) hX (m39 l hst dC dI g s2 e0 e1 _) [] rfl (by decide +kernel) q814 q815 q71 q816 (by decide +kernel) ⟨(Nat.le_of_ble_eq_true rfl), (Nat.le_of_ble_eq_true rfl)⟩ ⟨(Nat.le_of_ble_eq_true rfl), (Nat.le_of_ble_eq_true rfl)⟩ hl.1 rfl rfl (Nat.le_of_ble_eq_true rfl) dX11_addJunction_9) [] [0, 1, 2, 3] rfl rfl (by decide +kernel) (by decide +kernel) (fun f1 r2 H locs hP hD hS => ?_)
  have hP : va_P (dC, dI) CL [(a0, .inr (12, [.ref a1, .ref a2, .ref a3, .ref a4, .ref a5, .ref a6, .ref a7, .ref a8, .null, .ref a9, .ref a10, .int (0), .int (100), .int (0), .int (0), .int (-1), .long (0), .int (1)])), (a1, .inr (8, [.int (0), .ref a11, .ref a12, .ref a13, .ref a14, .int (0), .ref a15, .ref a16, .ref a17, .ref a18, .ref a19, .ref a20, .ref a21])), (a11, .inl (g 2, 9, .inl (fun _ => 0))), (a12, .inl (g 0, 9, .inl (fun _ => 0)))] _ := hP
  have hD : va_D A [(a0, .inr (12, [.ref a1, .ref a2, .ref a3, .ref a4, .ref a5, .ref a6, .ref a7, .ref a8, .null, .ref a9, .ref a10, .int (0), .int (100), .int (0), .int (0), .int (-1), .long (0), .int (1)])), (a1, .inr (8, [.int (0), .ref a11, .ref a12, .ref a13, .ref a14, .int (0), .ref a15, .ref a16, .ref a17, .ref a18, .ref a19, .ref a20, .ref a21])), (a11, .inl (g 2, 9, .inl (fun _ => 0))), (a12, .inl (g 0, 9, .inl (fun _ => 0)))] := hD
  refine W.widen (k := 0) (n := 0) (Nat.le_of_ble_eq_true rfl) (Nat.le_of_ble_eq_true rfl) ?_
  refine W.eq (g2 := F0 m 12 ls [.int (1)]) rfl ?_
  refine lv_if_ne (tgt := 23) hx hb dX11_addJunction_12 (by decide +kernel) (fun _ => ?_) (fun h => absurd h (by decide +kernel))
  refine lv_aload_n hx hb dX11_addJunction_23 rfl (lv_at hl 0 rfl) ?_
  refine va_get (D := (dC, dI)) (ci := 12) (v := .ref a1) (C := "Minestrata") (T := TX11) (N := 18) hx hb hts inX11 hown hK hP 0 rfl rfl 0 (by decide) (hts _ q504) (fun _ h9 => h9) rfl dX11_addJunction_24 ?_
  refine va_get (D := (dC, dI)) (ci := 8) (v := .int (0)) (C := "Minestrata$Net") (T := TX7) (N := 13) hx hb hts inX7 hown hK hP 1 rfl rfl 0 (by decide) (hts _ q128) (fun _ h9 => h9) rfl dX11_addJunction_27 ?_
  refine lv_bipush (v := (9)) hx hb dX11_addJunction_30 (by decide +kernel) ?_
  refine lv_icmp_lt (tgt := 43) hx hb dX11_addJunction_32 (by decide +kernel) (fun _ => ?_) (fun h => absurd (by decide +kernel) h)
  refine lv_aload_n hx hb dX11_addJunction_43 rfl (lv_at hl 0 rfl) ?_
  refine lv_iconst (v := (1)) hx hb dX11_addJunction_44 (by decide +kernel) ?_
  refine va_put (D := (dC, dI)) (ci := 12) (v := .int (1)) (ty := .boolean) (C := "Minestrata") (T := TX11) (N := 18) hx hb hts inX11 tyX11 tyX11_ok nmX11 hown hK hP hD hS 0 rfl rfl 17 (by decide) (hts _ q521) (fun _ h9 => h9) rfl (by decide +kernel) rfl rfl (Nat.le_of_ble_eq_true rfl) dX11_addJunction_45 (fun H locs hP hD hS => ?_)
  have hP : va_P (dC, dI) CL [(a0, .inr (12, [.ref a1, .ref a2, .ref a3, .ref a4, .ref a5, .ref a6, .ref a7, .ref a8, .null, .ref a9, .ref a10, .int (0), .int (100), .int (0), .int (0), .int (-1), .long (0), .int (1)])), (a1, .inr (8, [.int (0), .ref a11, .ref a12, .ref a13, .ref a14, .int (0), .ref a15, .ref a16, .ref a17, .ref a18, .ref a19, .ref a20, .ref a21])), (a11, .inl (g 2, 9, .inl (fun _ => 0))), (a12, .inl (g 0, 9, .inl (fun _ => 0)))] _ := hP
  have hD : va_D A [(a0, .inr (12, [.ref a1, .ref a2, .ref a3, .ref a4, .ref a5, .ref a6, .ref a7, .ref a8, .null, .ref a9, .ref a10, .int (0), .int (100), .int (0), .int (0), .int (-1), .long (0), .int (1)])), (a1, .inr (8, [.int (0), .ref a11, .ref a12, .ref a13, .ref a14, .int (0), .ref a15, .ref a16, .ref a17, .ref a18, .ref a19, .ref a20, .ref a21])), (a11, .inl (g 2, 9, .inl (fun _ => 0))), (a12, .inl (g 0, 9, .inl (fun _ => 0)))] := hD
  refine lv_aload_n hx hb dX11_addJunction_48 rfl (lv_at hl 0 rfl) ?_
  refine va_get (D := (dC, dI)) (ci := 12) (v := .ref a1) (C := "Minestrata") (T := TX11) (N := 18) hx hb hts inX11 hown hK hP 0 rfl rfl 0 (by decide) (hts _ q504) (fun _ h9 => h9) rfl dX11_addJunction_49 ?_
  refine lv_iload_n hx hb dX11_addJunction_52 rfl (lv_at hl 1 rfl) ?_
  refine lv_iload_n hx hb dX11_addJunction_53 rfl (lv_at hl 2 rfl) ?_
  have hX : nCx p s m _ c prog_1_method_2_code 3 "Minestrata" dC dI g A [(a0, .inr (12, [.ref a1, .ref a2, .ref a3, .ref a4, .ref a5, .ref a6, .ref a7, .ref a8, .null, .ref a9, .ref a10, .int (0), .int (100), .int (0), .int (0), .int (-1), .long (0), .int (1)])), (a1, .inr (8, [.int (0), .ref a11, .ref a12, .ref a13, .ref a14, .int (0), .ref a15, .ref a16, .ref a17, .ref a18, .ref a19, .ref a20, .ref a21])), (a11, .inl (g 2, 9, .inl (fun _ => 0))), (a12, .inl (g 0, 9, .inl (fun _ => 0)))] _ _ := ⟨⟨hx, hb, hml, hown, hts⟩, hE, hS, hA, hP, hD⟩
  refine n_call (wr := [(a0, .inr (12, [.ref a1, .ref a2, .ref a3, .ref a4, .ref a5, .ref a6, .ref a7, .ref a8, .null, .ref a9, .ref a10, .int (0), .int (100), .int (0), .int (0), .int (-1), .long (0), .int (1)]))]) hX (n_runV (n := 2) (wc := [(a1, .inr (8, [.int (0), .ref a11, .ref a12, .ref a13, .ref a14, .int (0), .ref a15, .ref a16, .ref a17, .ref a18, .ref a19, .ref a20, .ref a21])), (a11, .inl (g 2, 9, .inl (fun _ => 0))), (a12, .inl (g 0, 9, .inl (fun _ => 0)))]) (As := [.int (1), .int s2]) (rest := []) hX (m40 l hst dC dI g a1 a11 a12 a13 a14 a15 a16 a17 a18 a19 a20 a21 s2 e0 e1 _) [1, 2, 3] rfl (by decide +kernel) 1 (ci := 8) rfl (T := TX7) (N := 13) (C := "Minestrata$Net") rfl q900 q901 q902 q72 q903 (by decide +kernel) ⟨(Nat.le_of_ble_eq_true rfl), (Nat.le_of_ble_eq_true rfl)⟩ ⟨(Nat.le_of_ble_eq_true rfl), (Nat.le_of_ble_eq_true rfl)⟩ hl.1 rfl rfl (Nat.le_of_ble_eq_true rfl) dX11_addJunction_54) [1, 2, 3] [0] rfl rfl (by decide +kernel) (by decide +kernel) (fun f3 r4 H locs hP hD hS => ?_)
  have hP : va_P (dC, dI) CL [(a0, .inr (12, [.ref a1, .ref a2, .ref a3, .ref a4, .ref a5, .ref a6, .ref a7, .ref a8, .null, .ref a9, .ref a10, .int (0), .int (100), .int (0), .int (0), .int (-1), .long (0), .int (1)])), (a1, .inr (8, [.int (1), .ref a11, .ref a12, .ref a13, .ref a14, .int (0), .ref a15, .ref a16, .ref a17, .ref a18, .ref a19, .ref a20, .ref a21]))] _ := hP
  have hD : va_D A [(a0, .inr (12, [.ref a1, .ref a2, .ref a3, .ref a4, .ref a5, .ref a6, .ref a7, .ref a8, .null, .ref a9, .ref a10, .int (0), .int (100), .int (0), .int (0), .int (-1), .long (0), .int (1)])), (a1, .inr (8, [.int (1), .ref a11, .ref a12, .ref a13, .ref a14, .int (0), .ref a15, .ref a16, .ref a17, .ref a18, .ref a19, .ref a20, .ref a21]))] := hD
  refine W.widen (k := 0) (n := 0) (Nat.le_of_ble_eq_true rfl) (Nat.le_of_ble_eq_true rfl) ?_
  refine W.eq (g2 := F0 m 57 ls [.int (0)]) rfl ?_
  refine W.widen (k := 0) (n := 0) (Nat.le_of_ble_eq_true rfl) (Nat.le_of_ble_eq_true rfl) ?_
  exact W.iret hx hb hr (n_end hS hP hD [0, 1] (by decide +kernel) (fun _ => 0) (fun _ => 0) rfl rfl rfl) hS.2.2 dX11_addJunction_57 hlk

set_option maxHeartbeats 4000000 in
set_option maxRecDepth 100000 in
/-- MinestrataLaw.addJunction -/
theorem m42 (l : Launch) (hst : l.stackTraces = false) (dC : Nat → ClassId) (dI : Nat → Nat → Nat) (g : Nat → Nat) (a0 a1 a2 a3 a4 a5 a6 a7 a8 a9 a10 a11 a12 a13 a14 a15 a16 a17 a18 a19 a20 a21 a22 : Nat) (s2 : Int32) (e0 : ¬ (s2 < (-50))) (e1 : ¬ ((50) < s2)) (sz : Nat) :
    Met l Y15 (Cond.codeWith Y15 method_3_code 5 (Option.some Jvm.ClassFile.FieldType.int) [((0 : Nat), (10 : Nat), (13 : Nat), (13 : Nat)), ((0 : Nat), (10 : Nat), (17 : Nat), (15 : Nat))] :: AW) ({ frames := 7, cells := 0, slots := 0, locals := 103 } : Room) (nP dC dI g [.ref a0, .int (1), .int s2, .ref a1] [(a0, .inr (12, [.ref a2, .ref a3, .ref a4, .ref a5, .ref a6, .ref a7, .ref a8, .ref a9, .null, .ref a10, .ref a11, .int (0), .int (100), .int (0), .int (0), .int (-1), .long (0), .int (1)])), (a2, .inr (8, [.int (0), .ref a12, .ref a13, .ref a14, .ref a15, .int (0), .ref a16, .ref a17, .ref a18, .ref a19, .ref a20, .ref a21, .ref a22])), (a12, .inl (g 2, 9, .inl (fun _ => 0))), (a13, .inl (g 0, 9, .inl (fun _ => 0))), (a1, .inl (g 1, 1, .inr (.inl (fun _ => 0))))] sz) (nQ dC dI (fun f => some (.int (0))) (fun f r => [(a0, .inr (12, [.ref a2, .ref a3, .ref a4, .ref a5, .ref a6, .ref a7, .ref a8, .ref a9, .null, .ref a10, .ref a11, .int (0), .int (100), .int (0), .int (0), .int (-1), .long (0), .int (1)])), (a2, .inr (8, [.int (1), .ref a12, .ref a13, .ref a14, .ref a15, .int (0), .ref a16, .ref a17, .ref a18, .ref a19, .ref a20, .ref a21, .ref a22])), (a1, .inl (g 1, 1, .inr (.inl (vp_updL (fun _ => 0) (Int32.toNatClampNeg (0)) (0)))))]) (va_A [(a0, .inr (12, [.ref a2, .ref a3, .ref a4, .ref a5, .ref a6, .ref a7, .ref a8, .ref a9, .null, .ref a10, .ref a11, .int (0), .int (100), .int (0), .int (0), .int (-1), .long (0), .int (1)])), (a2, .inr (8, [.int (0), .ref a12, .ref a13, .ref a14, .ref a15, .int (0), .ref a16, .ref a17, .ref a18, .ref a19, .ref a20, .ref a21, .ref a22])), (a12, .inl (g 2, 9, .inl (fun _ => 0))), (a13, .inl (g 0, 9, .inl (fun _ => 0))), (a1, .inl (g 1, 1, .inr (.inl (fun _ => 0))))] sz)) 0 0 (va_A [(a0, .inr (12, [.ref a2, .ref a3, .ref a4, .ref a5, .ref a6, .ref a7, .ref a8, .ref a9, .null, .ref a10, .ref a11, .int (0), .int (100), .int (0), .int (0), .int (-1), .long (0), .int (1)])), (a2, .inr (8, [.int (0), .ref a12, .ref a13, .ref a14, .ref a15, .int (0), .ref a16, .ref a17, .ref a18, .ref a19, .ref a20, .ref a21, .ref a22])), (a12, .inl (g 2, 9, .inl (fun _ => 0))), (a13, .inl (g 0, 9, .inl (fun _ => 0))), (a1, .inl (g 1, 1, .inr (.inl (fun _ => 0))))] sz) := by
  refine n_metW (by decide +kernel) q807 (Nat.le_of_ble_eq_true rfl) (fun f => some (.int (0))) (fun f r => [(a0, .inr (12, [.ref a2, .ref a3, .ref a4, .ref a5, .ref a6, .ref a7, .ref a8, .ref a9, .null, .ref a10, .ref a11, .int (0), .int (100), .int (0), .int (0), .int (-1), .long (0), .int (1)])), (a2, .inr (8, [.int (1), .ref a12, .ref a13, .ref a14, .ref a15, .int (0), .ref a16, .ref a17, .ref a18, .ref a19, .ref a20, .ref a21, .ref a22])), (a1, .inl (g 1, 1, .inr (.inl (vp_updL (fun _ => 0) (Int32.toNatClampNeg (0)) (0)))))]) ?_
  intro p e s m below meth c A ls ⟨hx, hb, hr, hml, hown, hts, hlk, hnm⟩ htab hE hP hD hA hl
  have hown : s.vm.findClass "MinestrataLaw" = some m.cls := hown
  have hK := hE.1
  have hS : va_S A s.heap s.heap [] := va_S.rf
  have hl : lv_has ls 5 [(0, .ref a0), (1, .int (1)), (2, .int s2), (3, .ref a1)] := hl
  refine lv_aload_n hx hb dL_addJunction_0 rfl (lv_at hl 3 rfl) ?_
  refine lv_iconst (v := (0)) hx hb dL_addJunction_1 (by decide +kernel) ?_
  refine lv_aload_n hx hb dL_addJunction_2 rfl (lv_at hl 0 rfl) ?_
  refine lv_iload_n hx hb dL_addJunction_3 rfl (lv_at hl 1 rfl) ?_
  refine lv_iload_n hx hb dL_addJunction_4 rfl (lv_at hl 2 rfl) ?_
  have hX : nCx p s m _ c method_3_code 5 "MinestrataLaw" dC dI g A [(a0, .inr (12, [.ref a2, .ref a3, .ref a4, .ref a5, .ref a6, .ref a7, .ref a8, .ref a9, .null, .ref a10, .ref a11, .int (0), .int (100), .int (0), .int (0), .int (-1), .long (0), .int (1)])), (a2, .inr (8, [.int (0), .ref a12, .ref a13, .ref a14, .ref a15, .int (0), .ref a16, .ref a17, .ref a18, .ref a19, .ref a20, .ref a21, .ref a22])), (a12, .inl (g 2, 9, .inl (fun _ => 0))), (a13, .inl (g 0, 9, .inl (fun _ => 0))), (a1, .inl (g 1, 1, .inr (.inl (fun _ => 0))))] _ _ := ⟨⟨hx, hb, hml, hown, hts⟩, hE, hS, hA, hP, hD⟩
  refine n_call (wr := [(a1, .inl (g 1, 1, .inr (.inl (fun _ => 0))))]) hX (n_runV (n := 2) (wc := [(a0, .inr (12, [.ref a2, .ref a3, .ref a4, .ref a5, .ref a6, .ref a7, .ref a8, .ref a9, .null, .ref a10, .ref a11, .int (0), .int (100), .int (0), .int (0), .int (-1), .long (0), .int (1)])), (a2, .inr (8, [.int (0), .ref a12, .ref a13, .ref a14, .ref a15, .int (0), .ref a16, .ref a17, .ref a18, .ref a19, .ref a20, .ref a21, .ref a22])), (a12, .inl (g 2, 9, .inl (fun _ => 0))), (a13, .inl (g 0, 9, .inl (fun _ => 0)))]) (As := [.int (1), .int s2]) (rest := [.int (0), .ref a1]) hX (m41 l hst dC dI g a0 a2 a3 a4 a5 a6 a7 a8 a9 a10 a11 a12 a13 a14 a15 a16 a17 a18 a19 a20 a21 a22 s2 e0 e1 _) [0, 1, 2, 3] rfl (by decide +kernel) 0 (ci := 12) rfl (T := TX11) (N := 18) (C := "Minestrata") rfl q810 q811 q812 q71 q813 (by decide +kernel) ⟨(Nat.le_of_ble_eq_true rfl), (Nat.le_of_ble_eq_true rfl)⟩ ⟨(Nat.le_of_ble_eq_true rfl), (Nat.le_of_ble_eq_true rfl)⟩ hl.1 rfl rfl (Nat.le_of_ble_eq_true rfl) dL_addJunction_5) [0, 1, 2, 3] [4] rfl rfl (by decide +kernel) (by decide +kernel) (fun f1 r2 H locs hP hD hS => ?_)
  have hP : va_P (dC, dI) CL [(a1, .inl (g 1, 1, .inr (.inl (fun _ => 0)))), (a0, .inr (12, [.ref a2, .ref a3, .ref a4, .ref a5, .ref a6, .ref a7, .ref a8, .ref a9, .null, .ref a10, .ref a11, .int (0), .int (100), .int (0), .int (0), .int (-1), .long (0), .int (1)])), (a2, .inr (8, [.int (1), .ref a12, .ref a13, .ref a14, .ref a15, .int (0), .ref a16, .ref a17, .ref a18, .ref a19, .ref a20, .ref a21, .ref a22]))] _ := hP
  have hD : va_D A [(a1, .inl (g 1, 1, .inr (.inl (fun _ => 0)))), (a0, .inr (12, [.ref a2, .ref a3, .ref a4, .ref a5, .ref a6, .ref a7, .ref a8, .ref a9, .null, .ref a10, .ref a11, .int (0), .int (100), .int (0), .int (0), .int (-1), .long (0), .int (1)])), (a2, .inr (8, [.int (1), .ref a12, .ref a13, .ref a14, .ref a15, .int (0), .ref a16, .ref a17, .ref a18, .ref a19, .ref a20, .ref a21, .ref a22]))] := hD
  refine W.widen (k := 0) (n := 0) (Nat.le_of_ble_eq_true rfl) (Nat.le_of_ble_eq_true rfl) ?_
  refine W.eq (g2 := F0 m 8 ls [.int (0), .int (0), .ref a1]) rfl ?_
  refine lv_i2l (v := (0)) hx hb dL_addJunction_8 (by decide +kernel) ?_
  refine va_last hx hb hK hP hD hS 0 1 rfl rfl (show ¬ ((0 : Int32) < 0 ∨ 1 ≤ Int32.toNatClampNeg (0)) by decide +kernel) dL_addJunction_9 (fun H locs hP hD hS => ?_)
  have hP : va_P (dC, dI) CL [(a1, .inl (g 1, 1, .inr (.inl (vp_updL (fun _ => 0) (Int32.toNatClampNeg (0)) (0))))), (a0, .inr (12, [.ref a2, .ref a3, .ref a4, .ref a5, .ref a6, .ref a7, .ref a8, .ref a9, .null, .ref a10, .ref a11, .int (0), .int (100), .int (0), .int (0), .int (-1), .long (0), .int (1)])), (a2, .inr (8, [.int (1), .ref a12, .ref a13, .ref a14, .ref a15, .int (0), .ref a16, .ref a17, .ref a18, .ref a19, .ref a20, .ref a21, .ref a22]))] _ := hP
  have hD : va_D A [(a1, .inl (g 1, 1, .inr (.inl (vp_updL (fun _ => 0) (Int32.toNatClampNeg (0)) (0))))), (a0, .inr (12, [.ref a2, .ref a3, .ref a4, .ref a5, .ref a6, .ref a7, .ref a8, .ref a9, .null, .ref a10, .ref a11, .int (0), .int (100), .int (0), .int (0), .int (-1), .long (0), .int (1)])), (a2, .inr (8, [.int (1), .ref a12, .ref a13, .ref a14, .ref a15, .int (0), .ref a16, .ref a17, .ref a18, .ref a19, .ref a20, .ref a21, .ref a22]))] := hD
  refine lv_goto (tgt := 21) hx hb dL_addJunction_10 (by decide +kernel) ?_
  refine lv_iconst (v := (0)) hx hb dL_addJunction_21 (by decide +kernel) ?_
  refine W.widen (k := 0) (n := 0) (Nat.le_of_ble_eq_true rfl) (Nat.le_of_ble_eq_true rfl) ?_
  exact W.iret hx hb hr (n_end hS hP hD [1, 2, 0] (by decide +kernel) (fun _ => 0) (fun _ => 0) rfl rfl rfl) hS.2.2 dL_addJunction_22 hlk

set_option maxHeartbeats 4000000 in
set_option maxRecDepth 100000 in
/-- MinestrataModel.in -/
theorem m43 (l : Launch) (hst : l.stackTraces = false) (dC : Nat → ClassId) (dI : Nat → Nat → Nat) (g : Nat → Nat) (s2 : Int32) (e0 : ¬ (s2 < (-50))) (e1 : ¬ ((50) < s2)) (sz : Nat) :
    Met l Y22 (Cond.code Y22 prog_14_method_3_code 3 (Option.some Jvm.ClassFile.FieldType.boolean) :: AW) ({ frames := 0, cells := 0, slots := 0, locals := 0 } : Room) (nP dC dI g [.int s2, .int (-50), .int (50)] [] sz) (nQ dC dI (fun f => some (.int (1))) (fun f r => []) (va_A [] sz)) 0 0 (va_A [] sz) := by
  refine n_met (by decide +kernel) (Nat.le_of_ble_eq_true rfl) (fun f => some (.int (1))) (fun f r => []) ?_
  intro p e s m below meth c A ls ⟨hx, hb, hr, hml, hown, hts, hlk, hnm⟩ hE hP hD hA hl
  have hown : s.vm.findClass "MinestrataModel" = some m.cls := hown
  have hK := hE.1
  have hS : va_S A s.heap s.heap [] := va_S.rf
  have hl : lv_has ls 3 [(0, .int s2), (1, .int (-50)), (2, .int (50))] := hl
  refine lv_iload_n hx hb dX16_in_0 rfl (lv_at hl 0 rfl) ?_
  refine lv_iload_n hx hb dX16_in_1 rfl (lv_at hl 1 rfl) ?_
  refine lv_icmp_lt (tgt := 14) hx hb dX16_in_2 (by decide +kernel) (fun h => absurd h e0) (fun _ => ?_)
  refine lv_iload_n hx hb dX16_in_5 rfl (lv_at hl 0 rfl) ?_
  refine lv_iload_n hx hb dX16_in_6 rfl (lv_at hl 2 rfl) ?_
  refine lv_icmp_gt (tgt := 14) hx hb dX16_in_7 (by decide +kernel) (fun h => absurd h e1) (fun _ => ?_)
  refine lv_iconst (v := (1)) hx hb dX16_in_10 (by decide +kernel) ?_
  refine lv_goto (tgt := 15) hx hb dX16_in_11 (by decide +kernel) ?_
  refine W.widen (k := 0) (n := 0) (Nat.le_of_ble_eq_true rfl) (Nat.le_of_ble_eq_true rfl) ?_
  exact W.zret hx hb hr (by decide +kernel) (n_end hS hP hD [] (by decide +kernel) (fun _ => 0) (fun _ => 0) rfl rfl rfl) hS.2.2 dX16_in_15 hlk

set_option maxHeartbeats 4000000 in
set_option maxRecDepth 100000 in
/-- MinestrataModel.addJunction -/
theorem m44 (l : Launch) (hst : l.stackTraces = false) (dC : Nat → ClassId) (dI : Nat → Nat → Nat) (g : Nat → Nat) (a0 a1 a2 a3 a4 a5 a6 a7 a8 a9 a10 a11 a12 : Nat) (s2 : Int32) (e0 : ¬ (s2 < (-50))) (e1 : ¬ ((50) < s2)) (sz : Nat) :
    Met l Y18 (Cond.code Y18 prog_14_method_8_code 3 (Option.some Jvm.ClassFile.FieldType.int) :: AW) ({ frames := 1, cells := 0, slots := 0, locals := 22 } : Room) (nP dC dI g [.ref a0, .int (1), .int s2] [(a0, .inr (15, [.int (0), .int (0), .int (100), .int (0), .int (0), .ref a1, .ref a2, .ref a3, .ref a4, .ref a5, .ref a6, .ref a7, .ref a8, .ref a9, .ref a10, .ref a11, .null, .int (-1), .ref a12, .long (0)])), (a1, .inl (g 2, 9, .inl (fun _ => 0))), (a4, .inl (g 0, 9, .inl (fun _ => 0)))] sz) (nQ dC dI (fun f => some (.int (0))) (fun f r => [(a0, .inr (15, [.int (0), .int (1), .int (100), .int (0), .int (0), .ref a1, .ref a2, .ref a3, .ref a4, .ref a5, .ref a6, .ref a7, .ref a8, .ref a9, .ref a10, .ref a11, .null, .int (-1), .ref a12, .long (0)]))]) (va_A [(a0, .inr (15, [.int (0), .int (0), .int (100), .int (0), .int (0), .ref a1, .ref a2, .ref a3, .ref a4, .ref a5, .ref a6, .ref a7, .ref a8, .ref a9, .ref a10, .ref a11, .null, .int (-1), .ref a12, .long (0)])), (a1, .inl (g 2, 9, .inl (fun _ => 0))), (a4, .inl (g 0, 9, .inl (fun _ => 0)))] sz)) 0 0 (va_A [(a0, .inr (15, [.int (0), .int (0), .int (100), .int (0), .int (0), .ref a1, .ref a2, .ref a3, .ref a4, .ref a5, .ref a6, .ref a7, .ref a8, .ref a9, .ref a10, .ref a11, .null, .int (-1), .ref a12, .long (0)])), (a1, .inl (g 2, 9, .inl (fun _ => 0))), (a4, .inl (g 0, 9, .inl (fun _ => 0)))] sz) := by
  refine n_met (by decide +kernel) (Nat.le_of_ble_eq_true rfl) (fun f => some (.int (0))) (fun f r => [(a0, .inr (15, [.int (0), .int (1), .int (100), .int (0), .int (0), .ref a1, .ref a2, .ref a3, .ref a4, .ref a5, .ref a6, .ref a7, .ref a8, .ref a9, .ref a10, .ref a11, .null, .int (-1), .ref a12, .long (0)]))]) ?_
  intro p e s m below meth c A ls ⟨hx, hb, hr, hml, hown, hts, hlk, hnm⟩ hE hP hD hA hl
  have hown : s.vm.findClass "MinestrataModel" = some m.cls := hown
  have hK := hE.1
  have hS : va_S A s.heap s.heap [] := va_S.rf
  have hl : lv_has ls 3 [(0, .ref a0), (1, .int (1)), (2, .int s2)] := hl
  refine lv_iload_n hx hb dX16_addJunction_0 rfl (lv_at hl 1 rfl) ?_
  refine lv_if_eq (tgt := 21) hx hb dX16_addJunction_1 (by decide +kernel) (fun h => absurd h (by decide +kernel)) (fun _ => ?_)
  refine lv_iload_n hx hb dX16_addJunction_4 rfl (lv_at hl 2 rfl) ?_
  refine lv_bipush (v := (-50)) hx hb dX16_addJunction_5 (by decide +kernel) ?_
  refine lv_bipush (v := (50)) hx hb dX16_addJunction_7 (by decide +kernel) ?_
  have hX : nCx p s m _ c prog_14_method_8_code 3 "MinestrataModel" dC dI g A [(a0, .inr (15, [.int (0), .int (0), .int (100), .int (0), .int (0), .ref a1, .ref a2, .ref a3, .ref a4, .ref a5, .ref a6, .ref a7, .ref a8, .ref a9, .ref a10, .ref a11, .null, .int (-1), .ref a12, .long (0)])), (a1, .inl (g 2, 9, .inl (fun _ => 0))), (a4, .inl (g 0, 9, .inl (fun _ => 0)))] _ _ := ⟨⟨hx, hb, hml, hown, hts⟩, hE, hS, hA, hP, hD⟩
  refine n_call (wr := [(a0, .inr (15, [.int (0), .int (0), .int (100), .int (0), .int (0), .ref a1, .ref a2, .ref a3, .ref a4, .ref a5, .ref a6, .ref a7, .ref a8, .ref a9, .ref a10, .ref a11, .null, .int (-1), .ref a12, .long (0)])), (a1, .inl (g 2, 9, .inl (fun _ => 0))), (a4, .inl (g 0, 9, .inl (fun _ => 0)))]) hX (n_runS (n := 3) (wc := []) (As := [.int s2, .int (-50), .int (50)]) (rest := []) hX (m43 l hst dC dI g s2 e0 e1 _) [] rfl (by decide +kernel) q1503 q1504 q82 q1505 (by decide +kernel) ⟨(Nat.le_of_ble_eq_true rfl), (Nat.le_of_ble_eq_true rfl)⟩ ⟨(Nat.le_of_ble_eq_true rfl), (Nat.le_of_ble_eq_true rfl)⟩ hl.1 rfl rfl (Nat.le_of_ble_eq_true rfl) dX16_addJunction_9) [] [0, 1, 2] rfl rfl (by decide +kernel) (by decide +kernel) (fun f1 r2 H locs hP hD hS => ?_)
  have hP : va_P (dC, dI) CL [(a0, .inr (15, [.int (0), .int (0), .int (100), .int (0), .int (0), .ref a1, .ref a2, .ref a3, .ref a4, .ref a5, .ref a6, .ref a7, .ref a8, .ref a9, .ref a10, .ref a11, .null, .int (-1), .ref a12, .long (0)])), (a1, .inl (g 2, 9, .inl (fun _ => 0))), (a4, .inl (g 0, 9, .inl (fun _ => 0)))] _ := hP
  have hD : va_D A [(a0, .inr (15, [.int (0), .int (0), .int (100), .int (0), .int (0), .ref a1, .ref a2, .ref a3, .ref a4, .ref a5, .ref a6, .ref a7, .ref a8, .ref a9, .ref a10, .ref a11, .null, .int (-1), .ref a12, .long (0)])), (a1, .inl (g 2, 9, .inl (fun _ => 0))), (a4, .inl (g 0, 9, .inl (fun _ => 0)))] := hD
  refine W.widen (k := 0) (n := 0) (Nat.le_of_ble_eq_true rfl) (Nat.le_of_ble_eq_true rfl) ?_
  refine W.eq (g2 := F0 m 12 ls [.int (1)]) rfl ?_
  refine lv_if_ne (tgt := 21) hx hb dX16_addJunction_12 (by decide +kernel) (fun _ => ?_) (fun h => absurd h (by decide +kernel))
  refine lv_aload_n hx hb dX16_addJunction_21 rfl (lv_at hl 0 rfl) ?_
  refine va_get (D := (dC, dI)) (ci := 15) (v := .int (0)) (C := "MinestrataModel") (T := TX16) (N := 20) hx hb hts inX16 hown hK hP 0 rfl rfl 1 (by decide) (hts _ q1429) (fun _ h9 => h9) rfl dX16_addJunction_22 ?_
  refine lv_bipush (v := (9)) hx hb dX16_addJunction_25 (by decide +kernel) ?_
  refine lv_icmp_ne (tgt := 36) hx hb dX16_addJunction_27 (by decide +kernel) (fun _ => ?_) (fun h => absurd h (by decide +kernel))
  refine lv_aload_n hx hb dX16_addJunction_36 rfl (lv_at hl 0 rfl) ?_
  refine va_get (D := (dC, dI)) (ci := 15) (v := .ref a1) (C := "MinestrataModel") (T := TX16) (N := 20) hx hb hts inX16 hown hK hP 0 rfl rfl 5 (by decide) (hts _ q1434) (fun _ h9 => h9) rfl dX16_addJunction_37 ?_
  refine lv_aload_n hx hb dX16_addJunction_40 rfl (lv_at hl 0 rfl) ?_
  refine va_get (D := (dC, dI)) (ci := 15) (v := .int (0)) (C := "MinestrataModel") (T := TX16) (N := 20) hx hb hts inX16 hown hK hP 0 rfl rfl 1 (by decide) (hts _ q1429) (fun _ h9 => h9) rfl dX16_addJunction_41 ?_
  refine lv_iload_n hx hb dX16_addJunction_44 rfl (lv_at hl 1 rfl) ?_
  refine va_zast hx hb hK hP hD hS 1 2 rfl rfl (show ¬ ((0 : Int32) < 0 ∨ 9 ≤ Int32.toNatClampNeg (0)) by decide +kernel) dX16_addJunction_45 (fun H locs hP hD hS => ?_)
  have hP : va_P (dC, dI) CL [(a0, .inr (15, [.int (0), .int (0), .int (100), .int (0), .int (0), .ref a1, .ref a2, .ref a3, .ref a4, .ref a5, .ref a6, .ref a7, .ref a8, .ref a9, .ref a10, .ref a11, .null, .int (-1), .ref a12, .long (0)])), (a1, .inl (g 2, 9, .inl (upd (fun _ => 0) (Int32.toNatClampNeg (0)) (vp_nar .boolean (1))))), (a4, .inl (g 0, 9, .inl (fun _ => 0)))] _ := hP
  have hD : va_D A [(a0, .inr (15, [.int (0), .int (0), .int (100), .int (0), .int (0), .ref a1, .ref a2, .ref a3, .ref a4, .ref a5, .ref a6, .ref a7, .ref a8, .ref a9, .ref a10, .ref a11, .null, .int (-1), .ref a12, .long (0)])), (a1, .inl (g 2, 9, .inl (upd (fun _ => 0) (Int32.toNatClampNeg (0)) (vp_nar .boolean (1))))), (a4, .inl (g 0, 9, .inl (fun _ => 0)))] := hD
  refine lv_aload_n hx hb dX16_addJunction_46 rfl (lv_at hl 0 rfl) ?_
  refine va_get (D := (dC, dI)) (ci := 15) (v := .ref a4) (C := "MinestrataModel") (T := TX16) (N := 20) hx hb hts inX16 hown hK hP 0 rfl rfl 8 (by decide) (hts _ q1439) (fun _ h9 => h9) rfl dX16_addJunction_47 ?_
  refine lv_aload_n hx hb dX16_addJunction_50 rfl (lv_at hl 0 rfl) ?_
  refine va_get (D := (dC, dI)) (ci := 15) (v := .int (0)) (C := "MinestrataModel") (T := TX16) (N := 20) hx hb hts inX16 hown hK hP 0 rfl rfl 1 (by decide) (hts _ q1429) (fun _ h9 => h9) rfl dX16_addJunction_51 ?_
  refine lv_iload_n hx hb dX16_addJunction_54 rfl (lv_at hl 1 rfl) ?_
  refine lv_if_eq (tgt := 62) hx hb dX16_addJunction_55 (by decide +kernel) (fun h => absurd h (by decide +kernel)) (fun _ => ?_)
  refine lv_iload_n hx hb dX16_addJunction_58 rfl (lv_at hl 2 rfl) ?_
  refine lv_goto (tgt := 63) hx hb dX16_addJunction_59 (by decide +kernel) ?_
  refine va_iast hx hb hK hP hD hS 2 0 rfl rfl (show ¬ ((0 : Int32) < 0 ∨ 9 ≤ Int32.toNatClampNeg (0)) by decide +kernel) dX16_addJunction_63 (fun H locs hP hD hS => ?_)
  have hP : va_P (dC, dI) CL [(a0, .inr (15, [.int (0), .int (0), .int (100), .int (0), .int (0), .ref a1, .ref a2, .ref a3, .ref a4, .ref a5, .ref a6, .ref a7, .ref a8, .ref a9, .ref a10, .ref a11, .null, .int (-1), .ref a12, .long (0)])), (a1, .inl (g 2, 9, .inl (upd (fun _ => 0) (Int32.toNatClampNeg (0)) (vp_nar .boolean (1))))), (a4, .inl (g 0, 9, .inl (upd (fun _ => 0) (Int32.toNatClampNeg (0)) s2)))] _ := hP
  have hD : va_D A [(a0, .inr (15, [.int (0), .int (0), .int (100), .int (0), .int (0), .ref a1, .ref a2, .ref a3, .ref a4, .ref a5, .ref a6, .ref a7, .ref a8, .ref a9, .ref a10, .ref a11, .null, .int (-1), .ref a12, .long (0)])), (a1, .inl (g 2, 9, .inl (upd (fun _ => 0) (Int32.toNatClampNeg (0)) (vp_nar .boolean (1))))), (a4, .inl (g 0, 9, .inl (upd (fun _ => 0) (Int32.toNatClampNeg (0)) s2)))] := hD
  refine lv_aload_n hx hb dX16_addJunction_64 rfl (lv_at hl 0 rfl) ?_
  refine lv_dup hx hb dX16_addJunction_65 rfl ?_
  refine va_get (D := (dC, dI)) (ci := 15) (v := .int (0)) (C := "MinestrataModel") (T := TX16) (N := 20) hx hb hts inX16 hown hK hP 0 rfl rfl 1 (by decide) (hts _ q1429) (fun _ h9 => h9) rfl dX16_addJunction_66 ?_
  refine lv_iconst (v := (1)) hx hb dX16_addJunction_69 (by decide +kernel) ?_
  refine lv_iadd hx hb dX16_addJunction_70 ?_
  refine nt_i (v := (1)) (by decide +kernel) ?_
  refine va_put (D := (dC, dI)) (ci := 15) (v := .int (1)) (ty := .int) (C := "MinestrataModel") (T := TX16) (N := 20) hx hb hts inX16 tyX16 tyX16_ok nmX16 hown hK hP hD hS 0 rfl rfl 1 (by decide) (hts _ q1429) (fun _ h9 => h9) rfl (by decide +kernel) rfl rfl (Nat.le_of_ble_eq_true rfl) dX16_addJunction_71 (fun H locs hP hD hS => ?_)
  have hP : va_P (dC, dI) CL [(a0, .inr (15, [.int (0), .int (1), .int (100), .int (0), .int (0), .ref a1, .ref a2, .ref a3, .ref a4, .ref a5, .ref a6, .ref a7, .ref a8, .ref a9, .ref a10, .ref a11, .null, .int (-1), .ref a12, .long (0)])), (a1, .inl (g 2, 9, .inl (upd (fun _ => 0) (Int32.toNatClampNeg (0)) (vp_nar .boolean (1))))), (a4, .inl (g 0, 9, .inl (upd (fun _ => 0) (Int32.toNatClampNeg (0)) s2)))] _ := hP
  have hD : va_D A [(a0, .inr (15, [.int (0), .int (1), .int (100), .int (0), .int (0), .ref a1, .ref a2, .ref a3, .ref a4, .ref a5, .ref a6, .ref a7, .ref a8, .ref a9, .ref a10, .ref a11, .null, .int (-1), .ref a12, .long (0)])), (a1, .inl (g 2, 9, .inl (upd (fun _ => 0) (Int32.toNatClampNeg (0)) (vp_nar .boolean (1))))), (a4, .inl (g 0, 9, .inl (upd (fun _ => 0) (Int32.toNatClampNeg (0)) s2)))] := hD
  refine lv_aload_n hx hb dX16_addJunction_74 rfl (lv_at hl 0 rfl) ?_
  refine lv_null hx hb dX16_addJunction_75 ?_
  refine va_put (D := (dC, dI)) (ci := 15) (v := .null) (ty := (.object "MinestrataModel$Air")) (C := "MinestrataModel") (T := TX16) (N := 20) hx hb hts inX16 tyX16 tyX16_ok nmX16 hown hK hP hD hS 0 rfl rfl 16 (by decide) (hts _ q1450) (fun _ h9 => h9) rfl (by decide +kernel) rfl rfl (Nat.le_of_ble_eq_true rfl) dX16_addJunction_76 (fun H locs hP hD hS => ?_)
  have hP : va_P (dC, dI) CL [(a0, .inr (15, [.int (0), .int (1), .int (100), .int (0), .int (0), .ref a1, .ref a2, .ref a3, .ref a4, .ref a5, .ref a6, .ref a7, .ref a8, .ref a9, .ref a10, .ref a11, .null, .int (-1), .ref a12, .long (0)])), (a1, .inl (g 2, 9, .inl (upd (fun _ => 0) (Int32.toNatClampNeg (0)) (vp_nar .boolean (1))))), (a4, .inl (g 0, 9, .inl (upd (fun _ => 0) (Int32.toNatClampNeg (0)) s2)))] _ := hP
  have hD : va_D A [(a0, .inr (15, [.int (0), .int (1), .int (100), .int (0), .int (0), .ref a1, .ref a2, .ref a3, .ref a4, .ref a5, .ref a6, .ref a7, .ref a8, .ref a9, .ref a10, .ref a11, .null, .int (-1), .ref a12, .long (0)])), (a1, .inl (g 2, 9, .inl (upd (fun _ => 0) (Int32.toNatClampNeg (0)) (vp_nar .boolean (1))))), (a4, .inl (g 0, 9, .inl (upd (fun _ => 0) (Int32.toNatClampNeg (0)) s2)))] := hD
  refine lv_aload_n hx hb dX16_addJunction_79 rfl (lv_at hl 0 rfl) ?_
  refine lv_aload_n hx hb dX16_addJunction_80 rfl (lv_at hl 0 rfl) ?_
  refine va_get (D := (dC, dI)) (ci := 15) (v := .int (1)) (C := "MinestrataModel") (T := TX16) (N := 20) hx hb hts inX16 hown hK hP 0 rfl rfl 1 (by decide) (hts _ q1429) (fun _ h9 => h9) rfl dX16_addJunction_81 ?_
  refine lv_iconst (v := (1)) hx hb dX16_addJunction_84 (by decide +kernel) ?_
  refine lv_isub hx hb dX16_addJunction_85 ?_
  refine nt_i (v := (0)) (by decide +kernel) ?_
  have hX : nCx p s m _ c prog_14_method_8_code 3 "MinestrataModel" dC dI g A [(a0, .inr (15, [.int (0), .int (1), .int (100), .int (0), .int (0), .ref a1, .ref a2, .ref a3, .ref a4, .ref a5, .ref a6, .ref a7, .ref a8, .ref a9, .ref a10, .ref a11, .null, .int (-1), .ref a12, .long (0)])), (a1, .inl (g 2, 9, .inl (upd (fun _ => 0) (Int32.toNatClampNeg (0)) (vp_nar .boolean (1))))), (a4, .inl (g 0, 9, .inl (upd (fun _ => 0) (Int32.toNatClampNeg (0)) s2)))] _ _ := ⟨⟨hx, hb, hml, hown, hts⟩, hE, hS, hA, hP, hD⟩
  refine n_call (wr := [(a1, .inl (g 2, 9, .inl (upd (fun _ => 0) (Int32.toNatClampNeg (0)) (vp_nar .boolean (1))))), (a4, .inl (g 0, 9, .inl (upd (fun _ => 0) (Int32.toNatClampNeg (0)) s2)))]) hX (n_runV (n := 1) (wc := [(a0, .inr (15, [.int (0), .int (1), .int (100), .int (0), .int (0), .ref a1, .ref a2, .ref a3, .ref a4, .ref a5, .ref a6, .ref a7, .ref a8, .ref a9, .ref a10, .ref a11, .null, .int (-1), .ref a12, .long (0)]))]) (As := [.int (0)]) (rest := []) hX (m24 l hst dC dI g a0 a1 a2 a3 a4 a5 a6 a7 a8 a9 a10 a11 a12 _) [0] rfl (by decide +kernel) 0 (ci := 15) rfl (T := TX16) (N := 20) (C := "MinestrataModel") rfl q1510 q1512 q40 q82 q1513 (by decide +kernel) ⟨(Nat.le_of_ble_eq_true rfl), (Nat.le_of_ble_eq_true rfl)⟩ ⟨(Nat.le_of_ble_eq_true rfl), (Nat.le_of_ble_eq_true rfl)⟩ hl.1 rfl rfl (Nat.le_of_ble_eq_true rfl) dX16_addJunction_86) [0] [1, 2] rfl rfl (by decide +kernel) (by decide +kernel) (fun f3 r4 H locs hP hD hS => ?_)
  have hP : va_P (dC, dI) CL [(a1, .inl (g 2, 9, .inl (upd (fun _ => 0) (Int32.toNatClampNeg (0)) (vp_nar .boolean (1))))), (a4, .inl (g 0, 9, .inl (upd (fun _ => 0) (Int32.toNatClampNeg (0)) s2))), (a0, .inr (15, [.int (0), .int (1), .int (100), .int (0), .int (0), .ref a1, .ref a2, .ref a3, .ref a4, .ref a5, .ref a6, .ref a7, .ref a8, .ref a9, .ref a10, .ref a11, .null, .int (-1), .ref a12, .long (0)]))] _ := hP
  have hD : va_D A [(a1, .inl (g 2, 9, .inl (upd (fun _ => 0) (Int32.toNatClampNeg (0)) (vp_nar .boolean (1))))), (a4, .inl (g 0, 9, .inl (upd (fun _ => 0) (Int32.toNatClampNeg (0)) s2))), (a0, .inr (15, [.int (0), .int (1), .int (100), .int (0), .int (0), .ref a1, .ref a2, .ref a3, .ref a4, .ref a5, .ref a6, .ref a7, .ref a8, .ref a9, .ref a10, .ref a11, .null, .int (-1), .ref a12, .long (0)]))] := hD
  refine W.widen (k := 0) (n := 0) (Nat.le_of_ble_eq_true rfl) (Nat.le_of_ble_eq_true rfl) ?_
  refine W.eq (g2 := F0 m 89 ls [.int (0)]) rfl ?_
  refine W.widen (k := 0) (n := 0) (Nat.le_of_ble_eq_true rfl) (Nat.le_of_ble_eq_true rfl) ?_
  exact W.iret hx hb hr (n_end hS hP hD [2] (by decide +kernel) (fun _ => 0) (fun _ => 0) rfl rfl rfl) hS.2.2 dX16_addJunction_89 hlk

set_option maxHeartbeats 4000000 in
set_option maxRecDepth 100000 in
/-- Minestrata$Net.hasJunction -/
theorem m45 (l : Launch) (hst : l.stackTraces = false) (dC : Nat → ClassId) (dI : Nat → Nat → Nat) (g : Nat → Nat) (a0 a1 a2 a3 a4 a5 a6 a7 a8 a9 a10 a11 : Nat) (s1 : Int32) (sz : Nat) :
    Met l Y26 (Cond.code Y26 prog_9_method_2_code 2 (Option.some Jvm.ClassFile.FieldType.boolean) :: AW) ({ frames := 0, cells := 0, slots := 0, locals := 0 } : Room) (nP dC dI g [.ref a0, .int s1] [(a0, .inr (8, [.int (0), .ref a1, .ref a2, .ref a3, .ref a4, .int (0), .ref a5, .ref a6, .ref a7, .ref a8, .ref a9, .ref a10, .ref a11]))] sz) (nQ dC dI (fun f => some (.int (0))) (fun f r => [(a0, .inr (8, [.int (0), .ref a1, .ref a2, .ref a3, .ref a4, .int (0), .ref a5, .ref a6, .ref a7, .ref a8, .ref a9, .ref a10, .ref a11]))]) (va_A [(a0, .inr (8, [.int (0), .ref a1, .ref a2, .ref a3, .ref a4, .int (0), .ref a5, .ref a6, .ref a7, .ref a8, .ref a9, .ref a10, .ref a11]))] sz)) 0 0 (va_A [(a0, .inr (8, [.int (0), .ref a1, .ref a2, .ref a3, .ref a4, .int (0), .ref a5, .ref a6, .ref a7, .ref a8, .ref a9, .ref a10, .ref a11]))] sz) := by
  refine n_met (by decide +kernel) (Nat.le_of_ble_eq_true rfl) (fun f => some (.int (0))) (fun f r => [(a0, .inr (8, [.int (0), .ref a1, .ref a2, .ref a3, .ref a4, .int (0), .ref a5, .ref a6, .ref a7, .ref a8, .ref a9, .ref a10, .ref a11]))]) ?_
  intro p e s m below meth c A ls ⟨hx, hb, hr, hml, hown, hts, hlk, hnm⟩ hE hP hD hA hl
  have hown : s.vm.findClass "Minestrata$Net" = some m.cls := hown
  have hK := hE.1
  have hS : va_S A s.heap s.heap [] := va_S.rf
  have hl : lv_has ls 2 [(0, .ref a0), (1, .int s1)] := hl
  refine lv_iload_n hx hb dX7_hasJunction_0 rfl (lv_at hl 1 rfl) ?_
  refine lv_if_lt (tgt := 16) hx hb dX7_hasJunction_1 (by decide +kernel) (fun h1 => ?_) (fun h1 => ?_)
  · skip
    refine lv_iconst (v := (0)) hx hb dX7_hasJunction_16 (by decide +kernel) ?_
    refine W.widen (k := 0) (n := 0) (Nat.le_of_ble_eq_true rfl) (Nat.le_of_ble_eq_true rfl) ?_
    exact W.zret hx hb hr (by decide +kernel) (n_end hS hP hD [0] (by decide +kernel) (fun _ => 0) (fun _ => 0) rfl rfl rfl) hS.2.2 dX7_hasJunction_17 hlk
  · skip
    refine lv_iload_n hx hb dX7_hasJunction_4 rfl (lv_at hl 1 rfl) ?_
    refine lv_aload_n hx hb dX7_hasJunction_5 rfl (lv_at hl 0 rfl) ?_
    refine va_get (D := (dC, dI)) (ci := 8) (v := .int (0)) (C := "Minestrata$Net") (T := TX7) (N := 13) hx hb hts inX7 hown hK hP 0 rfl rfl 0 (by decide) (hts _ q127) (fun _ h9 => h9) rfl dX7_hasJunction_6 ?_
    refine lv_icmp_ge (tgt := 16) hx hb dX7_hasJunction_9 (by decide +kernel) (fun _ => ?_) (fun h => absurd (show (0) ≤ s1 by have z0 := h1; simp only [n_lt, n_le, n_eq, show ((0) : Int32).toInt = 0 from rfl] at z0 ⊢; omega) h)
    refine lv_iconst (v := (0)) hx hb dX7_hasJunction_16 (by decide +kernel) ?_
    refine W.widen (k := 0) (n := 0) (Nat.le_of_ble_eq_true rfl) (Nat.le_of_ble_eq_true rfl) ?_
    exact W.zret hx hb hr (by decide +kernel) (n_end hS hP hD [0] (by decide +kernel) (fun _ => 0) (fun _ => 0) rfl rfl rfl) hS.2.2 dX7_hasJunction_17 hlk

set_option maxHeartbeats 4000000 in
set_option maxRecDepth 100000 in
/-- Minestrata.addRoad -/
theorem m46 (l : Launch) (hst : l.stackTraces = false) (dC : Nat → ClassId) (dI : Nat → Nat → Nat) (g : Nat → Nat) (a0 a1 a2 a3 a4 a5 a6 a7 a8 a9 a10 a11 a12 a13 a14 a15 a16 a17 a18 a19 a20 a21 : Nat) (s1 s2 s3 : Int32) (sz : Nat) :
    vx_Met l Y25 (Cond.code Y25 prog_1_method_3_code 5 (Option.some Jvm.ClassFile.FieldType.int) :: AW) ({ frames := 6, cells := 1, slots := 6, locals := 81 } : Room) (nP dC dI g [.ref a0, .int s1, .int s2, .int s3, .int (0)] [(a0, .inr (12, [.ref a1, .ref a2, .ref a3, .ref a4, .ref a5, .ref a6, .ref a7, .ref a8, .null, .ref a9, .ref a10, .int (0), .int (100), .int (0), .int (0), .int (-1), .long (0), .int (1)])), (a1, .inr (8, [.int (0), .ref a11, .ref a12, .ref a13, .ref a14, .int (0), .ref a15, .ref a16, .ref a17, .ref a18, .ref a19, .ref a20, .ref a21]))] sz) (fun _ _ _ _ => False) (nX "java/lang/IndexOutOfBoundsException" (va_A [(a0, .inr (12, [.ref a1, .ref a2, .ref a3, .ref a4, .ref a5, .ref a6, .ref a7, .ref a8, .null, .ref a9, .ref a10, .int (0), .int (100), .int (0), .int (0), .int (-1), .long (0), .int (1)])), (a1, .inr (8, [.int (0), .ref a11, .ref a12, .ref a13, .ref a14, .int (0), .ref a15, .ref a16, .ref a17, .ref a18, .ref a19, .ref a20, .ref a21]))] sz)) 1 6 (va_A [(a0, .inr (12, [.ref a1, .ref a2, .ref a3, .ref a4, .ref a5, .ref a6, .ref a7, .ref a8, .null, .ref a9, .ref a10, .int (0), .int (100), .int (0), .int (0), .int (-1), .long (0), .int (1)])), (a1, .inr (8, [.int (0), .ref a11, .ref a12, .ref a13, .ref a14, .int (0), .ref a15, .ref a16, .ref a17, .ref a18, .ref a19, .ref a20, .ref a21]))] sz) := by
  refine n_metX (by decide +kernel) (Nat.le_of_ble_eq_true rfl) "java/lang/IndexOutOfBoundsException" ?_
  intro p e s m below meth c A ls ⟨hx, hb, hr, hml, hown, hts, hlk, hnm⟩ hout hE hP hD hA hl
  have hown : s.vm.findClass "Minestrata" = some m.cls := hown
  have hK := hE.1
  have hS : va_S A s.heap s.heap [] := va_S.rf
  have hl : lv_has ls 5 [(0, .ref a0), (1, .int s1), (2, .int s2), (3, .int s3), (4, .int (0))] := hl
  have hlsz : ls.size = c.maxLocals := hl.1.trans hml.symm
  refine lv_aload_n hx hb dX11_addRoad_0 rfl (lv_at hl 0 rfl) ?_
  refine va_get (D := (dC, dI)) (ci := 12) (v := .ref a1) (C := "Minestrata") (T := TX11) (N := 18) hx hb hts inX11 hown hK hP 0 rfl rfl 0 (by decide) (hts _ q504) (fun _ h9 => h9) rfl dX11_addRoad_1 ?_
  refine lv_iload_n hx hb dX11_addRoad_4 rfl (lv_at hl 1 rfl) ?_
  have hX : nCx p s m _ c prog_1_method_3_code 5 "Minestrata" dC dI g A [(a0, .inr (12, [.ref a1, .ref a2, .ref a3, .ref a4, .ref a5, .ref a6, .ref a7, .ref a8, .null, .ref a9, .ref a10, .int (0), .int (100), .int (0), .int (0), .int (-1), .long (0), .int (1)])), (a1, .inr (8, [.int (0), .ref a11, .ref a12, .ref a13, .ref a14, .int (0), .ref a15, .ref a16, .ref a17, .ref a18, .ref a19, .ref a20, .ref a21]))] _ _ := ⟨⟨hx, hb, hml, hown, hts⟩, hE, hS, hA, hP, hD⟩
  refine n_call (wr := [(a0, .inr (12, [.ref a1, .ref a2, .ref a3, .ref a4, .ref a5, .ref a6, .ref a7, .ref a8, .null, .ref a9, .ref a10, .int (0), .int (100), .int (0), .int (0), .int (-1), .long (0), .int (1)]))]) hX (n_runV (n := 1) (wc := [(a1, .inr (8, [.int (0), .ref a11, .ref a12, .ref a13, .ref a14, .int (0), .ref a15, .ref a16, .ref a17, .ref a18, .ref a19, .ref a20, .ref a21]))]) (As := [.int s1]) (rest := []) hX (m45 l hst dC dI g a1 a11 a12 a13 a14 a15 a16 a17 a18 a19 a20 a21 s1 _) [1] rfl (by decide +kernel) 1 (ci := 8) rfl (T := TX7) (N := 13) (C := "Minestrata$Net") rfl q944 q945 q946 q72 q947 (by decide +kernel) ⟨(Nat.le_of_ble_eq_true rfl), (Nat.le_of_ble_eq_true rfl)⟩ ⟨(Nat.le_of_ble_eq_true rfl), (Nat.le_of_ble_eq_true rfl)⟩ hl.1 rfl rfl (Nat.le_of_ble_eq_true rfl) dX11_addRoad_5) [1] [0] rfl rfl (by decide +kernel) (by decide +kernel) (fun f1 r2 H locs hP hD hS => ?_)
  have hP : va_P (dC, dI) CL [(a0, .inr (12, [.ref a1, .ref a2, .ref a3, .ref a4, .ref a5, .ref a6, .ref a7, .ref a8, .null, .ref a9, .ref a10, .int (0), .int (100), .int (0), .int (0), .int (-1), .long (0), .int (1)])), (a1, .inr (8, [.int (0), .ref a11, .ref a12, .ref a13, .ref a14, .int (0), .ref a15, .ref a16, .ref a17, .ref a18, .ref a19, .ref a20, .ref a21]))] _ := hP
  have hD : va_D A [(a0, .inr (12, [.ref a1, .ref a2, .ref a3, .ref a4, .ref a5, .ref a6, .ref a7, .ref a8, .null, .ref a9, .ref a10, .int (0), .int (100), .int (0), .int (0), .int (-1), .long (0), .int (1)])), (a1, .inr (8, [.int (0), .ref a11, .ref a12, .ref a13, .ref a14, .int (0), .ref a15, .ref a16, .ref a17, .ref a18, .ref a19, .ref a20, .ref a21]))] := hD
  refine W.widen (k := 0) (n := 0) (Nat.le_of_ble_eq_true rfl) (Nat.le_of_ble_eq_true rfl) ?_
  refine W.eq (g2 := F0 m 8 ls [.int (0)]) rfl ?_
  refine lv_if_eq (tgt := 22) hx hb dX11_addRoad_8 (by decide +kernel) (fun _ => ?_) (fun h => absurd (by decide +kernel) h)
  exact n_throw hx hb hst hown hts hE hS (names := ["java/lang/RuntimeException", "java/lang/Exception"]) (by decide +kernel) (by decide +kernel) q948 q91 hat1p hat1a hat1 hat1g (hl.1.trans hml.symm) dX11_addRoad_22 dX11_addRoad_25 dX11_addRoad_26 dX11_addRoad_29 hout (Nat.le_of_ble_eq_true rfl) (Nat.le_of_ble_eq_true rfl) (Nat.le_of_ble_eq_true rfl) (Nat.le_of_ble_eq_true rfl) hlk (Nat.le_of_ble_eq_true rfl) (Nat.le_of_ble_eq_true rfl)

set_option maxHeartbeats 4000000 in
set_option maxRecDepth 100000 in
/-- MinestrataLaw.addRoad -/
theorem m47 (l : Launch) (hst : l.stackTraces = false) (dC : Nat → ClassId) (dI : Nat → Nat → Nat) (g : Nat → Nat) (a0 a1 a2 a3 a4 a5 a6 a7 a8 a9 a10 a11 a12 a13 a14 a15 a16 a17 a18 a19 a20 a21 a22 : Nat) (s1 s2 s3 : Int32) (sz : Nat) :
    Met l Y24 (Cond.codeWith Y24 method_4_code 7 (Option.some Jvm.ClassFile.FieldType.int) [((0 : Nat), (14 : Nat), (17 : Nat), (21 : Nat)), ((0 : Nat), (14 : Nat), (21 : Nat), (13 : Nat)), ((0 : Nat), (14 : Nat), (25 : Nat), (15 : Nat))] :: AW) ({ frames := 7, cells := 1, slots := 6, locals := 105 } : Room) (nP dC dI g [.ref a0, .int s1, .int s2, .int s3, .int (0), .ref a1] [(a0, .inr (12, [.ref a2, .ref a3, .ref a4, .ref a5, .ref a6, .ref a7, .ref a8, .ref a9, .null, .ref a10, .ref a11, .int (0), .int (100), .int (0), .int (0), .int (-1), .long (0), .int (1)])), (a2, .inr (8, [.int (0), .ref a12, .ref a13, .ref a14, .ref a15, .int (0), .ref a16, .ref a17, .ref a18, .ref a19, .ref a20, .ref a21, .ref a22]))] sz) (nQ dC dI (fun f => some (.int (1))) (fun f r => []) (va_A [(a0, .inr (12, [.ref a2, .ref a3, .ref a4, .ref a5, .ref a6, .ref a7, .ref a8, .ref a9, .null, .ref a10, .ref a11, .int (0), .int (100), .int (0), .int (0), .int (-1), .long (0), .int (1)])), (a2, .inr (8, [.int (0), .ref a12, .ref a13, .ref a14, .ref a15, .int (0), .ref a16, .ref a17, .ref a18, .ref a19, .ref a20, .ref a21, .ref a22]))] sz)) 1 6 (va_A [(a0, .inr (12, [.ref a2, .ref a3, .ref a4, .ref a5, .ref a6, .ref a7, .ref a8, .ref a9, .null, .ref a10, .ref a11, .int (0), .int (100), .int (0), .int (0), .int (-1), .long (0), .int (1)])), (a2, .inr (8, [.int (0), .ref a12, .ref a13, .ref a14, .ref a15, .int (0), .ref a16, .ref a17, .ref a18, .ref a19, .ref a20, .ref a21, .ref a22]))] sz) := by
  refine n_metW (by decide +kernel) q906 (Nat.le_of_ble_eq_true rfl) (fun f => some (.int (1))) (fun f r => []) ?_
  intro p e s m below meth c A ls ⟨hx, hb, hr, hml, hown, hts, hlk, hnm⟩ htab hE hP hD hA hl
  have hown : s.vm.findClass "MinestrataLaw" = some m.cls := hown
  have hK := hE.1
  have hS : va_S A s.heap s.heap [] := va_S.rf
  have hl : lv_has ls 7 [(0, .ref a0), (1, .int s1), (2, .int s2), (3, .int s3), (4, .int (0)), (5, .ref a1)] := hl
  refine lv_aload hx hb dL_addRoad_0 (lv_at hl 5 rfl) ?_
  refine lv_iconst (v := (0)) hx hb dL_addRoad_2 (by decide +kernel) ?_
  refine lv_aload_n hx hb dL_addRoad_3 rfl (lv_at hl 0 rfl) ?_
  refine lv_iload_n hx hb dL_addRoad_4 rfl (lv_at hl 1 rfl) ?_
  refine lv_iload_n hx hb dL_addRoad_5 rfl (lv_at hl 2 rfl) ?_
  refine lv_iload_n hx hb dL_addRoad_6 rfl (lv_at hl 3 rfl) ?_
  refine lv_iload hx hb dL_addRoad_7 (lv_at hl 4 rfl) ?_
  have hX : nCx p s m _ c method_4_code 7 "MinestrataLaw" dC dI g A [(a0, .inr (12, [.ref a2, .ref a3, .ref a4, .ref a5, .ref a6, .ref a7, .ref a8, .ref a9, .null, .ref a10, .ref a11, .int (0), .int (100), .int (0), .int (0), .int (-1), .long (0), .int (1)])), (a2, .inr (8, [.int (0), .ref a12, .ref a13, .ref a14, .ref a15, .int (0), .ref a16, .ref a17, .ref a18, .ref a19, .ref a20, .ref a21, .ref a22]))] _ _ := ⟨⟨hx, hb, hml, hown, hts⟩, hE, hS, hA, hP, hD⟩
  refine n_callX (E0 := "java/lang/IndexOutOfBoundsException") hX (n_runVX (n := 4) (wc := [(a0, .inr (12, [.ref a2, .ref a3, .ref a4, .ref a5, .ref a6, .ref a7, .ref a8, .ref a9, .null, .ref a10, .ref a11, .int (0), .int (100), .int (0), .int (0), .int (-1), .long (0), .int (1)])), (a2, .inr (8, [.int (0), .ref a12, .ref a13, .ref a14, .ref a15, .int (0), .ref a16, .ref a17, .ref a18, .ref a19, .ref a20, .ref a21, .ref a22]))]) (As := [.int s1, .int s2, .int s3, .int (0)]) (rest := [.int (0), .ref a1]) hX (m46 l hst dC dI g a0 a2 a3 a4 a5 a6 a7 a8 a9 a10 a11 a12 a13 a14 a15 a16 a17 a18 a19 a20 a21 a22 s1 s2 s3 _) [0, 1] rfl (by decide +kernel) 0 (ci := 12) rfl (T := TX11) (N := 18) (C := "Minestrata") rfl q940 q941 q942 q71 q943 (by decide +kernel) ⟨(Nat.le_of_ble_eq_true rfl), (Nat.le_of_ble_eq_true rfl)⟩ ⟨(Nat.le_of_ble_eq_true rfl), (Nat.le_of_ble_eq_true rfl)⟩ hl.1 rfl rfl (Nat.le_of_ble_eq_true rfl) dL_addRoad_9) [0, 1] rfl (fun ce q9 H locs hS hce hcv hcl => ?_)
  refine n_catch (E := "java/lang/IndexOutOfBoundsException") (name := "java/lang/IndexOutOfBoundsException") hE hts hown htab [] ⟨0, 14, 17, 21⟩ [⟨0, 14, 21, 13⟩, ⟨0, 14, 25, 15⟩] rfl (fun z hz => nomatch hz) (by decide +kernel) (by decide) q907 x950 hce hcv hcl ?_
  refine W.widen (k := 1) (n := 6) (Nat.le_of_ble_eq_true rfl) (Nat.le_of_ble_eq_true rfl) ?_
  refine W.eq (g2 := F0 m 17 ls [.ref q9]) rfl ?_
  refine lv_astore (lv' := [(6, .ref q9), (0, .ref a0), (1, .int s1), (2, .int s2), (3, .int s3), (4, .int (0)), (5, .ref a1)]) hx hb dL_addRoad_17 hl (by decide) rfl (fun ls hl => ?_)
  refine lv_iconst (v := (1)) hx hb dL_addRoad_19 (by decide +kernel) ?_
  refine W.widen (k := 1) (n := 6) (Nat.le_of_ble_eq_true rfl) (Nat.le_of_ble_eq_true rfl) ?_
  exact W.iret hx hb hr (n_end0 hS (fun _ => 0) rfl rfl) hS.2.2 dL_addRoad_20 hlk

set_option maxHeartbeats 4000000 in
set_option maxRecDepth 100000 in
/-- MinestrataModel.in -/
theorem m48 (l : Launch) (hst : l.stackTraces = false) (dC : Nat → ClassId) (dI : Nat → Nat → Nat) (g : Nat → Nat) (s1 : Int32) (sz : Nat) :
    Met l Y22 (Cond.code Y22 prog_14_method_3_code 3 (Option.some Jvm.ClassFile.FieldType.boolean) :: AW) ({ frames := 0, cells := 0, slots := 0, locals := 0 } : Room) (nP dC dI g [.int s1, .int (0), .int (-1)] [] sz) (nQ dC dI (fun f => some (.int (0))) (fun f r => []) (va_A [] sz)) 0 0 (va_A [] sz) := by
  refine n_met (by decide +kernel) (Nat.le_of_ble_eq_true rfl) (fun f => some (.int (0))) (fun f r => []) ?_
  intro p e s m below meth c A ls ⟨hx, hb, hr, hml, hown, hts, hlk, hnm⟩ hE hP hD hA hl
  have hown : s.vm.findClass "MinestrataModel" = some m.cls := hown
  have hK := hE.1
  have hS : va_S A s.heap s.heap [] := va_S.rf
  have hl : lv_has ls 3 [(0, .int s1), (1, .int (0)), (2, .int (-1))] := hl
  refine lv_iload_n hx hb dX16_in_0 rfl (lv_at hl 0 rfl) ?_
  refine lv_iload_n hx hb dX16_in_1 rfl (lv_at hl 1 rfl) ?_
  refine lv_icmp_lt (tgt := 14) hx hb dX16_in_2 (by decide +kernel) (fun h1 => ?_) (fun h1 => ?_)
  · skip
    refine lv_iconst (v := (0)) hx hb dX16_in_14 (by decide +kernel) ?_
    refine W.widen (k := 0) (n := 0) (Nat.le_of_ble_eq_true rfl) (Nat.le_of_ble_eq_true rfl) ?_
    exact W.zret hx hb hr (by decide +kernel) (n_end hS hP hD [] (by decide +kernel) (fun _ => 0) (fun _ => 0) rfl rfl rfl) hS.2.2 dX16_in_15 hlk
  · skip
    refine lv_iload_n hx hb dX16_in_5 rfl (lv_at hl 0 rfl) ?_
    refine lv_iload_n hx hb dX16_in_6 rfl (lv_at hl 2 rfl) ?_
    refine lv_icmp_gt (tgt := 14) hx hb dX16_in_7 (by decide +kernel) (fun _ => ?_) (fun h => absurd (show (-1) < s1 by have z0 := h1; simp only [n_lt, n_le, n_eq, show ((-1) : Int32).toInt = -1 from rfl, show ((0) : Int32).toInt = 0 from rfl] at z0 ⊢; omega) h)
    refine lv_iconst (v := (0)) hx hb dX16_in_14 (by decide +kernel) ?_
    refine W.widen (k := 0) (n := 0) (Nat.le_of_ble_eq_true rfl) (Nat.le_of_ble_eq_true rfl) ?_
    exact W.zret hx hb hr (by decide +kernel) (n_end hS hP hD [] (by decide +kernel) (fun _ => 0) (fun _ => 0) rfl rfl rfl) hS.2.2 dX16_in_15 hlk

set_option maxHeartbeats 4000000 in
set_option maxRecDepth 100000 in
/-- MinestrataModel.isJunction -/
theorem m49 (l : Launch) (hst : l.stackTraces = false) (dC : Nat → ClassId) (dI : Nat → Nat → Nat) (g : Nat → Nat) (a0 a1 a2 a3 a4 a5 a6 a7 a8 a9 a10 a11 a12 : Nat) (s1 : Int32) (sz : Nat) :
    Met l Y28 (Cond.code Y28 prog_14_method_7_code 2 (Option.some Jvm.ClassFile.FieldType.boolean) :: AW) ({ frames := 1, cells := 0, slots := 0, locals := 22 } : Room) (nP dC dI g [.ref a0, .int s1] [(a0, .inr (15, [.int (0), .int (0), .int (100), .int (0), .int (0), .ref a1, .ref a2, .ref a3, .ref a4, .ref a5, .ref a6, .ref a7, .ref a8, .ref a9, .ref a10, .ref a11, .null, .int (-1), .ref a12, .long (0)]))] sz) (nQ dC dI (fun f => some (.int (0))) (fun f r => [(a0, .inr (15, [.int (0), .int (0), .int (100), .int (0), .int (0), .ref a1, .ref a2, .ref a3, .ref a4, .ref a5, .ref a6, .ref a7, .ref a8, .ref a9, .ref a10, .ref a11, .null, .int (-1), .ref a12, .long (0)]))]) (va_A [(a0, .inr (15, [.int (0), .int (0), .int (100), .int (0), .int (0), .ref a1, .ref a2, .ref a3, .ref a4, .ref a5, .ref a6, .ref a7, .ref a8, .ref a9, .ref a10, .ref a11, .null, .int (-1), .ref a12, .long (0)]))] sz)) 0 0 (va_A [(a0, .inr (15, [.int (0), .int (0), .int (100), .int (0), .int (0), .ref a1, .ref a2, .ref a3, .ref a4, .ref a5, .ref a6, .ref a7, .ref a8, .ref a9, .ref a10, .ref a11, .null, .int (-1), .ref a12, .long (0)]))] sz) := by
  refine n_met (by decide +kernel) (Nat.le_of_ble_eq_true rfl) (fun f => some (.int (0))) (fun f r => [(a0, .inr (15, [.int (0), .int (0), .int (100), .int (0), .int (0), .ref a1, .ref a2, .ref a3, .ref a4, .ref a5, .ref a6, .ref a7, .ref a8, .ref a9, .ref a10, .ref a11, .null, .int (-1), .ref a12, .long (0)]))]) ?_
  intro p e s m below meth c A ls ⟨hx, hb, hr, hml, hown, hts, hlk, hnm⟩ hE hP hD hA hl
  have hown : s.vm.findClass "MinestrataModel" = some m.cls := hown
  have hK := hE.1
  have hS : va_S A s.heap s.heap [] := va_S.rf
  have hl : lv_has ls 2 [(0, .ref a0), (1, .int s1)] := hl
  refine lv_iload_n hx hb dX16_isJunction_0 rfl (lv_at hl 1 rfl) ?_
  refine lv_iconst (v := (0)) hx hb dX16_isJunction_1 (by decide +kernel) ?_
  refine lv_aload_n hx hb dX16_isJunction_2 rfl (lv_at hl 0 rfl) ?_
  refine va_get (D := (dC, dI)) (ci := 15) (v := .int (0)) (C := "MinestrataModel") (T := TX16) (N := 20) hx hb hts inX16 hown hK hP 0 rfl rfl 1 (by decide) (hts _ q1429) (fun _ h9 => h9) rfl dX16_isJunction_3 ?_
  refine lv_iconst (v := (1)) hx hb dX16_isJunction_6 (by decide +kernel) ?_
  refine lv_isub hx hb dX16_isJunction_7 ?_
  refine nt_i (v := (-1)) (by decide +kernel) ?_
  have hX : nCx p s m _ c prog_14_method_7_code 2 "MinestrataModel" dC dI g A [(a0, .inr (15, [.int (0), .int (0), .int (100), .int (0), .int (0), .ref a1, .ref a2, .ref a3, .ref a4, .ref a5, .ref a6, .ref a7, .ref a8, .ref a9, .ref a10, .ref a11, .null, .int (-1), .ref a12, .long (0)]))] _ _ := ⟨⟨hx, hb, hml, hown, hts⟩, hE, hS, hA, hP, hD⟩
  refine n_call (wr := [(a0, .inr (15, [.int (0), .int (0), .int (100), .int (0), .int (0), .ref a1, .ref a2, .ref a3, .ref a4, .ref a5, .ref a6, .ref a7, .ref a8, .ref a9, .ref a10, .ref a11, .null, .int (-1), .ref a12, .long (0)]))]) hX (n_runS (n := 3) (wc := []) (As := [.int s1, .int (0), .int (-1)]) (rest := []) hX (m48 l hst dC dI g s1 _) [] rfl (by decide +kernel) q1503 q1504 q82 q1505 (by decide +kernel) ⟨(Nat.le_of_ble_eq_true rfl), (Nat.le_of_ble_eq_true rfl)⟩ ⟨(Nat.le_of_ble_eq_true rfl), (Nat.le_of_ble_eq_true rfl)⟩ hl.1 rfl rfl (Nat.le_of_ble_eq_true rfl) dX16_isJunction_8) [] [0] rfl rfl (by decide +kernel) (by decide +kernel) (fun f1 r2 H locs hP hD hS => ?_)
  have hP : va_P (dC, dI) CL [(a0, .inr (15, [.int (0), .int (0), .int (100), .int (0), .int (0), .ref a1, .ref a2, .ref a3, .ref a4, .ref a5, .ref a6, .ref a7, .ref a8, .ref a9, .ref a10, .ref a11, .null, .int (-1), .ref a12, .long (0)]))] _ := hP
  have hD : va_D A [(a0, .inr (15, [.int (0), .int (0), .int (100), .int (0), .int (0), .ref a1, .ref a2, .ref a3, .ref a4, .ref a5, .ref a6, .ref a7, .ref a8, .ref a9, .ref a10, .ref a11, .null, .int (-1), .ref a12, .long (0)]))] := hD
  refine W.widen (k := 0) (n := 0) (Nat.le_of_ble_eq_true rfl) (Nat.le_of_ble_eq_true rfl) ?_
  refine W.eq (g2 := F0 m 11 ls [.int (0)]) rfl ?_
  refine W.widen (k := 0) (n := 0) (Nat.le_of_ble_eq_true rfl) (Nat.le_of_ble_eq_true rfl) ?_
  exact W.zret hx hb hr (by decide +kernel) (n_end hS hP hD [0] (by decide +kernel) (fun _ => 0) (fun _ => 0) rfl rfl rfl) hS.2.2 dX16_isJunction_11 hlk

set_option maxHeartbeats 4000000 in
set_option maxRecDepth 100000 in
/-- MinestrataModel.addRoad -/
theorem m50 (l : Launch) (hst : l.stackTraces = false) (dC : Nat → ClassId) (dI : Nat → Nat → Nat) (g : Nat → Nat) (a0 a1 a2 a3 a4 a5 a6 a7 a8 a9 a10 a11 a12 : Nat) (s1 s2 s3 : Int32) (sz : Nat) :
    Met l Y27 (Cond.code Y27 prog_14_method_9_code 5 (Option.some Jvm.ClassFile.FieldType.int) :: AW) ({ frames := 2, cells := 0, slots := 0, locals := 43 } : Room) (nP dC dI g [.ref a0, .int s1, .int s2, .int s3, .int (0)] [(a0, .inr (15, [.int (0), .int (0), .int (100), .int (0), .int (0), .ref a1, .ref a2, .ref a3, .ref a4, .ref a5, .ref a6, .ref a7, .ref a8, .ref a9, .ref a10, .ref a11, .null, .int (-1), .ref a12, .long (0)]))] sz) (nQ dC dI (fun f => some (.int (0))) (fun f r => [(a0, .inr (15, [.int (1), .int (0), .int (100), .int (0), .int (0), .ref a1, .ref a2, .ref a3, .ref a4, .ref a5, .ref a6, .ref a7, .ref a8, .ref a9, .ref a10, .ref a11, .null, .int (-1), .ref a12, .long (0)]))]) (va_A [(a0, .inr (15, [.int (0), .int (0), .int (100), .int (0), .int (0), .ref a1, .ref a2, .ref a3, .ref a4, .ref a5, .ref a6, .ref a7, .ref a8, .ref a9, .ref a10, .ref a11, .null, .int (-1), .ref a12, .long (0)]))] sz)) 0 0 (va_A [(a0, .inr (15, [.int (0), .int (0), .int (100), .int (0), .int (0), .ref a1, .ref a2, .ref a3, .ref a4, .ref a5, .ref a6, .ref a7, .ref a8, .ref a9, .ref a10, .ref a11, .null, .int (-1), .ref a12, .long (0)]))] sz) := by
  refine n_met (by decide +kernel) (Nat.le_of_ble_eq_true rfl) (fun f => some (.int (0))) (fun f r => [(a0, .inr (15, [.int (1), .int (0), .int (100), .int (0), .int (0), .ref a1, .ref a2, .ref a3, .ref a4, .ref a5, .ref a6, .ref a7, .ref a8, .ref a9, .ref a10, .ref a11, .null, .int (-1), .ref a12, .long (0)]))]) ?_
  intro p e s m below meth c A ls ⟨hx, hb, hr, hml, hown, hts, hlk, hnm⟩ hE hP hD hA hl
  have hown : s.vm.findClass "MinestrataModel" = some m.cls := hown
  have hK := hE.1
  have hS : va_S A s.heap s.heap [] := va_S.rf
  have hl : lv_has ls 5 [(0, .ref a0), (1, .int s1), (2, .int s2), (3, .int s3), (4, .int (0))] := hl
  refine lv_aload_n hx hb dX16_addRoad_0 rfl (lv_at hl 0 rfl) ?_
  refine lv_iload_n hx hb dX16_addRoad_1 rfl (lv_at hl 1 rfl) ?_
  have hX : nCx p s m _ c prog_14_method_9_code 5 "MinestrataModel" dC dI g A [(a0, .inr (15, [.int (0), .int (0), .int (100), .int (0), .int (0), .ref a1, .ref a2, .ref a3, .ref a4, .ref a5, .ref a6, .ref a7, .ref a8, .ref a9, .ref a10, .ref a11, .null, .int (-1), .ref a12, .long (0)]))] _ _ := ⟨⟨hx, hb, hml, hown, hts⟩, hE, hS, hA, hP, hD⟩
  refine n_call (wr := []) hX (n_runV (n := 1) (wc := [(a0, .inr (15, [.int (0), .int (0), .int (100), .int (0), .int (0), .ref a1, .ref a2, .ref a3, .ref a4, .ref a5, .ref a6, .ref a7, .ref a8, .ref a9, .ref a10, .ref a11, .null, .int (-1), .ref a12, .long (0)]))]) (As := [.int s1]) (rest := []) hX (m49 l hst dC dI g a0 a1 a2 a3 a4 a5 a6 a7 a8 a9 a10 a11 a12 s1 _) [0] rfl (by decide +kernel) 0 (ci := 15) rfl (T := TX16) (N := 20) (C := "MinestrataModel") rfl q1518 q1520 q41 q82 q1521 (by decide +kernel) ⟨(Nat.le_of_ble_eq_true rfl), (Nat.le_of_ble_eq_true rfl)⟩ ⟨(Nat.le_of_ble_eq_true rfl), (Nat.le_of_ble_eq_true rfl)⟩ hl.1 rfl rfl (Nat.le_of_ble_eq_true rfl) dX16_addRoad_2) [0] [] rfl rfl (by decide +kernel) (by decide +kernel) (fun f1 r2 H locs hP hD hS => ?_)
  have hP : va_P (dC, dI) CL [(a0, .inr (15, [.int (0), .int (0), .int (100), .int (0), .int (0), .ref a1, .ref a2, .ref a3, .ref a4, .ref a5, .ref a6, .ref a7, .ref a8, .ref a9, .ref a10, .ref a11, .null, .int (-1), .ref a12, .long (0)]))] _ := hP
  have hD : va_D A [(a0, .inr (15, [.int (0), .int (0), .int (100), .int (0), .int (0), .ref a1, .ref a2, .ref a3, .ref a4, .ref a5, .ref a6, .ref a7, .ref a8, .ref a9, .ref a10, .ref a11, .null, .int (-1), .ref a12, .long (0)]))] := hD
  refine W.widen (k := 0) (n := 0) (Nat.le_of_ble_eq_true rfl) (Nat.le_of_ble_eq_true rfl) ?_
  refine W.eq (g2 := F0 m 5 ls [.int (0)]) rfl ?_
  refine lv_if_eq (tgt := 16) hx hb dX16_addRoad_5 (by decide +kernel) (fun _ => ?_) (fun h => absurd (by decide +kernel) h)
  refine lv_aload_n hx hb dX16_addRoad_16 rfl (lv_at hl 0 rfl) ?_
  refine lv_iconst (v := (1)) hx hb dX16_addRoad_17 (by decide +kernel) ?_
  have hX : nCx p s m _ c prog_14_method_9_code 5 "MinestrataModel" dC dI g A [(a0, .inr (15, [.int (0), .int (0), .int (100), .int (0), .int (0), .ref a1, .ref a2, .ref a3, .ref a4, .ref a5, .ref a6, .ref a7, .ref a8, .ref a9, .ref a10, .ref a11, .null, .int (-1), .ref a12, .long (0)]))] _ _ := ⟨⟨hx, hb, hml, hown, hts⟩, hE, hS, hA, hP, hD⟩
  refine n_call (wr := []) hX (n_runV (n := 1) (wc := [(a0, .inr (15, [.int (0), .int (0), .int (100), .int (0), .int (0), .ref a1, .ref a2, .ref a3, .ref a4, .ref a5, .ref a6, .ref a7, .ref a8, .ref a9, .ref a10, .ref a11, .null, .int (-1), .ref a12, .long (0)]))]) (As := [.int (1)]) (rest := []) hX (m31 l hst dC dI g a0 a1 a2 a3 a4 a5 a6 a7 a8 a9 a10 a11 a12 _) [0] rfl (by decide +kernel) 0 (ci := 15) rfl (T := TX16) (N := 20) (C := "MinestrataModel") rfl q1506 q1508 q39 q82 q1509 (by decide +kernel) ⟨(Nat.le_of_ble_eq_true rfl), (Nat.le_of_ble_eq_true rfl)⟩ ⟨(Nat.le_of_ble_eq_true rfl), (Nat.le_of_ble_eq_true rfl)⟩ hl.1 rfl rfl (Nat.le_of_ble_eq_true rfl) dX16_addRoad_18) [0] [] rfl rfl (by decide +kernel) (by decide +kernel) (fun f3 r4 H locs hP hD hS => ?_)
  have hP : va_P (dC, dI) CL [(a0, .inr (15, [.int (1), .int (0), .int (100), .int (0), .int (0), .ref a1, .ref a2, .ref a3, .ref a4, .ref a5, .ref a6, .ref a7, .ref a8, .ref a9, .ref a10, .ref a11, .null, .int (-1), .ref a12, .long (0)]))] _ := hP
  have hD : va_D A [(a0, .inr (15, [.int (1), .int (0), .int (100), .int (0), .int (0), .ref a1, .ref a2, .ref a3, .ref a4, .ref a5, .ref a6, .ref a7, .ref a8, .ref a9, .ref a10, .ref a11, .null, .int (-1), .ref a12, .long (0)]))] := hD
  refine W.widen (k := 0) (n := 0) (Nat.le_of_ble_eq_true rfl) (Nat.le_of_ble_eq_true rfl) ?_
  refine W.eq (g2 := F0 m 21 ls [.int (0)]) rfl ?_
  refine W.widen (k := 0) (n := 0) (Nat.le_of_ble_eq_true rfl) (Nat.le_of_ble_eq_true rfl) ?_
  exact W.iret hx hb hr (n_end hS hP hD [0] (by decide +kernel) (fun _ => 0) (fun _ => 0) rfl rfl rfl) hS.2.2 dX16_addRoad_21 hlk

set_option maxHeartbeats 4000000 in
set_option maxRecDepth 100000 in
/-- Minestrata.addRoad -/
theorem m51 (l : Launch) (hst : l.stackTraces = false) (dC : Nat → ClassId) (dI : Nat → Nat → Nat) (g : Nat → Nat) (a0 a1 a2 a3 a4 a5 a6 a7 a8 a9 a10 a11 a12 a13 a14 a15 a16 a17 a18 a19 a20 a21 : Nat) (s1 s2 s3 : Int32) (sz : Nat) :
    vx_Met l Y25 (Cond.code Y25 prog_1_method_3_code 5 (Option.some Jvm.ClassFile.FieldType.int) :: AW) ({ frames := 6, cells := 1, slots := 6, locals := 81 } : Room) (nP dC dI g [.ref a0, .int s1, .int s2, .int s3, .int (1)] [(a0, .inr (12, [.ref a1, .ref a2, .ref a3, .ref a4, .ref a5, .ref a6, .ref a7, .ref a8, .null, .ref a9, .ref a10, .int (0), .int (100), .int (0), .int (0), .int (-1), .long (0), .int (1)])), (a1, .inr (8, [.int (0), .ref a11, .ref a12, .ref a13, .ref a14, .int (0), .ref a15, .ref a16, .ref a17, .ref a18, .ref a19, .ref a20, .ref a21]))] sz) (fun _ _ _ _ => False) (nX "java/lang/IndexOutOfBoundsException" (va_A [(a0, .inr (12, [.ref a1, .ref a2, .ref a3, .ref a4, .ref a5, .ref a6, .ref a7, .ref a8, .null, .ref a9, .ref a10, .int (0), .int (100), .int (0), .int (0), .int (-1), .long (0), .int (1)])), (a1, .inr (8, [.int (0), .ref a11, .ref a12, .ref a13, .ref a14, .int (0), .ref a15, .ref a16, .ref a17, .ref a18, .ref a19, .ref a20, .ref a21]))] sz)) 1 6 (va_A [(a0, .inr (12, [.ref a1, .ref a2, .ref a3, .ref a4, .ref a5, .ref a6, .ref a7, .ref a8, .null, .ref a9, .ref a10, .int (0), .int (100), .int (0), .int (0), .int (-1), .long (0), .int (1)])), (a1, .inr (8, [.int (0), .ref a11, .ref a12, .ref a13, .ref a14, .int (0), .ref a15, .ref a16, .ref a17, .ref a18, .ref a19, .ref a20, .ref a21]))] sz) := by
  refine n_metX (by decide +kernel) (Nat.le_of_ble_eq_true rfl) "java/lang/IndexOutOfBoundsException" ?_
  intro p e s m below meth c A ls ⟨hx, hb, hr, hml, hown, hts, hlk, hnm⟩ hout hE hP hD hA hl
  have hown : s.vm.findClass "Minestrata" = some m.cls := hown
  have hK := hE.1
  have hS : va_S A s.heap s.heap [] := va_S.rf
  have hl : lv_has ls 5 [(0, .ref a0), (1, .int s1), (2, .int s2), (3, .int s3), (4, .int (1))] := hl
  have hlsz : ls.size = c.maxLocals := hl.1.trans hml.symm
  refine lv_aload_n hx hb dX11_addRoad_0 rfl (lv_at hl 0 rfl) ?_
  refine va_get (D := (dC, dI)) (ci := 12) (v := .ref a1) (C := "Minestrata") (T := TX11) (N := 18) hx hb hts inX11 hown hK hP 0 rfl rfl 0 (by decide) (hts _ q504) (fun _ h9 => h9) rfl dX11_addRoad_1 ?_
  refine lv_iload_n hx hb dX11_addRoad_4 rfl (lv_at hl 1 rfl) ?_
  have hX : nCx p s m _ c prog_1_method_3_code 5 "Minestrata" dC dI g A [(a0, .inr (12, [.ref a1, .ref a2, .ref a3, .ref a4, .ref a5, .ref a6, .ref a7, .ref a8, .null, .ref a9, .ref a10, .int (0), .int (100), .int (0), .int (0), .int (-1), .long (0), .int (1)])), (a1, .inr (8, [.int (0), .ref a11, .ref a12, .ref a13, .ref a14, .int (0), .ref a15, .ref a16, .ref a17, .ref a18, .ref a19, .ref a20, .ref a21]))] _ _ := ⟨⟨hx, hb, hml, hown, hts⟩, hE, hS, hA, hP, hD⟩
  refine n_call (wr := [(a0, .inr (12, [.ref a1, .ref a2, .ref a3, .ref a4, .ref a5, .ref a6, .ref a7, .ref a8, .null, .ref a9, .ref a10, .int (0), .int (100), .int (0), .int (0), .int (-1), .long (0), .int (1)]))]) hX (n_runV (n := 1) (wc := [(a1, .inr (8, [.int (0), .ref a11, .ref a12, .ref a13, .ref a14, .int (0), .ref a15, .ref a16, .ref a17, .ref a18, .ref a19, .ref a20, .ref a21]))]) (As := [.int s1]) (rest := []) hX (m45 l hst dC dI g a1 a11 a12 a13 a14 a15 a16 a17 a18 a19 a20 a21 s1 _) [1] rfl (by decide +kernel) 1 (ci := 8) rfl (T := TX7) (N := 13) (C := "Minestrata$Net") rfl q944 q945 q946 q72 q947 (by decide +kernel) ⟨(Nat.le_of_ble_eq_true rfl), (Nat.le_of_ble_eq_true rfl)⟩ ⟨(Nat.le_of_ble_eq_true rfl), (Nat.le_of_ble_eq_true rfl)⟩ hl.1 rfl rfl (Nat.le_of_ble_eq_true rfl) dX11_addRoad_5) [1] [0] rfl rfl (by decide +kernel) (by decide +kernel) (fun f1 r2 H locs hP hD hS => ?_)
  have hP : va_P (dC, dI) CL [(a0, .inr (12, [.ref a1, .ref a2, .ref a3, .ref a4, .ref a5, .ref a6, .ref a7, .ref a8, .null, .ref a9, .ref a10, .int (0), .int (100), .int (0), .int (0), .int (-1), .long (0), .int (1)])), (a1, .inr (8, [.int (0), .ref a11, .ref a12, .ref a13, .ref a14, .int (0), .ref a15, .ref a16, .ref a17, .ref a18, .ref a19, .ref a20, .ref a21]))] _ := hP
  have hD : va_D A [(a0, .inr (12, [.ref a1, .ref a2, .ref a3, .ref a4, .ref a5, .ref a6, .ref a7, .ref a8, .null, .ref a9, .ref a10, .int (0), .int (100), .int (0), .int (0), .int (-1), .long (0), .int (1)])), (a1, .inr (8, [.int (0), .ref a11, .ref a12, .ref a13, .ref a14, .int (0), .ref a15, .ref a16, .ref a17, .ref a18, .ref a19, .ref a20, .ref a21]))] := hD
  refine W.widen (k := 0) (n := 0) (Nat.le_of_ble_eq_true rfl) (Nat.le_of_ble_eq_true rfl) ?_
  refine W.eq (g2 := F0 m 8 ls [.int (0)]) rfl ?_
  refine lv_if_eq (tgt := 22) hx hb dX11_addRoad_8 (by decide +kernel) (fun _ => ?_) (fun h => absurd (by decide +kernel) h)
  exact n_throw hx hb hst hown hts hE hS (names := ["java/lang/RuntimeException", "java/lang/Exception"]) (by decide +kernel) (by decide +kernel) q948 q91 hat1p hat1a hat1 hat1g (hl.1.trans hml.symm) dX11_addRoad_22 dX11_addRoad_25 dX11_addRoad_26 dX11_addRoad_29 hout (Nat.le_of_ble_eq_true rfl) (Nat.le_of_ble_eq_true rfl) (Nat.le_of_ble_eq_true rfl) (Nat.le_of_ble_eq_true rfl) hlk (Nat.le_of_ble_eq_true rfl) (Nat.le_of_ble_eq_true rfl)

set_option maxHeartbeats 4000000 in
set_option maxRecDepth 100000 in
/-- MinestrataLaw.addRoad -/
theorem m52 (l : Launch) (hst : l.stackTraces = false) (dC : Nat → ClassId) (dI : Nat → Nat → Nat) (g : Nat → Nat) (a0 a1 a2 a3 a4 a5 a6 a7 a8 a9 a10 a11 a12 a13 a14 a15 a16 a17 a18 a19 a20 a21 a22 : Nat) (s1 s2 s3 : Int32) (sz : Nat) :
    Met l Y24 (Cond.codeWith Y24 method_4_code 7 (Option.some Jvm.ClassFile.FieldType.int) [((0 : Nat), (14 : Nat), (17 : Nat), (21 : Nat)), ((0 : Nat), (14 : Nat), (21 : Nat), (13 : Nat)), ((0 : Nat), (14 : Nat), (25 : Nat), (15 : Nat))] :: AW) ({ frames := 7, cells := 1, slots := 6, locals := 105 } : Room) (nP dC dI g [.ref a0, .int s1, .int s2, .int s3, .int (1), .ref a1] [(a0, .inr (12, [.ref a2, .ref a3, .ref a4, .ref a5, .ref a6, .ref a7, .ref a8, .ref a9, .null, .ref a10, .ref a11, .int (0), .int (100), .int (0), .int (0), .int (-1), .long (0), .int (1)])), (a2, .inr (8, [.int (0), .ref a12, .ref a13, .ref a14, .ref a15, .int (0), .ref a16, .ref a17, .ref a18, .ref a19, .ref a20, .ref a21, .ref a22]))] sz) (nQ dC dI (fun f => some (.int (1))) (fun f r => []) (va_A [(a0, .inr (12, [.ref a2, .ref a3, .ref a4, .ref a5, .ref a6, .ref a7, .ref a8, .ref a9, .null, .ref a10, .ref a11, .int (0), .int (100), .int (0), .int (0), .int (-1), .long (0), .int (1)])), (a2, .inr (8, [.int (0), .ref a12, .ref a13, .ref a14, .ref a15, .int (0), .ref a16, .ref a17, .ref a18, .ref a19, .ref a20, .ref a21, .ref a22]))] sz)) 1 6 (va_A [(a0, .inr (12, [.ref a2, .ref a3, .ref a4, .ref a5, .ref a6, .ref a7, .ref a8, .ref a9, .null, .ref a10, .ref a11, .int (0), .int (100), .int (0), .int (0), .int (-1), .long (0), .int (1)])), (a2, .inr (8, [.int (0), .ref a12, .ref a13, .ref a14, .ref a15, .int (0), .ref a16, .ref a17, .ref a18, .ref a19, .ref a20, .ref a21, .ref a22]))] sz) := by
  refine n_metW (by decide +kernel) q906 (Nat.le_of_ble_eq_true rfl) (fun f => some (.int (1))) (fun f r => []) ?_
  intro p e s m below meth c A ls ⟨hx, hb, hr, hml, hown, hts, hlk, hnm⟩ htab hE hP hD hA hl
  have hown : s.vm.findClass "MinestrataLaw" = some m.cls := hown
  have hK := hE.1
  have hS : va_S A s.heap s.heap [] := va_S.rf
  have hl : lv_has ls 7 [(0, .ref a0), (1, .int s1), (2, .int s2), (3, .int s3), (4, .int (1)), (5, .ref a1)] := hl
  refine lv_aload hx hb dL_addRoad_0 (lv_at hl 5 rfl) ?_
  refine lv_iconst (v := (0)) hx hb dL_addRoad_2 (by decide +kernel) ?_
  refine lv_aload_n hx hb dL_addRoad_3 rfl (lv_at hl 0 rfl) ?_
  refine lv_iload_n hx hb dL_addRoad_4 rfl (lv_at hl 1 rfl) ?_
  refine lv_iload_n hx hb dL_addRoad_5 rfl (lv_at hl 2 rfl) ?_
  refine lv_iload_n hx hb dL_addRoad_6 rfl (lv_at hl 3 rfl) ?_
  refine lv_iload hx hb dL_addRoad_7 (lv_at hl 4 rfl) ?_
  have hX : nCx p s m _ c method_4_code 7 "MinestrataLaw" dC dI g A [(a0, .inr (12, [.ref a2, .ref a3, .ref a4, .ref a5, .ref a6, .ref a7, .ref a8, .ref a9, .null, .ref a10, .ref a11, .int (0), .int (100), .int (0), .int (0), .int (-1), .long (0), .int (1)])), (a2, .inr (8, [.int (0), .ref a12, .ref a13, .ref a14, .ref a15, .int (0), .ref a16, .ref a17, .ref a18, .ref a19, .ref a20, .ref a21, .ref a22]))] _ _ := ⟨⟨hx, hb, hml, hown, hts⟩, hE, hS, hA, hP, hD⟩
  refine n_callX (E0 := "java/lang/IndexOutOfBoundsException") hX (n_runVX (n := 4) (wc := [(a0, .inr (12, [.ref a2, .ref a3, .ref a4, .ref a5, .ref a6, .ref a7, .ref a8, .ref a9, .null, .ref a10, .ref a11, .int (0), .int (100), .int (0), .int (0), .int (-1), .long (0), .int (1)])), (a2, .inr (8, [.int (0), .ref a12, .ref a13, .ref a14, .ref a15, .int (0), .ref a16, .ref a17, .ref a18, .ref a19, .ref a20, .ref a21, .ref a22]))]) (As := [.int s1, .int s2, .int s3, .int (1)]) (rest := [.int (0), .ref a1]) hX (m51 l hst dC dI g a0 a2 a3 a4 a5 a6 a7 a8 a9 a10 a11 a12 a13 a14 a15 a16 a17 a18 a19 a20 a21 a22 s1 s2 s3 _) [0, 1] rfl (by decide +kernel) 0 (ci := 12) rfl (T := TX11) (N := 18) (C := "Minestrata") rfl q940 q941 q942 q71 q943 (by decide +kernel) ⟨(Nat.le_of_ble_eq_true rfl), (Nat.le_of_ble_eq_true rfl)⟩ ⟨(Nat.le_of_ble_eq_true rfl), (Nat.le_of_ble_eq_true rfl)⟩ hl.1 rfl rfl (Nat.le_of_ble_eq_true rfl) dL_addRoad_9) [0, 1] rfl (fun ce q9 H locs hS hce hcv hcl => ?_)
  refine n_catch (E := "java/lang/IndexOutOfBoundsException") (name := "java/lang/IndexOutOfBoundsException") hE hts hown htab [] ⟨0, 14, 17, 21⟩ [⟨0, 14, 21, 13⟩, ⟨0, 14, 25, 15⟩] rfl (fun z hz => nomatch hz) (by decide +kernel) (by decide) q907 x950 hce hcv hcl ?_
  refine W.widen (k := 1) (n := 6) (Nat.le_of_ble_eq_true rfl) (Nat.le_of_ble_eq_true rfl) ?_
  refine W.eq (g2 := F0 m 17 ls [.ref q9]) rfl ?_
  refine lv_astore (lv' := [(6, .ref q9), (0, .ref a0), (1, .int s1), (2, .int s2), (3, .int s3), (4, .int (1)), (5, .ref a1)]) hx hb dL_addRoad_17 hl (by decide) rfl (fun ls hl => ?_)
  refine lv_iconst (v := (1)) hx hb dL_addRoad_19 (by decide +kernel) ?_
  refine W.widen (k := 1) (n := 6) (Nat.le_of_ble_eq_true rfl) (Nat.le_of_ble_eq_true rfl) ?_
  exact W.iret hx hb hr (n_end0 hS (fun _ => 0) rfl rfl) hS.2.2 dL_addRoad_20 hlk

set_option maxHeartbeats 4000000 in
set_option maxRecDepth 100000 in
/-- MinestrataModel.addRoad -/
theorem m53 (l : Launch) (hst : l.stackTraces = false) (dC : Nat → ClassId) (dI : Nat → Nat → Nat) (g : Nat → Nat) (a0 a1 a2 a3 a4 a5 a6 a7 a8 a9 a10 a11 a12 : Nat) (s1 s2 s3 : Int32) (sz : Nat) :
    Met l Y27 (Cond.code Y27 prog_14_method_9_code 5 (Option.some Jvm.ClassFile.FieldType.int) :: AW) ({ frames := 2, cells := 0, slots := 0, locals := 43 } : Room) (nP dC dI g [.ref a0, .int s1, .int s2, .int s3, .int (1)] [(a0, .inr (15, [.int (0), .int (0), .int (100), .int (0), .int (0), .ref a1, .ref a2, .ref a3, .ref a4, .ref a5, .ref a6, .ref a7, .ref a8, .ref a9, .ref a10, .ref a11, .null, .int (-1), .ref a12, .long (0)]))] sz) (nQ dC dI (fun f => some (.int (0))) (fun f r => [(a0, .inr (15, [.int (1), .int (0), .int (100), .int (0), .int (0), .ref a1, .ref a2, .ref a3, .ref a4, .ref a5, .ref a6, .ref a7, .ref a8, .ref a9, .ref a10, .ref a11, .null, .int (-1), .ref a12, .long (0)]))]) (va_A [(a0, .inr (15, [.int (0), .int (0), .int (100), .int (0), .int (0), .ref a1, .ref a2, .ref a3, .ref a4, .ref a5, .ref a6, .ref a7, .ref a8, .ref a9, .ref a10, .ref a11, .null, .int (-1), .ref a12, .long (0)]))] sz)) 0 0 (va_A [(a0, .inr (15, [.int (0), .int (0), .int (100), .int (0), .int (0), .ref a1, .ref a2, .ref a3, .ref a4, .ref a5, .ref a6, .ref a7, .ref a8, .ref a9, .ref a10, .ref a11, .null, .int (-1), .ref a12, .long (0)]))] sz) := by
  refine n_met (by decide +kernel) (Nat.le_of_ble_eq_true rfl) (fun f => some (.int (0))) (fun f r => [(a0, .inr (15, [.int (1), .int (0), .int (100), .int (0), .int (0), .ref a1, .ref a2, .ref a3, .ref a4, .ref a5, .ref a6, .ref a7, .ref a8, .ref a9, .ref a10, .ref a11, .null, .int (-1), .ref a12, .long (0)]))]) ?_
  intro p e s m below meth c A ls ⟨hx, hb, hr, hml, hown, hts, hlk, hnm⟩ hE hP hD hA hl
  have hown : s.vm.findClass "MinestrataModel" = some m.cls := hown
  have hK := hE.1
  have hS : va_S A s.heap s.heap [] := va_S.rf
  have hl : lv_has ls 5 [(0, .ref a0), (1, .int s1), (2, .int s2), (3, .int s3), (4, .int (1))] := hl
  refine lv_aload_n hx hb dX16_addRoad_0 rfl (lv_at hl 0 rfl) ?_
  refine lv_iload_n hx hb dX16_addRoad_1 rfl (lv_at hl 1 rfl) ?_
  have hX : nCx p s m _ c prog_14_method_9_code 5 "MinestrataModel" dC dI g A [(a0, .inr (15, [.int (0), .int (0), .int (100), .int (0), .int (0), .ref a1, .ref a2, .ref a3, .ref a4, .ref a5, .ref a6, .ref a7, .ref a8, .ref a9, .ref a10, .ref a11, .null, .int (-1), .ref a12, .long (0)]))] _ _ := ⟨⟨hx, hb, hml, hown, hts⟩, hE, hS, hA, hP, hD⟩
  refine n_call (wr := []) hX (n_runV (n := 1) (wc := [(a0, .inr (15, [.int (0), .int (0), .int (100), .int (0), .int (0), .ref a1, .ref a2, .ref a3, .ref a4, .ref a5, .ref a6, .ref a7, .ref a8, .ref a9, .ref a10, .ref a11, .null, .int (-1), .ref a12, .long (0)]))]) (As := [.int s1]) (rest := []) hX (m49 l hst dC dI g a0 a1 a2 a3 a4 a5 a6 a7 a8 a9 a10 a11 a12 s1 _) [0] rfl (by decide +kernel) 0 (ci := 15) rfl (T := TX16) (N := 20) (C := "MinestrataModel") rfl q1518 q1520 q41 q82 q1521 (by decide +kernel) ⟨(Nat.le_of_ble_eq_true rfl), (Nat.le_of_ble_eq_true rfl)⟩ ⟨(Nat.le_of_ble_eq_true rfl), (Nat.le_of_ble_eq_true rfl)⟩ hl.1 rfl rfl (Nat.le_of_ble_eq_true rfl) dX16_addRoad_2) [0] [] rfl rfl (by decide +kernel) (by decide +kernel) (fun f1 r2 H locs hP hD hS => ?_)
  have hP : va_P (dC, dI) CL [(a0, .inr (15, [.int (0), .int (0), .int (100), .int (0), .int (0), .ref a1, .ref a2, .ref a3, .ref a4, .ref a5, .ref a6, .ref a7, .ref a8, .ref a9, .ref a10, .ref a11, .null, .int (-1), .ref a12, .long (0)]))] _ := hP
  have hD : va_D A [(a0, .inr (15, [.int (0), .int (0), .int (100), .int (0), .int (0), .ref a1, .ref a2, .ref a3, .ref a4, .ref a5, .ref a6, .ref a7, .ref a8, .ref a9, .ref a10, .ref a11, .null, .int (-1), .ref a12, .long (0)]))] := hD
  refine W.widen (k := 0) (n := 0) (Nat.le_of_ble_eq_true rfl) (Nat.le_of_ble_eq_true rfl) ?_
  refine W.eq (g2 := F0 m 5 ls [.int (0)]) rfl ?_
  refine lv_if_eq (tgt := 16) hx hb dX16_addRoad_5 (by decide +kernel) (fun _ => ?_) (fun h => absurd (by decide +kernel) h)
  refine lv_aload_n hx hb dX16_addRoad_16 rfl (lv_at hl 0 rfl) ?_
  refine lv_iconst (v := (1)) hx hb dX16_addRoad_17 (by decide +kernel) ?_
  have hX : nCx p s m _ c prog_14_method_9_code 5 "MinestrataModel" dC dI g A [(a0, .inr (15, [.int (0), .int (0), .int (100), .int (0), .int (0), .ref a1, .ref a2, .ref a3, .ref a4, .ref a5, .ref a6, .ref a7, .ref a8, .ref a9, .ref a10, .ref a11, .null, .int (-1), .ref a12, .long (0)]))] _ _ := ⟨⟨hx, hb, hml, hown, hts⟩, hE, hS, hA, hP, hD⟩
  refine n_call (wr := []) hX (n_runV (n := 1) (wc := [(a0, .inr (15, [.int (0), .int (0), .int (100), .int (0), .int (0), .ref a1, .ref a2, .ref a3, .ref a4, .ref a5, .ref a6, .ref a7, .ref a8, .ref a9, .ref a10, .ref a11, .null, .int (-1), .ref a12, .long (0)]))]) (As := [.int (1)]) (rest := []) hX (m31 l hst dC dI g a0 a1 a2 a3 a4 a5 a6 a7 a8 a9 a10 a11 a12 _) [0] rfl (by decide +kernel) 0 (ci := 15) rfl (T := TX16) (N := 20) (C := "MinestrataModel") rfl q1506 q1508 q39 q82 q1509 (by decide +kernel) ⟨(Nat.le_of_ble_eq_true rfl), (Nat.le_of_ble_eq_true rfl)⟩ ⟨(Nat.le_of_ble_eq_true rfl), (Nat.le_of_ble_eq_true rfl)⟩ hl.1 rfl rfl (Nat.le_of_ble_eq_true rfl) dX16_addRoad_18) [0] [] rfl rfl (by decide +kernel) (by decide +kernel) (fun f3 r4 H locs hP hD hS => ?_)
  have hP : va_P (dC, dI) CL [(a0, .inr (15, [.int (1), .int (0), .int (100), .int (0), .int (0), .ref a1, .ref a2, .ref a3, .ref a4, .ref a5, .ref a6, .ref a7, .ref a8, .ref a9, .ref a10, .ref a11, .null, .int (-1), .ref a12, .long (0)]))] _ := hP
  have hD : va_D A [(a0, .inr (15, [.int (1), .int (0), .int (100), .int (0), .int (0), .ref a1, .ref a2, .ref a3, .ref a4, .ref a5, .ref a6, .ref a7, .ref a8, .ref a9, .ref a10, .ref a11, .null, .int (-1), .ref a12, .long (0)]))] := hD
  refine W.widen (k := 0) (n := 0) (Nat.le_of_ble_eq_true rfl) (Nat.le_of_ble_eq_true rfl) ?_
  refine W.eq (g2 := F0 m 21 ls [.int (0)]) rfl ?_
  refine W.widen (k := 0) (n := 0) (Nat.le_of_ble_eq_true rfl) (Nat.le_of_ble_eq_true rfl) ?_
  exact W.iret hx hb hr (n_end hS hP hD [0] (by decide +kernel) (fun _ => 0) (fun _ => 0) rfl rfl rfl) hS.2.2 dX16_addRoad_21 hlk

set_option maxHeartbeats 4000000 in
set_option maxRecDepth 100000 in
/-- Minestrata.addStope -/
theorem m54 (l : Launch) (hst : l.stackTraces = false) (dC : Nat → ClassId) (dI : Nat → Nat → Nat) (g : Nat → Nat) (a0 a1 a2 a3 a4 a5 a6 a7 a8 a9 a10 a11 a12 a13 a14 a15 a16 a17 a18 a19 a20 a21 : Nat) (s1 s2 s3 s4 : Int32) (sz : Nat) :
    vx_Met l Y30 (Cond.code Y30 prog_1_method_4_code 5 (Option.some Jvm.ClassFile.FieldType.int) :: AW) ({ frames := 6, cells := 1, slots := 6, locals := 81 } : Room) (nP dC dI g [.ref a0, .int s1, .int s2, .int s3, .int s4] [(a0, .inr (12, [.ref a1, .ref a2, .ref a3, .ref a4, .ref a5, .ref a6, .ref a7, .ref a8, .null, .ref a9, .ref a10, .int (0), .int (100), .int (0), .int (0), .int (-1), .long (0), .int (1)])), (a1, .inr (8, [.int (0), .ref a11, .ref a12, .ref a13, .ref a14, .int (0), .ref a15, .ref a16, .ref a17, .ref a18, .ref a19, .ref a20, .ref a21]))] sz) (fun _ _ _ _ => False) (nX "java/lang/IndexOutOfBoundsException" (va_A [(a0, .inr (12, [.ref a1, .ref a2, .ref a3, .ref a4, .ref a5, .ref a6, .ref a7, .ref a8, .null, .ref a9, .ref a10, .int (0), .int (100), .int (0), .int (0), .int (-1), .long (0), .int (1)])), (a1, .inr (8, [.int (0), .ref a11, .ref a12, .ref a13, .ref a14, .int (0), .ref a15, .ref a16, .ref a17, .ref a18, .ref a19, .ref a20, .ref a21]))] sz)) 1 6 (va_A [(a0, .inr (12, [.ref a1, .ref a2, .ref a3, .ref a4, .ref a5, .ref a6, .ref a7, .ref a8, .null, .ref a9, .ref a10, .int (0), .int (100), .int (0), .int (0), .int (-1), .long (0), .int (1)])), (a1, .inr (8, [.int (0), .ref a11, .ref a12, .ref a13, .ref a14, .int (0), .ref a15, .ref a16, .ref a17, .ref a18, .ref a19, .ref a20, .ref a21]))] sz) := by
  refine n_metX (by decide +kernel) (Nat.le_of_ble_eq_true rfl) "java/lang/IndexOutOfBoundsException" ?_
  intro p e s m below meth c A ls ⟨hx, hb, hr, hml, hown, hts, hlk, hnm⟩ hout hE hP hD hA hl
  have hown : s.vm.findClass "Minestrata" = some m.cls := hown
  have hK := hE.1
  have hS : va_S A s.heap s.heap [] := va_S.rf
  have hl : lv_has ls 5 [(0, .ref a0), (1, .int s1), (2, .int s2), (3, .int s3), (4, .int s4)] := hl
  have hlsz : ls.size = c.maxLocals := hl.1.trans hml.symm
  refine lv_aload_n hx hb dX11_addStope_0 rfl (lv_at hl 0 rfl) ?_
  refine va_get (D := (dC, dI)) (ci := 12) (v := .ref a1) (C := "Minestrata") (T := TX11) (N := 18) hx hb hts inX11 hown hK hP 0 rfl rfl 0 (by decide) (hts _ q504) (fun _ h9 => h9) rfl dX11_addStope_1 ?_
  refine lv_iload_n hx hb dX11_addStope_4 rfl (lv_at hl 1 rfl) ?_
  have hX : nCx p s m _ c prog_1_method_4_code 5 "Minestrata" dC dI g A [(a0, .inr (12, [.ref a1, .ref a2, .ref a3, .ref a4, .ref a5, .ref a6, .ref a7, .ref a8, .null, .ref a9, .ref a10, .int (0), .int (100), .int (0), .int (0), .int (-1), .long (0), .int (1)])), (a1, .inr (8, [.int (0), .ref a11, .ref a12, .ref a13, .ref a14, .int (0), .ref a15, .ref a16, .ref a17, .ref a18, .ref a19, .ref a20, .ref a21]))] _ _ := ⟨⟨hx, hb, hml, hown, hts⟩, hE, hS, hA, hP, hD⟩
  refine n_call (wr := [(a0, .inr (12, [.ref a1, .ref a2, .ref a3, .ref a4, .ref a5, .ref a6, .ref a7, .ref a8, .null, .ref a9, .ref a10, .int (0), .int (100), .int (0), .int (0), .int (-1), .long (0), .int (1)]))]) hX (n_runV (n := 1) (wc := [(a1, .inr (8, [.int (0), .ref a11, .ref a12, .ref a13, .ref a14, .int (0), .ref a15, .ref a16, .ref a17, .ref a18, .ref a19, .ref a20, .ref a21]))]) (As := [.int s1]) (rest := []) hX (m45 l hst dC dI g a1 a11 a12 a13 a14 a15 a16 a17 a18 a19 a20 a21 s1 _) [1] rfl (by decide +kernel) 1 (ci := 8) rfl (T := TX7) (N := 13) (C := "Minestrata$Net") rfl q944 q945 q946 q72 q947 (by decide +kernel) ⟨(Nat.le_of_ble_eq_true rfl), (Nat.le_of_ble_eq_true rfl)⟩ ⟨(Nat.le_of_ble_eq_true rfl), (Nat.le_of_ble_eq_true rfl)⟩ hl.1 rfl rfl (Nat.le_of_ble_eq_true rfl) dX11_addStope_5) [1] [0] rfl rfl (by decide +kernel) (by decide +kernel) (fun f1 r2 H locs hP hD hS => ?_)
  have hP : va_P (dC, dI) CL [(a0, .inr (12, [.ref a1, .ref a2, .ref a3, .ref a4, .ref a5, .ref a6, .ref a7, .ref a8, .null, .ref a9, .ref a10, .int (0), .int (100), .int (0), .int (0), .int (-1), .long (0), .int (1)])), (a1, .inr (8, [.int (0), .ref a11, .ref a12, .ref a13, .ref a14, .int (0), .ref a15, .ref a16, .ref a17, .ref a18, .ref a19, .ref a20, .ref a21]))] _ := hP
  have hD : va_D A [(a0, .inr (12, [.ref a1, .ref a2, .ref a3, .ref a4, .ref a5, .ref a6, .ref a7, .ref a8, .null, .ref a9, .ref a10, .int (0), .int (100), .int (0), .int (0), .int (-1), .long (0), .int (1)])), (a1, .inr (8, [.int (0), .ref a11, .ref a12, .ref a13, .ref a14, .int (0), .ref a15, .ref a16, .ref a17, .ref a18, .ref a19, .ref a20, .ref a21]))] := hD
  refine W.widen (k := 0) (n := 0) (Nat.le_of_ble_eq_true rfl) (Nat.le_of_ble_eq_true rfl) ?_
  refine W.eq (g2 := F0 m 8 ls [.int (0)]) rfl ?_
  refine lv_if_ne (tgt := 19) hx hb dX11_addStope_8 (by decide +kernel) (fun h => absurd (by decide +kernel) h) (fun _ => ?_)
  exact n_throw hx hb hst hown hts hE hS (names := ["java/lang/RuntimeException", "java/lang/Exception"]) (by decide +kernel) (by decide +kernel) q948 q91 hat1p hat1a hat1 hat1g (hl.1.trans hml.symm) dX11_addStope_11 dX11_addStope_14 dX11_addStope_15 dX11_addStope_18 hout (Nat.le_of_ble_eq_true rfl) (Nat.le_of_ble_eq_true rfl) (Nat.le_of_ble_eq_true rfl) (Nat.le_of_ble_eq_true rfl) hlk (Nat.le_of_ble_eq_true rfl) (Nat.le_of_ble_eq_true rfl)

set_option maxHeartbeats 4000000 in
set_option maxRecDepth 100000 in
/-- MinestrataLaw.addStope -/
theorem m55 (l : Launch) (hst : l.stackTraces = false) (dC : Nat → ClassId) (dI : Nat → Nat → Nat) (g : Nat → Nat) (a0 a1 a2 a3 a4 a5 a6 a7 a8 a9 a10 a11 a12 a13 a14 a15 a16 a17 a18 a19 a20 a21 a22 : Nat) (s1 s2 s3 s4 : Int32) (sz : Nat) :
    Met l Y29 (Cond.codeWith Y29 method_5_code 7 (Option.some Jvm.ClassFile.FieldType.int) [((0 : Nat), (14 : Nat), (17 : Nat), (21 : Nat)), ((0 : Nat), (14 : Nat), (21 : Nat), (13 : Nat)), ((0 : Nat), (14 : Nat), (25 : Nat), (15 : Nat))] :: AW) ({ frames := 7, cells := 1, slots := 6, locals := 105 } : Room) (nP dC dI g [.ref a0, .int s1, .int s2, .int s3, .int s4, .ref a1] [(a0, .inr (12, [.ref a2, .ref a3, .ref a4, .ref a5, .ref a6, .ref a7, .ref a8, .ref a9, .null, .ref a10, .ref a11, .int (0), .int (100), .int (0), .int (0), .int (-1), .long (0), .int (1)])), (a2, .inr (8, [.int (0), .ref a12, .ref a13, .ref a14, .ref a15, .int (0), .ref a16, .ref a17, .ref a18, .ref a19, .ref a20, .ref a21, .ref a22]))] sz) (nQ dC dI (fun f => some (.int (1))) (fun f r => []) (va_A [(a0, .inr (12, [.ref a2, .ref a3, .ref a4, .ref a5, .ref a6, .ref a7, .ref a8, .ref a9, .null, .ref a10, .ref a11, .int (0), .int (100), .int (0), .int (0), .int (-1), .long (0), .int (1)])), (a2, .inr (8, [.int (0), .ref a12, .ref a13, .ref a14, .ref a15, .int (0), .ref a16, .ref a17, .ref a18, .ref a19, .ref a20, .ref a21, .ref a22]))] sz)) 1 6 (va_A [(a0, .inr (12, [.ref a2, .ref a3, .ref a4, .ref a5, .ref a6, .ref a7, .ref a8, .ref a9, .null, .ref a10, .ref a11, .int (0), .int (100), .int (0), .int (0), .int (-1), .long (0), .int (1)])), (a2, .inr (8, [.int (0), .ref a12, .ref a13, .ref a14, .ref a15, .int (0), .ref a16, .ref a17, .ref a18, .ref a19, .ref a20, .ref a21, .ref a22]))] sz) := by
  refine n_metW (by decide +kernel) q969 (Nat.le_of_ble_eq_true rfl) (fun f => some (.int (1))) (fun f r => []) ?_
  intro p e s m below meth c A ls ⟨hx, hb, hr, hml, hown, hts, hlk, hnm⟩ htab hE hP hD hA hl
  have hown : s.vm.findClass "MinestrataLaw" = some m.cls := hown
  have hK := hE.1
  have hS : va_S A s.heap s.heap [] := va_S.rf
  have hl : lv_has ls 7 [(0, .ref a0), (1, .int s1), (2, .int s2), (3, .int s3), (4, .int s4), (5, .ref a1)] := hl
  refine lv_aload hx hb dL_addStope_0 (lv_at hl 5 rfl) ?_
  refine lv_iconst (v := (0)) hx hb dL_addStope_2 (by decide +kernel) ?_
  refine lv_aload_n hx hb dL_addStope_3 rfl (lv_at hl 0 rfl) ?_
  refine lv_iload_n hx hb dL_addStope_4 rfl (lv_at hl 1 rfl) ?_
  refine lv_iload_n hx hb dL_addStope_5 rfl (lv_at hl 2 rfl) ?_
  refine lv_iload_n hx hb dL_addStope_6 rfl (lv_at hl 3 rfl) ?_
  refine lv_iload hx hb dL_addStope_7 (lv_at hl 4 rfl) ?_
  have hX : nCx p s m _ c method_5_code 7 "MinestrataLaw" dC dI g A [(a0, .inr (12, [.ref a2, .ref a3, .ref a4, .ref a5, .ref a6, .ref a7, .ref a8, .ref a9, .null, .ref a10, .ref a11, .int (0), .int (100), .int (0), .int (0), .int (-1), .long (0), .int (1)])), (a2, .inr (8, [.int (0), .ref a12, .ref a13, .ref a14, .ref a15, .int (0), .ref a16, .ref a17, .ref a18, .ref a19, .ref a20, .ref a21, .ref a22]))] _ _ := ⟨⟨hx, hb, hml, hown, hts⟩, hE, hS, hA, hP, hD⟩
  refine n_callX (E0 := "java/lang/IndexOutOfBoundsException") hX (n_runVX (n := 4) (wc := [(a0, .inr (12, [.ref a2, .ref a3, .ref a4, .ref a5, .ref a6, .ref a7, .ref a8, .ref a9, .null, .ref a10, .ref a11, .int (0), .int (100), .int (0), .int (0), .int (-1), .long (0), .int (1)])), (a2, .inr (8, [.int (0), .ref a12, .ref a13, .ref a14, .ref a15, .int (0), .ref a16, .ref a17, .ref a18, .ref a19, .ref a20, .ref a21, .ref a22]))]) (As := [.int s1, .int s2, .int s3, .int s4]) (rest := [.int (0), .ref a1]) hX (m54 l hst dC dI g a0 a2 a3 a4 a5 a6 a7 a8 a9 a10 a11 a12 a13 a14 a15 a16 a17 a18 a19 a20 a21 a22 s1 s2 s3 s4 _) [0, 1] rfl (by decide +kernel) 0 (ci := 12) rfl (T := TX11) (N := 18) (C := "Minestrata") rfl q970 q971 q972 q71 q973 (by decide +kernel) ⟨(Nat.le_of_ble_eq_true rfl), (Nat.le_of_ble_eq_true rfl)⟩ ⟨(Nat.le_of_ble_eq_true rfl), (Nat.le_of_ble_eq_true rfl)⟩ hl.1 rfl rfl (Nat.le_of_ble_eq_true rfl) dL_addStope_9) [0, 1] rfl (fun ce q9 H locs hS hce hcv hcl => ?_)
  refine n_catch (E := "java/lang/IndexOutOfBoundsException") (name := "java/lang/IndexOutOfBoundsException") hE hts hown htab [] ⟨0, 14, 17, 21⟩ [⟨0, 14, 21, 13⟩, ⟨0, 14, 25, 15⟩] rfl (fun z hz => nomatch hz) (by decide +kernel) (by decide) q907 x950 hce hcv hcl ?_
  refine W.widen (k := 1) (n := 6) (Nat.le_of_ble_eq_true rfl) (Nat.le_of_ble_eq_true rfl) ?_
  refine W.eq (g2 := F0 m 17 ls [.ref q9]) rfl ?_
  refine lv_astore (lv' := [(6, .ref q9), (0, .ref a0), (1, .int s1), (2, .int s2), (3, .int s3), (4, .int s4), (5, .ref a1)]) hx hb dL_addStope_17 hl (by decide) rfl (fun ls hl => ?_)
  refine lv_iconst (v := (1)) hx hb dL_addStope_19 (by decide +kernel) ?_
  refine W.widen (k := 1) (n := 6) (Nat.le_of_ble_eq_true rfl) (Nat.le_of_ble_eq_true rfl) ?_
  exact W.iret hx hb hr (n_end0 hS (fun _ => 0) rfl rfl) hS.2.2 dL_addStope_20 hlk

set_option maxHeartbeats 4000000 in
set_option maxRecDepth 100000 in
/-- MinestrataModel.addStope -/
theorem m56 (l : Launch) (hst : l.stackTraces = false) (dC : Nat → ClassId) (dI : Nat → Nat → Nat) (g : Nat → Nat) (a0 a1 a2 a3 a4 a5 a6 a7 a8 a9 a10 a11 a12 : Nat) (s1 s2 s3 s4 : Int32) (sz : Nat) :
    Met l Y31 (Cond.code Y31 prog_14_method_11_code 5 (Option.some Jvm.ClassFile.FieldType.int) :: AW) ({ frames := 2, cells := 0, slots := 0, locals := 43 } : Room) (nP dC dI g [.ref a0, .int s1, .int s2, .int s3, .int s4] [(a0, .inr (15, [.int (0), .int (0), .int (100), .int (0), .int (0), .ref a1, .ref a2, .ref a3, .ref a4, .ref a5, .ref a6, .ref a7, .ref a8, .ref a9, .ref a10, .ref a11, .null, .int (-1), .ref a12, .long (0)]))] sz) (nQ dC dI (fun f => some (.int (0))) (fun f r => [(a0, .inr (15, [.int (1), .int (0), .int (100), .int (0), .int (0), .ref a1, .ref a2, .ref a3, .ref a4, .ref a5, .ref a6, .ref a7, .ref a8, .ref a9, .ref a10, .ref a11, .null, .int (-1), .ref a12, .long (0)]))]) (va_A [(a0, .inr (15, [.int (0), .int (0), .int (100), .int (0), .int (0), .ref a1, .ref a2, .ref a3, .ref a4, .ref a5, .ref a6, .ref a7, .ref a8, .ref a9, .ref a10, .ref a11, .null, .int (-1), .ref a12, .long (0)]))] sz)) 0 0 (va_A [(a0, .inr (15, [.int (0), .int (0), .int (100), .int (0), .int (0), .ref a1, .ref a2, .ref a3, .ref a4, .ref a5, .ref a6, .ref a7, .ref a8, .ref a9, .ref a10, .ref a11, .null, .int (-1), .ref a12, .long (0)]))] sz) := by
  refine n_met (by decide +kernel) (Nat.le_of_ble_eq_true rfl) (fun f => some (.int (0))) (fun f r => [(a0, .inr (15, [.int (1), .int (0), .int (100), .int (0), .int (0), .ref a1, .ref a2, .ref a3, .ref a4, .ref a5, .ref a6, .ref a7, .ref a8, .ref a9, .ref a10, .ref a11, .null, .int (-1), .ref a12, .long (0)]))]) ?_
  intro p e s m below meth c A ls ⟨hx, hb, hr, hml, hown, hts, hlk, hnm⟩ hE hP hD hA hl
  have hown : s.vm.findClass "MinestrataModel" = some m.cls := hown
  have hK := hE.1
  have hS : va_S A s.heap s.heap [] := va_S.rf
  have hl : lv_has ls 5 [(0, .ref a0), (1, .int s1), (2, .int s2), (3, .int s3), (4, .int s4)] := hl
  refine lv_aload_n hx hb dX16_addStope_0 rfl (lv_at hl 0 rfl) ?_
  refine lv_iload_n hx hb dX16_addStope_1 rfl (lv_at hl 1 rfl) ?_
  have hX : nCx p s m _ c prog_14_method_11_code 5 "MinestrataModel" dC dI g A [(a0, .inr (15, [.int (0), .int (0), .int (100), .int (0), .int (0), .ref a1, .ref a2, .ref a3, .ref a4, .ref a5, .ref a6, .ref a7, .ref a8, .ref a9, .ref a10, .ref a11, .null, .int (-1), .ref a12, .long (0)]))] _ _ := ⟨⟨hx, hb, hml, hown, hts⟩, hE, hS, hA, hP, hD⟩
  refine n_call (wr := []) hX (n_runV (n := 1) (wc := [(a0, .inr (15, [.int (0), .int (0), .int (100), .int (0), .int (0), .ref a1, .ref a2, .ref a3, .ref a4, .ref a5, .ref a6, .ref a7, .ref a8, .ref a9, .ref a10, .ref a11, .null, .int (-1), .ref a12, .long (0)]))]) (As := [.int s1]) (rest := []) hX (m49 l hst dC dI g a0 a1 a2 a3 a4 a5 a6 a7 a8 a9 a10 a11 a12 s1 _) [0] rfl (by decide +kernel) 0 (ci := 15) rfl (T := TX16) (N := 20) (C := "MinestrataModel") rfl q1518 q1520 q41 q82 q1521 (by decide +kernel) ⟨(Nat.le_of_ble_eq_true rfl), (Nat.le_of_ble_eq_true rfl)⟩ ⟨(Nat.le_of_ble_eq_true rfl), (Nat.le_of_ble_eq_true rfl)⟩ hl.1 rfl rfl (Nat.le_of_ble_eq_true rfl) dX16_addStope_2) [0] [] rfl rfl (by decide +kernel) (by decide +kernel) (fun f1 r2 H locs hP hD hS => ?_)
  have hP : va_P (dC, dI) CL [(a0, .inr (15, [.int (0), .int (0), .int (100), .int (0), .int (0), .ref a1, .ref a2, .ref a3, .ref a4, .ref a5, .ref a6, .ref a7, .ref a8, .ref a9, .ref a10, .ref a11, .null, .int (-1), .ref a12, .long (0)]))] _ := hP
  have hD : va_D A [(a0, .inr (15, [.int (0), .int (0), .int (100), .int (0), .int (0), .ref a1, .ref a2, .ref a3, .ref a4, .ref a5, .ref a6, .ref a7, .ref a8, .ref a9, .ref a10, .ref a11, .null, .int (-1), .ref a12, .long (0)]))] := hD
  refine W.widen (k := 0) (n := 0) (Nat.le_of_ble_eq_true rfl) (Nat.le_of_ble_eq_true rfl) ?_
  refine W.eq (g2 := F0 m 5 ls [.int (0)]) rfl ?_
  refine lv_if_ne (tgt := 14) hx hb dX16_addStope_5 (by decide +kernel) (fun h => absurd (by decide +kernel) h) (fun _ => ?_)
  refine lv_aload_n hx hb dX16_addStope_8 rfl (lv_at hl 0 rfl) ?_
  refine lv_iconst (v := (1)) hx hb dX16_addStope_9 (by decide +kernel) ?_
  have hX : nCx p s m _ c prog_14_method_11_code 5 "MinestrataModel" dC dI g A [(a0, .inr (15, [.int (0), .int (0), .int (100), .int (0), .int (0), .ref a1, .ref a2, .ref a3, .ref a4, .ref a5, .ref a6, .ref a7, .ref a8, .ref a9, .ref a10, .ref a11, .null, .int (-1), .ref a12, .long (0)]))] _ _ := ⟨⟨hx, hb, hml, hown, hts⟩, hE, hS, hA, hP, hD⟩
  refine n_call (wr := []) hX (n_runV (n := 1) (wc := [(a0, .inr (15, [.int (0), .int (0), .int (100), .int (0), .int (0), .ref a1, .ref a2, .ref a3, .ref a4, .ref a5, .ref a6, .ref a7, .ref a8, .ref a9, .ref a10, .ref a11, .null, .int (-1), .ref a12, .long (0)]))]) (As := [.int (1)]) (rest := []) hX (m31 l hst dC dI g a0 a1 a2 a3 a4 a5 a6 a7 a8 a9 a10 a11 a12 _) [0] rfl (by decide +kernel) 0 (ci := 15) rfl (T := TX16) (N := 20) (C := "MinestrataModel") rfl q1506 q1508 q39 q82 q1509 (by decide +kernel) ⟨(Nat.le_of_ble_eq_true rfl), (Nat.le_of_ble_eq_true rfl)⟩ ⟨(Nat.le_of_ble_eq_true rfl), (Nat.le_of_ble_eq_true rfl)⟩ hl.1 rfl rfl (Nat.le_of_ble_eq_true rfl) dX16_addStope_10) [0] [] rfl rfl (by decide +kernel) (by decide +kernel) (fun f3 r4 H locs hP hD hS => ?_)
  have hP : va_P (dC, dI) CL [(a0, .inr (15, [.int (1), .int (0), .int (100), .int (0), .int (0), .ref a1, .ref a2, .ref a3, .ref a4, .ref a5, .ref a6, .ref a7, .ref a8, .ref a9, .ref a10, .ref a11, .null, .int (-1), .ref a12, .long (0)]))] _ := hP
  have hD : va_D A [(a0, .inr (15, [.int (1), .int (0), .int (100), .int (0), .int (0), .ref a1, .ref a2, .ref a3, .ref a4, .ref a5, .ref a6, .ref a7, .ref a8, .ref a9, .ref a10, .ref a11, .null, .int (-1), .ref a12, .long (0)]))] := hD
  refine W.widen (k := 0) (n := 0) (Nat.le_of_ble_eq_true rfl) (Nat.le_of_ble_eq_true rfl) ?_
  refine W.eq (g2 := F0 m 13 ls [.int (0)]) rfl ?_
  refine W.widen (k := 0) (n := 0) (Nat.le_of_ble_eq_true rfl) (Nat.le_of_ble_eq_true rfl) ?_
  exact W.iret hx hb hr (n_end hS hP hD [0] (by decide +kernel) (fun _ => 0) (fun _ => 0) rfl rfl rfl) hS.2.2 dX16_addStope_13 hlk

set_option maxHeartbeats 4000000 in
set_option maxRecDepth 100000 in
/-- Minestrata$Stopes.has -/
theorem m57 (l : Launch) (hst : l.stackTraces = false) (dC : Nat → ClassId) (dI : Nat → Nat → Nat) (g : Nat → Nat) (a0 a1 a2 a3 a4 a5 a6 a7 a8 a9 : Nat) (s1 : Int32) (sz : Nat) :
    Met l Y34 (Cond.code Y34 prog_12_method_2_code 2 (Option.some Jvm.ClassFile.FieldType.boolean) :: AW) ({ frames := 0, cells := 0, slots := 0, locals := 0 } : Room) (nP dC dI g [.ref a0, .int s1] [(a0, .inr (11, [.int (0), .ref a1, .ref a2, .ref a3, .ref a4, .ref a5, .ref a6, .ref a7, .ref a8, .ref a9]))] sz) (nQ dC dI (fun f => some (.int (0))) (fun f r => [(a0, .inr (11, [.int (0), .ref a1, .ref a2, .ref a3, .ref a4, .ref a5, .ref a6, .ref a7, .ref a8, .ref a9]))]) (va_A [(a0, .inr (11, [.int (0), .ref a1, .ref a2, .ref a3, .ref a4, .ref a5, .ref a6, .ref a7, .ref a8, .ref a9]))] sz)) 0 0 (va_A [(a0, .inr (11, [.int (0), .ref a1, .ref a2, .ref a3, .ref a4, .ref a5, .ref a6, .ref a7, .ref a8, .ref a9]))] sz) := by
  refine n_met (by decide +kernel) (Nat.le_of_ble_eq_true rfl) (fun f => some (.int (0))) (fun f r => [(a0, .inr (11, [.int (0), .ref a1, .ref a2, .ref a3, .ref a4, .ref a5, .ref a6, .ref a7, .ref a8, .ref a9]))]) ?_
  intro p e s m below meth c A ls ⟨hx, hb, hr, hml, hown, hts, hlk, hnm⟩ hE hP hD hA hl
  have hown : s.vm.findClass "Minestrata$Stopes" = some m.cls := hown
  have hK := hE.1
  have hS : va_S A s.heap s.heap [] := va_S.rf
  have hl : lv_has ls 2 [(0, .ref a0), (1, .int s1)] := hl
  refine lv_iload_n hx hb dX10_has_0 rfl (lv_at hl 1 rfl) ?_
  refine lv_if_lt (tgt := 16) hx hb dX10_has_1 (by decide +kernel) (fun h1 => ?_) (fun h1 => ?_)
  · skip
    refine lv_iconst (v := (0)) hx hb dX10_has_16 (by decide +kernel) ?_
    refine W.widen (k := 0) (n := 0) (Nat.le_of_ble_eq_true rfl) (Nat.le_of_ble_eq_true rfl) ?_
    exact W.zret hx hb hr (by decide +kernel) (n_end hS hP hD [0] (by decide +kernel) (fun _ => 0) (fun _ => 0) rfl rfl rfl) hS.2.2 dX10_has_17 hlk
  · skip
    refine lv_iload_n hx hb dX10_has_4 rfl (lv_at hl 1 rfl) ?_
    refine lv_aload_n hx hb dX10_has_5 rfl (lv_at hl 0 rfl) ?_
    refine va_get (D := (dC, dI)) (ci := 11) (v := .int (0)) (C := "Minestrata$Stopes") (T := TX10) (N := 10) hx hb hts inX10 hown hK hP 0 rfl rfl 0 (by decide) (hts _ q208) (fun _ h9 => h9) rfl dX10_has_6 ?_
    refine lv_icmp_ge (tgt := 16) hx hb dX10_has_9 (by decide +kernel) (fun _ => ?_) (fun h => absurd (show (0) ≤ s1 by have z0 := h1; simp only [n_lt, n_le, n_eq, show ((0) : Int32).toInt = 0 from rfl] at z0 ⊢; omega) h)
    refine lv_iconst (v := (0)) hx hb dX10_has_16 (by decide +kernel) ?_
    refine W.widen (k := 0) (n := 0) (Nat.le_of_ble_eq_true rfl) (Nat.le_of_ble_eq_true rfl) ?_
    exact W.zret hx hb hr (by decide +kernel) (n_end hS hP hD [0] (by decide +kernel) (fun _ => 0) (fun _ => 0) rfl rfl rfl) hS.2.2 dX10_has_17 hlk

set_option maxHeartbeats 4000000 in
set_option maxRecDepth 100000 in
/-- Minestrata.join -/
theorem m58 (l : Launch) (hst : l.stackTraces = false) (dC : Nat → ClassId) (dI : Nat → Nat → Nat) (g : Nat → Nat) (a0 a1 a2 a3 a4 a5 a6 a7 a8 a9 a10 a11 a12 a13 a14 a15 a16 a17 a18 a19 : Nat) (s1 s2 : Int32) (sz : Nat) :
    vx_Met l Y33 (Cond.code Y33 prog_1_method_5_code 3 (Option.some Jvm.ClassFile.FieldType.boolean) :: AW) ({ frames := 6, cells := 1, slots := 6, locals := 81 } : Room) (nP dC dI g [.ref a0, .int s1, .int s2] [(a0, .inr (12, [.ref a1, .ref a2, .ref a3, .ref a4, .ref a5, .ref a6, .ref a7, .ref a8, .null, .ref a9, .ref a10, .int (0), .int (100), .int (0), .int (0), .int (-1), .long (0), .int (1)])), (a3, .inr (11, [.int (0), .ref a11, .ref a12, .ref a13, .ref a14, .ref a15, .ref a16, .ref a17, .ref a18, .ref a19]))] sz) (fun _ _ _ _ => False) (nX "java/lang/IndexOutOfBoundsException" (va_A [(a0, .inr (12, [.ref a1, .ref a2, .ref a3, .ref a4, .ref a5, .ref a6, .ref a7, .ref a8, .null, .ref a9, .ref a10, .int (0), .int (100), .int (0), .int (0), .int (-1), .long (0), .int (1)])), (a3, .inr (11, [.int (0), .ref a11, .ref a12, .ref a13, .ref a14, .ref a15, .ref a16, .ref a17, .ref a18, .ref a19]))] sz)) 1 6 (va_A [(a0, .inr (12, [.ref a1, .ref a2, .ref a3, .ref a4, .ref a5, .ref a6, .ref a7, .ref a8, .null, .ref a9, .ref a10, .int (0), .int (100), .int (0), .int (0), .int (-1), .long (0), .int (1)])), (a3, .inr (11, [.int (0), .ref a11, .ref a12, .ref a13, .ref a14, .ref a15, .ref a16, .ref a17, .ref a18, .ref a19]))] sz) := by
  refine n_metX (by decide +kernel) (Nat.le_of_ble_eq_true rfl) "java/lang/IndexOutOfBoundsException" ?_
  intro p e s m below meth c A ls ⟨hx, hb, hr, hml, hown, hts, hlk, hnm⟩ hout hE hP hD hA hl
  have hown : s.vm.findClass "Minestrata" = some m.cls := hown
  have hK := hE.1
  have hS : va_S A s.heap s.heap [] := va_S.rf
  have hl : lv_has ls 3 [(0, .ref a0), (1, .int s1), (2, .int s2)] := hl
  have hlsz : ls.size = c.maxLocals := hl.1.trans hml.symm
  refine lv_aload_n hx hb dX11_join_0 rfl (lv_at hl 0 rfl) ?_
  refine va_get (D := (dC, dI)) (ci := 12) (v := .ref a3) (C := "Minestrata") (T := TX11) (N := 18) hx hb hts inX11 hown hK hP 0 rfl rfl 2 (by decide) (hts _ q506) (fun _ h9 => h9) rfl dX11_join_1 ?_
  refine lv_iload_n hx hb dX11_join_4 rfl (lv_at hl 1 rfl) ?_
  have hX : nCx p s m _ c prog_1_method_5_code 3 "Minestrata" dC dI g A [(a0, .inr (12, [.ref a1, .ref a2, .ref a3, .ref a4, .ref a5, .ref a6, .ref a7, .ref a8, .null, .ref a9, .ref a10, .int (0), .int (100), .int (0), .int (0), .int (-1), .long (0), .int (1)])), (a3, .inr (11, [.int (0), .ref a11, .ref a12, .ref a13, .ref a14, .ref a15, .ref a16, .ref a17, .ref a18, .ref a19]))] _ _ := ⟨⟨hx, hb, hml, hown, hts⟩, hE, hS, hA, hP, hD⟩
  refine n_call (wr := [(a0, .inr (12, [.ref a1, .ref a2, .ref a3, .ref a4, .ref a5, .ref a6, .ref a7, .ref a8, .null, .ref a9, .ref a10, .int (0), .int (100), .int (0), .int (0), .int (-1), .long (0), .int (1)]))]) hX (n_runV (n := 1) (wc := [(a3, .inr (11, [.int (0), .ref a11, .ref a12, .ref a13, .ref a14, .ref a15, .ref a16, .ref a17, .ref a18, .ref a19]))]) (As := [.int s1]) (rest := []) hX (m57 l hst dC dI g a3 a11 a12 a13 a14 a15 a16 a17 a18 a19 s1 _) [1] rfl (by decide +kernel) 1 (ci := 11) rfl (T := TX10) (N := 10) (C := "Minestrata$Stopes") rfl q985 q986 q987 q73 q988 (by decide +kernel) ⟨(Nat.le_of_ble_eq_true rfl), (Nat.le_of_ble_eq_true rfl)⟩ ⟨(Nat.le_of_ble_eq_true rfl), (Nat.le_of_ble_eq_true rfl)⟩ hl.1 rfl rfl (Nat.le_of_ble_eq_true rfl) dX11_join_5) [1] [0] rfl rfl (by decide +kernel) (by decide +kernel) (fun f1 r2 H locs hP hD hS => ?_)
  have hP : va_P (dC, dI) CL [(a0, .inr (12, [.ref a1, .ref a2, .ref a3, .ref a4, .ref a5, .ref a6, .ref a7, .ref a8, .null, .ref a9, .ref a10, .int (0), .int (100), .int (0), .int (0), .int (-1), .long (0), .int (1)])), (a3, .inr (11, [.int (0), .ref a11, .ref a12, .ref a13, .ref a14, .ref a15, .ref a16, .ref a17, .ref a18, .ref a19]))] _ := hP
  have hD : va_D A [(a0, .inr (12, [.ref a1, .ref a2, .ref a3, .ref a4, .ref a5, .ref a6, .ref a7, .ref a8, .null, .ref a9, .ref a10, .int (0), .int (100), .int (0), .int (0), .int (-1), .long (0), .int (1)])), (a3, .inr (11, [.int (0), .ref a11, .ref a12, .ref a13, .ref a14, .ref a15, .ref a16, .ref a17, .ref a18, .ref a19]))] := hD
  refine W.widen (k := 0) (n := 0) (Nat.le_of_ble_eq_true rfl) (Nat.le_of_ble_eq_true rfl) ?_
  refine W.eq (g2 := F0 m 8 ls [.int (0)]) rfl ?_
  refine lv_if_eq (tgt := 22) hx hb dX11_join_8 (by decide +kernel) (fun _ => ?_) (fun h => absurd (by decide +kernel) h)
  exact n_throw hx hb hst hown hts hE hS (names := ["java/lang/RuntimeException", "java/lang/Exception"]) (by decide +kernel) (by decide +kernel) q948 q91 hat1p hat1a hat1 hat1g (hl.1.trans hml.symm) dX11_join_22 dX11_join_25 dX11_join_26 dX11_join_29 hout (Nat.le_of_ble_eq_true rfl) (Nat.le_of_ble_eq_true rfl) (Nat.le_of_ble_eq_true rfl) (Nat.le_of_ble_eq_true rfl) hlk (Nat.le_of_ble_eq_true rfl) (Nat.le_of_ble_eq_true rfl)

set_option maxHeartbeats 4000000 in
set_option maxRecDepth 100000 in
/-- MinestrataLaw.join -/
theorem m59 (l : Launch) (hst : l.stackTraces = false) (dC : Nat → ClassId) (dI : Nat → Nat → Nat) (g : Nat → Nat) (a0 a1 a2 a3 a4 a5 a6 a7 a8 a9 a10 a11 a12 a13 a14 a15 a16 a17 a18 a19 a20 : Nat) (s1 s2 : Int32) (sz : Nat) :
    Met l Y32 (Cond.codeWith Y32 method_6_code 5 (Option.some Jvm.ClassFile.FieldType.int) [((0 : Nat), (17 : Nat), (20 : Nat), (21 : Nat)), ((0 : Nat), (17 : Nat), (24 : Nat), (13 : Nat))] :: AW) ({ frames := 7, cells := 1, slots := 6, locals := 103 } : Room) (nP dC dI g [.ref a0, .int s1, .int s2, .ref a1] [(a0, .inr (12, [.ref a2, .ref a3, .ref a4, .ref a5, .ref a6, .ref a7, .ref a8, .ref a9, .null, .ref a10, .ref a11, .int (0), .int (100), .int (0), .int (0), .int (-1), .long (0), .int (1)])), (a4, .inr (11, [.int (0), .ref a12, .ref a13, .ref a14, .ref a15, .ref a16, .ref a17, .ref a18, .ref a19, .ref a20]))] sz) (nQ dC dI (fun f => some (.int (1))) (fun f r => []) (va_A [(a0, .inr (12, [.ref a2, .ref a3, .ref a4, .ref a5, .ref a6, .ref a7, .ref a8, .ref a9, .null, .ref a10, .ref a11, .int (0), .int (100), .int (0), .int (0), .int (-1), .long (0), .int (1)])), (a4, .inr (11, [.int (0), .ref a12, .ref a13, .ref a14, .ref a15, .ref a16, .ref a17, .ref a18, .ref a19, .ref a20]))] sz)) 1 6 (va_A [(a0, .inr (12, [.ref a2, .ref a3, .ref a4, .ref a5, .ref a6, .ref a7, .ref a8, .ref a9, .null, .ref a10, .ref a11, .int (0), .int (100), .int (0), .int (0), .int (-1), .long (0), .int (1)])), (a4, .inr (11, [.int (0), .ref a12, .ref a13, .ref a14, .ref a15, .ref a16, .ref a17, .ref a18, .ref a19, .ref a20]))] sz) := by
  refine n_metW (by decide +kernel) q980 (Nat.le_of_ble_eq_true rfl) (fun f => some (.int (1))) (fun f r => []) ?_
  intro p e s m below meth c A ls ⟨hx, hb, hr, hml, hown, hts, hlk, hnm⟩ htab hE hP hD hA hl
  have hown : s.vm.findClass "MinestrataLaw" = some m.cls := hown
  have hK := hE.1
  have hS : va_S A s.heap s.heap [] := va_S.rf
  have hl : lv_has ls 5 [(0, .ref a0), (1, .int s1), (2, .int s2), (3, .ref a1)] := hl
  refine lv_aload_n hx hb dL_join_0 rfl (lv_at hl 3 rfl) ?_
  refine lv_iconst (v := (0)) hx hb dL_join_1 (by decide +kernel) ?_
  refine lv_aload_n hx hb dL_join_2 rfl (lv_at hl 0 rfl) ?_
  refine lv_iload_n hx hb dL_join_3 rfl (lv_at hl 1 rfl) ?_
  refine lv_iload_n hx hb dL_join_4 rfl (lv_at hl 2 rfl) ?_
  have hX : nCx p s m _ c method_6_code 5 "MinestrataLaw" dC dI g A [(a0, .inr (12, [.ref a2, .ref a3, .ref a4, .ref a5, .ref a6, .ref a7, .ref a8, .ref a9, .null, .ref a10, .ref a11, .int (0), .int (100), .int (0), .int (0), .int (-1), .long (0), .int (1)])), (a4, .inr (11, [.int (0), .ref a12, .ref a13, .ref a14, .ref a15, .ref a16, .ref a17, .ref a18, .ref a19, .ref a20]))] _ _ := ⟨⟨hx, hb, hml, hown, hts⟩, hE, hS, hA, hP, hD⟩
  refine n_callX (E0 := "java/lang/IndexOutOfBoundsException") hX (n_runVX (n := 2) (wc := [(a0, .inr (12, [.ref a2, .ref a3, .ref a4, .ref a5, .ref a6, .ref a7, .ref a8, .ref a9, .null, .ref a10, .ref a11, .int (0), .int (100), .int (0), .int (0), .int (-1), .long (0), .int (1)])), (a4, .inr (11, [.int (0), .ref a12, .ref a13, .ref a14, .ref a15, .ref a16, .ref a17, .ref a18, .ref a19, .ref a20]))]) (As := [.int s1, .int s2]) (rest := [.int (0), .ref a1]) hX (m58 l hst dC dI g a0 a2 a3 a4 a5 a6 a7 a8 a9 a10 a11 a12 a13 a14 a15 a16 a17 a18 a19 a20 s1 s2 _) [0, 1] rfl (by decide +kernel) 0 (ci := 12) rfl (T := TX11) (N := 18) (C := "Minestrata") rfl q981 q982 q983 q71 q984 (by decide +kernel) ⟨(Nat.le_of_ble_eq_true rfl), (Nat.le_of_ble_eq_true rfl)⟩ ⟨(Nat.le_of_ble_eq_true rfl), (Nat.le_of_ble_eq_true rfl)⟩ hl.1 rfl rfl (Nat.le_of_ble_eq_true rfl) dL_join_5) [0, 1] rfl (fun ce q9 H locs hS hce hcv hcl => ?_)
  refine n_catch (E := "java/lang/IndexOutOfBoundsException") (name := "java/lang/IndexOutOfBoundsException") hE hts hown htab [] ⟨0, 17, 20, 21⟩ [⟨0, 17, 24, 13⟩] rfl (fun z hz => nomatch hz) (by decide +kernel) (by decide) q907 x950 hce hcv hcl ?_
  refine W.widen (k := 1) (n := 6) (Nat.le_of_ble_eq_true rfl) (Nat.le_of_ble_eq_true rfl) ?_
  refine W.eq (g2 := F0 m 20 ls [.ref q9]) rfl ?_
  refine lv_astore (lv' := [(4, .ref q9), (0, .ref a0), (1, .int s1), (2, .int s2), (3, .ref a1)]) hx hb dL_join_20 hl (by decide) rfl (fun ls hl => ?_)
  refine lv_iconst (v := (1)) hx hb dL_join_22 (by decide +kernel) ?_
  refine W.widen (k := 1) (n := 6) (Nat.le_of_ble_eq_true rfl) (Nat.le_of_ble_eq_true rfl) ?_
  exact W.iret hx hb hr (n_end0 hS (fun _ => 0) rfl rfl) hS.2.2 dL_join_23 hlk

set_option maxHeartbeats 4000000 in
set_option maxRecDepth 100000 in
/-- ArrayList.size -/
theorem m60 (l : Launch) (hst : l.stackTraces = false) (dC : Nat → ClassId) (dI : Nat → Nat → Nat) (g : Nat → Nat) (a0 : Nat) (sz : Nat) :
    Met l Y37 (Cond.code Y37 prog_42_method_8_code 1 (Option.some Jvm.ClassFile.FieldType.int) :: AW) ({ frames := 0, cells := 0, slots := 0, locals := 0 } : Room) (nP dC dI g [.ref a0] [(a0, .inr (1, [.int (0), .ref (g 21), .int (0)]))] sz) (nQ dC dI (fun f => some (.int (0))) (fun f r => [(a0, .inr (1, [.int (0), .ref (g 21), .int (0)]))]) (va_A [(a0, .inr (1, [.int (0), .ref (g 21), .int (0)]))] sz)) 0 0 (va_A [(a0, .inr (1, [.int (0), .ref (g 21), .int (0)]))] sz) := by
  refine n_met (by decide +kernel) (Nat.le_of_ble_eq_true rfl) (fun f => some (.int (0))) (fun f r => [(a0, .inr (1, [.int (0), .ref (g 21), .int (0)]))]) ?_
  intro p e s m below meth c A ls ⟨hx, hb, hr, hml, hown, hts, hlk, hnm⟩ hE hP hD hA hl
  have hown : s.vm.findClass "java/util/ArrayList" = some m.cls := hown
  have hK := hE.1
  have hS : va_S A s.heap s.heap [] := va_S.rf
  have hl : lv_has ls 1 [(0, .ref a0)] := hl
  refine lv_aload_n hx hb dJx4a65c_size_8abf5_0 rfl (lv_at hl 0 rfl) ?_
  refine va_get (D := (dC, dI)) (ci := 1) (v := .int (0)) (C := "java/util/ArrayList") (T := TJx4a65c) (N := 3) hx hb hts inJx4a65c hown hK hP 0 rfl rfl 2 (by decide) (hts _ q1413) (fun _ h9 => h9) rfl dJx4a65c_size_8abf5_1 ?_
  refine W.widen (k := 0) (n := 0) (Nat.le_of_ble_eq_true rfl) (Nat.le_of_ble_eq_true rfl) ?_
  exact W.iret hx hb hr (n_end hS hP hD [0] (by decide +kernel) (fun _ => 0) (fun _ => 0) rfl rfl rfl) hS.2.2 dJx4a65c_size_8abf5_4 hlk

set_option maxHeartbeats 4000000 in
set_option maxRecDepth 100000 in
/-- MinestrataModel.isStope -/
theorem m61 (l : Launch) (hst : l.stackTraces = false) (dC : Nat → ClassId) (dI : Nat → Nat → Nat) (g : Nat → Nat) (a0 a1 a2 a3 a4 a5 a6 a7 a8 a9 a10 a11 a12 : Nat) (s1 : Int32) (sz : Nat) :
    Met l Y36 (Cond.code Y36 prog_14_method_10_code 2 (Option.some Jvm.ClassFile.FieldType.boolean) :: AW) ({ frames := 1, cells := 0, slots := 0, locals := 22 } : Room) (nP dC dI g [.ref a0, .int s1] [(a0, .inr (15, [.int (0), .int (0), .int (100), .int (0), .int (0), .ref a1, .ref a2, .ref a3, .ref a4, .ref a5, .ref a6, .ref a7, .ref a8, .ref a9, .ref a10, .ref a11, .null, .int (-1), .ref a12, .long (0)])), (a9, .inr (1, [.int (0), .ref (g 21), .int (0)]))] sz) (nQ dC dI (fun f => some (.int (0))) (fun f r => [(a0, .inr (15, [.int (0), .int (0), .int (100), .int (0), .int (0), .ref a1, .ref a2, .ref a3, .ref a4, .ref a5, .ref a6, .ref a7, .ref a8, .ref a9, .ref a10, .ref a11, .null, .int (-1), .ref a12, .long (0)])), (a9, .inr (1, [.int (0), .ref (g 21), .int (0)]))]) (va_A [(a0, .inr (15, [.int (0), .int (0), .int (100), .int (0), .int (0), .ref a1, .ref a2, .ref a3, .ref a4, .ref a5, .ref a6, .ref a7, .ref a8, .ref a9, .ref a10, .ref a11, .null, .int (-1), .ref a12, .long (0)])), (a9, .inr (1, [.int (0), .ref (g 21), .int (0)]))] sz)) 0 0 (va_A [(a0, .inr (15, [.int (0), .int (0), .int (100), .int (0), .int (0), .ref a1, .ref a2, .ref a3, .ref a4, .ref a5, .ref a6, .ref a7, .ref a8, .ref a9, .ref a10, .ref a11, .null, .int (-1), .ref a12, .long (0)])), (a9, .inr (1, [.int (0), .ref (g 21), .int (0)]))] sz) := by
  refine n_met (by decide +kernel) (Nat.le_of_ble_eq_true rfl) (fun f => some (.int (0))) (fun f r => [(a0, .inr (15, [.int (0), .int (0), .int (100), .int (0), .int (0), .ref a1, .ref a2, .ref a3, .ref a4, .ref a5, .ref a6, .ref a7, .ref a8, .ref a9, .ref a10, .ref a11, .null, .int (-1), .ref a12, .long (0)])), (a9, .inr (1, [.int (0), .ref (g 21), .int (0)]))]) ?_
  intro p e s m below meth c A ls ⟨hx, hb, hr, hml, hown, hts, hlk, hnm⟩ hE hP hD hA hl
  have hown : s.vm.findClass "MinestrataModel" = some m.cls := hown
  have hK := hE.1
  have hS : va_S A s.heap s.heap [] := va_S.rf
  have hl : lv_has ls 2 [(0, .ref a0), (1, .int s1)] := hl
  refine lv_iload_n hx hb dX16_isStope_0 rfl (lv_at hl 1 rfl) ?_
  refine lv_iconst (v := (0)) hx hb dX16_isStope_1 (by decide +kernel) ?_
  refine lv_aload_n hx hb dX16_isStope_2 rfl (lv_at hl 0 rfl) ?_
  refine va_get (D := (dC, dI)) (ci := 15) (v := .ref a9) (C := "MinestrataModel") (T := TX16) (N := 20) hx hb hts inX16 hown hK hP 0 rfl rfl 13 (by decide) (hts _ q1447) (fun _ h9 => h9) rfl dX16_isStope_3 ?_
  have hX : nCx p s m _ c prog_14_method_10_code 2 "MinestrataModel" dC dI g A [(a0, .inr (15, [.int (0), .int (0), .int (100), .int (0), .int (0), .ref a1, .ref a2, .ref a3, .ref a4, .ref a5, .ref a6, .ref a7, .ref a8, .ref a9, .ref a10, .ref a11, .null, .int (-1), .ref a12, .long (0)])), (a9, .inr (1, [.int (0), .ref (g 21), .int (0)]))] _ _ := ⟨⟨hx, hb, hml, hown, hts⟩, hE, hS, hA, hP, hD⟩
  refine n_call (wr := [(a0, .inr (15, [.int (0), .int (0), .int (100), .int (0), .int (0), .ref a1, .ref a2, .ref a3, .ref a4, .ref a5, .ref a6, .ref a7, .ref a8, .ref a9, .ref a10, .ref a11, .null, .int (-1), .ref a12, .long (0)]))]) hX (n_runV (n := 0) (wc := [(a9, .inr (1, [.int (0), .ref (g 21), .int (0)]))]) (As := []) (rest := [.int (0), .int s1]) hX (m60 l hst dC dI g a9 _) [1] rfl (by decide +kernel) 1 (ci := 1) rfl (T := TJx4a65c) (N := 3) (C := "java/util/ArrayList") rfl q1522 q1523 q1524 q85 q1525 (by decide +kernel) ⟨(Nat.le_of_ble_eq_true rfl), (Nat.le_of_ble_eq_true rfl)⟩ ⟨(Nat.le_of_ble_eq_true rfl), (Nat.le_of_ble_eq_true rfl)⟩ hl.1 rfl rfl (Nat.le_of_ble_eq_true rfl) dX16_isStope_6) [1] [0] rfl rfl (by decide +kernel) (by decide +kernel) (fun f1 r2 H locs hP hD hS => ?_)
  have hP : va_P (dC, dI) CL [(a0, .inr (15, [.int (0), .int (0), .int (100), .int (0), .int (0), .ref a1, .ref a2, .ref a3, .ref a4, .ref a5, .ref a6, .ref a7, .ref a8, .ref a9, .ref a10, .ref a11, .null, .int (-1), .ref a12, .long (0)])), (a9, .inr (1, [.int (0), .ref (g 21), .int (0)]))] _ := hP
  have hD : va_D A [(a0, .inr (15, [.int (0), .int (0), .int (100), .int (0), .int (0), .ref a1, .ref a2, .ref a3, .ref a4, .ref a5, .ref a6, .ref a7, .ref a8, .ref a9, .ref a10, .ref a11, .null, .int (-1), .ref a12, .long (0)])), (a9, .inr (1, [.int (0), .ref (g 21), .int (0)]))] := hD
  refine W.widen (k := 0) (n := 0) (Nat.le_of_ble_eq_true rfl) (Nat.le_of_ble_eq_true rfl) ?_
  refine W.eq (g2 := F0 m 9 ls [.int (0), .int (0), .int s1]) rfl ?_
  refine lv_iconst (v := (1)) hx hb dX16_isStope_9 (by decide +kernel) ?_
  refine lv_isub hx hb dX16_isStope_10 ?_
  refine nt_i (v := (-1)) (by decide +kernel) ?_
  have hX : nCx p s m _ c prog_14_method_10_code 2 "MinestrataModel" dC dI g A [(a0, .inr (15, [.int (0), .int (0), .int (100), .int (0), .int (0), .ref a1, .ref a2, .ref a3, .ref a4, .ref a5, .ref a6, .ref a7, .ref a8, .ref a9, .ref a10, .ref a11, .null, .int (-1), .ref a12, .long (0)])), (a9, .inr (1, [.int (0), .ref (g 21), .int (0)]))] _ _ := ⟨⟨hx, hb, hml, hown, hts⟩, hE, hS, hA, hP, hD⟩
  refine n_call (wr := [(a0, .inr (15, [.int (0), .int (0), .int (100), .int (0), .int (0), .ref a1, .ref a2, .ref a3, .ref a4, .ref a5, .ref a6, .ref a7, .ref a8, .ref a9, .ref a10, .ref a11, .null, .int (-1), .ref a12, .long (0)])), (a9, .inr (1, [.int (0), .ref (g 21), .int (0)]))]) hX (n_runS (n := 3) (wc := []) (As := [.int s1, .int (0), .int (-1)]) (rest := []) hX (m48 l hst dC dI g s1 _) [] rfl (by decide +kernel) q1503 q1504 q82 q1505 (by decide +kernel) ⟨(Nat.le_of_ble_eq_true rfl), (Nat.le_of_ble_eq_true rfl)⟩ ⟨(Nat.le_of_ble_eq_true rfl), (Nat.le_of_ble_eq_true rfl)⟩ hl.1 rfl rfl (Nat.le_of_ble_eq_true rfl) dX16_isStope_11) [] [0, 1] rfl rfl (by decide +kernel) (by decide +kernel) (fun f3 r4 H locs hP hD hS => ?_)
  have hP : va_P (dC, dI) CL [(a0, .inr (15, [.int (0), .int (0), .int (100), .int (0), .int (0), .ref a1, .ref a2, .ref a3, .ref a4, .ref a5, .ref a6, .ref a7, .ref a8, .ref a9, .ref a10, .ref a11, .null, .int (-1), .ref a12, .long (0)])), (a9, .inr (1, [.int (0), .ref (g 21), .int (0)]))] _ := hP
  have hD : va_D A [(a0, .inr (15, [.int (0), .int (0), .int (100), .int (0), .int (0), .ref a1, .ref a2, .ref a3, .ref a4, .ref a5, .ref a6, .ref a7, .ref a8, .ref a9, .ref a10, .ref a11, .null, .int (-1), .ref a12, .long (0)])), (a9, .inr (1, [.int (0), .ref (g 21), .int (0)]))] := hD
  refine W.widen (k := 0) (n := 0) (Nat.le_of_ble_eq_true rfl) (Nat.le_of_ble_eq_true rfl) ?_
  refine W.eq (g2 := F0 m 14 ls [.int (0)]) rfl ?_
  refine W.widen (k := 0) (n := 0) (Nat.le_of_ble_eq_true rfl) (Nat.le_of_ble_eq_true rfl) ?_
  exact W.zret hx hb hr (by decide +kernel) (n_end hS hP hD [0, 1] (by decide +kernel) (fun _ => 0) (fun _ => 0) rfl rfl rfl) hS.2.2 dX16_isStope_14 hlk

set_option maxHeartbeats 4000000 in
set_option maxRecDepth 100000 in
/-- MinestrataModel.join -/
theorem m62 (l : Launch) (hst : l.stackTraces = false) (dC : Nat → ClassId) (dI : Nat → Nat → Nat) (g : Nat → Nat) (a0 a1 a2 a3 a4 a5 a6 a7 a8 a9 a10 a11 a12 : Nat) (s1 s2 : Int32) (sz : Nat) :
    Met l Y35 (Cond.code Y35 prog_14_method_12_code 4 (Option.some Jvm.ClassFile.FieldType.boolean) :: AW) ({ frames := 2, cells := 0, slots := 0, locals := 43 } : Room) (nP dC dI g [.ref a0, .int s1, .int s2] [(a0, .inr (15, [.int (0), .int (0), .int (100), .int (0), .int (0), .ref a1, .ref a2, .ref a3, .ref a4, .ref a5, .ref a6, .ref a7, .ref a8, .ref a9, .ref a10, .ref a11, .null, .int (-1), .ref a12, .long (0)])), (a9, .inr (1, [.int (0), .ref (g 21), .int (0)]))] sz) (nQ dC dI (fun f => some (.int (0))) (fun f r => [(a0, .inr (15, [.int (1), .int (0), .int (100), .int (0), .int (0), .ref a1, .ref a2, .ref a3, .ref a4, .ref a5, .ref a6, .ref a7, .ref a8, .ref a9, .ref a10, .ref a11, .null, .int (-1), .ref a12, .long (0)])), (a9, .inr (1, [.int (0), .ref (g 21), .int (0)]))]) (va_A [(a0, .inr (15, [.int (0), .int (0), .int (100), .int (0), .int (0), .ref a1, .ref a2, .ref a3, .ref a4, .ref a5, .ref a6, .ref a7, .ref a8, .ref a9, .ref a10, .ref a11, .null, .int (-1), .ref a12, .long (0)])), (a9, .inr (1, [.int (0), .ref (g 21), .int (0)]))] sz)) 0 0 (va_A [(a0, .inr (15, [.int (0), .int (0), .int (100), .int (0), .int (0), .ref a1, .ref a2, .ref a3, .ref a4, .ref a5, .ref a6, .ref a7, .ref a8, .ref a9, .ref a10, .ref a11, .null, .int (-1), .ref a12, .long (0)])), (a9, .inr (1, [.int (0), .ref (g 21), .int (0)]))] sz) := by
  refine n_met (by decide +kernel) (Nat.le_of_ble_eq_true rfl) (fun f => some (.int (0))) (fun f r => [(a0, .inr (15, [.int (1), .int (0), .int (100), .int (0), .int (0), .ref a1, .ref a2, .ref a3, .ref a4, .ref a5, .ref a6, .ref a7, .ref a8, .ref a9, .ref a10, .ref a11, .null, .int (-1), .ref a12, .long (0)])), (a9, .inr (1, [.int (0), .ref (g 21), .int (0)]))]) ?_
  intro p e s m below meth c A ls ⟨hx, hb, hr, hml, hown, hts, hlk, hnm⟩ hE hP hD hA hl
  have hown : s.vm.findClass "MinestrataModel" = some m.cls := hown
  have hK := hE.1
  have hS : va_S A s.heap s.heap [] := va_S.rf
  have hl : lv_has ls 4 [(0, .ref a0), (1, .int s1), (2, .int s2)] := hl
  refine lv_aload_n hx hb dX16_join_0 rfl (lv_at hl 0 rfl) ?_
  refine lv_aload_n hx hb dX16_join_1 rfl (lv_at hl 0 rfl) ?_
  refine lv_iload_n hx hb dX16_join_2 rfl (lv_at hl 1 rfl) ?_
  have hX : nCx p s m _ c prog_14_method_12_code 4 "MinestrataModel" dC dI g A [(a0, .inr (15, [.int (0), .int (0), .int (100), .int (0), .int (0), .ref a1, .ref a2, .ref a3, .ref a4, .ref a5, .ref a6, .ref a7, .ref a8, .ref a9, .ref a10, .ref a11, .null, .int (-1), .ref a12, .long (0)])), (a9, .inr (1, [.int (0), .ref (g 21), .int (0)]))] _ _ := ⟨⟨hx, hb, hml, hown, hts⟩, hE, hS, hA, hP, hD⟩
  refine n_call (wr := []) hX (n_runV (n := 1) (wc := [(a0, .inr (15, [.int (0), .int (0), .int (100), .int (0), .int (0), .ref a1, .ref a2, .ref a3, .ref a4, .ref a5, .ref a6, .ref a7, .ref a8, .ref a9, .ref a10, .ref a11, .null, .int (-1), .ref a12, .long (0)])), (a9, .inr (1, [.int (0), .ref (g 21), .int (0)]))]) (As := [.int s1]) (rest := [.ref a0]) hX (m61 l hst dC dI g a0 a1 a2 a3 a4 a5 a6 a7 a8 a9 a10 a11 a12 s1 _) [0, 1] rfl (by decide +kernel) 0 (ci := 15) rfl (T := TX16) (N := 20) (C := "MinestrataModel") rfl q1679 q1681 q45 q82 q1682 (by decide +kernel) ⟨(Nat.le_of_ble_eq_true rfl), (Nat.le_of_ble_eq_true rfl)⟩ ⟨(Nat.le_of_ble_eq_true rfl), (Nat.le_of_ble_eq_true rfl)⟩ hl.1 rfl rfl (Nat.le_of_ble_eq_true rfl) dX16_join_3) [0, 1] [] rfl rfl (by decide +kernel) (by decide +kernel) (fun f1 r2 H locs hP hD hS => ?_)
  have hP : va_P (dC, dI) CL [(a0, .inr (15, [.int (0), .int (0), .int (100), .int (0), .int (0), .ref a1, .ref a2, .ref a3, .ref a4, .ref a5, .ref a6, .ref a7, .ref a8, .ref a9, .ref a10, .ref a11, .null, .int (-1), .ref a12, .long (0)])), (a9, .inr (1, [.int (0), .ref (g 21), .int (0)]))] _ := hP
  have hD : va_D A [(a0, .inr (15, [.int (0), .int (0), .int (100), .int (0), .int (0), .ref a1, .ref a2, .ref a3, .ref a4, .ref a5, .ref a6, .ref a7, .ref a8, .ref a9, .ref a10, .ref a11, .null, .int (-1), .ref a12, .long (0)])), (a9, .inr (1, [.int (0), .ref (g 21), .int (0)]))] := hD
  refine W.widen (k := 0) (n := 0) (Nat.le_of_ble_eq_true rfl) (Nat.le_of_ble_eq_true rfl) ?_
  refine W.eq (g2 := F0 m 6 ls [.int (0), .ref a0]) rfl ?_
  refine lv_if_eq (tgt := 17) hx hb dX16_join_6 (by decide +kernel) (fun _ => ?_) (fun h => absurd (by decide +kernel) h)
  refine lv_iconst (v := (1)) hx hb dX16_join_17 (by decide +kernel) ?_
  refine lv_goto (tgt := 31) hx hb dX16_join_18 (by decide +kernel) ?_
  refine va_put (D := (dC, dI)) (ci := 15) (v := .int (1)) (ty := .int) (C := "MinestrataModel") (T := TX16) (N := 20) hx hb hts inX16 tyX16 tyX16_ok nmX16 hown hK hP hD hS 0 rfl rfl 0 (by decide) (hts _ q1427) (fun _ h9 => h9) rfl (by decide +kernel) rfl rfl (Nat.le_of_ble_eq_true rfl) dX16_join_31 (fun H locs hP hD hS => ?_)
  have hP : va_P (dC, dI) CL [(a0, .inr (15, [.int (1), .int (0), .int (100), .int (0), .int (0), .ref a1, .ref a2, .ref a3, .ref a4, .ref a5, .ref a6, .ref a7, .ref a8, .ref a9, .ref a10, .ref a11, .null, .int (-1), .ref a12, .long (0)])), (a9, .inr (1, [.int (0), .ref (g 21), .int (0)]))] _ := hP
  have hD : va_D A [(a0, .inr (15, [.int (1), .int (0), .int (100), .int (0), .int (0), .ref a1, .ref a2, .ref a3, .ref a4, .ref a5, .ref a6, .ref a7, .ref a8, .ref a9, .ref a10, .ref a11, .null, .int (-1), .ref a12, .long (0)])), (a9, .inr (1, [.int (0), .ref (g 21), .int (0)]))] := hD
  refine lv_aload_n hx hb dX16_join_34 rfl (lv_at hl 0 rfl) ?_
  refine va_get (D := (dC, dI)) (ci := 15) (v := .int (1)) (C := "MinestrataModel") (T := TX16) (N := 20) hx hb hts inX16 hown hK hP 0 rfl rfl 0 (by decide) (hts _ q1427) (fun _ h9 => h9) rfl dX16_join_35 ?_
  refine lv_if_le (tgt := 43) hx hb dX16_join_38 (by decide +kernel) (fun h => absurd h (by decide +kernel)) (fun _ => ?_)
  refine lv_iconst (v := (0)) hx hb dX16_join_41 (by decide +kernel) ?_
  refine W.widen (k := 0) (n := 0) (Nat.le_of_ble_eq_true rfl) (Nat.le_of_ble_eq_true rfl) ?_
  exact W.zret hx hb hr (by decide +kernel) (n_end hS hP hD [0, 1] (by decide +kernel) (fun _ => 0) (fun _ => 0) rfl rfl rfl) hS.2.2 dX16_join_42 hlk

set_option maxHeartbeats 4000000 in
set_option maxRecDepth 100000 in
/-- Minestrata.isWithin -/
theorem m63 (l : Launch) (hst : l.stackTraces = false) (dC : Nat → ClassId) (dI : Nat → Nat → Nat) (g : Nat → Nat) (s1 : Int32) (e0 : s1 < (0)) (sz : Nat) :
    Met l Y21 (Cond.code Y21 prog_1_method_38_code 3 (Option.some Jvm.ClassFile.FieldType.boolean) :: AW) ({ frames := 0, cells := 0, slots := 0, locals := 0 } : Room) (nP dC dI g [.int s1, .int (0), .int (9998)] [] sz) (nQ dC dI (fun f => some (.int (0))) (fun f r => []) (va_A [] sz)) 0 0 (va_A [] sz) := by
  refine n_met (by decide +kernel) (Nat.le_of_ble_eq_true rfl) (fun f => some (.int (0))) (fun f r => []) ?_
  intro p e s m below meth c A ls ⟨hx, hb, hr, hml, hown, hts, hlk, hnm⟩ hE hP hD hA hl
  have hown : s.vm.findClass "Minestrata" = some m.cls := hown
  have hK := hE.1
  have hS : va_S A s.heap s.heap [] := va_S.rf
  have hl : lv_has ls 3 [(0, .int s1), (1, .int (0)), (2, .int (9998))] := hl
  refine lv_iload_n hx hb dX11_isWithin_0 rfl (lv_at hl 0 rfl) ?_
  refine lv_iload_n hx hb dX11_isWithin_1 rfl (lv_at hl 1 rfl) ?_
  refine lv_icmp_lt (tgt := 14) hx hb dX11_isWithin_2 (by decide +kernel) (fun _ => ?_) (fun h => absurd e0 h)
  refine lv_iconst (v := (0)) hx hb dX11_isWithin_14 (by decide +kernel) ?_
  refine W.widen (k := 0) (n := 0) (Nat.le_of_ble_eq_true rfl) (Nat.le_of_ble_eq_true rfl) ?_
  exact W.zret hx hb hr (by decide +kernel) (n_end hS hP hD [] (by decide +kernel) (fun _ => 0) (fun _ => 0) rfl rfl rfl) hS.2.2 dX11_isWithin_15 hlk

set_option maxHeartbeats 4000000 in
set_option maxRecDepth 100000 in
/-- Minestrata.setLimit -/
theorem m64 (l : Launch) (hst : l.stackTraces = false) (dC : Nat → ClassId) (dI : Nat → Nat → Nat) (g : Nat → Nat) (a0 a1 a2 a3 a4 a5 a6 a7 a8 a9 a10 : Nat) (s1 : Int32) (e0 : s1 < (0)) (sz : Nat) :
    vx_Met l Y39 (Cond.code Y39 prog_1_method_6_code 3 (Option.some Jvm.ClassFile.FieldType.int) :: AW) ({ frames := 6, cells := 1, slots := 6, locals := 81 } : Room) (nP dC dI g [.ref a0, .int s1] [(a0, .inr (12, [.ref a1, .ref a2, .ref a3, .ref a4, .ref a5, .ref a6, .ref a7, .ref a8, .null, .ref a9, .ref a10, .int (0), .int (100), .int (0), .int (0), .int (-1), .long (0), .int (1)]))] sz) (fun _ _ _ _ => False) (nX "java/lang/IllegalArgumentException" (va_A [(a0, .inr (12, [.ref a1, .ref a2, .ref a3, .ref a4, .ref a5, .ref a6, .ref a7, .ref a8, .null, .ref a9, .ref a10, .int (0), .int (100), .int (0), .int (0), .int (-1), .long (0), .int (1)]))] sz)) 1 6 (va_A [(a0, .inr (12, [.ref a1, .ref a2, .ref a3, .ref a4, .ref a5, .ref a6, .ref a7, .ref a8, .null, .ref a9, .ref a10, .int (0), .int (100), .int (0), .int (0), .int (-1), .long (0), .int (1)]))] sz) := by
  refine n_metX (by decide +kernel) (Nat.le_of_ble_eq_true rfl) "java/lang/IllegalArgumentException" ?_
  intro p e s m below meth c A ls ⟨hx, hb, hr, hml, hown, hts, hlk, hnm⟩ hout hE hP hD hA hl
  have hown : s.vm.findClass "Minestrata" = some m.cls := hown
  have hK := hE.1
  have hS : va_S A s.heap s.heap [] := va_S.rf
  have hl : lv_has ls 3 [(0, .ref a0), (1, .int s1)] := hl
  have hlsz : ls.size = c.maxLocals := hl.1.trans hml.symm
  refine lv_iload_n hx hb dX11_setLimit_0 rfl (lv_at hl 1 rfl) ?_
  refine lv_iconst (v := (0)) hx hb dX11_setLimit_1 (by decide +kernel) ?_
  refine lv_sipush (v := (9998)) hx hb dX11_setLimit_2 (by decide +kernel) ?_
  have hX : nCx p s m _ c prog_1_method_6_code 3 "Minestrata" dC dI g A [(a0, .inr (12, [.ref a1, .ref a2, .ref a3, .ref a4, .ref a5, .ref a6, .ref a7, .ref a8, .null, .ref a9, .ref a10, .int (0), .int (100), .int (0), .int (0), .int (-1), .long (0), .int (1)]))] _ _ := ⟨⟨hx, hb, hml, hown, hts⟩, hE, hS, hA, hP, hD⟩
  refine n_call (wr := [(a0, .inr (12, [.ref a1, .ref a2, .ref a3, .ref a4, .ref a5, .ref a6, .ref a7, .ref a8, .null, .ref a9, .ref a10, .int (0), .int (100), .int (0), .int (0), .int (-1), .long (0), .int (1)]))]) hX (n_runS (n := 3) (wc := []) (As := [.int s1, .int (0), .int (9998)]) (rest := []) hX (m63 l hst dC dI g s1 e0 _) [] rfl (by decide +kernel) q814 q815 q71 q816 (by decide +kernel) ⟨(Nat.le_of_ble_eq_true rfl), (Nat.le_of_ble_eq_true rfl)⟩ ⟨(Nat.le_of_ble_eq_true rfl), (Nat.le_of_ble_eq_true rfl)⟩ hl.1 rfl rfl (Nat.le_of_ble_eq_true rfl) dX11_setLimit_5) [] [0] rfl rfl (by decide +kernel) (by decide +kernel) (fun f1 r2 H locs hP hD hS => ?_)
  have hP : va_P (dC, dI) CL [(a0, .inr (12, [.ref a1, .ref a2, .ref a3, .ref a4, .ref a5, .ref a6, .ref a7, .ref a8, .null, .ref a9, .ref a10, .int (0), .int (100), .int (0), .int (0), .int (-1), .long (0), .int (1)]))] _ := hP
  have hD : va_D A [(a0, .inr (12, [.ref a1, .ref a2, .ref a3, .ref a4, .ref a5, .ref a6, .ref a7, .ref a8, .null, .ref a9, .ref a10, .int (0), .int (100), .int (0), .int (0), .int (-1), .long (0), .int (1)]))] := hD
  refine W.widen (k := 0) (n := 0) (Nat.le_of_ble_eq_true rfl) (Nat.le_of_ble_eq_true rfl) ?_
  refine W.eq (g2 := F0 m 8 ls [.int (0)]) rfl ?_
  refine lv_if_ne (tgt := 19) hx hb dX11_setLimit_8 (by decide +kernel) (fun h => absurd (by decide +kernel) h) (fun _ => ?_)
  exact n_throw hx hb hst hown hts hE hS (names := ["java/lang/RuntimeException", "java/lang/Exception"]) (by decide +kernel) (by decide +kernel) q817 q89 hat0p hat0a hat0 hat0g (hl.1.trans hml.symm) dX11_setLimit_11 dX11_setLimit_14 dX11_setLimit_15 dX11_setLimit_18 hout (Nat.le_of_ble_eq_true rfl) (Nat.le_of_ble_eq_true rfl) (Nat.le_of_ble_eq_true rfl) (Nat.le_of_ble_eq_true rfl) hlk (Nat.le_of_ble_eq_true rfl) (Nat.le_of_ble_eq_true rfl)

set_option maxHeartbeats 4000000 in
set_option maxRecDepth 100000 in
/-- MinestrataLaw.setLimit -/
theorem m65 (l : Launch) (hst : l.stackTraces = false) (dC : Nat → ClassId) (dI : Nat → Nat → Nat) (g : Nat → Nat) (a0 a1 a2 a3 a4 a5 a6 a7 a8 a9 a10 a11 : Nat) (s1 : Int32) (e0 : s1 < (0)) (sz : Nat) :
    Met l Y38 (Cond.codeWith Y38 method_7_code 4 (Option.some Jvm.ClassFile.FieldType.int) [((0 : Nat), (9 : Nat), (12 : Nat), (13 : Nat))] :: AW) ({ frames := 7, cells := 1, slots := 6, locals := 103 } : Room) (nP dC dI g [.ref a0, .int s1, .ref a1] [(a0, .inr (12, [.ref a2, .ref a3, .ref a4, .ref a5, .ref a6, .ref a7, .ref a8, .ref a9, .null, .ref a10, .ref a11, .int (0), .int (100), .int (0), .int (0), .int (-1), .long (0), .int (1)])), (a1, .inl (g 1, 1, .inr (.inl (fun _ => 0))))] sz) (nQ dC dI (fun f => some (.int (1))) (fun f r => []) (va_A [(a0, .inr (12, [.ref a2, .ref a3, .ref a4, .ref a5, .ref a6, .ref a7, .ref a8, .ref a9, .null, .ref a10, .ref a11, .int (0), .int (100), .int (0), .int (0), .int (-1), .long (0), .int (1)])), (a1, .inl (g 1, 1, .inr (.inl (fun _ => 0))))] sz)) 1 6 (va_A [(a0, .inr (12, [.ref a2, .ref a3, .ref a4, .ref a5, .ref a6, .ref a7, .ref a8, .ref a9, .null, .ref a10, .ref a11, .int (0), .int (100), .int (0), .int (0), .int (-1), .long (0), .int (1)])), (a1, .inl (g 1, 1, .inr (.inl (fun _ => 0))))] sz) := by
  refine n_metW (by decide +kernel) q999 (Nat.le_of_ble_eq_true rfl) (fun f => some (.int (1))) (fun f r => []) ?_
  intro p e s m below meth c A ls ⟨hx, hb, hr, hml, hown, hts, hlk, hnm⟩ htab hE hP hD hA hl
  have hown : s.vm.findClass "MinestrataLaw" = some m.cls := hown
  have hK := hE.1
  have hS : va_S A s.heap s.heap [] := va_S.rf
  have hl : lv_has ls 4 [(0, .ref a0), (1, .int s1), (2, .ref a1)] := hl
  refine lv_aload_n hx hb dL_setLimit_0 rfl (lv_at hl 2 rfl) ?_
  refine lv_iconst (v := (0)) hx hb dL_setLimit_1 (by decide +kernel) ?_
  refine lv_aload_n hx hb dL_setLimit_2 rfl (lv_at hl 0 rfl) ?_
  refine lv_iload_n hx hb dL_setLimit_3 rfl (lv_at hl 1 rfl) ?_
  have hX : nCx p s m _ c method_7_code 4 "MinestrataLaw" dC dI g A [(a0, .inr (12, [.ref a2, .ref a3, .ref a4, .ref a5, .ref a6, .ref a7, .ref a8, .ref a9, .null, .ref a10, .ref a11, .int (0), .int (100), .int (0), .int (0), .int (-1), .long (0), .int (1)])), (a1, .inl (g 1, 1, .inr (.inl (fun _ => 0))))] _ _ := ⟨⟨hx, hb, hml, hown, hts⟩, hE, hS, hA, hP, hD⟩
  refine n_callX (E0 := "java/lang/IllegalArgumentException") hX (n_runVX (n := 1) (wc := [(a0, .inr (12, [.ref a2, .ref a3, .ref a4, .ref a5, .ref a6, .ref a7, .ref a8, .ref a9, .null, .ref a10, .ref a11, .int (0), .int (100), .int (0), .int (0), .int (-1), .long (0), .int (1)]))]) (As := [.int s1]) (rest := [.int (0), .ref a1]) hX (m64 l hst dC dI g a0 a2 a3 a4 a5 a6 a7 a8 a9 a10 a11 s1 e0 _) [0] rfl (by decide +kernel) 0 (ci := 12) rfl (T := TX11) (N := 18) (C := "Minestrata") rfl q1000 q1001 q1002 q71 q1003 (by decide +kernel) ⟨(Nat.le_of_ble_eq_true rfl), (Nat.le_of_ble_eq_true rfl)⟩ ⟨(Nat.le_of_ble_eq_true rfl), (Nat.le_of_ble_eq_true rfl)⟩ hl.1 rfl rfl (Nat.le_of_ble_eq_true rfl) dL_setLimit_4) [0] rfl (fun ce q9 H locs hS hce hcv hcl => ?_)
  refine n_catch (E := "java/lang/IllegalArgumentException") (name := "java/lang/IllegalArgumentException") hE hts hown htab [] ⟨0, 9, 12, 13⟩ [] rfl (fun z hz => nomatch hz) (by decide +kernel) (by decide) q808 x819 hce hcv hcl ?_
  refine W.widen (k := 1) (n := 6) (Nat.le_of_ble_eq_true rfl) (Nat.le_of_ble_eq_true rfl) ?_
  refine W.eq (g2 := F0 m 12 ls [.ref q9]) rfl ?_
  refine lv_astore_n (lv' := [(3, .ref q9), (0, .ref a0), (1, .int s1), (2, .ref a1)]) hx hb dL_setLimit_12 rfl hl (by decide) rfl (fun ls hl => ?_)
  refine lv_iconst (v := (1)) hx hb dL_setLimit_13 (by decide +kernel) ?_
  refine W.widen (k := 1) (n := 6) (Nat.le_of_ble_eq_true rfl) (Nat.le_of_ble_eq_true rfl) ?_
  exact W.iret hx hb hr (n_end0 hS (fun _ => 0) rfl rfl) hS.2.2 dL_setLimit_14 hlk

set_option maxHeartbeats 4000000 in
set_option maxRecDepth 100000 in
/-- MinestrataModel.in -/
theorem m66 (l : Launch) (hst : l.stackTraces = false) (dC : Nat → ClassId) (dI : Nat → Nat → Nat) (g : Nat → Nat) (s1 : Int32) (e0 : s1 < (0)) (sz : Nat) :
    Met l Y22 (Cond.code Y22 prog_14_method_3_code 3 (Option.some Jvm.ClassFile.FieldType.boolean) :: AW) ({ frames := 0, cells := 0, slots := 0, locals := 0 } : Room) (nP dC dI g [.int s1, .int (0), .int (9998)] [] sz) (nQ dC dI (fun f => some (.int (0))) (fun f r => []) (va_A [] sz)) 0 0 (va_A [] sz) := by
  refine n_met (by decide +kernel) (Nat.le_of_ble_eq_true rfl) (fun f => some (.int (0))) (fun f r => []) ?_
  intro p e s m below meth c A ls ⟨hx, hb, hr, hml, hown, hts, hlk, hnm⟩ hE hP hD hA hl
  have hown : s.vm.findClass "MinestrataModel" = some m.cls := hown
  have hK := hE.1
  have hS : va_S A s.heap s.heap [] := va_S.rf
  have hl : lv_has ls 3 [(0, .int s1), (1, .int (0)), (2, .int (9998))] := hl
  refine lv_iload_n hx hb dX16_in_0 rfl (lv_at hl 0 rfl) ?_
  refine lv_iload_n hx hb dX16_in_1 rfl (lv_at hl 1 rfl) ?_
  refine lv_icmp_lt (tgt := 14) hx hb dX16_in_2 (by decide +kernel) (fun _ => ?_) (fun h => absurd e0 h)
  refine lv_iconst (v := (0)) hx hb dX16_in_14 (by decide +kernel) ?_
  refine W.widen (k := 0) (n := 0) (Nat.le_of_ble_eq_true rfl) (Nat.le_of_ble_eq_true rfl) ?_
  exact W.zret hx hb hr (by decide +kernel) (n_end hS hP hD [] (by decide +kernel) (fun _ => 0) (fun _ => 0) rfl rfl rfl) hS.2.2 dX16_in_15 hlk

set_option maxHeartbeats 4000000 in
set_option maxRecDepth 100000 in
/-- MinestrataModel.setLimit -/
theorem m67 (l : Launch) (hst : l.stackTraces = false) (dC : Nat → ClassId) (dI : Nat → Nat → Nat) (g : Nat → Nat) (a0 a1 a2 a3 a4 a5 a6 a7 a8 a9 a10 a11 a12 : Nat) (s1 : Int32) (e0 : s1 < (0)) (sz : Nat) :
    Met l Y40 (Cond.code Y40 prog_14_method_13_code 3 (Option.some Jvm.ClassFile.FieldType.int) :: AW) ({ frames := 1, cells := 0, slots := 0, locals := 22 } : Room) (nP dC dI g [.ref a0, .int s1] [(a0, .inr (15, [.int (0), .int (0), .int (100), .int (0), .int (0), .ref a1, .ref a2, .ref a3, .ref a4, .ref a5, .ref a6, .ref a7, .ref a8, .ref a9, .ref a10, .ref a11, .null, .int (-1), .ref a12, .long (0)]))] sz) (nQ dC dI (fun f => some (.int (0))) (fun f r => [(a0, .inr (15, [.int (1), .int (0), .int (100), .int (0), .int (0), .ref a1, .ref a2, .ref a3, .ref a4, .ref a5, .ref a6, .ref a7, .ref a8, .ref a9, .ref a10, .ref a11, .null, .int (-1), .ref a12, .long (0)]))]) (va_A [(a0, .inr (15, [.int (0), .int (0), .int (100), .int (0), .int (0), .ref a1, .ref a2, .ref a3, .ref a4, .ref a5, .ref a6, .ref a7, .ref a8, .ref a9, .ref a10, .ref a11, .null, .int (-1), .ref a12, .long (0)]))] sz)) 0 0 (va_A [(a0, .inr (15, [.int (0), .int (0), .int (100), .int (0), .int (0), .ref a1, .ref a2, .ref a3, .ref a4, .ref a5, .ref a6, .ref a7, .ref a8, .ref a9, .ref a10, .ref a11, .null, .int (-1), .ref a12, .long (0)]))] sz) := by
  refine n_met (by decide +kernel) (Nat.le_of_ble_eq_true rfl) (fun f => some (.int (0))) (fun f r => [(a0, .inr (15, [.int (1), .int (0), .int (100), .int (0), .int (0), .ref a1, .ref a2, .ref a3, .ref a4, .ref a5, .ref a6, .ref a7, .ref a8, .ref a9, .ref a10, .ref a11, .null, .int (-1), .ref a12, .long (0)]))]) ?_
  intro p e s m below meth c A ls ⟨hx, hb, hr, hml, hown, hts, hlk, hnm⟩ hE hP hD hA hl
  have hown : s.vm.findClass "MinestrataModel" = some m.cls := hown
  have hK := hE.1
  have hS : va_S A s.heap s.heap [] := va_S.rf
  have hl : lv_has ls 3 [(0, .ref a0), (1, .int s1)] := hl
  refine lv_iload_n hx hb dX16_setLimit_0 rfl (lv_at hl 1 rfl) ?_
  refine lv_iconst (v := (0)) hx hb dX16_setLimit_1 (by decide +kernel) ?_
  refine lv_sipush (v := (9998)) hx hb dX16_setLimit_2 (by decide +kernel) ?_
  have hX : nCx p s m _ c prog_14_method_13_code 3 "MinestrataModel" dC dI g A [(a0, .inr (15, [.int (0), .int (0), .int (100), .int (0), .int (0), .ref a1, .ref a2, .ref a3, .ref a4, .ref a5, .ref a6, .ref a7, .ref a8, .ref a9, .ref a10, .ref a11, .null, .int (-1), .ref a12, .long (0)]))] _ _ := ⟨⟨hx, hb, hml, hown, hts⟩, hE, hS, hA, hP, hD⟩
  refine n_call (wr := [(a0, .inr (15, [.int (0), .int (0), .int (100), .int (0), .int (0), .ref a1, .ref a2, .ref a3, .ref a4, .ref a5, .ref a6, .ref a7, .ref a8, .ref a9, .ref a10, .ref a11, .null, .int (-1), .ref a12, .long (0)]))]) hX (n_runS (n := 3) (wc := []) (As := [.int s1, .int (0), .int (9998)]) (rest := []) hX (m66 l hst dC dI g s1 e0 _) [] rfl (by decide +kernel) q1503 q1504 q82 q1505 (by decide +kernel) ⟨(Nat.le_of_ble_eq_true rfl), (Nat.le_of_ble_eq_true rfl)⟩ ⟨(Nat.le_of_ble_eq_true rfl), (Nat.le_of_ble_eq_true rfl)⟩ hl.1 rfl rfl (Nat.le_of_ble_eq_true rfl) dX16_setLimit_5) [] [0] rfl rfl (by decide +kernel) (by decide +kernel) (fun f1 r2 H locs hP hD hS => ?_)
  have hP : va_P (dC, dI) CL [(a0, .inr (15, [.int (0), .int (0), .int (100), .int (0), .int (0), .ref a1, .ref a2, .ref a3, .ref a4, .ref a5, .ref a6, .ref a7, .ref a8, .ref a9, .ref a10, .ref a11, .null, .int (-1), .ref a12, .long (0)]))] _ := hP
  have hD : va_D A [(a0, .inr (15, [.int (0), .int (0), .int (100), .int (0), .int (0), .ref a1, .ref a2, .ref a3, .ref a4, .ref a5, .ref a6, .ref a7, .ref a8, .ref a9, .ref a10, .ref a11, .null, .int (-1), .ref a12, .long (0)]))] := hD
  refine W.widen (k := 0) (n := 0) (Nat.le_of_ble_eq_true rfl) (Nat.le_of_ble_eq_true rfl) ?_
  refine W.eq (g2 := F0 m 8 ls [.int (0)]) rfl ?_
  refine lv_if_ne (tgt := 17) hx hb dX16_setLimit_8 (by decide +kernel) (fun h => absurd (by decide +kernel) h) (fun _ => ?_)
  refine lv_aload_n hx hb dX16_setLimit_11 rfl (lv_at hl 0 rfl) ?_
  refine lv_iconst (v := (1)) hx hb dX16_setLimit_12 (by decide +kernel) ?_
  have hX : nCx p s m _ c prog_14_method_13_code 3 "MinestrataModel" dC dI g A [(a0, .inr (15, [.int (0), .int (0), .int (100), .int (0), .int (0), .ref a1, .ref a2, .ref a3, .ref a4, .ref a5, .ref a6, .ref a7, .ref a8, .ref a9, .ref a10, .ref a11, .null, .int (-1), .ref a12, .long (0)]))] _ _ := ⟨⟨hx, hb, hml, hown, hts⟩, hE, hS, hA, hP, hD⟩
  refine n_call (wr := []) hX (n_runV (n := 1) (wc := [(a0, .inr (15, [.int (0), .int (0), .int (100), .int (0), .int (0), .ref a1, .ref a2, .ref a3, .ref a4, .ref a5, .ref a6, .ref a7, .ref a8, .ref a9, .ref a10, .ref a11, .null, .int (-1), .ref a12, .long (0)]))]) (As := [.int (1)]) (rest := []) hX (m31 l hst dC dI g a0 a1 a2 a3 a4 a5 a6 a7 a8 a9 a10 a11 a12 _) [0] rfl (by decide +kernel) 0 (ci := 15) rfl (T := TX16) (N := 20) (C := "MinestrataModel") rfl q1506 q1508 q39 q82 q1509 (by decide +kernel) ⟨(Nat.le_of_ble_eq_true rfl), (Nat.le_of_ble_eq_true rfl)⟩ ⟨(Nat.le_of_ble_eq_true rfl), (Nat.le_of_ble_eq_true rfl)⟩ hl.1 rfl rfl (Nat.le_of_ble_eq_true rfl) dX16_setLimit_13) [0] [] rfl rfl (by decide +kernel) (by decide +kernel) (fun f3 r4 H locs hP hD hS => ?_)
  have hP : va_P (dC, dI) CL [(a0, .inr (15, [.int (1), .int (0), .int (100), .int (0), .int (0), .ref a1, .ref a2, .ref a3, .ref a4, .ref a5, .ref a6, .ref a7, .ref a8, .ref a9, .ref a10, .ref a11, .null, .int (-1), .ref a12, .long (0)]))] _ := hP
  have hD : va_D A [(a0, .inr (15, [.int (1), .int (0), .int (100), .int (0), .int (0), .ref a1, .ref a2, .ref a3, .ref a4, .ref a5, .ref a6, .ref a7, .ref a8, .ref a9, .ref a10, .ref a11, .null, .int (-1), .ref a12, .long (0)]))] := hD
  refine W.widen (k := 0) (n := 0) (Nat.le_of_ble_eq_true rfl) (Nat.le_of_ble_eq_true rfl) ?_
  refine W.eq (g2 := F0 m 16 ls [.int (0)]) rfl ?_
  refine W.widen (k := 0) (n := 0) (Nat.le_of_ble_eq_true rfl) (Nat.le_of_ble_eq_true rfl) ?_
  exact W.iret hx hb hr (n_end hS hP hD [0] (by decide +kernel) (fun _ => 0) (fun _ => 0) rfl rfl rfl) hS.2.2 dX16_setLimit_16 hlk

set_option maxHeartbeats 4000000 in
set_option maxRecDepth 100000 in
/-- Minestrata.isWithin -/
theorem m68 (l : Launch) (hst : l.stackTraces = false) (dC : Nat → ClassId) (dI : Nat → Nat → Nat) (g : Nat → Nat) (s1 : Int32) (e0 : ¬ (s1 < (0))) (e1 : (9998) < s1) (sz : Nat) :
    Met l Y21 (Cond.code Y21 prog_1_method_38_code 3 (Option.some Jvm.ClassFile.FieldType.boolean) :: AW) ({ frames := 0, cells := 0, slots := 0, locals := 0 } : Room) (nP dC dI g [.int s1, .int (0), .int (9998)] [] sz) (nQ dC dI (fun f => some (.int (0))) (fun f r => []) (va_A [] sz)) 0 0 (va_A [] sz) := by
  refine n_met (by decide +kernel) (Nat.le_of_ble_eq_true rfl) (fun f => some (.int (0))) (fun f r => []) ?_
  intro p e s m below meth c A ls ⟨hx, hb, hr, hml, hown, hts, hlk, hnm⟩ hE hP hD hA hl
  have hown : s.vm.findClass "Minestrata" = some m.cls := hown
  have hK := hE.1
  have hS : va_S A s.heap s.heap [] := va_S.rf
  have hl : lv_has ls 3 [(0, .int s1), (1, .int (0)), (2, .int (9998))] := hl
  refine lv_iload_n hx hb dX11_isWithin_0 rfl (lv_at hl 0 rfl) ?_
  refine lv_iload_n hx hb dX11_isWithin_1 rfl (lv_at hl 1 rfl) ?_
  refine lv_icmp_lt (tgt := 14) hx hb dX11_isWithin_2 (by decide +kernel) (fun h => absurd h e0) (fun _ => ?_)
  refine lv_iload_n hx hb dX11_isWithin_5 rfl (lv_at hl 0 rfl) ?_
  refine lv_iload_n hx hb dX11_isWithin_6 rfl (lv_at hl 2 rfl) ?_
  refine lv_icmp_gt (tgt := 14) hx hb dX11_isWithin_7 (by decide +kernel) (fun _ => ?_) (fun h => absurd e1 h)
  refine lv_iconst (v := (0)) hx hb dX11_isWithin_14 (by decide +kernel) ?_
  refine W.widen (k := 0) (n := 0) (Nat.le_of_ble_eq_true rfl) (Nat.le_of_ble_eq_true rfl) ?_
  exact W.zret hx hb hr (by decide +kernel) (n_end hS hP hD [] (by decide +kernel) (fun _ => 0) (fun _ => 0) rfl rfl rfl) hS.2.2 dX11_isWithin_15 hlk

set_option maxHeartbeats 4000000 in
set_option maxRecDepth 100000 in
/-- Minestrata.setLimit -/
theorem m69 (l : Launch) (hst : l.stackTraces = false) (dC : Nat → ClassId) (dI : Nat → Nat → Nat) (g : Nat → Nat) (a0 a1 a2 a3 a4 a5 a6 a7 a8 a9 a10 : Nat) (s1 : Int32) (e0 : ¬ (s1 < (0))) (e1 : (9998) < s1) (sz : Nat) :
    vx_Met l Y39 (Cond.code Y39 prog_1_method_6_code 3 (Option.some Jvm.ClassFile.FieldType.int) :: AW) ({ frames := 6, cells := 1, slots := 6, locals := 81 } : Room) (nP dC dI g [.ref a0, .int s1] [(a0, .inr (12, [.ref a1, .ref a2, .ref a3, .ref a4, .ref a5, .ref a6, .ref a7, .ref a8, .null, .ref a9, .ref a10, .int (0), .int (100), .int (0), .int (0), .int (-1), .long (0), .int (1)]))] sz) (fun _ _ _ _ => False) (nX "java/lang/IllegalArgumentException" (va_A [(a0, .inr (12, [.ref a1, .ref a2, .ref a3, .ref a4, .ref a5, .ref a6, .ref a7, .ref a8, .null, .ref a9, .ref a10, .int (0), .int (100), .int (0), .int (0), .int (-1), .long (0), .int (1)]))] sz)) 1 6 (va_A [(a0, .inr (12, [.ref a1, .ref a2, .ref a3, .ref a4, .ref a5, .ref a6, .ref a7, .ref a8, .null, .ref a9, .ref a10, .int (0), .int (100), .int (0), .int (0), .int (-1), .long (0), .int (1)]))] sz) := by
  refine n_metX (by decide +kernel) (Nat.le_of_ble_eq_true rfl) "java/lang/IllegalArgumentException" ?_
  intro p e s m below meth c A ls ⟨hx, hb, hr, hml, hown, hts, hlk, hnm⟩ hout hE hP hD hA hl
  have hown : s.vm.findClass "Minestrata" = some m.cls := hown
  have hK := hE.1
  have hS : va_S A s.heap s.heap [] := va_S.rf
  have hl : lv_has ls 3 [(0, .ref a0), (1, .int s1)] := hl
  have hlsz : ls.size = c.maxLocals := hl.1.trans hml.symm
  refine lv_iload_n hx hb dX11_setLimit_0 rfl (lv_at hl 1 rfl) ?_
  refine lv_iconst (v := (0)) hx hb dX11_setLimit_1 (by decide +kernel) ?_
  refine lv_sipush (v := (9998)) hx hb dX11_setLimit_2 (by decide +kernel) ?_
  have hX : nCx p s m _ c prog_1_method_6_code 3 "Minestrata" dC dI g A [(a0, .inr (12, [.ref a1, .ref a2, .ref a3, .ref a4, .ref a5, .ref a6, .ref a7, .ref a8, .null, .ref a9, .ref a10, .int (0), .int (100), .int (0), .int (0), .int (-1), .long (0), .int (1)]))] _ _ := ⟨⟨hx, hb, hml, hown, hts⟩, hE, hS, hA, hP, hD⟩
  refine n_call (wr := [(a0, .inr (12, [.ref a1, .ref a2, .ref a3, .ref a4, .ref a5, .ref a6, .ref a7, .ref a8, .null, .ref a9, .ref a10, .int (0), .int (100), .int (0), .int (0), .int (-1), .long (0), .int (1)]))]) hX (n_runS (n := 3) (wc := []) (As := [.int s1, .int (0), .int (9998)]) (rest := []) hX (m68 l hst dC dI g s1 e0 e1 _) [] rfl (by decide +kernel) q814 q815 q71 q816 (by decide +kernel) ⟨(Nat.le_of_ble_eq_true rfl), (Nat.le_of_ble_eq_true rfl)⟩ ⟨(Nat.le_of_ble_eq_true rfl), (Nat.le_of_ble_eq_true rfl)⟩ hl.1 rfl rfl (Nat.le_of_ble_eq_true rfl) dX11_setLimit_5) [] [0] rfl rfl (by decide +kernel) (by decide +kernel) (fun f1 r2 H locs hP hD hS => ?_)
  have hP : va_P (dC, dI) CL [(a0, .inr (12, [.ref a1, .ref a2, .ref a3, .ref a4, .ref a5, .ref a6, .ref a7, .ref a8, .null, .ref a9, .ref a10, .int (0), .int (100), .int (0), .int (0), .int (-1), .long (0), .int (1)]))] _ := hP
  have hD : va_D A [(a0, .inr (12, [.ref a1, .ref a2, .ref a3, .ref a4, .ref a5, .ref a6, .ref a7, .ref a8, .null, .ref a9, .ref a10, .int (0), .int (100), .int (0), .int (0), .int (-1), .long (0), .int (1)]))] := hD
  refine W.widen (k := 0) (n := 0) (Nat.le_of_ble_eq_true rfl) (Nat.le_of_ble_eq_true rfl) ?_
  refine W.eq (g2 := F0 m 8 ls [.int (0)]) rfl ?_
  refine lv_if_ne (tgt := 19) hx hb dX11_setLimit_8 (by decide +kernel) (fun h => absurd (by decide +kernel) h) (fun _ => ?_)
  exact n_throw hx hb hst hown hts hE hS (names := ["java/lang/RuntimeException", "java/lang/Exception"]) (by decide +kernel) (by decide +kernel) q817 q89 hat0p hat0a hat0 hat0g (hl.1.trans hml.symm) dX11_setLimit_11 dX11_setLimit_14 dX11_setLimit_15 dX11_setLimit_18 hout (Nat.le_of_ble_eq_true rfl) (Nat.le_of_ble_eq_true rfl) (Nat.le_of_ble_eq_true rfl) (Nat.le_of_ble_eq_true rfl) hlk (Nat.le_of_ble_eq_true rfl) (Nat.le_of_ble_eq_true rfl)

set_option maxHeartbeats 4000000 in
set_option maxRecDepth 100000 in
/-- MinestrataLaw.setLimit -/
theorem m70 (l : Launch) (hst : l.stackTraces = false) (dC : Nat → ClassId) (dI : Nat → Nat → Nat) (g : Nat → Nat) (a0 a1 a2 a3 a4 a5 a6 a7 a8 a9 a10 a11 : Nat) (s1 : Int32) (e0 : ¬ (s1 < (0))) (e1 : (9998) < s1) (sz : Nat) :
    Met l Y38 (Cond.codeWith Y38 method_7_code 4 (Option.some Jvm.ClassFile.FieldType.int) [((0 : Nat), (9 : Nat), (12 : Nat), (13 : Nat))] :: AW) ({ frames := 7, cells := 1, slots := 6, locals := 103 } : Room) (nP dC dI g [.ref a0, .int s1, .ref a1] [(a0, .inr (12, [.ref a2, .ref a3, .ref a4, .ref a5, .ref a6, .ref a7, .ref a8, .ref a9, .null, .ref a10, .ref a11, .int (0), .int (100), .int (0), .int (0), .int (-1), .long (0), .int (1)])), (a1, .inl (g 1, 1, .inr (.inl (fun _ => 0))))] sz) (nQ dC dI (fun f => some (.int (1))) (fun f r => []) (va_A [(a0, .inr (12, [.ref a2, .ref a3, .ref a4, .ref a5, .ref a6, .ref a7, .ref a8, .ref a9, .null, .ref a10, .ref a11, .int (0), .int (100), .int (0), .int (0), .int (-1), .long (0), .int (1)])), (a1, .inl (g 1, 1, .inr (.inl (fun _ => 0))))] sz)) 1 6 (va_A [(a0, .inr (12, [.ref a2, .ref a3, .ref a4, .ref a5, .ref a6, .ref a7, .ref a8, .ref a9, .null, .ref a10, .ref a11, .int (0), .int (100), .int (0), .int (0), .int (-1), .long (0), .int (1)])), (a1, .inl (g 1, 1, .inr (.inl (fun _ => 0))))] sz) := by
  refine n_metW (by decide +kernel) q999 (Nat.le_of_ble_eq_true rfl) (fun f => some (.int (1))) (fun f r => []) ?_
  intro p e s m below meth c A ls ⟨hx, hb, hr, hml, hown, hts, hlk, hnm⟩ htab hE hP hD hA hl
  have hown : s.vm.findClass "MinestrataLaw" = some m.cls := hown
  have hK := hE.1
  have hS : va_S A s.heap s.heap [] := va_S.rf
  have hl : lv_has ls 4 [(0, .ref a0), (1, .int s1), (2, .ref a1)] := hl
  refine lv_aload_n hx hb dL_setLimit_0 rfl (lv_at hl 2 rfl) ?_
  refine lv_iconst (v := (0)) hx hb dL_setLimit_1 (by decide +kernel) ?_
  refine lv_aload_n hx hb dL_setLimit_2 rfl (lv_at hl 0 rfl) ?_
  refine lv_iload_n hx hb dL_setLimit_3 rfl (lv_at hl 1 rfl) ?_
  have hX : nCx p s m _ c method_7_code 4 "MinestrataLaw" dC dI g A [(a0, .inr (12, [.ref a2, .ref a3, .ref a4, .ref a5, .ref a6, .ref a7, .ref a8, .ref a9, .null, .ref a10, .ref a11, .int (0), .int (100), .int (0), .int (0), .int (-1), .long (0), .int (1)])), (a1, .inl (g 1, 1, .inr (.inl (fun _ => 0))))] _ _ := ⟨⟨hx, hb, hml, hown, hts⟩, hE, hS, hA, hP, hD⟩
  refine n_callX (E0 := "java/lang/IllegalArgumentException") hX (n_runVX (n := 1) (wc := [(a0, .inr (12, [.ref a2, .ref a3, .ref a4, .ref a5, .ref a6, .ref a7, .ref a8, .ref a9, .null, .ref a10, .ref a11, .int (0), .int (100), .int (0), .int (0), .int (-1), .long (0), .int (1)]))]) (As := [.int s1]) (rest := [.int (0), .ref a1]) hX (m69 l hst dC dI g a0 a2 a3 a4 a5 a6 a7 a8 a9 a10 a11 s1 e0 e1 _) [0] rfl (by decide +kernel) 0 (ci := 12) rfl (T := TX11) (N := 18) (C := "Minestrata") rfl q1000 q1001 q1002 q71 q1003 (by decide +kernel) ⟨(Nat.le_of_ble_eq_true rfl), (Nat.le_of_ble_eq_true rfl)⟩ ⟨(Nat.le_of_ble_eq_true rfl), (Nat.le_of_ble_eq_true rfl)⟩ hl.1 rfl rfl (Nat.le_of_ble_eq_true rfl) dL_setLimit_4) [0] rfl (fun ce q9 H locs hS hce hcv hcl => ?_)
  refine n_catch (E := "java/lang/IllegalArgumentException") (name := "java/lang/IllegalArgumentException") hE hts hown htab [] ⟨0, 9, 12, 13⟩ [] rfl (fun z hz => nomatch hz) (by decide +kernel) (by decide) q808 x819 hce hcv hcl ?_
  refine W.widen (k := 1) (n := 6) (Nat.le_of_ble_eq_true rfl) (Nat.le_of_ble_eq_true rfl) ?_
  refine W.eq (g2 := F0 m 12 ls [.ref q9]) rfl ?_
  refine lv_astore_n (lv' := [(3, .ref q9), (0, .ref a0), (1, .int s1), (2, .ref a1)]) hx hb dL_setLimit_12 rfl hl (by decide) rfl (fun ls hl => ?_)
  refine lv_iconst (v := (1)) hx hb dL_setLimit_13 (by decide +kernel) ?_
  refine W.widen (k := 1) (n := 6) (Nat.le_of_ble_eq_true rfl) (Nat.le_of_ble_eq_true rfl) ?_
  exact W.iret hx hb hr (n_end0 hS (fun _ => 0) rfl rfl) hS.2.2 dL_setLimit_14 hlk

set_option maxHeartbeats 4000000 in
set_option maxRecDepth 100000 in
/-- MinestrataModel.in -/
theorem m71 (l : Launch) (hst : l.stackTraces = false) (dC : Nat → ClassId) (dI : Nat → Nat → Nat) (g : Nat → Nat) (s1 : Int32) (e0 : ¬ (s1 < (0))) (e1 : (9998) < s1) (sz : Nat) :
    Met l Y22 (Cond.code Y22 prog_14_method_3_code 3 (Option.some Jvm.ClassFile.FieldType.boolean) :: AW) ({ frames := 0, cells := 0, slots := 0, locals := 0 } : Room) (nP dC dI g [.int s1, .int (0), .int (9998)] [] sz) (nQ dC dI (fun f => some (.int (0))) (fun f r => []) (va_A [] sz)) 0 0 (va_A [] sz) := by
  refine n_met (by decide +kernel) (Nat.le_of_ble_eq_true rfl) (fun f => some (.int (0))) (fun f r => []) ?_
  intro p e s m below meth c A ls ⟨hx, hb, hr, hml, hown, hts, hlk, hnm⟩ hE hP hD hA hl
  have hown : s.vm.findClass "MinestrataModel" = some m.cls := hown
  have hK := hE.1
  have hS : va_S A s.heap s.heap [] := va_S.rf
  have hl : lv_has ls 3 [(0, .int s1), (1, .int (0)), (2, .int (9998))] := hl
  refine lv_iload_n hx hb dX16_in_0 rfl (lv_at hl 0 rfl) ?_
  refine lv_iload_n hx hb dX16_in_1 rfl (lv_at hl 1 rfl) ?_
  refine lv_icmp_lt (tgt := 14) hx hb dX16_in_2 (by decide +kernel) (fun h => absurd h e0) (fun _ => ?_)
  refine lv_iload_n hx hb dX16_in_5 rfl (lv_at hl 0 rfl) ?_
  refine lv_iload_n hx hb dX16_in_6 rfl (lv_at hl 2 rfl) ?_
  refine lv_icmp_gt (tgt := 14) hx hb dX16_in_7 (by decide +kernel) (fun _ => ?_) (fun h => absurd e1 h)
  refine lv_iconst (v := (0)) hx hb dX16_in_14 (by decide +kernel) ?_
  refine W.widen (k := 0) (n := 0) (Nat.le_of_ble_eq_true rfl) (Nat.le_of_ble_eq_true rfl) ?_
  exact W.zret hx hb hr (by decide +kernel) (n_end hS hP hD [] (by decide +kernel) (fun _ => 0) (fun _ => 0) rfl rfl rfl) hS.2.2 dX16_in_15 hlk

