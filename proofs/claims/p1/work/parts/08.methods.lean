set_option maxHeartbeats 4000000 in
set_option maxRecDepth 100000 in
/-- AbstractCollection.<init> -/
theorem m17 (l : Launch) (hst : l.stackTraces = false) (dC : Nat → ClassId) (dI : Nat → Nat → Nat) (g : Nat → Nat) (a0 : Nat) (sz : Nat) :
    Met l Y14 (Cond.code Y14 prog_40_method_1_code 1 (Option.none : Option Jvm.ClassFile.FieldType) :: AW) ({ frames := 1, cells := 0, slots := 0, locals := 12 } : Room) (nP dC dI g [.ref a0] [] sz) (nQ dC dI (fun f => none) (fun f r => []) (va_A [] sz)) 0 0 (va_A [] sz) := by
  refine n_met (by decide +kernel) (Nat.le_of_ble_eq_true rfl) (fun f => none) (fun f r => []) ?_
  intro p e s m below meth c A ls ⟨hx, hb, hr, hml, hown, hts, hlk, hnm⟩ hE hP hD hA hl
  have hown : s.vm.findClass "java/util/AbstractCollection" = some m.cls := hown
  have hin : meth.name = "<init>" := hnm
  have hK := hE.1
  have hS : va_S A s.heap s.heap [] := va_S.rf
  have hl : lv_has ls 1 [(0, .ref a0)] := hl
  refine lv_aload_n hx hb dJxa1e45_init_da8c8_0 rfl (lv_at hl 0 rfl) ?_
  refine n_oinit hx hb hml hown hts q1407 q118 q119 hl.1 dJxa1e45_init_da8c8_1 (Nat.le_of_ble_eq_true rfl) (Nat.le_of_ble_eq_true rfl) ?_
  refine W.widen (k := 0) (n := 0) (Nat.le_of_ble_eq_true rfl) (Nat.le_of_ble_eq_true rfl) ?_
  exact W.vret hx hb hr (n_end hS hP hD [] (by decide +kernel) (fun _ => 0) (fun _ => 0) rfl rfl rfl) hS.2.2 dJxa1e45_init_da8c8_4 hlk

set_option maxHeartbeats 4000000 in
set_option maxRecDepth 100000 in
/-- AbstractList.<init> -/
theorem m18 (l : Launch) (hst : l.stackTraces = false) (dC : Nat → ClassId) (dI : Nat → Nat → Nat) (g : Nat → Nat) (a0 : Nat) (sz : Nat) :
    Met l Y13 (Cond.code Y13 prog_41_method_1_code 1 (Option.none : Option Jvm.ClassFile.FieldType) :: AW) ({ frames := 2, cells := 0, slots := 0, locals := 32 } : Room) (nP dC dI g [.ref a0] [(a0, .inr (1, [.int (0), .null, .int (0)]))] sz) (nQ dC dI (fun f => none) (fun f r => [(a0, .inr (1, [.int (0), .null, .int (0)]))]) (va_A [(a0, .inr (1, [.int (0), .null, .int (0)]))] sz)) 0 0 (va_A [(a0, .inr (1, [.int (0), .null, .int (0)]))] sz) := by
  refine n_met (by decide +kernel) (Nat.le_of_ble_eq_true rfl) (fun f => none) (fun f r => [(a0, .inr (1, [.int (0), .null, .int (0)]))]) ?_
  intro p e s m below meth c A ls ⟨hx, hb, hr, hml, hown, hts, hlk, hnm⟩ hE hP hD hA hl
  have hown : s.vm.findClass "java/util/AbstractList" = some m.cls := hown
  have hin : meth.name = "<init>" := hnm
  have hK := hE.1
  have hS : va_S A s.heap s.heap [] := va_S.rf
  have hl : lv_has ls 1 [(0, .ref a0)] := hl
  refine lv_aload_n hx hb dJxc12de_init_da8c8_0 rfl (lv_at hl 0 rfl) ?_
  have hX : nCx p s m _ c prog_41_method_1_code 1 "java/util/AbstractList" dC dI g A [(a0, .inr (1, [.int (0), .null, .int (0)]))] _ _ := ⟨⟨hx, hb, hml, hown, hts⟩, hE, hS, hA, hP, hD⟩
  refine n_call (wr := [(a0, .inr (1, [.int (0), .null, .int (0)]))]) hX (n_runI (n := 0) (wc := []) (As := []) (rest := []) hX (m17 l hst dC dI g a0 _) [] rfl (by decide +kernel) q1404 q1405 q83 q1406 rfl (by decide +kernel) ⟨(Nat.le_of_ble_eq_true rfl), (Nat.le_of_ble_eq_true rfl)⟩ ⟨(Nat.le_of_ble_eq_true rfl), (Nat.le_of_ble_eq_true rfl)⟩ hl.1 rfl rfl (Nat.le_of_ble_eq_true rfl) dJxc12de_init_da8c8_1) [] [0] rfl rfl (by decide +kernel) (by decide +kernel) (fun f1 r2 H locs hP hD hS => ?_)
  have hP : va_P (dC, dI) CL [(a0, .inr (1, [.int (0), .null, .int (0)]))] _ := hP
  have hD : va_D A [(a0, .inr (1, [.int (0), .null, .int (0)]))] := hD
  refine W.widen (k := 0) (n := 0) (Nat.le_of_ble_eq_true rfl) (Nat.le_of_ble_eq_true rfl) ?_
  refine W.eq (g2 := F0 m 4 ls []) rfl ?_
  refine lv_aload_n hx hb dJxc12de_init_da8c8_4 rfl (lv_at hl 0 rfl) ?_
  refine lv_iconst (v := (0)) hx hb dJxc12de_init_da8c8_5 (by decide +kernel) ?_
  refine va_put (D := (dC, dI)) (ci := 1) (v := .int (0)) (ty := .int) (C := "java/util/ArrayList") (T := TJx4a65c) (N := 3) hx hb hts inJx4a65c tyJx4a65c tyJx4a65c_ok nmJx4a65c hown hK hP hD hS 0 rfl rfl 0 (by decide) (hts _ q1414) (fun _ h9 => h9) rfl (by decide +kernel) rfl rfl (Nat.le_of_ble_eq_true rfl) dJxc12de_init_da8c8_6 (fun H locs hP hD hS => ?_)
  have hP : va_P (dC, dI) CL [(a0, .inr (1, [.int (0), .null, .int (0)]))] _ := hP
  have hD : va_D A [(a0, .inr (1, [.int (0), .null, .int (0)]))] := hD
  refine W.widen (k := 0) (n := 0) (Nat.le_of_ble_eq_true rfl) (Nat.le_of_ble_eq_true rfl) ?_
  exact W.vret hx hb hr (n_end hS hP hD [0] (by decide +kernel) (fun _ => 0) (fun _ => 0) rfl rfl rfl) hS.2.2 dJxc12de_init_da8c8_9 hlk

set_option maxHeartbeats 4000000 in
set_option maxRecDepth 100000 in
/-- ArrayList.<init> -/
theorem m19 (l : Launch) (hst : l.stackTraces = false) (dC : Nat → ClassId) (dI : Nat → Nat → Nat) (g : Nat → Nat) (a0 : Nat) (sz : Nat) :
    Met l Y12 (Cond.code Y12 prog_42_method_2_code 1 (Option.none : Option Jvm.ClassFile.FieldType) :: AW) ({ frames := 3, cells := 0, slots := 0, locals := 52 } : Room) (nP dC dI g [.ref a0] [(a0, .inr (1, [.int (0), .null, .int (0)]))] sz) (nQ dC dI (fun f => none) (fun f r => [(a0, .inr (1, [.int (0), .ref (g 21), .int (0)]))]) (va_A [(a0, .inr (1, [.int (0), .null, .int (0)]))] sz)) 0 0 (va_A [(a0, .inr (1, [.int (0), .null, .int (0)]))] sz) := by
  refine n_met (by decide +kernel) (Nat.le_of_ble_eq_true rfl) (fun f => none) (fun f r => [(a0, .inr (1, [.int (0), .ref (g 21), .int (0)]))]) ?_
  intro p e s m below meth c A ls ⟨hx, hb, hr, hml, hown, hts, hlk, hnm⟩ hE hP hD hA hl
  have hown : s.vm.findClass "java/util/ArrayList" = some m.cls := hown
  have hin : meth.name = "<init>" := hnm
  have hK := hE.1
  have hS : va_S A s.heap s.heap [] := va_S.rf
  have hl : lv_has ls 1 [(0, .ref a0)] := hl
  refine lv_aload_n hx hb dJx4a65c_init_da8c8_0 rfl (lv_at hl 0 rfl) ?_
  have hX : nCx p s m _ c prog_42_method_2_code 1 "java/util/ArrayList" dC dI g A [(a0, .inr (1, [.int (0), .null, .int (0)]))] _ _ := ⟨⟨hx, hb, hml, hown, hts⟩, hE, hS, hA, hP, hD⟩
  refine n_call (wr := []) hX (n_runI (n := 0) (wc := [(a0, .inr (1, [.int (0), .null, .int (0)]))]) (As := []) (rest := []) hX (m18 l hst dC dI g a0 _) [0] rfl (by decide +kernel) q1401 q1402 q84 q1403 rfl (by decide +kernel) ⟨(Nat.le_of_ble_eq_true rfl), (Nat.le_of_ble_eq_true rfl)⟩ ⟨(Nat.le_of_ble_eq_true rfl), (Nat.le_of_ble_eq_true rfl)⟩ hl.1 rfl rfl (Nat.le_of_ble_eq_true rfl) dJx4a65c_init_da8c8_1) [0] [] rfl rfl (by decide +kernel) (by decide +kernel) (fun f1 r2 H locs hP hD hS => ?_)
  have hP : va_P (dC, dI) CL [(a0, .inr (1, [.int (0), .null, .int (0)]))] _ := hP
  have hD : va_D A [(a0, .inr (1, [.int (0), .null, .int (0)]))] := hD
  refine W.widen (k := 0) (n := 0) (Nat.le_of_ble_eq_true rfl) (Nat.le_of_ble_eq_true rfl) ?_
  refine W.eq (g2 := F0 m 4 ls []) rfl ?_
  refine lv_aload_n hx hb dJx4a65c_init_da8c8_4 rfl (lv_at hl 0 rfl) ?_
  refine va_gets hx hb hE.2.2.2.2.2.2.1 hS hown (hts _ q1408) (fun _ h9 => h9) dJx4a65c_init_da8c8_5 ?_
  refine va_put (D := (dC, dI)) (ci := 1) (v := .ref (g 21)) (ty := (.array (.object "java/lang/Object"))) (C := "java/util/ArrayList") (T := TJx4a65c) (N := 3) hx hb hts inJx4a65c tyJx4a65c tyJx4a65c_ok nmJx4a65c hown hK hP hD hS 0 rfl rfl 1 (by decide) (hts _ q1410) (fun _ h9 => h9) rfl (by decide +kernel) rfl rfl (Nat.le_of_ble_eq_true rfl) dJx4a65c_init_da8c8_8 (fun H locs hP hD hS => ?_)
  have hP : va_P (dC, dI) CL [(a0, .inr (1, [.int (0), .ref (g 21), .int (0)]))] _ := hP
  have hD : va_D A [(a0, .inr (1, [.int (0), .ref (g 21), .int (0)]))] := hD
  refine W.widen (k := 0) (n := 0) (Nat.le_of_ble_eq_true rfl) (Nat.le_of_ble_eq_true rfl) ?_
  exact W.vret hx hb hr (n_end hS hP hD [0] (by decide +kernel) (fun _ => 0) (fun _ => 0) rfl rfl rfl) hS.2.2 dJx4a65c_init_da8c8_11 hlk

set_option maxHeartbeats 4000000 in
set_option maxRecDepth 100000 in
/-- MinestrataModel.<init> -/
theorem m20 (l : Launch) (hst : l.stackTraces = false) (dC : Nat → ClassId) (dI : Nat → Nat → Nat) (g : Nat → Nat) (a0 : Nat) (sz : Nat) :
    Met l Y11 (Cond.code Y11 prog_14_method_1_code 1 (Option.none : Option Jvm.ClassFile.FieldType) :: AW) ({ frames := 4, cells := 20, slots := 152, locals := 72 } : Room) (nP dC dI g [.ref a0] [(a0, .inr (15, [.int (0), .int (0), .int (0), .int (0), .int (0), .null, .null, .null, .null, .null, .null, .null, .null, .null, .null, .null, .null, .int (0), .null, .long (0)]))] sz) (nQ dC dI (fun f => none) (fun f r => [(a0, .inr (15, [.int (0), .int (0), .int (100), .int (0), .int (0), .ref (f 0), .ref (f 5), .ref (f 6), .ref (f 1), .ref (f 7), .ref (f 8), .ref (f 9), .ref (f 2), .ref (f 3), .ref (f 10), .ref (f 4), .null, .int (-1), .ref (f 11), .long (0)])), (f 0, .inl (g 2, 9, .inl (fun _ => 0))), (f 1, .inl (g 0, 9, .inl (fun _ => 0))), (f 2, .inr (1, [.int (0), .ref (g 21), .int (0)])), (f 3, .inr (1, [.int (0), .ref (g 21), .int (0)])), (f 4, .inr (1, [.int (0), .ref (g 21), .int (0)]))]) (va_A [(a0, .inr (15, [.int (0), .int (0), .int (0), .int (0), .int (0), .null, .null, .null, .null, .null, .null, .null, .null, .null, .null, .null, .null, .int (0), .null, .long (0)]))] sz)) 20 152 (va_A [(a0, .inr (15, [.int (0), .int (0), .int (0), .int (0), .int (0), .null, .null, .null, .null, .null, .null, .null, .null, .null, .null, .null, .null, .int (0), .null, .long (0)]))] sz) := by
  refine n_met (by decide +kernel) (Nat.le_of_ble_eq_true rfl) (fun f => none) (fun f r => [(a0, .inr (15, [.int (0), .int (0), .int (100), .int (0), .int (0), .ref (f 0), .ref (f 5), .ref (f 6), .ref (f 1), .ref (f 7), .ref (f 8), .ref (f 9), .ref (f 2), .ref (f 3), .ref (f 10), .ref (f 4), .null, .int (-1), .ref (f 11), .long (0)])), (f 0, .inl (g 2, 9, .inl (fun _ => 0))), (f 1, .inl (g 0, 9, .inl (fun _ => 0))), (f 2, .inr (1, [.int (0), .ref (g 21), .int (0)])), (f 3, .inr (1, [.int (0), .ref (g 21), .int (0)])), (f 4, .inr (1, [.int (0), .ref (g 21), .int (0)]))]) ?_
  intro p e s m below meth c A ls ⟨hx, hb, hr, hml, hown, hts, hlk, hnm⟩ hE hP hD hA hl
  have hown : s.vm.findClass "MinestrataModel" = some m.cls := hown
  have hin : meth.name = "<init>" := hnm
  have hK := hE.1
  have hS : va_S A s.heap s.heap [] := va_S.rf
  have hl : lv_has ls 1 [(0, .ref a0)] := hl
  refine lv_aload_n hx hb dX16_init_0 rfl (lv_at hl 0 rfl) ?_
  refine n_oinit hx hb hml hown hts q1395 q118 q119 hl.1 dX16_init_1 (Nat.le_of_ble_eq_true rfl) (Nat.le_of_ble_eq_true rfl) ?_
  refine lv_aload_n hx hb dX16_init_4 rfl (lv_at hl 0 rfl) ?_
  refine lv_bipush (v := (100)) hx hb dX16_init_5 (by decide +kernel) ?_
  refine va_put (D := (dC, dI)) (ci := 15) (v := .int (100)) (ty := .int) (C := "MinestrataModel") (T := TX16) (N := 20) hx hb hts inX16 tyX16 tyX16_ok nmX16 hown hK hP hD hS 0 rfl rfl 2 (by decide) (hts _ q1430) (fun _ h9 => h9) rfl (by decide +kernel) rfl rfl (Nat.le_of_ble_eq_true rfl) dX16_init_7 (fun H locs hP hD hS => ?_)
  have hP : va_P (dC, dI) CL [(a0, .inr (15, [.int (0), .int (0), .int (100), .int (0), .int (0), .null, .null, .null, .null, .null, .null, .null, .null, .null, .null, .null, .null, .int (0), .null, .long (0)]))] _ := hP
  have hD : va_D A [(a0, .inr (15, [.int (0), .int (0), .int (100), .int (0), .int (0), .null, .null, .null, .null, .null, .null, .null, .null, .null, .null, .null, .null, .int (0), .null, .long (0)]))] := hD
  refine lv_aload_n hx hb dX16_init_10 rfl (lv_at hl 0 rfl) ?_
  refine lv_bipush (v := (9)) hx hb dX16_init_11 (by decide +kernel) ?_
  refine n_newa hx hb (atype := .boolean) (ty := .boolean) q200 hts rfl hK hP hD hS hA 2 rfl (fun _ _ => rfl) (N' := 9) (a0 := (9, .inl (fun _ => 0))) (fun _ => rfl) (by decide +kernel) (by decide +kernel) (Nat.le_of_ble_eq_true rfl) (Nat.le_of_ble_eq_true rfl) (Nat.le_of_ble_eq_true rfl) dX16_init_13 (fun q1 H hP hD hS => ?_)
  have hP : va_P (dC, dI) CL [(a0, .inr (15, [.int (0), .int (0), .int (100), .int (0), .int (0), .null, .null, .null, .null, .null, .null, .null, .null, .null, .null, .null, .null, .int (0), .null, .long (0)])), (q1, .inl (g 2, 9, .inl (fun _ => 0)))] _ := hP
  have hD : va_D A [(a0, .inr (15, [.int (0), .int (0), .int (100), .int (0), .int (0), .null, .null, .null, .null, .null, .null, .null, .null, .null, .null, .null, .null, .int (0), .null, .long (0)])), (q1, .inl (g 2, 9, .inl (fun _ => 0)))] := hD
  refine W.widen (k := 1) (n := 9) (Nat.le_of_ble_eq_true rfl) (Nat.le_of_ble_eq_true rfl) ?_
  refine va_putF (D := (dC, dI)) (ci := 15) (v := .ref q1) (ty := (.array .boolean)) (C := "MinestrataModel") (T := TX16) (N := 20) hx hb hts inX16 tyX16 tyX16_ok nmX16 hown hK hP hD hS 0 rfl rfl 5 (by decide) (hts _ q1434) (fun _ h9 => h9) rfl hin rfl (by decide +kernel) rfl rfl (Nat.le_of_ble_eq_true rfl) dX16_init_15 (fun H locs hP hD hS => ?_)
  have hP : va_P (dC, dI) CL [(a0, .inr (15, [.int (0), .int (0), .int (100), .int (0), .int (0), .ref q1, .null, .null, .null, .null, .null, .null, .null, .null, .null, .null, .null, .int (0), .null, .long (0)])), (q1, .inl (g 2, 9, .inl (fun _ => 0)))] _ := hP
  have hD : va_D A [(a0, .inr (15, [.int (0), .int (0), .int (100), .int (0), .int (0), .ref q1, .null, .null, .null, .null, .null, .null, .null, .null, .null, .null, .null, .int (0), .null, .long (0)])), (q1, .inl (g 2, 9, .inl (fun _ => 0)))] := hD
  refine lv_aload_n hx hb dX16_init_18 rfl (lv_at hl 0 rfl) ?_
  refine lv_bipush (v := (9)) hx hb dX16_init_19 (by decide +kernel) ?_
  refine n_newa hx hb (atype := .boolean) (ty := .boolean) q200 hts rfl hK hP hD hS hA 2 rfl (fun _ _ => rfl) (N' := 9) (a0 := (9, .inl (fun _ => 0))) (fun _ => rfl) (by decide +kernel) (by decide +kernel) (Nat.le_of_ble_eq_true rfl) (Nat.le_of_ble_eq_true rfl) (Nat.le_of_ble_eq_true rfl) dX16_init_21 (fun q2 H hP hD hS => ?_)
  have hP : va_P (dC, dI) CL [(a0, .inr (15, [.int (0), .int (0), .int (100), .int (0), .int (0), .ref q1, .null, .null, .null, .null, .null, .null, .null, .null, .null, .null, .null, .int (0), .null, .long (0)])), (q1, .inl (g 2, 9, .inl (fun _ => 0)))] _ := hP.sub [0, 1] rfl
  have hD : va_D A [(a0, .inr (15, [.int (0), .int (0), .int (100), .int (0), .int (0), .ref q1, .null, .null, .null, .null, .null, .null, .null, .null, .null, .null, .null, .int (0), .null, .long (0)])), (q1, .inl (g 2, 9, .inl (fun _ => 0)))] := hD.sub [0, 1] (by decide +kernel) rfl
  refine W.widen (k := 2) (n := 18) (Nat.le_of_ble_eq_true rfl) (Nat.le_of_ble_eq_true rfl) ?_
  refine va_putF (D := (dC, dI)) (ci := 15) (v := .ref q2) (ty := (.array .boolean)) (C := "MinestrataModel") (T := TX16) (N := 20) hx hb hts inX16 tyX16 tyX16_ok nmX16 hown hK hP hD hS 0 rfl rfl 6 (by decide) (hts _ q1436) (fun _ h9 => h9) rfl hin rfl (by decide +kernel) rfl rfl (Nat.le_of_ble_eq_true rfl) dX16_init_23 (fun H locs hP hD hS => ?_)
  have hP : va_P (dC, dI) CL [(a0, .inr (15, [.int (0), .int (0), .int (100), .int (0), .int (0), .ref q1, .ref q2, .null, .null, .null, .null, .null, .null, .null, .null, .null, .null, .int (0), .null, .long (0)])), (q1, .inl (g 2, 9, .inl (fun _ => 0)))] _ := hP
  have hD : va_D A [(a0, .inr (15, [.int (0), .int (0), .int (100), .int (0), .int (0), .ref q1, .ref q2, .null, .null, .null, .null, .null, .null, .null, .null, .null, .null, .int (0), .null, .long (0)])), (q1, .inl (g 2, 9, .inl (fun _ => 0)))] := hD
  refine lv_aload_n hx hb dX16_init_26 rfl (lv_at hl 0 rfl) ?_
  refine lv_bipush (v := (9)) hx hb dX16_init_27 (by decide +kernel) ?_
  refine n_newa hx hb (atype := .boolean) (ty := .boolean) q200 hts rfl hK hP hD hS hA 2 rfl (fun _ _ => rfl) (N' := 9) (a0 := (9, .inl (fun _ => 0))) (fun _ => rfl) (by decide +kernel) (by decide +kernel) (Nat.le_of_ble_eq_true rfl) (Nat.le_of_ble_eq_true rfl) (Nat.le_of_ble_eq_true rfl) dX16_init_29 (fun q3 H hP hD hS => ?_)
  have hP : va_P (dC, dI) CL [(a0, .inr (15, [.int (0), .int (0), .int (100), .int (0), .int (0), .ref q1, .ref q2, .null, .null, .null, .null, .null, .null, .null, .null, .null, .null, .int (0), .null, .long (0)])), (q1, .inl (g 2, 9, .inl (fun _ => 0)))] _ := hP.sub [0, 1] rfl
  have hD : va_D A [(a0, .inr (15, [.int (0), .int (0), .int (100), .int (0), .int (0), .ref q1, .ref q2, .null, .null, .null, .null, .null, .null, .null, .null, .null, .null, .int (0), .null, .long (0)])), (q1, .inl (g 2, 9, .inl (fun _ => 0)))] := hD.sub [0, 1] (by decide +kernel) rfl
  refine W.widen (k := 3) (n := 27) (Nat.le_of_ble_eq_true rfl) (Nat.le_of_ble_eq_true rfl) ?_
  refine va_putF (D := (dC, dI)) (ci := 15) (v := .ref q3) (ty := (.array .boolean)) (C := "MinestrataModel") (T := TX16) (N := 20) hx hb hts inX16 tyX16 tyX16_ok nmX16 hown hK hP hD hS 0 rfl rfl 7 (by decide) (hts _ q1437) (fun _ h9 => h9) rfl hin rfl (by decide +kernel) rfl rfl (Nat.le_of_ble_eq_true rfl) dX16_init_31 (fun H locs hP hD hS => ?_)
  have hP : va_P (dC, dI) CL [(a0, .inr (15, [.int (0), .int (0), .int (100), .int (0), .int (0), .ref q1, .ref q2, .ref q3, .null, .null, .null, .null, .null, .null, .null, .null, .null, .int (0), .null, .long (0)])), (q1, .inl (g 2, 9, .inl (fun _ => 0)))] _ := hP
  have hD : va_D A [(a0, .inr (15, [.int (0), .int (0), .int (100), .int (0), .int (0), .ref q1, .ref q2, .ref q3, .null, .null, .null, .null, .null, .null, .null, .null, .null, .int (0), .null, .long (0)])), (q1, .inl (g 2, 9, .inl (fun _ => 0)))] := hD
  refine lv_aload_n hx hb dX16_init_34 rfl (lv_at hl 0 rfl) ?_
  refine lv_bipush (v := (9)) hx hb dX16_init_35 (by decide +kernel) ?_
  refine n_newa hx hb (atype := .int) (ty := .int) q201 hts rfl hK hP hD hS hA 0 rfl (fun _ _ => rfl) (N' := 9) (a0 := (9, .inl (fun _ => 0))) (fun _ => rfl) (by decide +kernel) (by decide +kernel) (Nat.le_of_ble_eq_true rfl) (Nat.le_of_ble_eq_true rfl) (Nat.le_of_ble_eq_true rfl) dX16_init_37 (fun q4 H hP hD hS => ?_)
  have hP : va_P (dC, dI) CL [(a0, .inr (15, [.int (0), .int (0), .int (100), .int (0), .int (0), .ref q1, .ref q2, .ref q3, .null, .null, .null, .null, .null, .null, .null, .null, .null, .int (0), .null, .long (0)])), (q1, .inl (g 2, 9, .inl (fun _ => 0))), (q4, .inl (g 0, 9, .inl (fun _ => 0)))] _ := hP
  have hD : va_D A [(a0, .inr (15, [.int (0), .int (0), .int (100), .int (0), .int (0), .ref q1, .ref q2, .ref q3, .null, .null, .null, .null, .null, .null, .null, .null, .null, .int (0), .null, .long (0)])), (q1, .inl (g 2, 9, .inl (fun _ => 0))), (q4, .inl (g 0, 9, .inl (fun _ => 0)))] := hD
  refine W.widen (k := 4) (n := 36) (Nat.le_of_ble_eq_true rfl) (Nat.le_of_ble_eq_true rfl) ?_
  refine va_putF (D := (dC, dI)) (ci := 15) (v := .ref q4) (ty := (.array .int)) (C := "MinestrataModel") (T := TX16) (N := 20) hx hb hts inX16 tyX16 tyX16_ok nmX16 hown hK hP hD hS 0 rfl rfl 8 (by decide) (hts _ q1439) (fun _ h9 => h9) rfl hin rfl (by decide +kernel) rfl rfl (Nat.le_of_ble_eq_true rfl) dX16_init_39 (fun H locs hP hD hS => ?_)
  have hP : va_P (dC, dI) CL [(a0, .inr (15, [.int (0), .int (0), .int (100), .int (0), .int (0), .ref q1, .ref q2, .ref q3, .ref q4, .null, .null, .null, .null, .null, .null, .null, .null, .int (0), .null, .long (0)])), (q1, .inl (g 2, 9, .inl (fun _ => 0))), (q4, .inl (g 0, 9, .inl (fun _ => 0)))] _ := hP
  have hD : va_D A [(a0, .inr (15, [.int (0), .int (0), .int (100), .int (0), .int (0), .ref q1, .ref q2, .ref q3, .ref q4, .null, .null, .null, .null, .null, .null, .null, .null, .int (0), .null, .long (0)])), (q1, .inl (g 2, 9, .inl (fun _ => 0))), (q4, .inl (g 0, 9, .inl (fun _ => 0)))] := hD
  refine lv_aload_n hx hb dX16_init_42 rfl (lv_at hl 0 rfl) ?_
  refine lv_bipush (v := (9)) hx hb dX16_init_43 (by decide +kernel) ?_
  refine n_newa hx hb (atype := .int) (ty := .int) q201 hts rfl hK hP hD hS hA 0 rfl (fun _ _ => rfl) (N' := 9) (a0 := (9, .inl (fun _ => 0))) (fun _ => rfl) (by decide +kernel) (by decide +kernel) (Nat.le_of_ble_eq_true rfl) (Nat.le_of_ble_eq_true rfl) (Nat.le_of_ble_eq_true rfl) dX16_init_45 (fun q5 H hP hD hS => ?_)
  have hP : va_P (dC, dI) CL [(a0, .inr (15, [.int (0), .int (0), .int (100), .int (0), .int (0), .ref q1, .ref q2, .ref q3, .ref q4, .null, .null, .null, .null, .null, .null, .null, .null, .int (0), .null, .long (0)])), (q1, .inl (g 2, 9, .inl (fun _ => 0))), (q4, .inl (g 0, 9, .inl (fun _ => 0)))] _ := hP.sub [0, 1, 2] rfl
  have hD : va_D A [(a0, .inr (15, [.int (0), .int (0), .int (100), .int (0), .int (0), .ref q1, .ref q2, .ref q3, .ref q4, .null, .null, .null, .null, .null, .null, .null, .null, .int (0), .null, .long (0)])), (q1, .inl (g 2, 9, .inl (fun _ => 0))), (q4, .inl (g 0, 9, .inl (fun _ => 0)))] := hD.sub [0, 1, 2] (by decide +kernel) rfl
  refine W.widen (k := 5) (n := 45) (Nat.le_of_ble_eq_true rfl) (Nat.le_of_ble_eq_true rfl) ?_
  refine va_putF (D := (dC, dI)) (ci := 15) (v := .ref q5) (ty := (.array .int)) (C := "MinestrataModel") (T := TX16) (N := 20) hx hb hts inX16 tyX16 tyX16_ok nmX16 hown hK hP hD hS 0 rfl rfl 9 (by decide) (hts _ q1441) (fun _ h9 => h9) rfl hin rfl (by decide +kernel) rfl rfl (Nat.le_of_ble_eq_true rfl) dX16_init_47 (fun H locs hP hD hS => ?_)
  have hP : va_P (dC, dI) CL [(a0, .inr (15, [.int (0), .int (0), .int (100), .int (0), .int (0), .ref q1, .ref q2, .ref q3, .ref q4, .ref q5, .null, .null, .null, .null, .null, .null, .null, .int (0), .null, .long (0)])), (q1, .inl (g 2, 9, .inl (fun _ => 0))), (q4, .inl (g 0, 9, .inl (fun _ => 0)))] _ := hP
  have hD : va_D A [(a0, .inr (15, [.int (0), .int (0), .int (100), .int (0), .int (0), .ref q1, .ref q2, .ref q3, .ref q4, .ref q5, .null, .null, .null, .null, .null, .null, .null, .int (0), .null, .long (0)])), (q1, .inl (g 2, 9, .inl (fun _ => 0))), (q4, .inl (g 0, 9, .inl (fun _ => 0)))] := hD
  refine lv_aload_n hx hb dX16_init_50 rfl (lv_at hl 0 rfl) ?_
  refine lv_bipush (v := (9)) hx hb dX16_init_51 (by decide +kernel) ?_
  refine n_newa hx hb (atype := .int) (ty := .int) q201 hts rfl hK hP hD hS hA 0 rfl (fun _ _ => rfl) (N' := 9) (a0 := (9, .inl (fun _ => 0))) (fun _ => rfl) (by decide +kernel) (by decide +kernel) (Nat.le_of_ble_eq_true rfl) (Nat.le_of_ble_eq_true rfl) (Nat.le_of_ble_eq_true rfl) dX16_init_53 (fun q6 H hP hD hS => ?_)
  have hP : va_P (dC, dI) CL [(a0, .inr (15, [.int (0), .int (0), .int (100), .int (0), .int (0), .ref q1, .ref q2, .ref q3, .ref q4, .ref q5, .null, .null, .null, .null, .null, .null, .null, .int (0), .null, .long (0)])), (q1, .inl (g 2, 9, .inl (fun _ => 0))), (q4, .inl (g 0, 9, .inl (fun _ => 0)))] _ := hP.sub [0, 1, 2] rfl
  have hD : va_D A [(a0, .inr (15, [.int (0), .int (0), .int (100), .int (0), .int (0), .ref q1, .ref q2, .ref q3, .ref q4, .ref q5, .null, .null, .null, .null, .null, .null, .null, .int (0), .null, .long (0)])), (q1, .inl (g 2, 9, .inl (fun _ => 0))), (q4, .inl (g 0, 9, .inl (fun _ => 0)))] := hD.sub [0, 1, 2] (by decide +kernel) rfl
  refine W.widen (k := 6) (n := 54) (Nat.le_of_ble_eq_true rfl) (Nat.le_of_ble_eq_true rfl) ?_
  refine va_putF (D := (dC, dI)) (ci := 15) (v := .ref q6) (ty := (.array .int)) (C := "MinestrataModel") (T := TX16) (N := 20) hx hb hts inX16 tyX16 tyX16_ok nmX16 hown hK hP hD hS 0 rfl rfl 10 (by decide) (hts _ q1443) (fun _ h9 => h9) rfl hin rfl (by decide +kernel) rfl rfl (Nat.le_of_ble_eq_true rfl) dX16_init_55 (fun H locs hP hD hS => ?_)
  have hP : va_P (dC, dI) CL [(a0, .inr (15, [.int (0), .int (0), .int (100), .int (0), .int (0), .ref q1, .ref q2, .ref q3, .ref q4, .ref q5, .ref q6, .null, .null, .null, .null, .null, .null, .int (0), .null, .long (0)])), (q1, .inl (g 2, 9, .inl (fun _ => 0))), (q4, .inl (g 0, 9, .inl (fun _ => 0)))] _ := hP
  have hD : va_D A [(a0, .inr (15, [.int (0), .int (0), .int (100), .int (0), .int (0), .ref q1, .ref q2, .ref q3, .ref q4, .ref q5, .ref q6, .null, .null, .null, .null, .null, .null, .int (0), .null, .long (0)])), (q1, .inl (g 2, 9, .inl (fun _ => 0))), (q4, .inl (g 0, 9, .inl (fun _ => 0)))] := hD
  refine lv_aload_n hx hb dX16_init_58 rfl (lv_at hl 0 rfl) ?_
  refine lv_bipush (v := (9)) hx hb dX16_init_59 (by decide +kernel) ?_
  refine n_newa hx hb (atype := .int) (ty := .int) q201 hts rfl hK hP hD hS hA 0 rfl (fun _ _ => rfl) (N' := 9) (a0 := (9, .inl (fun _ => 0))) (fun _ => rfl) (by decide +kernel) (by decide +kernel) (Nat.le_of_ble_eq_true rfl) (Nat.le_of_ble_eq_true rfl) (Nat.le_of_ble_eq_true rfl) dX16_init_61 (fun q7 H hP hD hS => ?_)
  have hP : va_P (dC, dI) CL [(a0, .inr (15, [.int (0), .int (0), .int (100), .int (0), .int (0), .ref q1, .ref q2, .ref q3, .ref q4, .ref q5, .ref q6, .null, .null, .null, .null, .null, .null, .int (0), .null, .long (0)])), (q1, .inl (g 2, 9, .inl (fun _ => 0))), (q4, .inl (g 0, 9, .inl (fun _ => 0)))] _ := hP.sub [0, 1, 2] rfl
  have hD : va_D A [(a0, .inr (15, [.int (0), .int (0), .int (100), .int (0), .int (0), .ref q1, .ref q2, .ref q3, .ref q4, .ref q5, .ref q6, .null, .null, .null, .null, .null, .null, .int (0), .null, .long (0)])), (q1, .inl (g 2, 9, .inl (fun _ => 0))), (q4, .inl (g 0, 9, .inl (fun _ => 0)))] := hD.sub [0, 1, 2] (by decide +kernel) rfl
  refine W.widen (k := 7) (n := 63) (Nat.le_of_ble_eq_true rfl) (Nat.le_of_ble_eq_true rfl) ?_
  refine va_putF (D := (dC, dI)) (ci := 15) (v := .ref q7) (ty := (.array .int)) (C := "MinestrataModel") (T := TX16) (N := 20) hx hb hts inX16 tyX16 tyX16_ok nmX16 hown hK hP hD hS 0 rfl rfl 11 (by decide) (hts _ q1444) (fun _ h9 => h9) rfl hin rfl (by decide +kernel) rfl rfl (Nat.le_of_ble_eq_true rfl) dX16_init_63 (fun H locs hP hD hS => ?_)
  have hP : va_P (dC, dI) CL [(a0, .inr (15, [.int (0), .int (0), .int (100), .int (0), .int (0), .ref q1, .ref q2, .ref q3, .ref q4, .ref q5, .ref q6, .ref q7, .null, .null, .null, .null, .null, .int (0), .null, .long (0)])), (q1, .inl (g 2, 9, .inl (fun _ => 0))), (q4, .inl (g 0, 9, .inl (fun _ => 0)))] _ := hP
  have hD : va_D A [(a0, .inr (15, [.int (0), .int (0), .int (100), .int (0), .int (0), .ref q1, .ref q2, .ref q3, .ref q4, .ref q5, .ref q6, .ref q7, .null, .null, .null, .null, .null, .int (0), .null, .long (0)])), (q1, .inl (g 2, 9, .inl (fun _ => 0))), (q4, .inl (g 0, 9, .inl (fun _ => 0)))] := hD
  refine lv_aload_n hx hb dX16_init_66 rfl (lv_at hl 0 rfl) ?_
  refine va_new (ci := 1) (fs := [.int (0), .null, .int (0)]) (C := "java/util/ArrayList") (T := TJx4a65c) (N := 3) hx hb hts inJx4a65c tyJx4a65c tyJx4a65c_ok hown (hts _ q1396) (hts _ q1397) (hts _ q85) hK hP hD hS hA rfl dfJx4a65c (Nat.le_of_ble_eq_true rfl) (Nat.le_of_ble_eq_true rfl) dX16_init_67 (fun q8 H hP hD hS => ?_)
  have hP : va_P (dC, dI) CL [(a0, .inr (15, [.int (0), .int (0), .int (100), .int (0), .int (0), .ref q1, .ref q2, .ref q3, .ref q4, .ref q5, .ref q6, .ref q7, .null, .null, .null, .null, .null, .int (0), .null, .long (0)])), (q1, .inl (g 2, 9, .inl (fun _ => 0))), (q4, .inl (g 0, 9, .inl (fun _ => 0))), (q8, .inr (1, [.int (0), .null, .int (0)]))] _ := hP
  have hD : va_D A [(a0, .inr (15, [.int (0), .int (0), .int (100), .int (0), .int (0), .ref q1, .ref q2, .ref q3, .ref q4, .ref q5, .ref q6, .ref q7, .null, .null, .null, .null, .null, .int (0), .null, .long (0)])), (q1, .inl (g 2, 9, .inl (fun _ => 0))), (q4, .inl (g 0, 9, .inl (fun _ => 0))), (q8, .inr (1, [.int (0), .null, .int (0)]))] := hD
  refine W.widen (k := 8) (n := 66) (Nat.le_of_ble_eq_true rfl) (Nat.le_of_ble_eq_true rfl) ?_
  refine lv_dup hx hb dX16_init_70 rfl ?_
  have hX : nCx p s m _ c prog_14_method_1_code 1 "MinestrataModel" dC dI g A [(a0, .inr (15, [.int (0), .int (0), .int (100), .int (0), .int (0), .ref q1, .ref q2, .ref q3, .ref q4, .ref q5, .ref q6, .ref q7, .null, .null, .null, .null, .null, .int (0), .null, .long (0)])), (q1, .inl (g 2, 9, .inl (fun _ => 0))), (q4, .inl (g 0, 9, .inl (fun _ => 0))), (q8, .inr (1, [.int (0), .null, .int (0)]))] _ _ := ⟨⟨hx, hb, hml, hown, hts⟩, hE, hS, hA, hP, hD⟩
  refine n_call (wr := [(a0, .inr (15, [.int (0), .int (0), .int (100), .int (0), .int (0), .ref q1, .ref q2, .ref q3, .ref q4, .ref q5, .ref q6, .ref q7, .null, .null, .null, .null, .null, .int (0), .null, .long (0)])), (q1, .inl (g 2, 9, .inl (fun _ => 0))), (q4, .inl (g 0, 9, .inl (fun _ => 0)))]) hX (n_runI (n := 0) (wc := [(q8, .inr (1, [.int (0), .null, .int (0)]))]) (As := []) (rest := [.ref q8, .ref a0]) hX (m19 l hst dC dI g q8 _) [3] rfl (by decide +kernel) q1398 q1399 q85 q1400 rfl (by decide +kernel) ⟨(Nat.le_of_ble_eq_true rfl), (Nat.le_of_ble_eq_true rfl)⟩ ⟨(Nat.le_of_ble_eq_true rfl), (Nat.le_of_ble_eq_true rfl)⟩ hl.1 rfl rfl (Nat.le_of_ble_eq_true rfl) dX16_init_71) [3] [0, 1, 2] rfl rfl (by decide +kernel) (by decide +kernel) (fun f9 r10 H locs hP hD hS => ?_)
  have hP : va_P (dC, dI) CL [(a0, .inr (15, [.int (0), .int (0), .int (100), .int (0), .int (0), .ref q1, .ref q2, .ref q3, .ref q4, .ref q5, .ref q6, .ref q7, .null, .null, .null, .null, .null, .int (0), .null, .long (0)])), (q1, .inl (g 2, 9, .inl (fun _ => 0))), (q4, .inl (g 0, 9, .inl (fun _ => 0))), (q8, .inr (1, [.int (0), .ref (g 21), .int (0)]))] _ := hP
  have hD : va_D A [(a0, .inr (15, [.int (0), .int (0), .int (100), .int (0), .int (0), .ref q1, .ref q2, .ref q3, .ref q4, .ref q5, .ref q6, .ref q7, .null, .null, .null, .null, .null, .int (0), .null, .long (0)])), (q1, .inl (g 2, 9, .inl (fun _ => 0))), (q4, .inl (g 0, 9, .inl (fun _ => 0))), (q8, .inr (1, [.int (0), .ref (g 21), .int (0)]))] := hD
  refine W.widen (k := 8) (n := 66) (Nat.le_of_ble_eq_true rfl) (Nat.le_of_ble_eq_true rfl) ?_
  refine W.eq (g2 := F0 m 74 ls [.ref q8, .ref a0]) rfl ?_
  refine va_put (D := (dC, dI)) (ci := 15) (v := .ref q8) (ty := (.object "java/util/ArrayList")) (C := "MinestrataModel") (T := TX16) (N := 20) hx hb hts inX16 tyX16 tyX16_ok nmX16 hown hK hP hD hS 0 rfl rfl 12 (by decide) (hts _ q1445) (fun _ h9 => h9) rfl (by decide +kernel) rfl rfl (Nat.le_of_ble_eq_true rfl) dX16_init_74 (fun H locs hP hD hS => ?_)
  have hP : va_P (dC, dI) CL [(a0, .inr (15, [.int (0), .int (0), .int (100), .int (0), .int (0), .ref q1, .ref q2, .ref q3, .ref q4, .ref q5, .ref q6, .ref q7, .ref q8, .null, .null, .null, .null, .int (0), .null, .long (0)])), (q1, .inl (g 2, 9, .inl (fun _ => 0))), (q4, .inl (g 0, 9, .inl (fun _ => 0))), (q8, .inr (1, [.int (0), .ref (g 21), .int (0)]))] _ := hP
  have hD : va_D A [(a0, .inr (15, [.int (0), .int (0), .int (100), .int (0), .int (0), .ref q1, .ref q2, .ref q3, .ref q4, .ref q5, .ref q6, .ref q7, .ref q8, .null, .null, .null, .null, .int (0), .null, .long (0)])), (q1, .inl (g 2, 9, .inl (fun _ => 0))), (q4, .inl (g 0, 9, .inl (fun _ => 0))), (q8, .inr (1, [.int (0), .ref (g 21), .int (0)]))] := hD
  refine lv_aload_n hx hb dX16_init_77 rfl (lv_at hl 0 rfl) ?_
  refine va_new (ci := 1) (fs := [.int (0), .null, .int (0)]) (C := "java/util/ArrayList") (T := TJx4a65c) (N := 3) hx hb hts inJx4a65c tyJx4a65c tyJx4a65c_ok hown (hts _ q1396) (hts _ q1397) (hts _ q85) hK hP hD hS hA rfl dfJx4a65c (Nat.le_of_ble_eq_true rfl) (Nat.le_of_ble_eq_true rfl) dX16_init_78 (fun q11 H hP hD hS => ?_)
  have hP : va_P (dC, dI) CL [(a0, .inr (15, [.int (0), .int (0), .int (100), .int (0), .int (0), .ref q1, .ref q2, .ref q3, .ref q4, .ref q5, .ref q6, .ref q7, .ref q8, .null, .null, .null, .null, .int (0), .null, .long (0)])), (q1, .inl (g 2, 9, .inl (fun _ => 0))), (q4, .inl (g 0, 9, .inl (fun _ => 0))), (q8, .inr (1, [.int (0), .ref (g 21), .int (0)])), (q11, .inr (1, [.int (0), .null, .int (0)]))] _ := hP
  have hD : va_D A [(a0, .inr (15, [.int (0), .int (0), .int (100), .int (0), .int (0), .ref q1, .ref q2, .ref q3, .ref q4, .ref q5, .ref q6, .ref q7, .ref q8, .null, .null, .null, .null, .int (0), .null, .long (0)])), (q1, .inl (g 2, 9, .inl (fun _ => 0))), (q4, .inl (g 0, 9, .inl (fun _ => 0))), (q8, .inr (1, [.int (0), .ref (g 21), .int (0)])), (q11, .inr (1, [.int (0), .null, .int (0)]))] := hD
  refine W.widen (k := 9) (n := 69) (Nat.le_of_ble_eq_true rfl) (Nat.le_of_ble_eq_true rfl) ?_
  refine lv_dup hx hb dX16_init_81 rfl ?_
  have hX : nCx p s m _ c prog_14_method_1_code 1 "MinestrataModel" dC dI g A [(a0, .inr (15, [.int (0), .int (0), .int (100), .int (0), .int (0), .ref q1, .ref q2, .ref q3, .ref q4, .ref q5, .ref q6, .ref q7, .ref q8, .null, .null, .null, .null, .int (0), .null, .long (0)])), (q1, .inl (g 2, 9, .inl (fun _ => 0))), (q4, .inl (g 0, 9, .inl (fun _ => 0))), (q8, .inr (1, [.int (0), .ref (g 21), .int (0)])), (q11, .inr (1, [.int (0), .null, .int (0)]))] _ _ := ⟨⟨hx, hb, hml, hown, hts⟩, hE, hS, hA, hP, hD⟩
  refine n_call (wr := [(a0, .inr (15, [.int (0), .int (0), .int (100), .int (0), .int (0), .ref q1, .ref q2, .ref q3, .ref q4, .ref q5, .ref q6, .ref q7, .ref q8, .null, .null, .null, .null, .int (0), .null, .long (0)])), (q1, .inl (g 2, 9, .inl (fun _ => 0))), (q4, .inl (g 0, 9, .inl (fun _ => 0))), (q8, .inr (1, [.int (0), .ref (g 21), .int (0)]))]) hX (n_runI (n := 0) (wc := [(q11, .inr (1, [.int (0), .null, .int (0)]))]) (As := []) (rest := [.ref q11, .ref a0]) hX (m19 l hst dC dI g q11 _) [4] rfl (by decide +kernel) q1398 q1399 q85 q1400 rfl (by decide +kernel) ⟨(Nat.le_of_ble_eq_true rfl), (Nat.le_of_ble_eq_true rfl)⟩ ⟨(Nat.le_of_ble_eq_true rfl), (Nat.le_of_ble_eq_true rfl)⟩ hl.1 rfl rfl (Nat.le_of_ble_eq_true rfl) dX16_init_82) [4] [0, 1, 2, 3] rfl rfl (by decide +kernel) (by decide +kernel) (fun f12 r13 H locs hP hD hS => ?_)
  have hP : va_P (dC, dI) CL [(a0, .inr (15, [.int (0), .int (0), .int (100), .int (0), .int (0), .ref q1, .ref q2, .ref q3, .ref q4, .ref q5, .ref q6, .ref q7, .ref q8, .null, .null, .null, .null, .int (0), .null, .long (0)])), (q1, .inl (g 2, 9, .inl (fun _ => 0))), (q4, .inl (g 0, 9, .inl (fun _ => 0))), (q8, .inr (1, [.int (0), .ref (g 21), .int (0)])), (q11, .inr (1, [.int (0), .ref (g 21), .int (0)]))] _ := hP
  have hD : va_D A [(a0, .inr (15, [.int (0), .int (0), .int (100), .int (0), .int (0), .ref q1, .ref q2, .ref q3, .ref q4, .ref q5, .ref q6, .ref q7, .ref q8, .null, .null, .null, .null, .int (0), .null, .long (0)])), (q1, .inl (g 2, 9, .inl (fun _ => 0))), (q4, .inl (g 0, 9, .inl (fun _ => 0))), (q8, .inr (1, [.int (0), .ref (g 21), .int (0)])), (q11, .inr (1, [.int (0), .ref (g 21), .int (0)]))] := hD
  refine W.widen (k := 9) (n := 69) (Nat.le_of_ble_eq_true rfl) (Nat.le_of_ble_eq_true rfl) ?_
  refine W.eq (g2 := F0 m 85 ls [.ref q11, .ref a0]) rfl ?_
  refine va_put (D := (dC, dI)) (ci := 15) (v := .ref q11) (ty := (.object "java/util/ArrayList")) (C := "MinestrataModel") (T := TX16) (N := 20) hx hb hts inX16 tyX16 tyX16_ok nmX16 hown hK hP hD hS 0 rfl rfl 13 (by decide) (hts _ q1447) (fun _ h9 => h9) rfl (by decide +kernel) rfl rfl (Nat.le_of_ble_eq_true rfl) dX16_init_85 (fun H locs hP hD hS => ?_)
  have hP : va_P (dC, dI) CL [(a0, .inr (15, [.int (0), .int (0), .int (100), .int (0), .int (0), .ref q1, .ref q2, .ref q3, .ref q4, .ref q5, .ref q6, .ref q7, .ref q8, .ref q11, .null, .null, .null, .int (0), .null, .long (0)])), (q1, .inl (g 2, 9, .inl (fun _ => 0))), (q4, .inl (g 0, 9, .inl (fun _ => 0))), (q8, .inr (1, [.int (0), .ref (g 21), .int (0)])), (q11, .inr (1, [.int (0), .ref (g 21), .int (0)]))] _ := hP
  have hD : va_D A [(a0, .inr (15, [.int (0), .int (0), .int (100), .int (0), .int (0), .ref q1, .ref q2, .ref q3, .ref q4, .ref q5, .ref q6, .ref q7, .ref q8, .ref q11, .null, .null, .null, .int (0), .null, .long (0)])), (q1, .inl (g 2, 9, .inl (fun _ => 0))), (q4, .inl (g 0, 9, .inl (fun _ => 0))), (q8, .inr (1, [.int (0), .ref (g 21), .int (0)])), (q11, .inr (1, [.int (0), .ref (g 21), .int (0)]))] := hD
  refine lv_aload_n hx hb dX16_init_88 rfl (lv_at hl 0 rfl) ?_
  refine lv_bipush (v := (8)) hx hb dX16_init_89 (by decide +kernel) ?_
  refine lv_bipush (v := (8)) hx hb dX16_init_91 (by decide +kernel) ?_
  refine n_mna hx hb (ty := .boolean) hown hts q1425 hE.2.2.1.2.1 (hts _ q200) hK hP hD hS hA 6 rfl (hK.2 2 _ rfl).2 (N' := 8) (K' := 8) (z := (8, .inl (fun _ => 0))) (by decide +kernel) (by decide +kernel) (by decide +kernel) (by decide +kernel) (Nat.le_of_ble_eq_true rfl) (Nat.le_of_ble_eq_true rfl) (Nat.le_of_ble_eq_true rfl) rfl rfl (Nat.le_of_ble_eq_true rfl) (Nat.le_of_ble_eq_true rfl) (fun c9 => n_inner c9 8 _) dX16_init_93 (fun q14 r15 H hP hD hS => ?_)
  have hP : va_P (dC, dI) CL [(a0, .inr (15, [.int (0), .int (0), .int (100), .int (0), .int (0), .ref q1, .ref q2, .ref q3, .ref q4, .ref q5, .ref q6, .ref q7, .ref q8, .ref q11, .null, .null, .null, .int (0), .null, .long (0)])), (q1, .inl (g 2, 9, .inl (fun _ => 0))), (q4, .inl (g 0, 9, .inl (fun _ => 0))), (q8, .inr (1, [.int (0), .ref (g 21), .int (0)])), (q11, .inr (1, [.int (0), .ref (g 21), .int (0)]))] _ := hP.sub [0, 1, 2, 3, 4] rfl
  have hD : va_D A [(a0, .inr (15, [.int (0), .int (0), .int (100), .int (0), .int (0), .ref q1, .ref q2, .ref q3, .ref q4, .ref q5, .ref q6, .ref q7, .ref q8, .ref q11, .null, .null, .null, .int (0), .null, .long (0)])), (q1, .inl (g 2, 9, .inl (fun _ => 0))), (q4, .inl (g 0, 9, .inl (fun _ => 0))), (q8, .inr (1, [.int (0), .ref (g 21), .int (0)])), (q11, .inr (1, [.int (0), .ref (g 21), .int (0)]))] := hD.sub [0, 1, 2, 3, 4] (by decide +kernel) rfl
  refine W.widen (k := 18) (n := 141) (Nat.le_of_ble_eq_true rfl) (Nat.le_of_ble_eq_true rfl) ?_
  refine va_putF (D := (dC, dI)) (ci := 15) (v := .ref q14) (ty := (.array (.array .boolean))) (C := "MinestrataModel") (T := TX16) (N := 20) hx hb hts inX16 tyX16 tyX16_ok nmX16 hown hK hP hD hS 0 rfl rfl 14 (by decide) (hts _ q1448) (fun _ h9 => h9) rfl hin rfl (by decide +kernel) rfl rfl (Nat.le_of_ble_eq_true rfl) dX16_init_97 (fun H locs hP hD hS => ?_)
  have hP : va_P (dC, dI) CL [(a0, .inr (15, [.int (0), .int (0), .int (100), .int (0), .int (0), .ref q1, .ref q2, .ref q3, .ref q4, .ref q5, .ref q6, .ref q7, .ref q8, .ref q11, .ref q14, .null, .null, .int (0), .null, .long (0)])), (q1, .inl (g 2, 9, .inl (fun _ => 0))), (q4, .inl (g 0, 9, .inl (fun _ => 0))), (q8, .inr (1, [.int (0), .ref (g 21), .int (0)])), (q11, .inr (1, [.int (0), .ref (g 21), .int (0)]))] _ := hP
  have hD : va_D A [(a0, .inr (15, [.int (0), .int (0), .int (100), .int (0), .int (0), .ref q1, .ref q2, .ref q3, .ref q4, .ref q5, .ref q6, .ref q7, .ref q8, .ref q11, .ref q14, .null, .null, .int (0), .null, .long (0)])), (q1, .inl (g 2, 9, .inl (fun _ => 0))), (q4, .inl (g 0, 9, .inl (fun _ => 0))), (q8, .inr (1, [.int (0), .ref (g 21), .int (0)])), (q11, .inr (1, [.int (0), .ref (g 21), .int (0)]))] := hD
  refine lv_aload_n hx hb dX16_init_100 rfl (lv_at hl 0 rfl) ?_
  refine va_new (ci := 1) (fs := [.int (0), .null, .int (0)]) (C := "java/util/ArrayList") (T := TJx4a65c) (N := 3) hx hb hts inJx4a65c tyJx4a65c tyJx4a65c_ok hown (hts _ q1396) (hts _ q1397) (hts _ q85) hK hP hD hS hA rfl dfJx4a65c (Nat.le_of_ble_eq_true rfl) (Nat.le_of_ble_eq_true rfl) dX16_init_101 (fun q16 H hP hD hS => ?_)
  have hP : va_P (dC, dI) CL [(a0, .inr (15, [.int (0), .int (0), .int (100), .int (0), .int (0), .ref q1, .ref q2, .ref q3, .ref q4, .ref q5, .ref q6, .ref q7, .ref q8, .ref q11, .ref q14, .null, .null, .int (0), .null, .long (0)])), (q1, .inl (g 2, 9, .inl (fun _ => 0))), (q4, .inl (g 0, 9, .inl (fun _ => 0))), (q8, .inr (1, [.int (0), .ref (g 21), .int (0)])), (q11, .inr (1, [.int (0), .ref (g 21), .int (0)])), (q16, .inr (1, [.int (0), .null, .int (0)]))] _ := hP
  have hD : va_D A [(a0, .inr (15, [.int (0), .int (0), .int (100), .int (0), .int (0), .ref q1, .ref q2, .ref q3, .ref q4, .ref q5, .ref q6, .ref q7, .ref q8, .ref q11, .ref q14, .null, .null, .int (0), .null, .long (0)])), (q1, .inl (g 2, 9, .inl (fun _ => 0))), (q4, .inl (g 0, 9, .inl (fun _ => 0))), (q8, .inr (1, [.int (0), .ref (g 21), .int (0)])), (q11, .inr (1, [.int (0), .ref (g 21), .int (0)])), (q16, .inr (1, [.int (0), .null, .int (0)]))] := hD
  refine W.widen (k := 19) (n := 144) (Nat.le_of_ble_eq_true rfl) (Nat.le_of_ble_eq_true rfl) ?_
  refine lv_dup hx hb dX16_init_104 rfl ?_
  have hX : nCx p s m _ c prog_14_method_1_code 1 "MinestrataModel" dC dI g A [(a0, .inr (15, [.int (0), .int (0), .int (100), .int (0), .int (0), .ref q1, .ref q2, .ref q3, .ref q4, .ref q5, .ref q6, .ref q7, .ref q8, .ref q11, .ref q14, .null, .null, .int (0), .null, .long (0)])), (q1, .inl (g 2, 9, .inl (fun _ => 0))), (q4, .inl (g 0, 9, .inl (fun _ => 0))), (q8, .inr (1, [.int (0), .ref (g 21), .int (0)])), (q11, .inr (1, [.int (0), .ref (g 21), .int (0)])), (q16, .inr (1, [.int (0), .null, .int (0)]))] _ _ := ⟨⟨hx, hb, hml, hown, hts⟩, hE, hS, hA, hP, hD⟩
  refine n_call (wr := [(a0, .inr (15, [.int (0), .int (0), .int (100), .int (0), .int (0), .ref q1, .ref q2, .ref q3, .ref q4, .ref q5, .ref q6, .ref q7, .ref q8, .ref q11, .ref q14, .null, .null, .int (0), .null, .long (0)])), (q1, .inl (g 2, 9, .inl (fun _ => 0))), (q4, .inl (g 0, 9, .inl (fun _ => 0))), (q8, .inr (1, [.int (0), .ref (g 21), .int (0)])), (q11, .inr (1, [.int (0), .ref (g 21), .int (0)]))]) hX (n_runI (n := 0) (wc := [(q16, .inr (1, [.int (0), .null, .int (0)]))]) (As := []) (rest := [.ref q16, .ref a0]) hX (m19 l hst dC dI g q16 _) [5] rfl (by decide +kernel) q1398 q1399 q85 q1400 rfl (by decide +kernel) ⟨(Nat.le_of_ble_eq_true rfl), (Nat.le_of_ble_eq_true rfl)⟩ ⟨(Nat.le_of_ble_eq_true rfl), (Nat.le_of_ble_eq_true rfl)⟩ hl.1 rfl rfl (Nat.le_of_ble_eq_true rfl) dX16_init_105) [5] [0, 1, 2, 3, 4] rfl rfl (by decide +kernel) (by decide +kernel) (fun f17 r18 H locs hP hD hS => ?_)
  have hP : va_P (dC, dI) CL [(a0, .inr (15, [.int (0), .int (0), .int (100), .int (0), .int (0), .ref q1, .ref q2, .ref q3, .ref q4, .ref q5, .ref q6, .ref q7, .ref q8, .ref q11, .ref q14, .null, .null, .int (0), .null, .long (0)])), (q1, .inl (g 2, 9, .inl (fun _ => 0))), (q4, .inl (g 0, 9, .inl (fun _ => 0))), (q8, .inr (1, [.int (0), .ref (g 21), .int (0)])), (q11, .inr (1, [.int (0), .ref (g 21), .int (0)])), (q16, .inr (1, [.int (0), .ref (g 21), .int (0)]))] _ := hP
  have hD : va_D A [(a0, .inr (15, [.int (0), .int (0), .int (100), .int (0), .int (0), .ref q1, .ref q2, .ref q3, .ref q4, .ref q5, .ref q6, .ref q7, .ref q8, .ref q11, .ref q14, .null, .null, .int (0), .null, .long (0)])), (q1, .inl (g 2, 9, .inl (fun _ => 0))), (q4, .inl (g 0, 9, .inl (fun _ => 0))), (q8, .inr (1, [.int (0), .ref (g 21), .int (0)])), (q11, .inr (1, [.int (0), .ref (g 21), .int (0)])), (q16, .inr (1, [.int (0), .ref (g 21), .int (0)]))] := hD
  refine W.widen (k := 19) (n := 144) (Nat.le_of_ble_eq_true rfl) (Nat.le_of_ble_eq_true rfl) ?_
  refine W.eq (g2 := F0 m 108 ls [.ref q16, .ref a0]) rfl ?_
  refine va_putF (D := (dC, dI)) (ci := 15) (v := .ref q16) (ty := (.object "java/util/ArrayList")) (C := "MinestrataModel") (T := TX16) (N := 20) hx hb hts inX16 tyX16 tyX16_ok nmX16 hown hK hP hD hS 0 rfl rfl 15 (by decide) (hts _ q1449) (fun _ h9 => h9) rfl hin rfl (by decide +kernel) rfl rfl (Nat.le_of_ble_eq_true rfl) dX16_init_108 (fun H locs hP hD hS => ?_)
  have hP : va_P (dC, dI) CL [(a0, .inr (15, [.int (0), .int (0), .int (100), .int (0), .int (0), .ref q1, .ref q2, .ref q3, .ref q4, .ref q5, .ref q6, .ref q7, .ref q8, .ref q11, .ref q14, .ref q16, .null, .int (0), .null, .long (0)])), (q1, .inl (g 2, 9, .inl (fun _ => 0))), (q4, .inl (g 0, 9, .inl (fun _ => 0))), (q8, .inr (1, [.int (0), .ref (g 21), .int (0)])), (q11, .inr (1, [.int (0), .ref (g 21), .int (0)])), (q16, .inr (1, [.int (0), .ref (g 21), .int (0)]))] _ := hP
  have hD : va_D A [(a0, .inr (15, [.int (0), .int (0), .int (100), .int (0), .int (0), .ref q1, .ref q2, .ref q3, .ref q4, .ref q5, .ref q6, .ref q7, .ref q8, .ref q11, .ref q14, .ref q16, .null, .int (0), .null, .long (0)])), (q1, .inl (g 2, 9, .inl (fun _ => 0))), (q4, .inl (g 0, 9, .inl (fun _ => 0))), (q8, .inr (1, [.int (0), .ref (g 21), .int (0)])), (q11, .inr (1, [.int (0), .ref (g 21), .int (0)])), (q16, .inr (1, [.int (0), .ref (g 21), .int (0)]))] := hD
  refine lv_aload_n hx hb dX16_init_111 rfl (lv_at hl 0 rfl) ?_
  refine lv_iconst (v := (-1)) hx hb dX16_init_112 (by decide +kernel) ?_
  refine va_put (D := (dC, dI)) (ci := 15) (v := .int (-1)) (ty := .int) (C := "MinestrataModel") (T := TX16) (N := 20) hx hb hts inX16 tyX16 tyX16_ok nmX16 hown hK hP hD hS 0 rfl rfl 17 (by decide) (hts _ q1451) (fun _ h9 => h9) rfl (by decide +kernel) rfl rfl (Nat.le_of_ble_eq_true rfl) dX16_init_113 (fun H locs hP hD hS => ?_)
  have hP : va_P (dC, dI) CL [(a0, .inr (15, [.int (0), .int (0), .int (100), .int (0), .int (0), .ref q1, .ref q2, .ref q3, .ref q4, .ref q5, .ref q6, .ref q7, .ref q8, .ref q11, .ref q14, .ref q16, .null, .int (-1), .null, .long (0)])), (q1, .inl (g 2, 9, .inl (fun _ => 0))), (q4, .inl (g 0, 9, .inl (fun _ => 0))), (q8, .inr (1, [.int (0), .ref (g 21), .int (0)])), (q11, .inr (1, [.int (0), .ref (g 21), .int (0)])), (q16, .inr (1, [.int (0), .ref (g 21), .int (0)]))] _ := hP
  have hD : va_D A [(a0, .inr (15, [.int (0), .int (0), .int (100), .int (0), .int (0), .ref q1, .ref q2, .ref q3, .ref q4, .ref q5, .ref q6, .ref q7, .ref q8, .ref q11, .ref q14, .ref q16, .null, .int (-1), .null, .long (0)])), (q1, .inl (g 2, 9, .inl (fun _ => 0))), (q4, .inl (g 0, 9, .inl (fun _ => 0))), (q8, .inr (1, [.int (0), .ref (g 21), .int (0)])), (q11, .inr (1, [.int (0), .ref (g 21), .int (0)])), (q16, .inr (1, [.int (0), .ref (g 21), .int (0)]))] := hD
  refine lv_aload_n hx hb dX16_init_116 rfl (lv_at hl 0 rfl) ?_
  refine lv_bipush (v := (8)) hx hb dX16_init_117 (by decide +kernel) ?_
  refine n_newa hx hb (atype := .int) (ty := .int) q201 hts rfl hK hP hD hS hA 0 rfl (fun _ _ => rfl) (N' := 8) (a0 := (8, .inl (fun _ => 0))) (fun _ => rfl) (by decide +kernel) (by decide +kernel) (Nat.le_of_ble_eq_true rfl) (Nat.le_of_ble_eq_true rfl) (Nat.le_of_ble_eq_true rfl) dX16_init_119 (fun q19 H hP hD hS => ?_)
  have hP : va_P (dC, dI) CL [(a0, .inr (15, [.int (0), .int (0), .int (100), .int (0), .int (0), .ref q1, .ref q2, .ref q3, .ref q4, .ref q5, .ref q6, .ref q7, .ref q8, .ref q11, .ref q14, .ref q16, .null, .int (-1), .null, .long (0)])), (q1, .inl (g 2, 9, .inl (fun _ => 0))), (q4, .inl (g 0, 9, .inl (fun _ => 0))), (q8, .inr (1, [.int (0), .ref (g 21), .int (0)])), (q11, .inr (1, [.int (0), .ref (g 21), .int (0)])), (q16, .inr (1, [.int (0), .ref (g 21), .int (0)]))] _ := hP.sub [0, 1, 2, 3, 4, 5] rfl
  have hD : va_D A [(a0, .inr (15, [.int (0), .int (0), .int (100), .int (0), .int (0), .ref q1, .ref q2, .ref q3, .ref q4, .ref q5, .ref q6, .ref q7, .ref q8, .ref q11, .ref q14, .ref q16, .null, .int (-1), .null, .long (0)])), (q1, .inl (g 2, 9, .inl (fun _ => 0))), (q4, .inl (g 0, 9, .inl (fun _ => 0))), (q8, .inr (1, [.int (0), .ref (g 21), .int (0)])), (q11, .inr (1, [.int (0), .ref (g 21), .int (0)])), (q16, .inr (1, [.int (0), .ref (g 21), .int (0)]))] := hD.sub [0, 1, 2, 3, 4, 5] (by decide +kernel) rfl
  refine W.widen (k := 20) (n := 152) (Nat.le_of_ble_eq_true rfl) (Nat.le_of_ble_eq_true rfl) ?_
  refine va_putF (D := (dC, dI)) (ci := 15) (v := .ref q19) (ty := (.array .int)) (C := "MinestrataModel") (T := TX16) (N := 20) hx hb hts inX16 tyX16 tyX16_ok nmX16 hown hK hP hD hS 0 rfl rfl 18 (by decide) (hts _ q1452) (fun _ h9 => h9) rfl hin rfl (by decide +kernel) rfl rfl (Nat.le_of_ble_eq_true rfl) dX16_init_121 (fun H locs hP hD hS => ?_)
  have hP : va_P (dC, dI) CL [(a0, .inr (15, [.int (0), .int (0), .int (100), .int (0), .int (0), .ref q1, .ref q2, .ref q3, .ref q4, .ref q5, .ref q6, .ref q7, .ref q8, .ref q11, .ref q14, .ref q16, .null, .int (-1), .ref q19, .long (0)])), (q1, .inl (g 2, 9, .inl (fun _ => 0))), (q4, .inl (g 0, 9, .inl (fun _ => 0))), (q8, .inr (1, [.int (0), .ref (g 21), .int (0)])), (q11, .inr (1, [.int (0), .ref (g 21), .int (0)])), (q16, .inr (1, [.int (0), .ref (g 21), .int (0)]))] _ := hP
  have hD : va_D A [(a0, .inr (15, [.int (0), .int (0), .int (100), .int (0), .int (0), .ref q1, .ref q2, .ref q3, .ref q4, .ref q5, .ref q6, .ref q7, .ref q8, .ref q11, .ref q14, .ref q16, .null, .int (-1), .ref q19, .long (0)])), (q1, .inl (g 2, 9, .inl (fun _ => 0))), (q4, .inl (g 0, 9, .inl (fun _ => 0))), (q8, .inr (1, [.int (0), .ref (g 21), .int (0)])), (q11, .inr (1, [.int (0), .ref (g 21), .int (0)])), (q16, .inr (1, [.int (0), .ref (g 21), .int (0)]))] := hD
  refine W.widen (k := 20) (n := 152) (Nat.le_of_ble_eq_true rfl) (Nat.le_of_ble_eq_true rfl) ?_
  exact W.vret hx hb hr (n_end hS hP hD [0, 1, 2, 3, 4, 5] (by decide +kernel) (fun k => match k with | 0 => q1 | 1 => q4 | 2 => q8 | 3 => q11 | 4 => q16 | 5 => q2 | 6 => q3 | 7 => q5 | 8 => q6 | 9 => q7 | 10 => q14 | 11 => q19 | _ => 0) (fun _ => 0) rfl rfl rfl) hS.2.2 dX16_init_124 hlk

set_option maxHeartbeats 4000000 in
set_option maxRecDepth 100000 in
/-- Minestrata$Net.putJunction -/
theorem m21 (l : Launch) (hst : l.stackTraces = false) (dC : Nat → ClassId) (dI : Nat → Nat → Nat) (g : Nat → Nat) (a0 a1 a2 a3 a4 a5 a6 a7 a8 a9 a10 a11 : Nat) (s2 : Int32) (sz : Nat) :
    Met l Y17 (Cond.code Y17 prog_9_method_4_code 3 (Option.some Jvm.ClassFile.FieldType.int) :: AW) ({ frames := 0, cells := 0, slots := 0, locals := 0 } : Room) (nP dC dI g [.ref a0, .int (0), .int s2] [(a0, .inr (8, [.int (0), .ref a1, .ref a2, .ref a3, .ref a4, .int (0), .ref a5, .ref a6, .ref a7, .ref a8, .ref a9, .ref a10, .ref a11])), (a1, .inl (g 2, 9, .inl (fun _ => 0))), (a2, .inl (g 0, 9, .inl (fun _ => 0)))] sz) (nQ dC dI (fun f => some (.int (0))) (fun f r => [(a0, .inr (8, [.int (1), .ref a1, .ref a2, .ref a3, .ref a4, .int (0), .ref a5, .ref a6, .ref a7, .ref a8, .ref a9, .ref a10, .ref a11])), (a1, .inl (g 2, 9, .inl (upd (fun _ => 0) (Int32.toNatClampNeg (0)) (vp_nar .boolean (0))))), (a2, .inl (g 0, 9, .inl (upd (fun _ => 0) (Int32.toNatClampNeg (0)) (0))))]) (va_A [(a0, .inr (8, [.int (0), .ref a1, .ref a2, .ref a3, .ref a4, .int (0), .ref a5, .ref a6, .ref a7, .ref a8, .ref a9, .ref a10, .ref a11])), (a1, .inl (g 2, 9, .inl (fun _ => 0))), (a2, .inl (g 0, 9, .inl (fun _ => 0)))] sz)) 0 0 (va_A [(a0, .inr (8, [.int (0), .ref a1, .ref a2, .ref a3, .ref a4, .int (0), .ref a5, .ref a6, .ref a7, .ref a8, .ref a9, .ref a10, .ref a11])), (a1, .inl (g 2, 9, .inl (fun _ => 0))), (a2, .inl (g 0, 9, .inl (fun _ => 0)))] sz) := by
  refine n_met (by decide +kernel) (Nat.le_of_ble_eq_true rfl) (fun f => some (.int (0))) (fun f r => [(a0, .inr (8, [.int (1), .ref a1, .ref a2, .ref a3, .ref a4, .int (0), .ref a5, .ref a6, .ref a7, .ref a8, .ref a9, .ref a10, .ref a11])), (a1, .inl (g 2, 9, .inl (upd (fun _ => 0) (Int32.toNatClampNeg (0)) (vp_nar .boolean (0))))), (a2, .inl (g 0, 9, .inl (upd (fun _ => 0) (Int32.toNatClampNeg (0)) (0))))]) ?_
  intro p e s m below meth c A ls ⟨hx, hb, hr, hml, hown, hts, hlk, hnm⟩ hE hP hD hA hl
  have hown : s.vm.findClass "Minestrata$Net" = some m.cls := hown
  have hK := hE.1
  have hS : va_S A s.heap s.heap [] := va_S.rf
  have hl : lv_has ls 3 [(0, .ref a0), (1, .int (0)), (2, .int s2)] := hl
  refine lv_aload_n hx hb dX7_putJunction_0 rfl (lv_at hl 0 rfl) ?_
  refine va_get (D := (dC, dI)) (ci := 8) (v := .int (0)) (C := "Minestrata$Net") (T := TX7) (N := 13) hx hb hts inX7 hown hK hP 0 rfl rfl 0 (by decide) (hts _ q127) (fun _ h9 => h9) rfl dX7_putJunction_1 ?_
  refine lv_bipush (v := (9)) hx hb dX7_putJunction_4 (by decide +kernel) ?_
  refine lv_icmp_lt (tgt := 11) hx hb dX7_putJunction_6 (by decide +kernel) (fun _ => ?_) (fun h => absurd (by decide +kernel) h)
  refine lv_aload_n hx hb dX7_putJunction_11 rfl (lv_at hl 0 rfl) ?_
  refine va_get (D := (dC, dI)) (ci := 8) (v := .ref a1) (C := "Minestrata$Net") (T := TX7) (N := 13) hx hb hts inX7 hown hK hP 0 rfl rfl 1 (by decide) (hts _ q132) (fun _ h9 => h9) rfl dX7_putJunction_12 ?_
  refine lv_aload_n hx hb dX7_putJunction_15 rfl (lv_at hl 0 rfl) ?_
  refine va_get (D := (dC, dI)) (ci := 8) (v := .int (0)) (C := "Minestrata$Net") (T := TX7) (N := 13) hx hb hts inX7 hown hK hP 0 rfl rfl 0 (by decide) (hts _ q127) (fun _ h9 => h9) rfl dX7_putJunction_16 ?_
  refine lv_iload_n hx hb dX7_putJunction_19 rfl (lv_at hl 1 rfl) ?_
  refine va_zast hx hb hK hP hD hS 1 2 rfl rfl (show ¬ ((0 : Int32) < 0 ∨ 9 ≤ Int32.toNatClampNeg (0)) by decide +kernel) dX7_putJunction_20 (fun H locs hP hD hS => ?_)
  have hP : va_P (dC, dI) CL [(a0, .inr (8, [.int (0), .ref a1, .ref a2, .ref a3, .ref a4, .int (0), .ref a5, .ref a6, .ref a7, .ref a8, .ref a9, .ref a10, .ref a11])), (a1, .inl (g 2, 9, .inl (upd (fun _ => 0) (Int32.toNatClampNeg (0)) (vp_nar .boolean (0))))), (a2, .inl (g 0, 9, .inl (fun _ => 0)))] _ := hP
  have hD : va_D A [(a0, .inr (8, [.int (0), .ref a1, .ref a2, .ref a3, .ref a4, .int (0), .ref a5, .ref a6, .ref a7, .ref a8, .ref a9, .ref a10, .ref a11])), (a1, .inl (g 2, 9, .inl (upd (fun _ => 0) (Int32.toNatClampNeg (0)) (vp_nar .boolean (0))))), (a2, .inl (g 0, 9, .inl (fun _ => 0)))] := hD
  refine lv_aload_n hx hb dX7_putJunction_21 rfl (lv_at hl 0 rfl) ?_
  refine va_get (D := (dC, dI)) (ci := 8) (v := .ref a2) (C := "Minestrata$Net") (T := TX7) (N := 13) hx hb hts inX7 hown hK hP 0 rfl rfl 2 (by decide) (hts _ q138) (fun _ h9 => h9) rfl dX7_putJunction_22 ?_
  refine lv_aload_n hx hb dX7_putJunction_25 rfl (lv_at hl 0 rfl) ?_
  refine va_get (D := (dC, dI)) (ci := 8) (v := .int (0)) (C := "Minestrata$Net") (T := TX7) (N := 13) hx hb hts inX7 hown hK hP 0 rfl rfl 0 (by decide) (hts _ q127) (fun _ h9 => h9) rfl dX7_putJunction_26 ?_
  refine lv_iload_n hx hb dX7_putJunction_29 rfl (lv_at hl 1 rfl) ?_
  refine lv_if_eq (tgt := 37) hx hb dX7_putJunction_30 (by decide +kernel) (fun _ => ?_) (fun h => absurd (by decide +kernel) h)
  refine lv_iconst (v := (0)) hx hb dX7_putJunction_37 (by decide +kernel) ?_
  refine va_iast hx hb hK hP hD hS 2 0 rfl rfl (show ¬ ((0 : Int32) < 0 ∨ 9 ≤ Int32.toNatClampNeg (0)) by decide +kernel) dX7_putJunction_38 (fun H locs hP hD hS => ?_)
  have hP : va_P (dC, dI) CL [(a0, .inr (8, [.int (0), .ref a1, .ref a2, .ref a3, .ref a4, .int (0), .ref a5, .ref a6, .ref a7, .ref a8, .ref a9, .ref a10, .ref a11])), (a1, .inl (g 2, 9, .inl (upd (fun _ => 0) (Int32.toNatClampNeg (0)) (vp_nar .boolean (0))))), (a2, .inl (g 0, 9, .inl (upd (fun _ => 0) (Int32.toNatClampNeg (0)) (0))))] _ := hP
  have hD : va_D A [(a0, .inr (8, [.int (0), .ref a1, .ref a2, .ref a3, .ref a4, .int (0), .ref a5, .ref a6, .ref a7, .ref a8, .ref a9, .ref a10, .ref a11])), (a1, .inl (g 2, 9, .inl (upd (fun _ => 0) (Int32.toNatClampNeg (0)) (vp_nar .boolean (0))))), (a2, .inl (g 0, 9, .inl (upd (fun _ => 0) (Int32.toNatClampNeg (0)) (0))))] := hD
  refine lv_aload_n hx hb dX7_putJunction_39 rfl (lv_at hl 0 rfl) ?_
  refine lv_dup hx hb dX7_putJunction_40 rfl ?_
  refine va_get (D := (dC, dI)) (ci := 8) (v := .int (0)) (C := "Minestrata$Net") (T := TX7) (N := 13) hx hb hts inX7 hown hK hP 0 rfl rfl 0 (by decide) (hts _ q127) (fun _ h9 => h9) rfl dX7_putJunction_41 ?_
  refine lv_iconst (v := (1)) hx hb dX7_putJunction_44 (by decide +kernel) ?_
  refine lv_iadd hx hb dX7_putJunction_45 ?_
  refine nt_i (v := (1)) (by decide +kernel) ?_
  refine va_put (D := (dC, dI)) (ci := 8) (v := .int (1)) (ty := .int) (C := "Minestrata$Net") (T := TX7) (N := 13) hx hb hts inX7 tyX7 tyX7_ok nmX7 hown hK hP hD hS 0 rfl rfl 0 (by decide) (hts _ q127) (fun _ h9 => h9) rfl (by decide +kernel) rfl rfl (Nat.le_of_ble_eq_true rfl) dX7_putJunction_46 (fun H locs hP hD hS => ?_)
  have hP : va_P (dC, dI) CL [(a0, .inr (8, [.int (1), .ref a1, .ref a2, .ref a3, .ref a4, .int (0), .ref a5, .ref a6, .ref a7, .ref a8, .ref a9, .ref a10, .ref a11])), (a1, .inl (g 2, 9, .inl (upd (fun _ => 0) (Int32.toNatClampNeg (0)) (vp_nar .boolean (0))))), (a2, .inl (g 0, 9, .inl (upd (fun _ => 0) (Int32.toNatClampNeg (0)) (0))))] _ := hP
  have hD : va_D A [(a0, .inr (8, [.int (1), .ref a1, .ref a2, .ref a3, .ref a4, .int (0), .ref a5, .ref a6, .ref a7, .ref a8, .ref a9, .ref a10, .ref a11])), (a1, .inl (g 2, 9, .inl (upd (fun _ => 0) (Int32.toNatClampNeg (0)) (vp_nar .boolean (0))))), (a2, .inl (g 0, 9, .inl (upd (fun _ => 0) (Int32.toNatClampNeg (0)) (0))))] := hD
  refine lv_aload_n hx hb dX7_putJunction_49 rfl (lv_at hl 0 rfl) ?_
  refine va_get (D := (dC, dI)) (ci := 8) (v := .int (1)) (C := "Minestrata$Net") (T := TX7) (N := 13) hx hb hts inX7 hown hK hP 0 rfl rfl 0 (by decide) (hts _ q127) (fun _ h9 => h9) rfl dX7_putJunction_50 ?_
  refine lv_iconst (v := (1)) hx hb dX7_putJunction_53 (by decide +kernel) ?_
  refine lv_isub hx hb dX7_putJunction_54 ?_
  refine nt_i (v := (0)) (by decide +kernel) ?_
  refine W.widen (k := 0) (n := 0) (Nat.le_of_ble_eq_true rfl) (Nat.le_of_ble_eq_true rfl) ?_
  exact W.iret hx hb hr (n_end hS hP hD [0, 1, 2] (by decide +kernel) (fun _ => 0) (fun _ => 0) rfl rfl rfl) hS.2.2 dX7_putJunction_55 hlk

set_option maxHeartbeats 4000000 in
set_option maxRecDepth 100000 in
/-- Minestrata.addJunction -/
theorem m22 (l : Launch) (hst : l.stackTraces = false) (dC : Nat → ClassId) (dI : Nat → Nat → Nat) (g : Nat → Nat) (a0 a1 a2 a3 a4 a5 a6 a7 a8 a9 a10 a11 a12 a13 a14 a15 a16 a17 a18 a19 a20 a21 : Nat) (s2 : Int32) (sz : Nat) :
    Met l Y16 (Cond.code Y16 prog_1_method_2_code 3 (Option.some Jvm.ClassFile.FieldType.int) :: AW) ({ frames := 1, cells := 0, slots := 0, locals := 22 } : Room) (nP dC dI g [.ref a0, .int (0), .int s2] [(a0, .inr (12, [.ref a1, .ref a2, .ref a3, .ref a4, .ref a5, .ref a6, .ref a7, .ref a8, .null, .ref a9, .ref a10, .int (0), .int (100), .int (0), .int (0), .int (-1), .long (0), .int (1)])), (a1, .inr (8, [.int (0), .ref a11, .ref a12, .ref a13, .ref a14, .int (0), .ref a15, .ref a16, .ref a17, .ref a18, .ref a19, .ref a20, .ref a21])), (a11, .inl (g 2, 9, .inl (fun _ => 0))), (a12, .inl (g 0, 9, .inl (fun _ => 0)))] sz) (nQ dC dI (fun f => some (.int (0))) (fun f r => [(a0, .inr (12, [.ref a1, .ref a2, .ref a3, .ref a4, .ref a5, .ref a6, .ref a7, .ref a8, .null, .ref a9, .ref a10, .int (0), .int (100), .int (0), .int (0), .int (-1), .long (0), .int (1)])), (a1, .inr (8, [.int (1), .ref a11, .ref a12, .ref a13, .ref a14, .int (0), .ref a15, .ref a16, .ref a17, .ref a18, .ref a19, .ref a20, .ref a21])), (a11, .inl (g 2, 9, .inl (upd (fun _ => 0) (Int32.toNatClampNeg (0)) (vp_nar .boolean (0))))), (a12, .inl (g 0, 9, .inl (upd (fun _ => 0) (Int32.toNatClampNeg (0)) (0))))]) (va_A [(a0, .inr (12, [.ref a1, .ref a2, .ref a3, .ref a4, .ref a5, .ref a6, .ref a7, .ref a8, .null, .ref a9, .ref a10, .int (0), .int (100), .int (0), .int (0), .int (-1), .long (0), .int (1)])), (a1, .inr (8, [.int (0), .ref a11, .ref a12, .ref a13, .ref a14, .int (0), .ref a15, .ref a16, .ref a17, .ref a18, .ref a19, .ref a20, .ref a21])), (a11, .inl (g 2, 9, .inl (fun _ => 0))), (a12, .inl (g 0, 9, .inl (fun _ => 0)))] sz)) 0 0 (va_A [(a0, .inr (12, [.ref a1, .ref a2, .ref a3, .ref a4, .ref a5, .ref a6, .ref a7, .ref a8, .null, .ref a9, .ref a10, .int (0), .int (100), .int (0), .int (0), .int (-1), .long (0), .int (1)])), (a1, .inr (8, [.int (0), .ref a11, .ref a12, .ref a13, .ref a14, .int (0), .ref a15, .ref a16, .ref a17, .ref a18, .ref a19, .ref a20, .ref a21])), (a11, .inl (g 2, 9, .inl (fun _ => 0))), (a12, .inl (g 0, 9, .inl (fun _ => 0)))] sz) := by
  refine n_met (by decide +kernel) (Nat.le_of_ble_eq_true rfl) (fun f => some (.int (0))) (fun f r => [(a0, .inr (12, [.ref a1, .ref a2, .ref a3, .ref a4, .ref a5, .ref a6, .ref a7, .ref a8, .null, .ref a9, .ref a10, .int (0), .int (100), .int (0), .int (0), .int (-1), .long (0), .int (1)])), (a1, .inr (8, [.int (1), .ref a11, .ref a12, .ref a13, .ref a14, .int (0), .ref a15, .ref a16, .ref a17, .ref a18, .ref a19, .ref a20, .ref a21])), (a11, .inl (g 2, 9, .inl (upd (fun _ => 0) (Int32.toNatClampNeg (0)) (vp_nar .boolean (0))))), (a12, .inl (g 0, 9, .inl (upd (fun _ => 0) (Int32.toNatClampNeg (0)) (0))))]) ?_
  intro p e s m below meth c A ls ⟨hx, hb, hr, hml, hown, hts, hlk, hnm⟩ hE hP hD hA hl
  have hown : s.vm.findClass "Minestrata" = some m.cls := hown
  have hK := hE.1
  have hS : va_S A s.heap s.heap [] := va_S.rf
  have hl : lv_has ls 3 [(0, .ref a0), (1, .int (0)), (2, .int s2)] := hl
  refine lv_iload_n hx hb dX11_addJunction_0 rfl (lv_at hl 1 rfl) ?_
  refine lv_if_eq (tgt := 23) hx hb dX11_addJunction_1 (by decide +kernel) (fun _ => ?_) (fun h => absurd (by decide +kernel) h)
  refine lv_aload_n hx hb dX11_addJunction_23 rfl (lv_at hl 0 rfl) ?_
  refine va_get (D := (dC, dI)) (ci := 12) (v := .ref a1) (C := "Minestrata") (T := TX11) (N := 18) hx hb hts inX11 hown hK hP 0 rfl rfl 0 (by decide) (hts _ q504) (fun _ h9 => h9) rfl dX11_addJunction_24 ?_
  refine va_get (D := (dC, dI)) (ci := 8) (v := .int (0)) (C := "Minestrata$Net") (T := TX7) (N := 13) hx hb hts inX7 hown hK hP 1 rfl rfl 0 (by decide) (hts _ q128) (fun _ h9 => h9) rfl dX11_addJunction_27 ?_
  refine lv_bipush (v := (9)) hx hb dX11_addJunction_30 (by decide +kernel) ?_
  refine lv_icmp_lt (tgt := 43) hx hb dX11_addJunction_32 (by decide +kernel) (fun _ => ?_) (fun h => absurd (by decide +kernel) h)
  refine lv_aload_n hx hb dX11_addJunction_43 rfl (lv_at hl 0 rfl) ?_
  refine lv_iconst (v := (1)) hx hb dX11_addJunction_44 (by decide +kernel) ?_
  refine va_put (D := (dC, dI)) (ci := 12) (v := .int (1)) (ty := .boolean) (C := "Minestrata") (T := TX11) (N := 18) hx hb hts inX11 tyX11 tyX11_ok nmX11 hown hK hP hD hS 0 rfl rfl 17 (by decide) (hts _ q521) (fun _ h9 => h9) rfl (by decide +kernel) rfl rfl (Nat.le_of_ble_eq_true rfl) dX11_addJunction_45 (fun H locs hP hD hS => ?_)
  have hP : va_P (dC, dI) CL [(a0, .inr (12, [.ref a1, .ref a2, .ref a3, .ref a4, .ref a5, .ref a6, .ref a7, .ref a8, .null, .ref a9, .ref a10, .int (0), .int (100), .int (0), .int (0), .int (-1), .long (0), .int (1)])), (a1, .inr (8, [.int (0), .ref a11, .ref a12, .ref a13, .ref a14, .int (0), .ref a15, .ref a16, .ref a17, .ref a18, .ref a19, .ref a20, .ref a21])), (a11, .inl (g 2, 9, .inl (fun _ => 0))), (a12, .inl (g 0, 9, .inl (fun _ => 0)))] _ := hP
  have hD : va_D A [(a0, .inr (12, [.ref a1, .ref a2, .ref a3, .ref a4, .ref a5, .ref a6, .ref a7, .ref a8, .null, .ref a9, .ref a10, .int (0), .int (100), .int (0), .int (0), .int (-1), .long (0), .int (1)])), (a1, .inr (8, [.int (0), .ref a11, .ref a12, .ref a13, .ref a14, .int (0), .ref a15, .ref a16, .ref a17, .ref a18, .ref a19, .ref a20, .ref a21])), (a11, .inl (g 2, 9, .inl (fun _ => 0))), (a12, .inl (g 0, 9, .inl (fun _ => 0)))] := hD
  refine lv_aload_n hx hb dX11_addJunction_48 rfl (lv_at hl 0 rfl) ?_
  refine va_get (D := (dC, dI)) (ci := 12) (v := .ref a1) (C := "Minestrata") (T := TX11) (N := 18) hx hb hts inX11 hown hK hP 0 rfl rfl 0 (by decide) (hts _ q504) (fun _ h9 => h9) rfl dX11_addJunction_49 ?_
  refine lv_iload_n hx hb dX11_addJunction_52 rfl (lv_at hl 1 rfl) ?_
  refine lv_iload_n hx hb dX11_addJunction_53 rfl (lv_at hl 2 rfl) ?_
  have hX : nCx p s m _ c prog_1_method_2_code 3 "Minestrata" dC dI g A [(a0, .inr (12, [.ref a1, .ref a2, .ref a3, .ref a4, .ref a5, .ref a6, .ref a7, .ref a8, .null, .ref a9, .ref a10, .int (0), .int (100), .int (0), .int (0), .int (-1), .long (0), .int (1)])), (a1, .inr (8, [.int (0), .ref a11, .ref a12, .ref a13, .ref a14, .int (0), .ref a15, .ref a16, .ref a17, .ref a18, .ref a19, .ref a20, .ref a21])), (a11, .inl (g 2, 9, .inl (fun _ => 0))), (a12, .inl (g 0, 9, .inl (fun _ => 0)))] _ _ := ⟨⟨hx, hb, hml, hown, hts⟩, hE, hS, hA, hP, hD⟩
  refine n_call (wr := [(a0, .inr (12, [.ref a1, .ref a2, .ref a3, .ref a4, .ref a5, .ref a6, .ref a7, .ref a8, .null, .ref a9, .ref a10, .int (0), .int (100), .int (0), .int (0), .int (-1), .long (0), .int (1)]))]) hX (n_runV (n := 2) (wc := [(a1, .inr (8, [.int (0), .ref a11, .ref a12, .ref a13, .ref a14, .int (0), .ref a15, .ref a16, .ref a17, .ref a18, .ref a19, .ref a20, .ref a21])), (a11, .inl (g 2, 9, .inl (fun _ => 0))), (a12, .inl (g 0, 9, .inl (fun _ => 0)))]) (As := [.int (0), .int s2]) (rest := []) hX (m21 l hst dC dI g a1 a11 a12 a13 a14 a15 a16 a17 a18 a19 a20 a21 s2 _) [1, 2, 3] rfl (by decide +kernel) 1 (ci := 8) rfl (T := TX7) (N := 13) (C := "Minestrata$Net") rfl q900 q901 q902 q72 q903 (by decide +kernel) ⟨(Nat.le_of_ble_eq_true rfl), (Nat.le_of_ble_eq_true rfl)⟩ ⟨(Nat.le_of_ble_eq_true rfl), (Nat.le_of_ble_eq_true rfl)⟩ hl.1 rfl rfl (Nat.le_of_ble_eq_true rfl) dX11_addJunction_54) [1, 2, 3] [0] rfl rfl (by decide +kernel) (by decide +kernel) (fun f1 r2 H locs hP hD hS => ?_)
  have hP : va_P (dC, dI) CL [(a0, .inr (12, [.ref a1, .ref a2, .ref a3, .ref a4, .ref a5, .ref a6, .ref a7, .ref a8, .null, .ref a9, .ref a10, .int (0), .int (100), .int (0), .int (0), .int (-1), .long (0), .int (1)])), (a1, .inr (8, [.int (1), .ref a11, .ref a12, .ref a13, .ref a14, .int (0), .ref a15, .ref a16, .ref a17, .ref a18, .ref a19, .ref a20, .ref a21])), (a11, .inl (g 2, 9, .inl (upd (fun _ => 0) (Int32.toNatClampNeg (0)) (vp_nar .boolean (0))))), (a12, .inl (g 0, 9, .inl (upd (fun _ => 0) (Int32.toNatClampNeg (0)) (0))))] _ := hP
  have hD : va_D A [(a0, .inr (12, [.ref a1, .ref a2, .ref a3, .ref a4, .ref a5, .ref a6, .ref a7, .ref a8, .null, .ref a9, .ref a10, .int (0), .int (100), .int (0), .int (0), .int (-1), .long (0), .int (1)])), (a1, .inr (8, [.int (1), .ref a11, .ref a12, .ref a13, .ref a14, .int (0), .ref a15, .ref a16, .ref a17, .ref a18, .ref a19, .ref a20, .ref a21])), (a11, .inl (g 2, 9, .inl (upd (fun _ => 0) (Int32.toNatClampNeg (0)) (vp_nar .boolean (0))))), (a12, .inl (g 0, 9, .inl (upd (fun _ => 0) (Int32.toNatClampNeg (0)) (0))))] := hD
  refine W.widen (k := 0) (n := 0) (Nat.le_of_ble_eq_true rfl) (Nat.le_of_ble_eq_true rfl) ?_
  refine W.eq (g2 := F0 m 57 ls [.int (0)]) rfl ?_
  refine W.widen (k := 0) (n := 0) (Nat.le_of_ble_eq_true rfl) (Nat.le_of_ble_eq_true rfl) ?_
  exact W.iret hx hb hr (n_end hS hP hD [0, 1, 2, 3] (by decide +kernel) (fun _ => 0) (fun _ => 0) rfl rfl rfl) hS.2.2 dX11_addJunction_57 hlk

set_option maxHeartbeats 4000000 in
set_option maxRecDepth 100000 in
/-- MinestrataLaw.addJunction -/
theorem m23 (l : Launch) (hst : l.stackTraces = false) (dC : Nat → ClassId) (dI : Nat → Nat → Nat) (g : Nat → Nat) (a0 a1 a2 a3 a4 a5 a6 a7 a8 a9 a10 a11 a12 a13 a14 a15 a16 a17 a18 a19 a20 a21 a22 : Nat) (s2 : Int32) (sz : Nat) :
    Met l Y15 (Cond.codeWith Y15 method_3_code 5 (Option.some Jvm.ClassFile.FieldType.int) [((0 : Nat), (10 : Nat), (13 : Nat), (13 : Nat)), ((0 : Nat), (10 : Nat), (17 : Nat), (15 : Nat))] :: AW) ({ frames := 2, cells := 0, slots := 0, locals := 44 } : Room) (nP dC dI g [.ref a0, .int (0), .int s2, .ref a1] [(a0, .inr (12, [.ref a2, .ref a3, .ref a4, .ref a5, .ref a6, .ref a7, .ref a8, .ref a9, .null, .ref a10, .ref a11, .int (0), .int (100), .int (0), .int (0), .int (-1), .long (0), .int (1)])), (a2, .inr (8, [.int (0), .ref a12, .ref a13, .ref a14, .ref a15, .int (0), .ref a16, .ref a17, .ref a18, .ref a19, .ref a20, .ref a21, .ref a22])), (a12, .inl (g 2, 9, .inl (fun _ => 0))), (a13, .inl (g 0, 9, .inl (fun _ => 0))), (a1, .inl (g 1, 1, .inr (.inl (fun _ => 0))))] sz) (nQ dC dI (fun f => some (.int (0))) (fun f r => [(a0, .inr (12, [.ref a2, .ref a3, .ref a4, .ref a5, .ref a6, .ref a7, .ref a8, .ref a9, .null, .ref a10, .ref a11, .int (0), .int (100), .int (0), .int (0), .int (-1), .long (0), .int (1)])), (a2, .inr (8, [.int (1), .ref a12, .ref a13, .ref a14, .ref a15, .int (0), .ref a16, .ref a17, .ref a18, .ref a19, .ref a20, .ref a21, .ref a22])), (a12, .inl (g 2, 9, .inl (upd (fun _ => 0) (Int32.toNatClampNeg (0)) (vp_nar .boolean (0))))), (a13, .inl (g 0, 9, .inl (upd (fun _ => 0) (Int32.toNatClampNeg (0)) (0)))), (a1, .inl (g 1, 1, .inr (.inl (vp_updL (fun _ => 0) (Int32.toNatClampNeg (0)) (0)))))]) (va_A [(a0, .inr (12, [.ref a2, .ref a3, .ref a4, .ref a5, .ref a6, .ref a7, .ref a8, .ref a9, .null, .ref a10, .ref a11, .int (0), .int (100), .int (0), .int (0), .int (-1), .long (0), .int (1)])), (a2, .inr (8, [.int (0), .ref a12, .ref a13, .ref a14, .ref a15, .int (0), .ref a16, .ref a17, .ref a18, .ref a19, .ref a20, .ref a21, .ref a22])), (a12, .inl (g 2, 9, .inl (fun _ => 0))), (a13, .inl (g 0, 9, .inl (fun _ => 0))), (a1, .inl (g 1, 1, .inr (.inl (fun _ => 0))))] sz)) 0 0 (va_A [(a0, .inr (12, [.ref a2, .ref a3, .ref a4, .ref a5, .ref a6, .ref a7, .ref a8, .ref a9, .null, .ref a10, .ref a11, .int (0), .int (100), .int (0), .int (0), .int (-1), .long (0), .int (1)])), (a2, .inr (8, [.int (0), .ref a12, .ref a13, .ref a14, .ref a15, .int (0), .ref a16, .ref a17, .ref a18, .ref a19, .ref a20, .ref a21, .ref a22])), (a12, .inl (g 2, 9, .inl (fun _ => 0))), (a13, .inl (g 0, 9, .inl (fun _ => 0))), (a1, .inl (g 1, 1, .inr (.inl (fun _ => 0))))] sz) := by
  refine n_metW (by decide +kernel) q807 (Nat.le_of_ble_eq_true rfl) (fun f => some (.int (0))) (fun f r => [(a0, .inr (12, [.ref a2, .ref a3, .ref a4, .ref a5, .ref a6, .ref a7, .ref a8, .ref a9, .null, .ref a10, .ref a11, .int (0), .int (100), .int (0), .int (0), .int (-1), .long (0), .int (1)])), (a2, .inr (8, [.int (1), .ref a12, .ref a13, .ref a14, .ref a15, .int (0), .ref a16, .ref a17, .ref a18, .ref a19, .ref a20, .ref a21, .ref a22])), (a12, .inl (g 2, 9, .inl (upd (fun _ => 0) (Int32.toNatClampNeg (0)) (vp_nar .boolean (0))))), (a13, .inl (g 0, 9, .inl (upd (fun _ => 0) (Int32.toNatClampNeg (0)) (0)))), (a1, .inl (g 1, 1, .inr (.inl (vp_updL (fun _ => 0) (Int32.toNatClampNeg (0)) (0)))))]) ?_
  intro p e s m below meth c A ls ⟨hx, hb, hr, hml, hown, hts, hlk, hnm⟩ htab hE hP hD hA hl
  have hown : s.vm.findClass "MinestrataLaw" = some m.cls := hown
  have hK := hE.1
  have hS : va_S A s.heap s.heap [] := va_S.rf
  have hl : lv_has ls 5 [(0, .ref a0), (1, .int (0)), (2, .int s2), (3, .ref a1)] := hl
  refine lv_aload_n hx hb dL_addJunction_0 rfl (lv_at hl 3 rfl) ?_
  refine lv_iconst (v := (0)) hx hb dL_addJunction_1 (by decide +kernel) ?_
  refine lv_aload_n hx hb dL_addJunction_2 rfl (lv_at hl 0 rfl) ?_
  refine lv_iload_n hx hb dL_addJunction_3 rfl (lv_at hl 1 rfl) ?_
  refine lv_iload_n hx hb dL_addJunction_4 rfl (lv_at hl 2 rfl) ?_
  have hX : nCx p s m _ c method_3_code 5 "MinestrataLaw" dC dI g A [(a0, .inr (12, [.ref a2, .ref a3, .ref a4, .ref a5, .ref a6, .ref a7, .ref a8, .ref a9, .null, .ref a10, .ref a11, .int (0), .int (100), .int (0), .int (0), .int (-1), .long (0), .int (1)])), (a2, .inr (8, [.int (0), .ref a12, .ref a13, .ref a14, .ref a15, .int (0), .ref a16, .ref a17, .ref a18, .ref a19, .ref a20, .ref a21, .ref a22])), (a12, .inl (g 2, 9, .inl (fun _ => 0))), (a13, .inl (g 0, 9, .inl (fun _ => 0))), (a1, .inl (g 1, 1, .inr (.inl (fun _ => 0))))] _ _ := ⟨⟨hx, hb, hml, hown, hts⟩, hE, hS, hA, hP, hD⟩
  refine n_call (wr := [(a1, .inl (g 1, 1, .inr (.inl (fun _ => 0))))]) hX (n_runV (n := 2) (wc := [(a0, .inr (12, [.ref a2, .ref a3, .ref a4, .ref a5, .ref a6, .ref a7, .ref a8, .ref a9, .null, .ref a10, .ref a11, .int (0), .int (100), .int (0), .int (0), .int (-1), .long (0), .int (1)])), (a2, .inr (8, [.int (0), .ref a12, .ref a13, .ref a14, .ref a15, .int (0), .ref a16, .ref a17, .ref a18, .ref a19, .ref a20, .ref a21, .ref a22])), (a12, .inl (g 2, 9, .inl (fun _ => 0))), (a13, .inl (g 0, 9, .inl (fun _ => 0)))]) (As := [.int (0), .int s2]) (rest := [.int (0), .ref a1]) hX (m22 l hst dC dI g a0 a2 a3 a4 a5 a6 a7 a8 a9 a10 a11 a12 a13 a14 a15 a16 a17 a18 a19 a20 a21 a22 s2 _) [0, 1, 2, 3] rfl (by decide +kernel) 0 (ci := 12) rfl (T := TX11) (N := 18) (C := "Minestrata") rfl q810 q811 q812 q71 q813 (by decide +kernel) ⟨(Nat.le_of_ble_eq_true rfl), (Nat.le_of_ble_eq_true rfl)⟩ ⟨(Nat.le_of_ble_eq_true rfl), (Nat.le_of_ble_eq_true rfl)⟩ hl.1 rfl rfl (Nat.le_of_ble_eq_true rfl) dL_addJunction_5) [0, 1, 2, 3] [4] rfl rfl (by decide +kernel) (by decide +kernel) (fun f1 r2 H locs hP hD hS => ?_)
  have hP : va_P (dC, dI) CL [(a1, .inl (g 1, 1, .inr (.inl (fun _ => 0)))), (a0, .inr (12, [.ref a2, .ref a3, .ref a4, .ref a5, .ref a6, .ref a7, .ref a8, .ref a9, .null, .ref a10, .ref a11, .int (0), .int (100), .int (0), .int (0), .int (-1), .long (0), .int (1)])), (a2, .inr (8, [.int (1), .ref a12, .ref a13, .ref a14, .ref a15, .int (0), .ref a16, .ref a17, .ref a18, .ref a19, .ref a20, .ref a21, .ref a22])), (a12, .inl (g 2, 9, .inl (upd (fun _ => 0) (Int32.toNatClampNeg (0)) (vp_nar .boolean (0))))), (a13, .inl (g 0, 9, .inl (upd (fun _ => 0) (Int32.toNatClampNeg (0)) (0))))] _ := hP
  have hD : va_D A [(a1, .inl (g 1, 1, .inr (.inl (fun _ => 0)))), (a0, .inr (12, [.ref a2, .ref a3, .ref a4, .ref a5, .ref a6, .ref a7, .ref a8, .ref a9, .null, .ref a10, .ref a11, .int (0), .int (100), .int (0), .int (0), .int (-1), .long (0), .int (1)])), (a2, .inr (8, [.int (1), .ref a12, .ref a13, .ref a14, .ref a15, .int (0), .ref a16, .ref a17, .ref a18, .ref a19, .ref a20, .ref a21, .ref a22])), (a12, .inl (g 2, 9, .inl (upd (fun _ => 0) (Int32.toNatClampNeg (0)) (vp_nar .boolean (0))))), (a13, .inl (g 0, 9, .inl (upd (fun _ => 0) (Int32.toNatClampNeg (0)) (0))))] := hD
  refine W.widen (k := 0) (n := 0) (Nat.le_of_ble_eq_true rfl) (Nat.le_of_ble_eq_true rfl) ?_
  refine W.eq (g2 := F0 m 8 ls [.int (0), .int (0), .ref a1]) rfl ?_
  refine lv_i2l (v := (0)) hx hb dL_addJunction_8 (by decide +kernel) ?_
  refine va_last hx hb hK hP hD hS 0 1 rfl rfl (show ¬ ((0 : Int32) < 0 ∨ 1 ≤ Int32.toNatClampNeg (0)) by decide +kernel) dL_addJunction_9 (fun H locs hP hD hS => ?_)
  have hP : va_P (dC, dI) CL [(a1, .inl (g 1, 1, .inr (.inl (vp_updL (fun _ => 0) (Int32.toNatClampNeg (0)) (0))))), (a0, .inr (12, [.ref a2, .ref a3, .ref a4, .ref a5, .ref a6, .ref a7, .ref a8, .ref a9, .null, .ref a10, .ref a11, .int (0), .int (100), .int (0), .int (0), .int (-1), .long (0), .int (1)])), (a2, .inr (8, [.int (1), .ref a12, .ref a13, .ref a14, .ref a15, .int (0), .ref a16, .ref a17, .ref a18, .ref a19, .ref a20, .ref a21, .ref a22])), (a12, .inl (g 2, 9, .inl (upd (fun _ => 0) (Int32.toNatClampNeg (0)) (vp_nar .boolean (0))))), (a13, .inl (g 0, 9, .inl (upd (fun _ => 0) (Int32.toNatClampNeg (0)) (0))))] _ := hP
  have hD : va_D A [(a1, .inl (g 1, 1, .inr (.inl (vp_updL (fun _ => 0) (Int32.toNatClampNeg (0)) (0))))), (a0, .inr (12, [.ref a2, .ref a3, .ref a4, .ref a5, .ref a6, .ref a7, .ref a8, .ref a9, .null, .ref a10, .ref a11, .int (0), .int (100), .int (0), .int (0), .int (-1), .long (0), .int (1)])), (a2, .inr (8, [.int (1), .ref a12, .ref a13, .ref a14, .ref a15, .int (0), .ref a16, .ref a17, .ref a18, .ref a19, .ref a20, .ref a21, .ref a22])), (a12, .inl (g 2, 9, .inl (upd (fun _ => 0) (Int32.toNatClampNeg (0)) (vp_nar .boolean (0))))), (a13, .inl (g 0, 9, .inl (upd (fun _ => 0) (Int32.toNatClampNeg (0)) (0))))] := hD
  refine lv_goto (tgt := 21) hx hb dL_addJunction_10 (by decide +kernel) ?_
  refine lv_iconst (v := (0)) hx hb dL_addJunction_21 (by decide +kernel) ?_
  refine W.widen (k := 0) (n := 0) (Nat.le_of_ble_eq_true rfl) (Nat.le_of_ble_eq_true rfl) ?_
  exact W.iret hx hb hr (n_end hS hP hD [1, 2, 3, 4, 0] (by decide +kernel) (fun _ => 0) (fun _ => 0) rfl rfl rfl) hS.2.2 dL_addJunction_22 hlk

set_option maxHeartbeats 4000000 in
set_option maxRecDepth 100000 in
/-- MinestrataModel.tells -/
theorem m24 (l : Launch) (hst : l.stackTraces = false) (dC : Nat → ClassId) (dI : Nat → Nat → Nat) (g : Nat → Nat) (a0 a1 a2 a3 a4 a5 a6 a7 a8 a9 a10 a11 a12 : Nat) (sz : Nat) :
    Met l Y19 (Cond.code Y19 prog_14_method_5_code 2 (Option.some Jvm.ClassFile.FieldType.int) :: AW) ({ frames := 0, cells := 0, slots := 0, locals := 0 } : Room) (nP dC dI g [.ref a0, .int (0)] [(a0, .inr (15, [.int (0), .int (1), .int (100), .int (0), .int (0), .ref a1, .ref a2, .ref a3, .ref a4, .ref a5, .ref a6, .ref a7, .ref a8, .ref a9, .ref a10, .ref a11, .null, .int (-1), .ref a12, .long (0)]))] sz) (nQ dC dI (fun f => some (.int (0))) (fun f r => [(a0, .inr (15, [.int (0), .int (1), .int (100), .int (0), .int (0), .ref a1, .ref a2, .ref a3, .ref a4, .ref a5, .ref a6, .ref a7, .ref a8, .ref a9, .ref a10, .ref a11, .null, .int (-1), .ref a12, .long (0)]))]) (va_A [(a0, .inr (15, [.int (0), .int (1), .int (100), .int (0), .int (0), .ref a1, .ref a2, .ref a3, .ref a4, .ref a5, .ref a6, .ref a7, .ref a8, .ref a9, .ref a10, .ref a11, .null, .int (-1), .ref a12, .long (0)]))] sz)) 0 0 (va_A [(a0, .inr (15, [.int (0), .int (1), .int (100), .int (0), .int (0), .ref a1, .ref a2, .ref a3, .ref a4, .ref a5, .ref a6, .ref a7, .ref a8, .ref a9, .ref a10, .ref a11, .null, .int (-1), .ref a12, .long (0)]))] sz) := by
  refine n_met (by decide +kernel) (Nat.le_of_ble_eq_true rfl) (fun f => some (.int (0))) (fun f r => [(a0, .inr (15, [.int (0), .int (1), .int (100), .int (0), .int (0), .ref a1, .ref a2, .ref a3, .ref a4, .ref a5, .ref a6, .ref a7, .ref a8, .ref a9, .ref a10, .ref a11, .null, .int (-1), .ref a12, .long (0)]))]) ?_
  intro p e s m below meth c A ls ⟨hx, hb, hr, hml, hown, hts, hlk, hnm⟩ hE hP hD hA hl
  have hown : s.vm.findClass "MinestrataModel" = some m.cls := hown
  have hK := hE.1
  have hS : va_S A s.heap s.heap [] := va_S.rf
  have hl : lv_has ls 2 [(0, .ref a0), (1, .int (0))] := hl
  refine lv_aload_n hx hb dX16_tells_0 rfl (lv_at hl 0 rfl) ?_
  refine lv_iconst (v := (0)) hx hb dX16_tells_1 (by decide +kernel) ?_
  refine va_put (D := (dC, dI)) (ci := 15) (v := .int (0)) (ty := .int) (C := "MinestrataModel") (T := TX16) (N := 20) hx hb hts inX16 tyX16 tyX16_ok nmX16 hown hK hP hD hS 0 rfl rfl 0 (by decide) (hts _ q1427) (fun _ h9 => h9) rfl (by decide +kernel) rfl rfl (Nat.le_of_ble_eq_true rfl) dX16_tells_2 (fun H locs hP hD hS => ?_)
  have hP : va_P (dC, dI) CL [(a0, .inr (15, [.int (0), .int (1), .int (100), .int (0), .int (0), .ref a1, .ref a2, .ref a3, .ref a4, .ref a5, .ref a6, .ref a7, .ref a8, .ref a9, .ref a10, .ref a11, .null, .int (-1), .ref a12, .long (0)]))] _ := hP
  have hD : va_D A [(a0, .inr (15, [.int (0), .int (1), .int (100), .int (0), .int (0), .ref a1, .ref a2, .ref a3, .ref a4, .ref a5, .ref a6, .ref a7, .ref a8, .ref a9, .ref a10, .ref a11, .null, .int (-1), .ref a12, .long (0)]))] := hD
  refine lv_iload_n hx hb dX16_tells_5 rfl (lv_at hl 1 rfl) ?_
  refine W.widen (k := 0) (n := 0) (Nat.le_of_ble_eq_true rfl) (Nat.le_of_ble_eq_true rfl) ?_
  exact W.iret hx hb hr (n_end hS hP hD [0] (by decide +kernel) (fun _ => 0) (fun _ => 0) rfl rfl rfl) hS.2.2 dX16_tells_6 hlk

set_option maxHeartbeats 4000000 in
set_option maxRecDepth 100000 in
/-- MinestrataModel.addJunction -/
theorem m25 (l : Launch) (hst : l.stackTraces = false) (dC : Nat → ClassId) (dI : Nat → Nat → Nat) (g : Nat → Nat) (a0 a1 a2 a3 a4 a5 a6 a7 a8 a9 a10 a11 a12 : Nat) (s2 : Int32) (sz : Nat) :
    Met l Y18 (Cond.code Y18 prog_14_method_8_code 3 (Option.some Jvm.ClassFile.FieldType.int) :: AW) ({ frames := 1, cells := 0, slots := 0, locals := 21 } : Room) (nP dC dI g [.ref a0, .int (0), .int s2] [(a0, .inr (15, [.int (0), .int (0), .int (100), .int (0), .int (0), .ref a1, .ref a2, .ref a3, .ref a4, .ref a5, .ref a6, .ref a7, .ref a8, .ref a9, .ref a10, .ref a11, .null, .int (-1), .ref a12, .long (0)])), (a1, .inl (g 2, 9, .inl (fun _ => 0))), (a4, .inl (g 0, 9, .inl (fun _ => 0)))] sz) (nQ dC dI (fun f => some (.int (0))) (fun f r => [(a0, .inr (15, [.int (0), .int (1), .int (100), .int (0), .int (0), .ref a1, .ref a2, .ref a3, .ref a4, .ref a5, .ref a6, .ref a7, .ref a8, .ref a9, .ref a10, .ref a11, .null, .int (-1), .ref a12, .long (0)])), (a1, .inl (g 2, 9, .inl (upd (fun _ => 0) (Int32.toNatClampNeg (0)) (vp_nar .boolean (0))))), (a4, .inl (g 0, 9, .inl (upd (fun _ => 0) (Int32.toNatClampNeg (0)) (0))))]) (va_A [(a0, .inr (15, [.int (0), .int (0), .int (100), .int (0), .int (0), .ref a1, .ref a2, .ref a3, .ref a4, .ref a5, .ref a6, .ref a7, .ref a8, .ref a9, .ref a10, .ref a11, .null, .int (-1), .ref a12, .long (0)])), (a1, .inl (g 2, 9, .inl (fun _ => 0))), (a4, .inl (g 0, 9, .inl (fun _ => 0)))] sz)) 0 0 (va_A [(a0, .inr (15, [.int (0), .int (0), .int (100), .int (0), .int (0), .ref a1, .ref a2, .ref a3, .ref a4, .ref a5, .ref a6, .ref a7, .ref a8, .ref a9, .ref a10, .ref a11, .null, .int (-1), .ref a12, .long (0)])), (a1, .inl (g 2, 9, .inl (fun _ => 0))), (a4, .inl (g 0, 9, .inl (fun _ => 0)))] sz) := by
  refine n_met (by decide +kernel) (Nat.le_of_ble_eq_true rfl) (fun f => some (.int (0))) (fun f r => [(a0, .inr (15, [.int (0), .int (1), .int (100), .int (0), .int (0), .ref a1, .ref a2, .ref a3, .ref a4, .ref a5, .ref a6, .ref a7, .ref a8, .ref a9, .ref a10, .ref a11, .null, .int (-1), .ref a12, .long (0)])), (a1, .inl (g 2, 9, .inl (upd (fun _ => 0) (Int32.toNatClampNeg (0)) (vp_nar .boolean (0))))), (a4, .inl (g 0, 9, .inl (upd (fun _ => 0) (Int32.toNatClampNeg (0)) (0))))]) ?_
  intro p e s m below meth c A ls ⟨hx, hb, hr, hml, hown, hts, hlk, hnm⟩ hE hP hD hA hl
  have hown : s.vm.findClass "MinestrataModel" = some m.cls := hown
  have hK := hE.1
  have hS : va_S A s.heap s.heap [] := va_S.rf
  have hl : lv_has ls 3 [(0, .ref a0), (1, .int (0)), (2, .int s2)] := hl
  refine lv_iload_n hx hb dX16_addJunction_0 rfl (lv_at hl 1 rfl) ?_
  refine lv_if_eq (tgt := 21) hx hb dX16_addJunction_1 (by decide +kernel) (fun _ => ?_) (fun h => absurd (by decide +kernel) h)
  refine lv_aload_n hx hb dX16_addJunction_21 rfl (lv_at hl 0 rfl) ?_
  refine va_get (D := (dC, dI)) (ci := 15) (v := .int (0)) (C := "MinestrataModel") (T := TX16) (N := 20) hx hb hts inX16 hown hK hP 0 rfl rfl 1 (by decide) (hts _ q1429) (fun _ h9 => h9) rfl dX16_addJunction_22 ?_
  refine lv_bipush (v := (9)) hx hb dX16_addJunction_25 (by decide +kernel) ?_
  refine lv_icmp_ne (tgt := 36) hx hb dX16_addJunction_27 (by decide +kernel) (fun _ => ?_) (fun h => absurd h (by decide +kernel))
  refine lv_aload_n hx hb dX16_addJunction_36 rfl (lv_at hl 0 rfl) ?_
  refine va_get (D := (dC, dI)) (ci := 15) (v := .ref a1) (C := "MinestrataModel") (T := TX16) (N := 20) hx hb hts inX16 hown hK hP 0 rfl rfl 5 (by decide) (hts _ q1434) (fun _ h9 => h9) rfl dX16_addJunction_37 ?_
  refine lv_aload_n hx hb dX16_addJunction_40 rfl (lv_at hl 0 rfl) ?_
  refine va_get (D := (dC, dI)) (ci := 15) (v := .int (0)) (C := "MinestrataModel") (T := TX16) (N := 20) hx hb hts inX16 hown hK hP 0 rfl rfl 1 (by decide) (hts _ q1429) (fun _ h9 => h9) rfl dX16_addJunction_41 ?_
  refine lv_iload_n hx hb dX16_addJunction_44 rfl (lv_at hl 1 rfl) ?_
  refine va_zast hx hb hK hP hD hS 1 2 rfl rfl (show ¬ ((0 : Int32) < 0 ∨ 9 ≤ Int32.toNatClampNeg (0)) by decide +kernel) dX16_addJunction_45 (fun H locs hP hD hS => ?_)
  have hP : va_P (dC, dI) CL [(a0, .inr (15, [.int (0), .int (0), .int (100), .int (0), .int (0), .ref a1, .ref a2, .ref a3, .ref a4, .ref a5, .ref a6, .ref a7, .ref a8, .ref a9, .ref a10, .ref a11, .null, .int (-1), .ref a12, .long (0)])), (a1, .inl (g 2, 9, .inl (upd (fun _ => 0) (Int32.toNatClampNeg (0)) (vp_nar .boolean (0))))), (a4, .inl (g 0, 9, .inl (fun _ => 0)))] _ := hP
  have hD : va_D A [(a0, .inr (15, [.int (0), .int (0), .int (100), .int (0), .int (0), .ref a1, .ref a2, .ref a3, .ref a4, .ref a5, .ref a6, .ref a7, .ref a8, .ref a9, .ref a10, .ref a11, .null, .int (-1), .ref a12, .long (0)])), (a1, .inl (g 2, 9, .inl (upd (fun _ => 0) (Int32.toNatClampNeg (0)) (vp_nar .boolean (0))))), (a4, .inl (g 0, 9, .inl (fun _ => 0)))] := hD
  refine lv_aload_n hx hb dX16_addJunction_46 rfl (lv_at hl 0 rfl) ?_
  refine va_get (D := (dC, dI)) (ci := 15) (v := .ref a4) (C := "MinestrataModel") (T := TX16) (N := 20) hx hb hts inX16 hown hK hP 0 rfl rfl 8 (by decide) (hts _ q1439) (fun _ h9 => h9) rfl dX16_addJunction_47 ?_
  refine lv_aload_n hx hb dX16_addJunction_50 rfl (lv_at hl 0 rfl) ?_
  refine va_get (D := (dC, dI)) (ci := 15) (v := .int (0)) (C := "MinestrataModel") (T := TX16) (N := 20) hx hb hts inX16 hown hK hP 0 rfl rfl 1 (by decide) (hts _ q1429) (fun _ h9 => h9) rfl dX16_addJunction_51 ?_
  refine lv_iload_n hx hb dX16_addJunction_54 rfl (lv_at hl 1 rfl) ?_
  refine lv_if_eq (tgt := 62) hx hb dX16_addJunction_55 (by decide +kernel) (fun _ => ?_) (fun h => absurd (by decide +kernel) h)
  refine lv_iconst (v := (0)) hx hb dX16_addJunction_62 (by decide +kernel) ?_
  refine va_iast hx hb hK hP hD hS 2 0 rfl rfl (show ¬ ((0 : Int32) < 0 ∨ 9 ≤ Int32.toNatClampNeg (0)) by decide +kernel) dX16_addJunction_63 (fun H locs hP hD hS => ?_)
  have hP : va_P (dC, dI) CL [(a0, .inr (15, [.int (0), .int (0), .int (100), .int (0), .int (0), .ref a1, .ref a2, .ref a3, .ref a4, .ref a5, .ref a6, .ref a7, .ref a8, .ref a9, .ref a10, .ref a11, .null, .int (-1), .ref a12, .long (0)])), (a1, .inl (g 2, 9, .inl (upd (fun _ => 0) (Int32.toNatClampNeg (0)) (vp_nar .boolean (0))))), (a4, .inl (g 0, 9, .inl (upd (fun _ => 0) (Int32.toNatClampNeg (0)) (0))))] _ := hP
  have hD : va_D A [(a0, .inr (15, [.int (0), .int (0), .int (100), .int (0), .int (0), .ref a1, .ref a2, .ref a3, .ref a4, .ref a5, .ref a6, .ref a7, .ref a8, .ref a9, .ref a10, .ref a11, .null, .int (-1), .ref a12, .long (0)])), (a1, .inl (g 2, 9, .inl (upd (fun _ => 0) (Int32.toNatClampNeg (0)) (vp_nar .boolean (0))))), (a4, .inl (g 0, 9, .inl (upd (fun _ => 0) (Int32.toNatClampNeg (0)) (0))))] := hD
  refine lv_aload_n hx hb dX16_addJunction_64 rfl (lv_at hl 0 rfl) ?_
  refine lv_dup hx hb dX16_addJunction_65 rfl ?_
  refine va_get (D := (dC, dI)) (ci := 15) (v := .int (0)) (C := "MinestrataModel") (T := TX16) (N := 20) hx hb hts inX16 hown hK hP 0 rfl rfl 1 (by decide) (hts _ q1429) (fun _ h9 => h9) rfl dX16_addJunction_66 ?_
  refine lv_iconst (v := (1)) hx hb dX16_addJunction_69 (by decide +kernel) ?_
  refine lv_iadd hx hb dX16_addJunction_70 ?_
  refine nt_i (v := (1)) (by decide +kernel) ?_
  refine va_put (D := (dC, dI)) (ci := 15) (v := .int (1)) (ty := .int) (C := "MinestrataModel") (T := TX16) (N := 20) hx hb hts inX16 tyX16 tyX16_ok nmX16 hown hK hP hD hS 0 rfl rfl 1 (by decide) (hts _ q1429) (fun _ h9 => h9) rfl (by decide +kernel) rfl rfl (Nat.le_of_ble_eq_true rfl) dX16_addJunction_71 (fun H locs hP hD hS => ?_)
  have hP : va_P (dC, dI) CL [(a0, .inr (15, [.int (0), .int (1), .int (100), .int (0), .int (0), .ref a1, .ref a2, .ref a3, .ref a4, .ref a5, .ref a6, .ref a7, .ref a8, .ref a9, .ref a10, .ref a11, .null, .int (-1), .ref a12, .long (0)])), (a1, .inl (g 2, 9, .inl (upd (fun _ => 0) (Int32.toNatClampNeg (0)) (vp_nar .boolean (0))))), (a4, .inl (g 0, 9, .inl (upd (fun _ => 0) (Int32.toNatClampNeg (0)) (0))))] _ := hP
  have hD : va_D A [(a0, .inr (15, [.int (0), .int (1), .int (100), .int (0), .int (0), .ref a1, .ref a2, .ref a3, .ref a4, .ref a5, .ref a6, .ref a7, .ref a8, .ref a9, .ref a10, .ref a11, .null, .int (-1), .ref a12, .long (0)])), (a1, .inl (g 2, 9, .inl (upd (fun _ => 0) (Int32.toNatClampNeg (0)) (vp_nar .boolean (0))))), (a4, .inl (g 0, 9, .inl (upd (fun _ => 0) (Int32.toNatClampNeg (0)) (0))))] := hD
  refine lv_aload_n hx hb dX16_addJunction_74 rfl (lv_at hl 0 rfl) ?_
  refine lv_null hx hb dX16_addJunction_75 ?_
  refine va_put (D := (dC, dI)) (ci := 15) (v := .null) (ty := (.object "MinestrataModel$Air")) (C := "MinestrataModel") (T := TX16) (N := 20) hx hb hts inX16 tyX16 tyX16_ok nmX16 hown hK hP hD hS 0 rfl rfl 16 (by decide) (hts _ q1450) (fun _ h9 => h9) rfl (by decide +kernel) rfl rfl (Nat.le_of_ble_eq_true rfl) dX16_addJunction_76 (fun H locs hP hD hS => ?_)
  have hP : va_P (dC, dI) CL [(a0, .inr (15, [.int (0), .int (1), .int (100), .int (0), .int (0), .ref a1, .ref a2, .ref a3, .ref a4, .ref a5, .ref a6, .ref a7, .ref a8, .ref a9, .ref a10, .ref a11, .null, .int (-1), .ref a12, .long (0)])), (a1, .inl (g 2, 9, .inl (upd (fun _ => 0) (Int32.toNatClampNeg (0)) (vp_nar .boolean (0))))), (a4, .inl (g 0, 9, .inl (upd (fun _ => 0) (Int32.toNatClampNeg (0)) (0))))] _ := hP
  have hD : va_D A [(a0, .inr (15, [.int (0), .int (1), .int (100), .int (0), .int (0), .ref a1, .ref a2, .ref a3, .ref a4, .ref a5, .ref a6, .ref a7, .ref a8, .ref a9, .ref a10, .ref a11, .null, .int (-1), .ref a12, .long (0)])), (a1, .inl (g 2, 9, .inl (upd (fun _ => 0) (Int32.toNatClampNeg (0)) (vp_nar .boolean (0))))), (a4, .inl (g 0, 9, .inl (upd (fun _ => 0) (Int32.toNatClampNeg (0)) (0))))] := hD
  refine lv_aload_n hx hb dX16_addJunction_79 rfl (lv_at hl 0 rfl) ?_
  refine lv_aload_n hx hb dX16_addJunction_80 rfl (lv_at hl 0 rfl) ?_
  refine va_get (D := (dC, dI)) (ci := 15) (v := .int (1)) (C := "MinestrataModel") (T := TX16) (N := 20) hx hb hts inX16 hown hK hP 0 rfl rfl 1 (by decide) (hts _ q1429) (fun _ h9 => h9) rfl dX16_addJunction_81 ?_
  refine lv_iconst (v := (1)) hx hb dX16_addJunction_84 (by decide +kernel) ?_
  refine lv_isub hx hb dX16_addJunction_85 ?_
  refine nt_i (v := (0)) (by decide +kernel) ?_
  have hX : nCx p s m _ c prog_14_method_8_code 3 "MinestrataModel" dC dI g A [(a0, .inr (15, [.int (0), .int (1), .int (100), .int (0), .int (0), .ref a1, .ref a2, .ref a3, .ref a4, .ref a5, .ref a6, .ref a7, .ref a8, .ref a9, .ref a10, .ref a11, .null, .int (-1), .ref a12, .long (0)])), (a1, .inl (g 2, 9, .inl (upd (fun _ => 0) (Int32.toNatClampNeg (0)) (vp_nar .boolean (0))))), (a4, .inl (g 0, 9, .inl (upd (fun _ => 0) (Int32.toNatClampNeg (0)) (0))))] _ _ := ⟨⟨hx, hb, hml, hown, hts⟩, hE, hS, hA, hP, hD⟩
  refine n_call (wr := [(a1, .inl (g 2, 9, .inl (upd (fun _ => 0) (Int32.toNatClampNeg (0)) (vp_nar .boolean (0))))), (a4, .inl (g 0, 9, .inl (upd (fun _ => 0) (Int32.toNatClampNeg (0)) (0))))]) hX (n_runV (n := 1) (wc := [(a0, .inr (15, [.int (0), .int (1), .int (100), .int (0), .int (0), .ref a1, .ref a2, .ref a3, .ref a4, .ref a5, .ref a6, .ref a7, .ref a8, .ref a9, .ref a10, .ref a11, .null, .int (-1), .ref a12, .long (0)]))]) (As := [.int (0)]) (rest := []) hX (m24 l hst dC dI g a0 a1 a2 a3 a4 a5 a6 a7 a8 a9 a10 a11 a12 _) [0] rfl (by decide +kernel) 0 (ci := 15) rfl (T := TX16) (N := 20) (C := "MinestrataModel") rfl q1510 q1512 q40 q82 q1513 (by decide +kernel) ⟨(Nat.le_of_ble_eq_true rfl), (Nat.le_of_ble_eq_true rfl)⟩ ⟨(Nat.le_of_ble_eq_true rfl), (Nat.le_of_ble_eq_true rfl)⟩ hl.1 rfl rfl (Nat.le_of_ble_eq_true rfl) dX16_addJunction_86) [0] [1, 2] rfl rfl (by decide +kernel) (by decide +kernel) (fun f1 r2 H locs hP hD hS => ?_)
  have hP : va_P (dC, dI) CL [(a1, .inl (g 2, 9, .inl (upd (fun _ => 0) (Int32.toNatClampNeg (0)) (vp_nar .boolean (0))))), (a4, .inl (g 0, 9, .inl (upd (fun _ => 0) (Int32.toNatClampNeg (0)) (0)))), (a0, .inr (15, [.int (0), .int (1), .int (100), .int (0), .int (0), .ref a1, .ref a2, .ref a3, .ref a4, .ref a5, .ref a6, .ref a7, .ref a8, .ref a9, .ref a10, .ref a11, .null, .int (-1), .ref a12, .long (0)]))] _ := hP
  have hD : va_D A [(a1, .inl (g 2, 9, .inl (upd (fun _ => 0) (Int32.toNatClampNeg (0)) (vp_nar .boolean (0))))), (a4, .inl (g 0, 9, .inl (upd (fun _ => 0) (Int32.toNatClampNeg (0)) (0)))), (a0, .inr (15, [.int (0), .int (1), .int (100), .int (0), .int (0), .ref a1, .ref a2, .ref a3, .ref a4, .ref a5, .ref a6, .ref a7, .ref a8, .ref a9, .ref a10, .ref a11, .null, .int (-1), .ref a12, .long (0)]))] := hD
  refine W.widen (k := 0) (n := 0) (Nat.le_of_ble_eq_true rfl) (Nat.le_of_ble_eq_true rfl) ?_
  refine W.eq (g2 := F0 m 89 ls [.int (0)]) rfl ?_
  refine W.widen (k := 0) (n := 0) (Nat.le_of_ble_eq_true rfl) (Nat.le_of_ble_eq_true rfl) ?_
  exact W.iret hx hb hr (n_end hS hP hD [2, 0, 1] (by decide +kernel) (fun _ => 0) (fun _ => 0) rfl rfl rfl) hS.2.2 dX16_addJunction_89 hlk

set_option maxHeartbeats 4000000 in
set_option maxRecDepth 100000 in
/-- MinestrataModel.thrown -/
theorem m26 (l : Launch) (hst : l.stackTraces = false) (dC : Nat → ClassId) (dI : Nat → Nat → Nat) (g : Nat → Nat) (a0 a1 a2 a3 a4 a5 a6 a7 a8 a9 a10 a11 a12 : Nat) (sz : Nat) :
    Met l Y20 (Cond.code Y20 prog_14_method_2_code 1 (Option.some Jvm.ClassFile.FieldType.int) :: AW) ({ frames := 0, cells := 0, slots := 0, locals := 0 } : Room) (nP dC dI g [.ref a0] [(a0, .inr (15, [.int (0), .int (1), .int (100), .int (0), .int (0), .ref a1, .ref a2, .ref a3, .ref a4, .ref a5, .ref a6, .ref a7, .ref a8, .ref a9, .ref a10, .ref a11, .null, .int (-1), .ref a12, .long (0)]))] sz) (nQ dC dI (fun f => some (.int (0))) (fun f r => [(a0, .inr (15, [.int (0), .int (1), .int (100), .int (0), .int (0), .ref a1, .ref a2, .ref a3, .ref a4, .ref a5, .ref a6, .ref a7, .ref a8, .ref a9, .ref a10, .ref a11, .null, .int (-1), .ref a12, .long (0)]))]) (va_A [(a0, .inr (15, [.int (0), .int (1), .int (100), .int (0), .int (0), .ref a1, .ref a2, .ref a3, .ref a4, .ref a5, .ref a6, .ref a7, .ref a8, .ref a9, .ref a10, .ref a11, .null, .int (-1), .ref a12, .long (0)]))] sz)) 0 0 (va_A [(a0, .inr (15, [.int (0), .int (1), .int (100), .int (0), .int (0), .ref a1, .ref a2, .ref a3, .ref a4, .ref a5, .ref a6, .ref a7, .ref a8, .ref a9, .ref a10, .ref a11, .null, .int (-1), .ref a12, .long (0)]))] sz) := by
  refine n_met (by decide +kernel) (Nat.le_of_ble_eq_true rfl) (fun f => some (.int (0))) (fun f r => [(a0, .inr (15, [.int (0), .int (1), .int (100), .int (0), .int (0), .ref a1, .ref a2, .ref a3, .ref a4, .ref a5, .ref a6, .ref a7, .ref a8, .ref a9, .ref a10, .ref a11, .null, .int (-1), .ref a12, .long (0)]))]) ?_
  intro p e s m below meth c A ls ⟨hx, hb, hr, hml, hown, hts, hlk, hnm⟩ hE hP hD hA hl
  have hown : s.vm.findClass "MinestrataModel" = some m.cls := hown
  have hK := hE.1
  have hS : va_S A s.heap s.heap [] := va_S.rf
  have hl : lv_has ls 1 [(0, .ref a0)] := hl
  refine lv_aload_n hx hb dX16_thrown_0 rfl (lv_at hl 0 rfl) ?_
  refine va_get (D := (dC, dI)) (ci := 15) (v := .int (0)) (C := "MinestrataModel") (T := TX16) (N := 20) hx hb hts inX16 hown hK hP 0 rfl rfl 0 (by decide) (hts _ q1427) (fun _ h9 => h9) rfl dX16_thrown_1 ?_
  refine W.widen (k := 0) (n := 0) (Nat.le_of_ble_eq_true rfl) (Nat.le_of_ble_eq_true rfl) ?_
  exact W.iret hx hb hr (n_end hS hP hD [0] (by decide +kernel) (fun _ => 0) (fun _ => 0) rfl rfl rfl) hS.2.2 dX16_thrown_4 hlk

set_option maxHeartbeats 4000000 in
set_option maxRecDepth 100000 in
/-- Minestrata.isWithin -/
theorem m27 (l : Launch) (hst : l.stackTraces = false) (dC : Nat → ClassId) (dI : Nat → Nat → Nat) (g : Nat → Nat) (s2 : Int32) (e0 : s2 < (-50)) (sz : Nat) :
    Met l Y21 (Cond.code Y21 prog_1_method_38_code 3 (Option.some Jvm.ClassFile.FieldType.boolean) :: AW) ({ frames := 0, cells := 0, slots := 0, locals := 0 } : Room) (nP dC dI g [.int s2, .int (-50), .int (50)] [] sz) (nQ dC dI (fun f => some (.int (0))) (fun f r => []) (va_A [] sz)) 0 0 (va_A [] sz) := by
  refine n_met (by decide +kernel) (Nat.le_of_ble_eq_true rfl) (fun f => some (.int (0))) (fun f r => []) ?_
  intro p e s m below meth c A ls ⟨hx, hb, hr, hml, hown, hts, hlk, hnm⟩ hE hP hD hA hl
  have hown : s.vm.findClass "Minestrata" = some m.cls := hown
  have hK := hE.1
  have hS : va_S A s.heap s.heap [] := va_S.rf
  have hl : lv_has ls 3 [(0, .int s2), (1, .int (-50)), (2, .int (50))] := hl
  refine lv_iload_n hx hb dX11_isWithin_0 rfl (lv_at hl 0 rfl) ?_
  refine lv_iload_n hx hb dX11_isWithin_1 rfl (lv_at hl 1 rfl) ?_
  refine lv_icmp_lt (tgt := 14) hx hb dX11_isWithin_2 (by decide +kernel) (fun _ => ?_) (fun h => absurd e0 h)
  refine lv_iconst (v := (0)) hx hb dX11_isWithin_14 (by decide +kernel) ?_
  refine W.widen (k := 0) (n := 0) (Nat.le_of_ble_eq_true rfl) (Nat.le_of_ble_eq_true rfl) ?_
  exact W.zret hx hb hr (by decide +kernel) (n_end hS hP hD [] (by decide +kernel) (fun _ => 0) (fun _ => 0) rfl rfl rfl) hS.2.2 dX11_isWithin_15 hlk

set_option maxHeartbeats 4000000 in
set_option maxRecDepth 100000 in
/-- Minestrata.addJunction -/
theorem m28 (l : Launch) (hst : l.stackTraces = false) (dC : Nat → ClassId) (dI : Nat → Nat → Nat) (g : Nat → Nat) (a0 a1 a2 a3 a4 a5 a6 a7 a8 a9 a10 a11 a12 a13 a14 a15 a16 a17 a18 a19 a20 a21 : Nat) (s2 : Int32) (e0 : s2 < (-50)) (sz : Nat) :
    vx_Met l Y16 (Cond.code Y16 prog_1_method_2_code 3 (Option.some Jvm.ClassFile.FieldType.int) :: AW) ({ frames := 6, cells := 1, slots := 6, locals := 81 } : Room) (nP dC dI g [.ref a0, .int (1), .int s2] [(a0, .inr (12, [.ref a1, .ref a2, .ref a3, .ref a4, .ref a5, .ref a6, .ref a7, .ref a8, .null, .ref a9, .ref a10, .int (0), .int (100), .int (0), .int (0), .int (-1), .long (0), .int (1)])), (a1, .inr (8, [.int (0), .ref a11, .ref a12, .ref a13, .ref a14, .int (0), .ref a15, .ref a16, .ref a17, .ref a18, .ref a19, .ref a20, .ref a21])), (a11, .inl (g 2, 9, .inl (fun _ => 0))), (a12, .inl (g 0, 9, .inl (fun _ => 0)))] sz) (fun _ _ _ _ => False) (nX "java/lang/IllegalArgumentException" (va_A [(a0, .inr (12, [.ref a1, .ref a2, .ref a3, .ref a4, .ref a5, .ref a6, .ref a7, .ref a8, .null, .ref a9, .ref a10, .int (0), .int (100), .int (0), .int (0), .int (-1), .long (0), .int (1)])), (a1, .inr (8, [.int (0), .ref a11, .ref a12, .ref a13, .ref a14, .int (0), .ref a15, .ref a16, .ref a17, .ref a18, .ref a19, .ref a20, .ref a21])), (a11, .inl (g 2, 9, .inl (fun _ => 0))), (a12, .inl (g 0, 9, .inl (fun _ => 0)))] sz)) 1 6 (va_A [(a0, .inr (12, [.ref a1, .ref a2, .ref a3, .ref a4, .ref a5, .ref a6, .ref a7, .ref a8, .null, .ref a9, .ref a10, .int (0), .int (100), .int (0), .int (0), .int (-1), .long (0), .int (1)])), (a1, .inr (8, [.int (0), .ref a11, .ref a12, .ref a13, .ref a14, .int (0), .ref a15, .ref a16, .ref a17, .ref a18, .ref a19, .ref a20, .ref a21])), (a11, .inl (g 2, 9, .inl (fun _ => 0))), (a12, .inl (g 0, 9, .inl (fun _ => 0)))] sz) := by
  refine n_metX (by decide +kernel) (Nat.le_of_ble_eq_true rfl) "java/lang/IllegalArgumentException" ?_
  intro p e s m below meth c A ls ⟨hx, hb, hr, hml, hown, hts, hlk, hnm⟩ hout hE hP hD hA hl
  have hown : s.vm.findClass "Minestrata" = some m.cls := hown
  have hK := hE.1
  have hS : va_S A s.heap s.heap [] := va_S.rf
  have hl : lv_has ls 3 [(0, .ref a0), (1, .int (1)), (2, .int s2)] := hl
  have hlsz : ls.size = c.maxLocals := hl.1.trans hml.symm
  refine lv_iload_n hx hb dX11_addJunction_0 rfl (lv_at hl 1 rfl) ?_
  refine lv_if_eq (tgt := 23) hx hb dX11_addJunction_1 (by decide +kernel) (fun h => absurd h (by decide +kernel)) (fun _ => ?_)
  refine lv_iload_n hx hb dX11_addJunction_4 rfl (lv_at hl 2 rfl) ?_
  refine lv_bipush (v := (-50)) hx hb dX11_addJunction_5 (by decide +kernel) ?_
  refine lv_bipush (v := (50)) hx hb dX11_addJunction_7 (by decide +kernel) ?_
  have hX : nCx p s m _ c prog_1_method_2_code 3 "Minestrata" dC dI g A [(a0, .inr (12, [.ref a1, .ref a2, .ref a3, .ref a4, .ref a5, .ref a6, .ref a7, .ref a8, .null, .ref a9, .ref a10, .int (0), .int (100), .int (0), .int (0), .int (-1), .long (0), .int (1)])), (a1, .inr (8, [.int (0), .ref a11, .ref a12, .ref a13, .ref a14, .int (0), .ref a15, .ref a16, .ref a17, .ref a18, .ref a19, .ref a20, .ref a21])), (a11, .inl (g 2, 9, .inl (fun _ => 0))), (a12, .inl (g 0, 9, .inl (fun _ => 0)))] _ _ := ⟨⟨hx, hb, hml, hown, hts⟩, hE, hS, hA, hP, hD⟩
  refine n_call (wr := [(a0, .inr (12, [.ref a1, .ref a2, .ref a3, .ref a4, .ref a5, .ref a6, .ref a7, .ref a8, .null, .ref a9, .ref a10, .int (0), .int (100), .int (0), .int (0), .int (-1), .long (0), .int (1)])), (a1, .inr (8, [.int (0), .ref a11, .ref a12, .ref a13, .ref a14, .int (0), .ref a15, .ref a16, .ref a17, .ref a18, .ref a19, .ref a20, .ref a21])), (a11, .inl (g 2, 9, .inl (fun _ => 0))), (a12, .inl (g 0, 9, .inl (fun _ => 0)))]) hX (n_runS (n := 3) (wc := []) (As := [.int s2, .int (-50), .int (50)]) (rest := []) hX (m27 l hst dC dI g s2 e0 _) [] rfl (by decide +kernel) q814 q815 q71 q816 (by decide +kernel) ⟨(Nat.le_of_ble_eq_true rfl), (Nat.le_of_ble_eq_true rfl)⟩ ⟨(Nat.le_of_ble_eq_true rfl), (Nat.le_of_ble_eq_true rfl)⟩ hl.1 rfl rfl (Nat.le_of_ble_eq_true rfl) dX11_addJunction_9) [] [0, 1, 2, 3] rfl rfl (by decide +kernel) (by decide +kernel) (fun f1 r2 H locs hP hD hS => ?_)
  have hP : va_P (dC, dI) CL [(a0, .inr (12, [.ref a1, .ref a2, .ref a3, .ref a4, .ref a5, .ref a6, .ref a7, .ref a8, .null, .ref a9, .ref a10, .int (0), .int (100), .int (0), .int (0), .int (-1), .long (0), .int (1)])), (a1, .inr (8, [.int (0), .ref a11, .ref a12, .ref a13, .ref a14, .int (0), .ref a15, .ref a16, .ref a17, .ref a18, .ref a19, .ref a20, .ref a21])), (a11, .inl (g 2, 9, .inl (fun _ => 0))), (a12, .inl (g 0, 9, .inl (fun _ => 0)))] _ := hP
  have hD : va_D A [(a0, .inr (12, [.ref a1, .ref a2, .ref a3, .ref a4, .ref a5, .ref a6, .ref a7, .ref a8, .null, .ref a9, .ref a10, .int (0), .int (100), .int (0), .int (0), .int (-1), .long (0), .int (1)])), (a1, .inr (8, [.int (0), .ref a11, .ref a12, .ref a13, .ref a14, .int (0), .ref a15, .ref a16, .ref a17, .ref a18, .ref a19, .ref a20, .ref a21])), (a11, .inl (g 2, 9, .inl (fun _ => 0))), (a12, .inl (g 0, 9, .inl (fun _ => 0)))] := hD
  refine W.widen (k := 0) (n := 0) (Nat.le_of_ble_eq_true rfl) (Nat.le_of_ble_eq_true rfl) ?_
  refine W.eq (g2 := F0 m 12 ls [.int (0)]) rfl ?_
  refine lv_if_ne (tgt := 23) hx hb dX11_addJunction_12 (by decide +kernel) (fun h => absurd (by decide +kernel) h) (fun _ => ?_)
  exact n_throw hx hb hst hown hts hE hS (names := ["java/lang/RuntimeException", "java/lang/Exception"]) (by decide +kernel) (by decide +kernel) q817 q89 hat0p hat0a hat0 hat0g (hl.1.trans hml.symm) dX11_addJunction_15 dX11_addJunction_18 dX11_addJunction_19 dX11_addJunction_22 hout (Nat.le_of_ble_eq_true rfl) (Nat.le_of_ble_eq_true rfl) (Nat.le_of_ble_eq_true rfl) (Nat.le_of_ble_eq_true rfl) hlk (Nat.le_of_ble_eq_true rfl) (Nat.le_of_ble_eq_true rfl)

set_option maxHeartbeats 4000000 in
set_option maxRecDepth 100000 in
/-- MinestrataLaw.addJunction -/
theorem m29 (l : Launch) (hst : l.stackTraces = false) (dC : Nat → ClassId) (dI : Nat → Nat → Nat) (g : Nat → Nat) (a0 a1 a2 a3 a4 a5 a6 a7 a8 a9 a10 a11 a12 a13 a14 a15 a16 a17 a18 a19 a20 a21 a22 : Nat) (s2 : Int32) (e0 : s2 < (-50)) (sz : Nat) :
    Met l Y15 (Cond.codeWith Y15 method_3_code 5 (Option.some Jvm.ClassFile.FieldType.int) [((0 : Nat), (10 : Nat), (13 : Nat), (13 : Nat)), ((0 : Nat), (10 : Nat), (17 : Nat), (15 : Nat))] :: AW) ({ frames := 7, cells := 1, slots := 6, locals := 103 } : Room) (nP dC dI g [.ref a0, .int (1), .int s2, .ref a1] [(a0, .inr (12, [.ref a2, .ref a3, .ref a4, .ref a5, .ref a6, .ref a7, .ref a8, .ref a9, .null, .ref a10, .ref a11, .int (0), .int (100), .int (0), .int (0), .int (-1), .long (0), .int (1)])), (a2, .inr (8, [.int (0), .ref a12, .ref a13, .ref a14, .ref a15, .int (0), .ref a16, .ref a17, .ref a18, .ref a19, .ref a20, .ref a21, .ref a22])), (a12, .inl (g 2, 9, .inl (fun _ => 0))), (a13, .inl (g 0, 9, .inl (fun _ => 0))), (a1, .inl (g 1, 1, .inr (.inl (fun _ => 0))))] sz) (nQ dC dI (fun f => some (.int (1))) (fun f r => []) (va_A [(a0, .inr (12, [.ref a2, .ref a3, .ref a4, .ref a5, .ref a6, .ref a7, .ref a8, .ref a9, .null, .ref a10, .ref a11, .int (0), .int (100), .int (0), .int (0), .int (-1), .long (0), .int (1)])), (a2, .inr (8, [.int (0), .ref a12, .ref a13, .ref a14, .ref a15, .int (0), .ref a16, .ref a17, .ref a18, .ref a19, .ref a20, .ref a21, .ref a22])), (a12, .inl (g 2, 9, .inl (fun _ => 0))), (a13, .inl (g 0, 9, .inl (fun _ => 0))), (a1, .inl (g 1, 1, .inr (.inl (fun _ => 0))))] sz)) 1 6 (va_A [(a0, .inr (12, [.ref a2, .ref a3, .ref a4, .ref a5, .ref a6, .ref a7, .ref a8, .ref a9, .null, .ref a10, .ref a11, .int (0), .int (100), .int (0), .int (0), .int (-1), .long (0), .int (1)])), (a2, .inr (8, [.int (0), .ref a12, .ref a13, .ref a14, .ref a15, .int (0), .ref a16, .ref a17, .ref a18, .ref a19, .ref a20, .ref a21, .ref a22])), (a12, .inl (g 2, 9, .inl (fun _ => 0))), (a13, .inl (g 0, 9, .inl (fun _ => 0))), (a1, .inl (g 1, 1, .inr (.inl (fun _ => 0))))] sz) := by
  refine n_metW (by decide +kernel) q807 (Nat.le_of_ble_eq_true rfl) (fun f => some (.int (1))) (fun f r => []) ?_
  intro p e s m below meth c A ls ⟨hx, hb, hr, hml, hown, hts, hlk, hnm⟩ htab hE hP hD hA hl
  have hown : s.vm.findClass "MinestrataLaw" = some m.cls := hown
  have hK := hE.1
  have hS : va_S A s.heap s.heap [] := va_S.rf
  have hl : lv_has ls 5 [(0, .ref a0), (1, .int (1)), (2, .int s2), (3, .ref a1)] := hl
  refine lv_aload_n hx hb dL_addJunction_0 rfl (lv_at hl 3 rfl) ?_
  refine lv_iconst (v := (0)) hx hb dL_addJunction_1 (by decide +kernel) ?_
  refine lv_aload_n hx hb dL_addJunction_2 rfl (lv_at hl 0 rfl) ?_
  refine lv_iload_n hx hb dL_addJunction_3 rfl (lv_at hl 1 rfl) ?_
  refine lv_iload_n hx hb dL_addJunction_4 rfl (lv_at hl 2 rfl) ?_
  have hX : nCx p s m _ c method_3_code 5 "MinestrataLaw" dC dI g A [(a0, .inr (12, [.ref a2, .ref a3, .ref a4, .ref a5, .ref a6, .ref a7, .ref a8, .ref a9, .null, .ref a10, .ref a11, .int (0), .int (100), .int (0), .int (0), .int (-1), .long (0), .int (1)])), (a2, .inr (8, [.int (0), .ref a12, .ref a13, .ref a14, .ref a15, .int (0), .ref a16, .ref a17, .ref a18, .ref a19, .ref a20, .ref a21, .ref a22])), (a12, .inl (g 2, 9, .inl (fun _ => 0))), (a13, .inl (g 0, 9, .inl (fun _ => 0))), (a1, .inl (g 1, 1, .inr (.inl (fun _ => 0))))] _ _ := ⟨⟨hx, hb, hml, hown, hts⟩, hE, hS, hA, hP, hD⟩
  refine n_callX (E0 := "java/lang/IllegalArgumentException") hX (n_runVX (n := 2) (wc := [(a0, .inr (12, [.ref a2, .ref a3, .ref a4, .ref a5, .ref a6, .ref a7, .ref a8, .ref a9, .null, .ref a10, .ref a11, .int (0), .int (100), .int (0), .int (0), .int (-1), .long (0), .int (1)])), (a2, .inr (8, [.int (0), .ref a12, .ref a13, .ref a14, .ref a15, .int (0), .ref a16, .ref a17, .ref a18, .ref a19, .ref a20, .ref a21, .ref a22])), (a12, .inl (g 2, 9, .inl (fun _ => 0))), (a13, .inl (g 0, 9, .inl (fun _ => 0)))]) (As := [.int (1), .int s2]) (rest := [.int (0), .ref a1]) hX (m28 l hst dC dI g a0 a2 a3 a4 a5 a6 a7 a8 a9 a10 a11 a12 a13 a14 a15 a16 a17 a18 a19 a20 a21 a22 s2 e0 _) [0, 1, 2, 3] rfl (by decide +kernel) 0 (ci := 12) rfl (T := TX11) (N := 18) (C := "Minestrata") rfl q810 q811 q812 q71 q813 (by decide +kernel) ⟨(Nat.le_of_ble_eq_true rfl), (Nat.le_of_ble_eq_true rfl)⟩ ⟨(Nat.le_of_ble_eq_true rfl), (Nat.le_of_ble_eq_true rfl)⟩ hl.1 rfl rfl (Nat.le_of_ble_eq_true rfl) dL_addJunction_5) [0, 1, 2, 3] rfl (fun ce q9 H locs hS hce hcv hcl => ?_)
  refine n_catch (E := "java/lang/IllegalArgumentException") (name := "java/lang/IllegalArgumentException") hE hts hown htab [] ⟨0, 10, 13, 13⟩ [⟨0, 10, 17, 15⟩] rfl (fun z hz => nomatch hz) (by decide +kernel) (by decide) q808 x819 hce hcv hcl ?_
  refine W.widen (k := 1) (n := 6) (Nat.le_of_ble_eq_true rfl) (Nat.le_of_ble_eq_true rfl) ?_
  refine W.eq (g2 := F0 m 13 ls [.ref q9]) rfl ?_
  refine lv_astore (lv' := [(4, .ref q9), (0, .ref a0), (1, .int (1)), (2, .int s2), (3, .ref a1)]) hx hb dL_addJunction_13 hl (by decide) rfl (fun ls hl => ?_)
  refine lv_iconst (v := (1)) hx hb dL_addJunction_15 (by decide +kernel) ?_
  refine W.widen (k := 1) (n := 6) (Nat.le_of_ble_eq_true rfl) (Nat.le_of_ble_eq_true rfl) ?_
  exact W.iret hx hb hr (n_end0 hS (fun _ => 0) rfl rfl) hS.2.2 dL_addJunction_16 hlk

set_option maxHeartbeats 4000000 in
set_option maxRecDepth 100000 in
/-- MinestrataModel.in -/
theorem m30 (l : Launch) (hst : l.stackTraces = false) (dC : Nat → ClassId) (dI : Nat → Nat → Nat) (g : Nat → Nat) (s2 : Int32) (e0 : s2 < (-50)) (sz : Nat) :
    Met l Y22 (Cond.code Y22 prog_14_method_3_code 3 (Option.some Jvm.ClassFile.FieldType.boolean) :: AW) ({ frames := 0, cells := 0, slots := 0, locals := 0 } : Room) (nP dC dI g [.int s2, .int (-50), .int (50)] [] sz) (nQ dC dI (fun f => some (.int (0))) (fun f r => []) (va_A [] sz)) 0 0 (va_A [] sz) := by
  refine n_met (by decide +kernel) (Nat.le_of_ble_eq_true rfl) (fun f => some (.int (0))) (fun f r => []) ?_
  intro p e s m below meth c A ls ⟨hx, hb, hr, hml, hown, hts, hlk, hnm⟩ hE hP hD hA hl
  have hown : s.vm.findClass "MinestrataModel" = some m.cls := hown
  have hK := hE.1
  have hS : va_S A s.heap s.heap [] := va_S.rf
  have hl : lv_has ls 3 [(0, .int s2), (1, .int (-50)), (2, .int (50))] := hl
  refine lv_iload_n hx hb dX16_in_0 rfl (lv_at hl 0 rfl) ?_
  refine lv_iload_n hx hb dX16_in_1 rfl (lv_at hl 1 rfl) ?_
  refine lv_icmp_lt (tgt := 14) hx hb dX16_in_2 (by decide +kernel) (fun _ => ?_) (fun h => absurd e0 h)
  refine lv_iconst (v := (0)) hx hb dX16_in_14 (by decide +kernel) ?_
  refine W.widen (k := 0) (n := 0) (Nat.le_of_ble_eq_true rfl) (Nat.le_of_ble_eq_true rfl) ?_
  exact W.zret hx hb hr (by decide +kernel) (n_end hS hP hD [] (by decide +kernel) (fun _ => 0) (fun _ => 0) rfl rfl rfl) hS.2.2 dX16_in_15 hlk

set_option maxHeartbeats 4000000 in
set_option maxRecDepth 100000 in
/-- MinestrataModel.fails -/
theorem m31 (l : Launch) (hst : l.stackTraces = false) (dC : Nat → ClassId) (dI : Nat → Nat → Nat) (g : Nat → Nat) (a0 a1 a2 a3 a4 a5 a6 a7 a8 a9 a10 a11 a12 : Nat) (sz : Nat) :
    Met l Y23 (Cond.code Y23 prog_14_method_4_code 2 (Option.some Jvm.ClassFile.FieldType.int) :: AW) ({ frames := 0, cells := 0, slots := 0, locals := 0 } : Room) (nP dC dI g [.ref a0, .int (1)] [(a0, .inr (15, [.int (0), .int (0), .int (100), .int (0), .int (0), .ref a1, .ref a2, .ref a3, .ref a4, .ref a5, .ref a6, .ref a7, .ref a8, .ref a9, .ref a10, .ref a11, .null, .int (-1), .ref a12, .long (0)]))] sz) (nQ dC dI (fun f => some (.int (0))) (fun f r => [(a0, .inr (15, [.int (1), .int (0), .int (100), .int (0), .int (0), .ref a1, .ref a2, .ref a3, .ref a4, .ref a5, .ref a6, .ref a7, .ref a8, .ref a9, .ref a10, .ref a11, .null, .int (-1), .ref a12, .long (0)]))]) (va_A [(a0, .inr (15, [.int (0), .int (0), .int (100), .int (0), .int (0), .ref a1, .ref a2, .ref a3, .ref a4, .ref a5, .ref a6, .ref a7, .ref a8, .ref a9, .ref a10, .ref a11, .null, .int (-1), .ref a12, .long (0)]))] sz)) 0 0 (va_A [(a0, .inr (15, [.int (0), .int (0), .int (100), .int (0), .int (0), .ref a1, .ref a2, .ref a3, .ref a4, .ref a5, .ref a6, .ref a7, .ref a8, .ref a9, .ref a10, .ref a11, .null, .int (-1), .ref a12, .long (0)]))] sz) := by
  refine n_met (by decide +kernel) (Nat.le_of_ble_eq_true rfl) (fun f => some (.int (0))) (fun f r => [(a0, .inr (15, [.int (1), .int (0), .int (100), .int (0), .int (0), .ref a1, .ref a2, .ref a3, .ref a4, .ref a5, .ref a6, .ref a7, .ref a8, .ref a9, .ref a10, .ref a11, .null, .int (-1), .ref a12, .long (0)]))]) ?_
  intro p e s m below meth c A ls ⟨hx, hb, hr, hml, hown, hts, hlk, hnm⟩ hE hP hD hA hl
  have hown : s.vm.findClass "MinestrataModel" = some m.cls := hown
  have hK := hE.1
  have hS : va_S A s.heap s.heap [] := va_S.rf
  have hl : lv_has ls 2 [(0, .ref a0), (1, .int (1))] := hl
  refine lv_aload_n hx hb dX16_fails_0 rfl (lv_at hl 0 rfl) ?_
  refine lv_iload_n hx hb dX16_fails_1 rfl (lv_at hl 1 rfl) ?_
  refine va_put (D := (dC, dI)) (ci := 15) (v := .int (1)) (ty := .int) (C := "MinestrataModel") (T := TX16) (N := 20) hx hb hts inX16 tyX16 tyX16_ok nmX16 hown hK hP hD hS 0 rfl rfl 0 (by decide) (hts _ q1427) (fun _ h9 => h9) rfl (by decide +kernel) rfl rfl (Nat.le_of_ble_eq_true rfl) dX16_fails_2 (fun H locs hP hD hS => ?_)
  have hP : va_P (dC, dI) CL [(a0, .inr (15, [.int (1), .int (0), .int (100), .int (0), .int (0), .ref a1, .ref a2, .ref a3, .ref a4, .ref a5, .ref a6, .ref a7, .ref a8, .ref a9, .ref a10, .ref a11, .null, .int (-1), .ref a12, .long (0)]))] _ := hP
  have hD : va_D A [(a0, .inr (15, [.int (1), .int (0), .int (100), .int (0), .int (0), .ref a1, .ref a2, .ref a3, .ref a4, .ref a5, .ref a6, .ref a7, .ref a8, .ref a9, .ref a10, .ref a11, .null, .int (-1), .ref a12, .long (0)]))] := hD
  refine lv_iconst (v := (0)) hx hb dX16_fails_5 (by decide +kernel) ?_
  refine W.widen (k := 0) (n := 0) (Nat.le_of_ble_eq_true rfl) (Nat.le_of_ble_eq_true rfl) ?_
  exact W.iret hx hb hr (n_end hS hP hD [0] (by decide +kernel) (fun _ => 0) (fun _ => 0) rfl rfl rfl) hS.2.2 dX16_fails_6 hlk

set_option maxHeartbeats 4000000 in
set_option maxRecDepth 100000 in
/-- MinestrataModel.addJunction -/
theorem m32 (l : Launch) (hst : l.stackTraces = false) (dC : Nat → ClassId) (dI : Nat → Nat → Nat) (g : Nat → Nat) (a0 a1 a2 a3 a4 a5 a6 a7 a8 a9 a10 a11 a12 : Nat) (s2 : Int32) (e0 : s2 < (-50)) (sz : Nat) :
    Met l Y18 (Cond.code Y18 prog_14_method_8_code 3 (Option.some Jvm.ClassFile.FieldType.int) :: AW) ({ frames := 1, cells := 0, slots := 0, locals := 22 } : Room) (nP dC dI g [.ref a0, .int (1), .int s2] [(a0, .inr (15, [.int (0), .int (0), .int (100), .int (0), .int (0), .ref a1, .ref a2, .ref a3, .ref a4, .ref a5, .ref a6, .ref a7, .ref a8, .ref a9, .ref a10, .ref a11, .null, .int (-1), .ref a12, .long (0)]))] sz) (nQ dC dI (fun f => some (.int (0))) (fun f r => [(a0, .inr (15, [.int (1), .int (0), .int (100), .int (0), .int (0), .ref a1, .ref a2, .ref a3, .ref a4, .ref a5, .ref a6, .ref a7, .ref a8, .ref a9, .ref a10, .ref a11, .null, .int (-1), .ref a12, .long (0)]))]) (va_A [(a0, .inr (15, [.int (0), .int (0), .int (100), .int (0), .int (0), .ref a1, .ref a2, .ref a3, .ref a4, .ref a5, .ref a6, .ref a7, .ref a8, .ref a9, .ref a10, .ref a11, .null, .int (-1), .ref a12, .long (0)]))] sz)) 0 0 (va_A [(a0, .inr (15, [.int (0), .int (0), .int (100), .int (0), .int (0), .ref a1, .ref a2, .ref a3, .ref a4, .ref a5, .ref a6, .ref a7, .ref a8, .ref a9, .ref a10, .ref a11, .null, .int (-1), .ref a12, .long (0)]))] sz) := by
  refine n_met (by decide +kernel) (Nat.le_of_ble_eq_true rfl) (fun f => some (.int (0))) (fun f r => [(a0, .inr (15, [.int (1), .int (0), .int (100), .int (0), .int (0), .ref a1, .ref a2, .ref a3, .ref a4, .ref a5, .ref a6, .ref a7, .ref a8, .ref a9, .ref a10, .ref a11, .null, .int (-1), .ref a12, .long (0)]))]) ?_
  intro p e s m below meth c A ls ⟨hx, hb, hr, hml, hown, hts, hlk, hnm⟩ hE hP hD hA hl
  have hown : s.vm.findClass "MinestrataModel" = some m.cls := hown
  have hK := hE.1
  have hS : va_S A s.heap s.heap [] := va_S.rf
  have hl : lv_has ls 3 [(0, .ref a0), (1, .int (1)), (2, .int s2)] := hl
  refine lv_iload_n hx hb dX16_addJunction_0 rfl (lv_at hl 1 rfl) ?_
  refine lv_if_eq (tgt := 21) hx hb dX16_addJunction_1 (by decide +kernel) (fun h => absurd h (by decide +kernel)) (fun _ => ?_)
  refine lv_iload_n hx hb dX16_addJunction_4 rfl (lv_at hl 2 rfl) ?_
  refine lv_bipush (v := (-50)) hx hb dX16_addJunction_5 (by decide +kernel) ?_
  refine lv_bipush (v := (50)) hx hb dX16_addJunction_7 (by decide +kernel) ?_
  have hX : nCx p s m _ c prog_14_method_8_code 3 "MinestrataModel" dC dI g A [(a0, .inr (15, [.int (0), .int (0), .int (100), .int (0), .int (0), .ref a1, .ref a2, .ref a3, .ref a4, .ref a5, .ref a6, .ref a7, .ref a8, .ref a9, .ref a10, .ref a11, .null, .int (-1), .ref a12, .long (0)]))] _ _ := ⟨⟨hx, hb, hml, hown, hts⟩, hE, hS, hA, hP, hD⟩
  refine n_call (wr := [(a0, .inr (15, [.int (0), .int (0), .int (100), .int (0), .int (0), .ref a1, .ref a2, .ref a3, .ref a4, .ref a5, .ref a6, .ref a7, .ref a8, .ref a9, .ref a10, .ref a11, .null, .int (-1), .ref a12, .long (0)]))]) hX (n_runS (n := 3) (wc := []) (As := [.int s2, .int (-50), .int (50)]) (rest := []) hX (m30 l hst dC dI g s2 e0 _) [] rfl (by decide +kernel) q1503 q1504 q82 q1505 (by decide +kernel) ⟨(Nat.le_of_ble_eq_true rfl), (Nat.le_of_ble_eq_true rfl)⟩ ⟨(Nat.le_of_ble_eq_true rfl), (Nat.le_of_ble_eq_true rfl)⟩ hl.1 rfl rfl (Nat.le_of_ble_eq_true rfl) dX16_addJunction_9) [] [0] rfl rfl (by decide +kernel) (by decide +kernel) (fun f1 r2 H locs hP hD hS => ?_)
  have hP : va_P (dC, dI) CL [(a0, .inr (15, [.int (0), .int (0), .int (100), .int (0), .int (0), .ref a1, .ref a2, .ref a3, .ref a4, .ref a5, .ref a6, .ref a7, .ref a8, .ref a9, .ref a10, .ref a11, .null, .int (-1), .ref a12, .long (0)]))] _ := hP
  have hD : va_D A [(a0, .inr (15, [.int (0), .int (0), .int (100), .int (0), .int (0), .ref a1, .ref a2, .ref a3, .ref a4, .ref a5, .ref a6, .ref a7, .ref a8, .ref a9, .ref a10, .ref a11, .null, .int (-1), .ref a12, .long (0)]))] := hD
  refine W.widen (k := 0) (n := 0) (Nat.le_of_ble_eq_true rfl) (Nat.le_of_ble_eq_true rfl) ?_
  refine W.eq (g2 := F0 m 12 ls [.int (0)]) rfl ?_
  refine lv_if_ne (tgt := 21) hx hb dX16_addJunction_12 (by decide +kernel) (fun h => absurd (by decide +kernel) h) (fun _ => ?_)
  refine lv_aload_n hx hb dX16_addJunction_15 rfl (lv_at hl 0 rfl) ?_
  refine lv_iconst (v := (1)) hx hb dX16_addJunction_16 (by decide +kernel) ?_
  have hX : nCx p s m _ c prog_14_method_8_code 3 "MinestrataModel" dC dI g A [(a0, .inr (15, [.int (0), .int (0), .int (100), .int (0), .int (0), .ref a1, .ref a2, .ref a3, .ref a4, .ref a5, .ref a6, .ref a7, .ref a8, .ref a9, .ref a10, .ref a11, .null, .int (-1), .ref a12, .long (0)]))] _ _ := ⟨⟨hx, hb, hml, hown, hts⟩, hE, hS, hA, hP, hD⟩
  refine n_call (wr := []) hX (n_runV (n := 1) (wc := [(a0, .inr (15, [.int (0), .int (0), .int (100), .int (0), .int (0), .ref a1, .ref a2, .ref a3, .ref a4, .ref a5, .ref a6, .ref a7, .ref a8, .ref a9, .ref a10, .ref a11, .null, .int (-1), .ref a12, .long (0)]))]) (As := [.int (1)]) (rest := []) hX (m31 l hst dC dI g a0 a1 a2 a3 a4 a5 a6 a7 a8 a9 a10 a11 a12 _) [0] rfl (by decide +kernel) 0 (ci := 15) rfl (T := TX16) (N := 20) (C := "MinestrataModel") rfl q1506 q1508 q39 q82 q1509 (by decide +kernel) ⟨(Nat.le_of_ble_eq_true rfl), (Nat.le_of_ble_eq_true rfl)⟩ ⟨(Nat.le_of_ble_eq_true rfl), (Nat.le_of_ble_eq_true rfl)⟩ hl.1 rfl rfl (Nat.le_of_ble_eq_true rfl) dX16_addJunction_17) [0] [] rfl rfl (by decide +kernel) (by decide +kernel) (fun f3 r4 H locs hP hD hS => ?_)
  have hP : va_P (dC, dI) CL [(a0, .inr (15, [.int (1), .int (0), .int (100), .int (0), .int (0), .ref a1, .ref a2, .ref a3, .ref a4, .ref a5, .ref a6, .ref a7, .ref a8, .ref a9, .ref a10, .ref a11, .null, .int (-1), .ref a12, .long (0)]))] _ := hP
  have hD : va_D A [(a0, .inr (15, [.int (1), .int (0), .int (100), .int (0), .int (0), .ref a1, .ref a2, .ref a3, .ref a4, .ref a5, .ref a6, .ref a7, .ref a8, .ref a9, .ref a10, .ref a11, .null, .int (-1), .ref a12, .long (0)]))] := hD
  refine W.widen (k := 0) (n := 0) (Nat.le_of_ble_eq_true rfl) (Nat.le_of_ble_eq_true rfl) ?_
  refine W.eq (g2 := F0 m 20 ls [.int (0)]) rfl ?_
  refine W.widen (k := 0) (n := 0) (Nat.le_of_ble_eq_true rfl) (Nat.le_of_ble_eq_true rfl) ?_
  exact W.iret hx hb hr (n_end hS hP hD [0] (by decide +kernel) (fun _ => 0) (fun _ => 0) rfl rfl rfl) hS.2.2 dX16_addJunction_20 hlk

set_option maxHeartbeats 4000000 in
set_option maxRecDepth 100000 in
/-- MinestrataModel.thrown -/
theorem m33 (l : Launch) (hst : l.stackTraces = false) (dC : Nat → ClassId) (dI : Nat → Nat → Nat) (g : Nat → Nat) (a0 a1 a2 a3 a4 a5 a6 a7 a8 a9 a10 a11 a12 : Nat) (sz : Nat) :
    Met l Y20 (Cond.code Y20 prog_14_method_2_code 1 (Option.some Jvm.ClassFile.FieldType.int) :: AW) ({ frames := 0, cells := 0, slots := 0, locals := 0 } : Room) (nP dC dI g [.ref a0] [(a0, .inr (15, [.int (1), .int (0), .int (100), .int (0), .int (0), .ref a1, .ref a2, .ref a3, .ref a4, .ref a5, .ref a6, .ref a7, .ref a8, .ref a9, .ref a10, .ref a11, .null, .int (-1), .ref a12, .long (0)]))] sz) (nQ dC dI (fun f => some (.int (1))) (fun f r => [(a0, .inr (15, [.int (1), .int (0), .int (100), .int (0), .int (0), .ref a1, .ref a2, .ref a3, .ref a4, .ref a5, .ref a6, .ref a7, .ref a8, .ref a9, .ref a10, .ref a11, .null, .int (-1), .ref a12, .long (0)]))]) (va_A [(a0, .inr (15, [.int (1), .int (0), .int (100), .int (0), .int (0), .ref a1, .ref a2, .ref a3, .ref a4, .ref a5, .ref a6, .ref a7, .ref a8, .ref a9, .ref a10, .ref a11, .null, .int (-1), .ref a12, .long (0)]))] sz)) 0 0 (va_A [(a0, .inr (15, [.int (1), .int (0), .int (100), .int (0), .int (0), .ref a1, .ref a2, .ref a3, .ref a4, .ref a5, .ref a6, .ref a7, .ref a8, .ref a9, .ref a10, .ref a11, .null, .int (-1), .ref a12, .long (0)]))] sz) := by
  refine n_met (by decide +kernel) (Nat.le_of_ble_eq_true rfl) (fun f => some (.int (1))) (fun f r => [(a0, .inr (15, [.int (1), .int (0), .int (100), .int (0), .int (0), .ref a1, .ref a2, .ref a3, .ref a4, .ref a5, .ref a6, .ref a7, .ref a8, .ref a9, .ref a10, .ref a11, .null, .int (-1), .ref a12, .long (0)]))]) ?_
  intro p e s m below meth c A ls ⟨hx, hb, hr, hml, hown, hts, hlk, hnm⟩ hE hP hD hA hl
  have hown : s.vm.findClass "MinestrataModel" = some m.cls := hown
  have hK := hE.1
  have hS : va_S A s.heap s.heap [] := va_S.rf
  have hl : lv_has ls 1 [(0, .ref a0)] := hl
  refine lv_aload_n hx hb dX16_thrown_0 rfl (lv_at hl 0 rfl) ?_
  refine va_get (D := (dC, dI)) (ci := 15) (v := .int (1)) (C := "MinestrataModel") (T := TX16) (N := 20) hx hb hts inX16 hown hK hP 0 rfl rfl 0 (by decide) (hts _ q1427) (fun _ h9 => h9) rfl dX16_thrown_1 ?_
  refine W.widen (k := 0) (n := 0) (Nat.le_of_ble_eq_true rfl) (Nat.le_of_ble_eq_true rfl) ?_
  exact W.iret hx hb hr (n_end hS hP hD [0] (by decide +kernel) (fun _ => 0) (fun _ => 0) rfl rfl rfl) hS.2.2 dX16_thrown_4 hlk

set_option maxHeartbeats 4000000 in
set_option maxRecDepth 100000 in
/-- Minestrata.isWithin -/
theorem m34 (l : Launch) (hst : l.stackTraces = false) (dC : Nat → ClassId) (dI : Nat → Nat → Nat) (g : Nat → Nat) (s2 : Int32) (e0 : ¬ (s2 < (-50))) (e1 : (50) < s2) (sz : Nat) :
    Met l Y21 (Cond.code Y21 prog_1_method_38_code 3 (Option.some Jvm.ClassFile.FieldType.boolean) :: AW) ({ frames := 0, cells := 0, slots := 0, locals := 0 } : Room) (nP dC dI g [.int s2, .int (-50), .int (50)] [] sz) (nQ dC dI (fun f => some (.int (0))) (fun f r => []) (va_A [] sz)) 0 0 (va_A [] sz) := by
  refine n_met (by decide +kernel) (Nat.le_of_ble_eq_true rfl) (fun f => some (.int (0))) (fun f r => []) ?_
  intro p e s m below meth c A ls ⟨hx, hb, hr, hml, hown, hts, hlk, hnm⟩ hE hP hD hA hl
  have hown : s.vm.findClass "Minestrata" = some m.cls := hown
  have hK := hE.1
  have hS : va_S A s.heap s.heap [] := va_S.rf
  have hl : lv_has ls 3 [(0, .int s2), (1, .int (-50)), (2, .int (50))] := hl
  refine lv_iload_n hx hb dX11_isWithin_0 rfl (lv_at hl 0 rfl) ?_
  refine lv_iload_n hx hb dX11_isWithin_1 rfl (lv_at hl 1 rfl) ?_
  refine lv_icmp_lt (tgt := 14) hx hb dX11_isWithin_2 (by decide +kernel) (fun h => absurd h e0) (fun _ => ?_)
  refine lv_iload_n hx hb dX11_isWithin_5 rfl (lv_at hl 0 rfl) ?_
  refine lv_iload_n hx hb dX11_isWithin_6 rfl (lv_at hl 2 rfl) ?_
  refine lv_icmp_gt (tgt := 14) hx hb dX11_isWithin_7 (by decide +kernel) (fun _ => ?_) (fun h => absurd e1 h)
  refine lv_iconst (v := (0)) hx hb dX11_isWithin_14 (by decide +kernel) ?_
  refine W.widen (k := 0) (n := 0) (Nat.le_of_ble_eq_true rfl) (Nat.le_of_ble_eq_true rfl) ?_
  exact W.zret hx hb hr (by decide +kernel) (n_end hS hP hD [] (by decide +kernel) (fun _ => 0) (fun _ => 0) rfl rfl rfl) hS.2.2 dX11_isWithin_15 hlk

set_option maxHeartbeats 4000000 in
set_option maxRecDepth 100000 in
/-- Minestrata.addJunction -/
theorem m35 (l : Launch) (hst : l.stackTraces = false) (dC : Nat → ClassId) (dI : Nat → Nat → Nat) (g : Nat → Nat) (a0 a1 a2 a3 a4 a5 a6 a7 a8 a9 a10 a11 a12 a13 a14 a15 a16 a17 a18 a19 a20 a21 : Nat) (s2 : Int32) (e0 : ¬ (s2 < (-50))) (e1 : (50) < s2) (sz : Nat) :
    vx_Met l Y16 (Cond.code Y16 prog_1_method_2_code 3 (Option.some Jvm.ClassFile.FieldType.int) :: AW) ({ frames := 6, cells := 1, slots := 6, locals := 81 } : Room) (nP dC dI g [.ref a0, .int (1), .int s2] [(a0, .inr (12, [.ref a1, .ref a2, .ref a3, .ref a4, .ref a5, .ref a6, .ref a7, .ref a8, .null, .ref a9, .ref a10, .int (0), .int (100), .int (0), .int (0), .int (-1), .long (0), .int (1)])), (a1, .inr (8, [.int (0), .ref a11, .ref a12, .ref a13, .ref a14, .int (0), .ref a15, .ref a16, .ref a17, .ref a18, .ref a19, .ref a20, .ref a21])), (a11, .inl (g 2, 9, .inl (fun _ => 0))), (a12, .inl (g 0, 9, .inl (fun _ => 0)))] sz) (fun _ _ _ _ => False) (nX "java/lang/IllegalArgumentException" (va_A [(a0, .inr (12, [.ref a1, .ref a2, .ref a3, .ref a4, .ref a5, .ref a6, .ref a7, .ref a8, .null, .ref a9, .ref a10, .int (0), .int (100), .int (0), .int (0), .int (-1), .long (0), .int (1)])), (a1, .inr (8, [.int (0), .ref a11, .ref a12, .ref a13, .ref a14, .int (0), .ref a15, .ref a16, .ref a17, .ref a18, .ref a19, .ref a20, .ref a21])), (a11, .inl (g 2, 9, .inl (fun _ => 0))), (a12, .inl (g 0, 9, .inl (fun _ => 0)))] sz)) 1 6 (va_A [(a0, .inr (12, [.ref a1, .ref a2, .ref a3, .ref a4, .ref a5, .ref a6, .ref a7, .ref a8, .null, .ref a9, .ref a10, .int (0), .int (100), .int (0), .int (0), .int (-1), .long (0), .int (1)])), (a1, .inr (8, [.int (0), .ref a11, .ref a12, .ref a13, .ref a14, .int (0), .ref a15, .ref a16, .ref a17, .ref a18, .ref a19, .ref a20, .ref a21])), (a11, .inl (g 2, 9, .inl (fun _ => 0))), (a12, .inl (g 0, 9, .inl (fun _ => 0)))] sz) := by
  refine n_metX (by decide +kernel) (Nat.le_of_ble_eq_true rfl) "java/lang/IllegalArgumentException" ?_
  intro p e s m below meth c A ls ⟨hx, hb, hr, hml, hown, hts, hlk, hnm⟩ hout hE hP hD hA hl
  have hown : s.vm.findClass "Minestrata" = some m.cls := hown
  have hK := hE.1
  have hS : va_S A s.heap s.heap [] := va_S.rf
  have hl : lv_has ls 3 [(0, .ref a0), (1, .int (1)), (2, .int s2)] := hl
  have hlsz : ls.size = c.maxLocals := hl.1.trans hml.symm
  refine lv_iload_n hx hb dX11_addJunction_0 rfl (lv_at hl 1 rfl) ?_
  refine lv_if_eq (tgt := 23) hx hb dX11_addJunction_1 (by decide +kernel) (fun h => absurd h (by decide +kernel)) (fun _ => ?_)
  refine lv_iload_n hx hb dX11_addJunction_4 rfl (lv_at hl 2 rfl) ?_
  refine lv_bipush (v := (-50)) hx hb dX11_addJunction_5 (by decide +kernel) ?_
  refine lv_bipush (v := (50)) hx hb dX11_addJunction_7 (by decide +kernel) ?_
  have hX : nCx p s m _ c prog_1_method_2_code 3 "Minestrata" dC dI g A [(a0, .inr (12, [.ref a1, .ref a2, .ref a3, .ref a4, .ref a5, .ref a6, .ref a7, .ref a8, .null, .ref a9, .ref a10, .int (0), .int (100), .int (0), .int (0), .int (-1), .long (0), .int (1)])), (a1, .inr (8, [.int (0), .ref a11, .ref a12, .ref a13, .ref a14, .int (0), .ref a15, .ref a16, .ref a17, .ref a18, .ref a19, .ref a20, .ref a21])), (a11, .inl (g 2, 9, .inl (fun _ => 0))), (a12, .inl (g 0, 9, .inl (fun _ => 0)))] _ _ := ⟨⟨hx, hb, hml, hown, hts⟩, hE, hS, hA, hP, hD⟩
  refine n_call (wr := [(a0, .inr (12, [.ref a1, .ref a2, .ref a3, .ref a4, .ref a5, .ref a6, .ref a7, .ref a8, .null, .ref a9, .ref a10, .int (0), .int (100), .int (0), .int (0), .int (-1), .long (0), .int (1)])), (a1, .inr (8, [.int (0), .ref a11, .ref a12, .ref a13, .ref a14, .int (0), .ref a15, .ref a16, .ref a17, .ref a18, .ref a19, .ref a20, .ref a21])), (a11, .inl (g 2, 9, .inl (fun _ => 0))), (a12, .inl (g 0, 9, .inl (fun _ => 0)))]) hX (n_runS (n := 3) (wc := []) (As := [.int s2, .int (-50), .int (50)]) (rest := []) hX (m34 l hst dC dI g s2 e0 e1 _) [] rfl (by decide +kernel) q814 q815 q71 q816 (by decide +kernel) ⟨(Nat.le_of_ble_eq_true rfl), (Nat.le_of_ble_eq_true rfl)⟩ ⟨(Nat.le_of_ble_eq_true rfl), (Nat.le_of_ble_eq_true rfl)⟩ hl.1 rfl rfl (Nat.le_of_ble_eq_true rfl) dX11_addJunction_9) [] [0, 1, 2, 3] rfl rfl (by decide +kernel) (by decide +kernel) (fun f1 r2 H locs hP hD hS => ?_)
  have hP : va_P (dC, dI) CL [(a0, .inr (12, [.ref a1, .ref a2, .ref a3, .ref a4, .ref a5, .ref a6, .ref a7, .ref a8, .null, .ref a9, .ref a10, .int (0), .int (100), .int (0), .int (0), .int (-1), .long (0), .int (1)])), (a1, .inr (8, [.int (0), .ref a11, .ref a12, .ref a13, .ref a14, .int (0), .ref a15, .ref a16, .ref a17, .ref a18, .ref a19, .ref a20, .ref a21])), (a11, .inl (g 2, 9, .inl (fun _ => 0))), (a12, .inl (g 0, 9, .inl (fun _ => 0)))] _ := hP
  have hD : va_D A [(a0, .inr (12, [.ref a1, .ref a2, .ref a3, .ref a4, .ref a5, .ref a6, .ref a7, .ref a8, .null, .ref a9, .ref a10, .int (0), .int (100), .int (0), .int (0), .int (-1), .long (0), .int (1)])), (a1, .inr (8, [.int (0), .ref a11, .ref a12, .ref a13, .ref a14, .int (0), .ref a15, .ref a16, .ref a17, .ref a18, .ref a19, .ref a20, .ref a21])), (a11, .inl (g 2, 9, .inl (fun _ => 0))), (a12, .inl (g 0, 9, .inl (fun _ => 0)))] := hD
  refine W.widen (k := 0) (n := 0) (Nat.le_of_ble_eq_true rfl) (Nat.le_of_ble_eq_true rfl) ?_
  refine W.eq (g2 := F0 m 12 ls [.int (0)]) rfl ?_
  refine lv_if_ne (tgt := 23) hx hb dX11_addJunction_12 (by decide +kernel) (fun h => absurd (by decide +kernel) h) (fun _ => ?_)
  exact n_throw hx hb hst hown hts hE hS (names := ["java/lang/RuntimeException", "java/lang/Exception"]) (by decide +kernel) (by decide +kernel) q817 q89 hat0p hat0a hat0 hat0g (hl.1.trans hml.symm) dX11_addJunction_15 dX11_addJunction_18 dX11_addJunction_19 dX11_addJunction_22 hout (Nat.le_of_ble_eq_true rfl) (Nat.le_of_ble_eq_true rfl) (Nat.le_of_ble_eq_true rfl) (Nat.le_of_ble_eq_true rfl) hlk (Nat.le_of_ble_eq_true rfl) (Nat.le_of_ble_eq_true rfl)

set_option maxHeartbeats 4000000 in
set_option maxRecDepth 100000 in
/-- MinestrataLaw.addJunction -/
theorem m36 (l : Launch) (hst : l.stackTraces = false) (dC : Nat → ClassId) (dI : Nat → Nat → Nat) (g : Nat → Nat) (a0 a1 a2 a3 a4 a5 a6 a7 a8 a9 a10 a11 a12 a13 a14 a15 a16 a17 a18 a19 a20 a21 a22 : Nat) (s2 : Int32) (e0 : ¬ (s2 < (-50))) (e1 : (50) < s2) (sz : Nat) :
    Met l Y15 (Cond.codeWith Y15 method_3_code 5 (Option.some Jvm.ClassFile.FieldType.int) [((0 : Nat), (10 : Nat), (13 : Nat), (13 : Nat)), ((0 : Nat), (10 : Nat), (17 : Nat), (15 : Nat))] :: AW) ({ frames := 7, cells := 1, slots := 6, locals := 103 } : Room) (nP dC dI g [.ref a0, .int (1), .int s2, .ref a1] [(a0, .inr (12, [.ref a2, .ref a3, .ref a4, .ref a5, .ref a6, .ref a7, .ref a8, .ref a9, .null, .ref a10, .ref a11, .int (0), .int (100), .int (0), .int (0), .int (-1), .long (0), .int (1)])), (a2, .inr (8, [.int (0), .ref a12, .ref a13, .ref a14, .ref a15, .int (0), .ref a16, .ref a17, .ref a18, .ref a19, .ref a20, .ref a21, .ref a22])), (a12, .inl (g 2, 9, .inl (fun _ => 0))), (a13, .inl (g 0, 9, .inl (fun _ => 0))), (a1, .inl (g 1, 1, .inr (.inl (fun _ => 0))))] sz) (nQ dC dI (fun f => some (.int (1))) (fun f r => []) (va_A [(a0, .inr (12, [.ref a2, .ref a3, .ref a4, .ref a5, .ref a6, .ref a7, .ref a8, .ref a9, .null, .ref a10, .ref a11, .int (0), .int (100), .int (0), .int (0), .int (-1), .long (0), .int (1)])), (a2, .inr (8, [.int (0), .ref a12, .ref a13, .ref a14, .ref a15, .int (0), .ref a16, .ref a17, .ref a18, .ref a19, .ref a20, .ref a21, .ref a22])), (a12, .inl (g 2, 9, .inl (fun _ => 0))), (a13, .inl (g 0, 9, .inl (fun _ => 0))), (a1, .inl (g 1, 1, .inr (.inl (fun _ => 0))))] sz)) 1 6 (va_A [(a0, .inr (12, [.ref a2, .ref a3, .ref a4, .ref a5, .ref a6, .ref a7, .ref a8, .ref a9, .null, .ref a10, .ref a11, .int (0), .int (100), .int (0), .int (0), .int (-1), .long (0), .int (1)])), (a2, .inr (8, [.int (0), .ref a12, .ref a13, .ref a14, .ref a15, .int (0), .ref a16, .ref a17, .ref a18, .ref a19, .ref a20, .ref a21, .ref a22])), (a12, .inl (g 2, 9, .inl (fun _ => 0))), (a13, .inl (g 0, 9, .inl (fun _ => 0))), (a1, .inl (g 1, 1, .inr (.inl (fun _ => 0))))] sz) := by
  refine n_metW (by decide +kernel) q807 (Nat.le_of_ble_eq_true rfl) (fun f => some (.int (1))) (fun f r => []) ?_
  intro p e s m below meth c A ls ⟨hx, hb, hr, hml, hown, hts, hlk, hnm⟩ htab hE hP hD hA hl
  have hown : s.vm.findClass "MinestrataLaw" = some m.cls := hown
  have hK := hE.1
  have hS : va_S A s.heap s.heap [] := va_S.rf
  have hl : lv_has ls 5 [(0, .ref a0), (1, .int (1)), (2, .int s2), (3, .ref a1)] := hl
  refine lv_aload_n hx hb dL_addJunction_0 rfl (lv_at hl 3 rfl) ?_
  refine lv_iconst (v := (0)) hx hb dL_addJunction_1 (by decide +kernel) ?_
  refine lv_aload_n hx hb dL_addJunction_2 rfl (lv_at hl 0 rfl) ?_
  refine lv_iload_n hx hb dL_addJunction_3 rfl (lv_at hl 1 rfl) ?_
  refine lv_iload_n hx hb dL_addJunction_4 rfl (lv_at hl 2 rfl) ?_
  have hX : nCx p s m _ c method_3_code 5 "MinestrataLaw" dC dI g A [(a0, .inr (12, [.ref a2, .ref a3, .ref a4, .ref a5, .ref a6, .ref a7, .ref a8, .ref a9, .null, .ref a10, .ref a11, .int (0), .int (100), .int (0), .int (0), .int (-1), .long (0), .int (1)])), (a2, .inr (8, [.int (0), .ref a12, .ref a13, .ref a14, .ref a15, .int (0), .ref a16, .ref a17, .ref a18, .ref a19, .ref a20, .ref a21, .ref a22])), (a12, .inl (g 2, 9, .inl (fun _ => 0))), (a13, .inl (g 0, 9, .inl (fun _ => 0))), (a1, .inl (g 1, 1, .inr (.inl (fun _ => 0))))] _ _ := ⟨⟨hx, hb, hml, hown, hts⟩, hE, hS, hA, hP, hD⟩
  refine n_callX (E0 := "java/lang/IllegalArgumentException") hX (n_runVX (n := 2) (wc := [(a0, .inr (12, [.ref a2, .ref a3, .ref a4, .ref a5, .ref a6, .ref a7, .ref a8, .ref a9, .null, .ref a10, .ref a11, .int (0), .int (100), .int (0), .int (0), .int (-1), .long (0), .int (1)])), (a2, .inr (8, [.int (0), .ref a12, .ref a13, .ref a14, .ref a15, .int (0), .ref a16, .ref a17, .ref a18, .ref a19, .ref a20, .ref a21, .ref a22])), (a12, .inl (g 2, 9, .inl (fun _ => 0))), (a13, .inl (g 0, 9, .inl (fun _ => 0)))]) (As := [.int (1), .int s2]) (rest := [.int (0), .ref a1]) hX (m35 l hst dC dI g a0 a2 a3 a4 a5 a6 a7 a8 a9 a10 a11 a12 a13 a14 a15 a16 a17 a18 a19 a20 a21 a22 s2 e0 e1 _) [0, 1, 2, 3] rfl (by decide +kernel) 0 (ci := 12) rfl (T := TX11) (N := 18) (C := "Minestrata") rfl q810 q811 q812 q71 q813 (by decide +kernel) ⟨(Nat.le_of_ble_eq_true rfl), (Nat.le_of_ble_eq_true rfl)⟩ ⟨(Nat.le_of_ble_eq_true rfl), (Nat.le_of_ble_eq_true rfl)⟩ hl.1 rfl rfl (Nat.le_of_ble_eq_true rfl) dL_addJunction_5) [0, 1, 2, 3] rfl (fun ce q9 H locs hS hce hcv hcl => ?_)
  refine n_catch (E := "java/lang/IllegalArgumentException") (name := "java/lang/IllegalArgumentException") hE hts hown htab [] ⟨0, 10, 13, 13⟩ [⟨0, 10, 17, 15⟩] rfl (fun z hz => nomatch hz) (by decide +kernel) (by decide) q808 x819 hce hcv hcl ?_
  refine W.widen (k := 1) (n := 6) (Nat.le_of_ble_eq_true rfl) (Nat.le_of_ble_eq_true rfl) ?_
  refine W.eq (g2 := F0 m 13 ls [.ref q9]) rfl ?_
  refine lv_astore (lv' := [(4, .ref q9), (0, .ref a0), (1, .int (1)), (2, .int s2), (3, .ref a1)]) hx hb dL_addJunction_13 hl (by decide) rfl (fun ls hl => ?_)
  refine lv_iconst (v := (1)) hx hb dL_addJunction_15 (by decide +kernel) ?_
  refine W.widen (k := 1) (n := 6) (Nat.le_of_ble_eq_true rfl) (Nat.le_of_ble_eq_true rfl) ?_
  exact W.iret hx hb hr (n_end0 hS (fun _ => 0) rfl rfl) hS.2.2 dL_addJunction_16 hlk

set_option maxHeartbeats 4000000 in
set_option maxRecDepth 100000 in
/-- MinestrataModel.in -/
theorem m37 (l : Launch) (hst : l.stackTraces = false) (dC : Nat → ClassId) (dI : Nat → Nat → Nat) (g : Nat → Nat) (s2 : Int32) (e0 : ¬ (s2 < (-50))) (e1 : (50) < s2) (sz : Nat) :
    Met l Y22 (Cond.code Y22 prog_14_method_3_code 3 (Option.some Jvm.ClassFile.FieldType.boolean) :: AW) ({ frames := 0, cells := 0, slots := 0, locals := 0 } : Room) (nP dC dI g [.int s2, .int (-50), .int (50)] [] sz) (nQ dC dI (fun f => some (.int (0))) (fun f r => []) (va_A [] sz)) 0 0 (va_A [] sz) := by
  refine n_met (by decide +kernel) (Nat.le_of_ble_eq_true rfl) (fun f => some (.int (0))) (fun f r => []) ?_
  intro p e s m below meth c A ls ⟨hx, hb, hr, hml, hown, hts, hlk, hnm⟩ hE hP hD hA hl
  have hown : s.vm.findClass "MinestrataModel" = some m.cls := hown
  have hK := hE.1
  have hS : va_S A s.heap s.heap [] := va_S.rf
  have hl : lv_has ls 3 [(0, .int s2), (1, .int (-50)), (2, .int (50))] := hl
  refine lv_iload_n hx hb dX16_in_0 rfl (lv_at hl 0 rfl) ?_
  refine lv_iload_n hx hb dX16_in_1 rfl (lv_at hl 1 rfl) ?_
  refine lv_icmp_lt (tgt := 14) hx hb dX16_in_2 (by decide +kernel) (fun h => absurd h e0) (fun _ => ?_)
  refine lv_iload_n hx hb dX16_in_5 rfl (lv_at hl 0 rfl) ?_
  refine lv_iload_n hx hb dX16_in_6 rfl (lv_at hl 2 rfl) ?_
  refine lv_icmp_gt (tgt := 14) hx hb dX16_in_7 (by decide +kernel) (fun _ => ?_) (fun h => absurd e1 h)
  refine lv_iconst (v := (0)) hx hb dX16_in_14 (by decide +kernel) ?_
  refine W.widen (k := 0) (n := 0) (Nat.le_of_ble_eq_true rfl) (Nat.le_of_ble_eq_true rfl) ?_
  exact W.zret hx hb hr (by decide +kernel) (n_end hS hP hD [] (by decide +kernel) (fun _ => 0) (fun _ => 0) rfl rfl rfl) hS.2.2 dX16_in_15 hlk

set_option maxHeartbeats 4000000 in
set_option maxRecDepth 100000 in
/-- MinestrataModel.addJunction -/
theorem m38 (l : Launch) (hst : l.stackTraces = false) (dC : Nat → ClassId) (dI : Nat → Nat → Nat) (g : Nat → Nat) (a0 a1 a2 a3 a4 a5 a6 a7 a8 a9 a10 a11 a12 : Nat) (s2 : Int32) (e0 : ¬ (s2 < (-50))) (e1 : (50) < s2) (sz : Nat) :
    Met l Y18 (Cond.code Y18 prog_14_method_8_code 3 (Option.some Jvm.ClassFile.FieldType.int) :: AW) ({ frames := 1, cells := 0, slots := 0, locals := 22 } : Room) (nP dC dI g [.ref a0, .int (1), .int s2] [(a0, .inr (15, [.int (0), .int (0), .int (100), .int (0), .int (0), .ref a1, .ref a2, .ref a3, .ref a4, .ref a5, .ref a6, .ref a7, .ref a8, .ref a9, .ref a10, .ref a11, .null, .int (-1), .ref a12, .long (0)]))] sz) (nQ dC dI (fun f => some (.int (0))) (fun f r => [(a0, .inr (15, [.int (1), .int (0), .int (100), .int (0), .int (0), .ref a1, .ref a2, .ref a3, .ref a4, .ref a5, .ref a6, .ref a7, .ref a8, .ref a9, .ref a10, .ref a11, .null, .int (-1), .ref a12, .long (0)]))]) (va_A [(a0, .inr (15, [.int (0), .int (0), .int (100), .int (0), .int (0), .ref a1, .ref a2, .ref a3, .ref a4, .ref a5, .ref a6, .ref a7, .ref a8, .ref a9, .ref a10, .ref a11, .null, .int (-1), .ref a12, .long (0)]))] sz)) 0 0 (va_A [(a0, .inr (15, [.int (0), .int (0), .int (100), .int (0), .int (0), .ref a1, .ref a2, .ref a3, .ref a4, .ref a5, .ref a6, .ref a7, .ref a8, .ref a9, .ref a10, .ref a11, .null, .int (-1), .ref a12, .long (0)]))] sz) := by
  refine n_met (by decide +kernel) (Nat.le_of_ble_eq_true rfl) (fun f => some (.int (0))) (fun f r => [(a0, .inr (15, [.int (1), .int (0), .int (100), .int (0), .int (0), .ref a1, .ref a2, .ref a3, .ref a4, .ref a5, .ref a6, .ref a7, .ref a8, .ref a9, .ref a10, .ref a11, .null, .int (-1), .ref a12, .long (0)]))]) ?_
  intro p e s m below meth c A ls ⟨hx, hb, hr, hml, hown, hts, hlk, hnm⟩ hE hP hD hA hl
  have hown : s.vm.findClass "MinestrataModel" = some m.cls := hown
  have hK := hE.1
  have hS : va_S A s.heap s.heap [] := va_S.rf
  have hl : lv_has ls 3 [(0, .ref a0), (1, .int (1)), (2, .int s2)] := hl
  refine lv_iload_n hx hb dX16_addJunction_0 rfl (lv_at hl 1 rfl) ?_
  refine lv_if_eq (tgt := 21) hx hb dX16_addJunction_1 (by decide +kernel) (fun h => absurd h (by decide +kernel)) (fun _ => ?_)
  refine lv_iload_n hx hb dX16_addJunction_4 rfl (lv_at hl 2 rfl) ?_
  refine lv_bipush (v := (-50)) hx hb dX16_addJunction_5 (by decide +kernel) ?_
  refine lv_bipush (v := (50)) hx hb dX16_addJunction_7 (by decide +kernel) ?_
  have hX : nCx p s m _ c prog_14_method_8_code 3 "MinestrataModel" dC dI g A [(a0, .inr (15, [.int (0), .int (0), .int (100), .int (0), .int (0), .ref a1, .ref a2, .ref a3, .ref a4, .ref a5, .ref a6, .ref a7, .ref a8, .ref a9, .ref a10, .ref a11, .null, .int (-1), .ref a12, .long (0)]))] _ _ := ⟨⟨hx, hb, hml, hown, hts⟩, hE, hS, hA, hP, hD⟩
  refine n_call (wr := [(a0, .inr (15, [.int (0), .int (0), .int (100), .int (0), .int (0), .ref a1, .ref a2, .ref a3, .ref a4, .ref a5, .ref a6, .ref a7, .ref a8, .ref a9, .ref a10, .ref a11, .null, .int (-1), .ref a12, .long (0)]))]) hX (n_runS (n := 3) (wc := []) (As := [.int s2, .int (-50), .int (50)]) (rest := []) hX (m37 l hst dC dI g s2 e0 e1 _) [] rfl (by decide +kernel) q1503 q1504 q82 q1505 (by decide +kernel) ⟨(Nat.le_of_ble_eq_true rfl), (Nat.le_of_ble_eq_true rfl)⟩ ⟨(Nat.le_of_ble_eq_true rfl), (Nat.le_of_ble_eq_true rfl)⟩ hl.1 rfl rfl (Nat.le_of_ble_eq_true rfl) dX16_addJunction_9) [] [0] rfl rfl (by decide +kernel) (by decide +kernel) (fun f1 r2 H locs hP hD hS => ?_)
  have hP : va_P (dC, dI) CL [(a0, .inr (15, [.int (0), .int (0), .int (100), .int (0), .int (0), .ref a1, .ref a2, .ref a3, .ref a4, .ref a5, .ref a6, .ref a7, .ref a8, .ref a9, .ref a10, .ref a11, .null, .int (-1), .ref a12, .long (0)]))] _ := hP
  have hD : va_D A [(a0, .inr (15, [.int (0), .int (0), .int (100), .int (0), .int (0), .ref a1, .ref a2, .ref a3, .ref a4, .ref a5, .ref a6, .ref a7, .ref a8, .ref a9, .ref a10, .ref a11, .null, .int (-1), .ref a12, .long (0)]))] := hD
  refine W.widen (k := 0) (n := 0) (Nat.le_of_ble_eq_true rfl) (Nat.le_of_ble_eq_true rfl) ?_
  refine W.eq (g2 := F0 m 12 ls [.int (0)]) rfl ?_
  refine lv_if_ne (tgt := 21) hx hb dX16_addJunction_12 (by decide +kernel) (fun h => absurd (by decide +kernel) h) (fun _ => ?_)
  refine lv_aload_n hx hb dX16_addJunction_15 rfl (lv_at hl 0 rfl) ?_
  refine lv_iconst (v := (1)) hx hb dX16_addJunction_16 (by decide +kernel) ?_
  have hX : nCx p s m _ c prog_14_method_8_code 3 "MinestrataModel" dC dI g A [(a0, .inr (15, [.int (0), .int (0), .int (100), .int (0), .int (0), .ref a1, .ref a2, .ref a3, .ref a4, .ref a5, .ref a6, .ref a7, .ref a8, .ref a9, .ref a10, .ref a11, .null, .int (-1), .ref a12, .long (0)]))] _ _ := ⟨⟨hx, hb, hml, hown, hts⟩, hE, hS, hA, hP, hD⟩
  refine n_call (wr := []) hX (n_runV (n := 1) (wc := [(a0, .inr (15, [.int (0), .int (0), .int (100), .int (0), .int (0), .ref a1, .ref a2, .ref a3, .ref a4, .ref a5, .ref a6, .ref a7, .ref a8, .ref a9, .ref a10, .ref a11, .null, .int (-1), .ref a12, .long (0)]))]) (As := [.int (1)]) (rest := []) hX (m31 l hst dC dI g a0 a1 a2 a3 a4 a5 a6 a7 a8 a9 a10 a11 a12 _) [0] rfl (by decide +kernel) 0 (ci := 15) rfl (T := TX16) (N := 20) (C := "MinestrataModel") rfl q1506 q1508 q39 q82 q1509 (by decide +kernel) ⟨(Nat.le_of_ble_eq_true rfl), (Nat.le_of_ble_eq_true rfl)⟩ ⟨(Nat.le_of_ble_eq_true rfl), (Nat.le_of_ble_eq_true rfl)⟩ hl.1 rfl rfl (Nat.le_of_ble_eq_true rfl) dX16_addJunction_17) [0] [] rfl rfl (by decide +kernel) (by decide +kernel) (fun f3 r4 H locs hP hD hS => ?_)
  have hP : va_P (dC, dI) CL [(a0, .inr (15, [.int (1), .int (0), .int (100), .int (0), .int (0), .ref a1, .ref a2, .ref a3, .ref a4, .ref a5, .ref a6, .ref a7, .ref a8, .ref a9, .ref a10, .ref a11, .null, .int (-1), .ref a12, .long (0)]))] _ := hP
  have hD : va_D A [(a0, .inr (15, [.int (1), .int (0), .int (100), .int (0), .int (0), .ref a1, .ref a2, .ref a3, .ref a4, .ref a5, .ref a6, .ref a7, .ref a8, .ref a9, .ref a10, .ref a11, .null, .int (-1), .ref a12, .long (0)]))] := hD
  refine W.widen (k := 0) (n := 0) (Nat.le_of_ble_eq_true rfl) (Nat.le_of_ble_eq_true rfl) ?_
  refine W.eq (g2 := F0 m 20 ls [.int (0)]) rfl ?_
  refine W.widen (k := 0) (n := 0) (Nat.le_of_ble_eq_true rfl) (Nat.le_of_ble_eq_true rfl) ?_
  exact W.iret hx hb hr (n_end hS hP hD [0] (by decide +kernel) (fun _ => 0) (fun _ => 0) rfl rfl rfl) hS.2.2 dX16_addJunction_20 hlk

set_option maxHeartbeats 4000000 in
set_option maxRecDepth 100000 in
/-- Minestrata.isWithin -/
theorem m39 (l : Launch) (hst : l.stackTraces = false) (dC : Nat → ClassId) (dI : Nat → Nat → Nat) (g : Nat → Nat) (s2 : Int32) (e0 : ¬ (s2 < (-50))) (e1 : ¬ ((50) < s2)) (sz : Nat) :
    Met l Y21 (Cond.code Y21 prog_1_method_38_code 3 (Option.some Jvm.ClassFile.FieldType.boolean) :: AW) ({ frames := 0, cells := 0, slots := 0, locals := 0 } : Room) (nP dC dI g [.int s2, .int (-50), .int (50)] [] sz) (nQ dC dI (fun f => some (.int (1))) (fun f r => []) (va_A [] sz)) 0 0 (va_A [] sz) := by
  refine n_met (by decide +kernel) (Nat.le_of_ble_eq_true rfl) (fun f => some (.int (1))) (fun f r => []) ?_
  intro p e s m below meth c A ls ⟨hx, hb, hr, hml, hown, hts, hlk, hnm⟩ hE hP hD hA hl
  have hown : s.vm.findClass "Minestrata" = some m.cls := hown
  have hK := hE.1
  have hS : va_S A s.heap s.heap [] := va_S.rf
  have hl : lv_has ls 3 [(0, .int s2), (1, .int (-50)), (2, .int (50))] := hl
  refine lv_iload_n hx hb dX11_isWithin_0 rfl (lv_at hl 0 rfl) ?_
  refine lv_iload_n hx hb dX11_isWithin_1 rfl (lv_at hl 1 rfl) ?_
  refine lv_icmp_lt (tgt := 14) hx hb dX11_isWithin_2 (by decide +kernel) (fun h => absurd h e0) (fun _ => ?_)
  refine lv_iload_n hx hb dX11_isWithin_5 rfl (lv_at hl 0 rfl) ?_
  refine lv_iload_n hx hb dX11_isWithin_6 rfl (lv_at hl 2 rfl) ?_
  refine lv_icmp_gt (tgt := 14) hx hb dX11_isWithin_7 (by decide +kernel) (fun h => absurd h e1) (fun _ => ?_)
  refine lv_iconst (v := (1)) hx hb dX11_isWithin_10 (by decide +kernel) ?_
  refine lv_goto (tgt := 15) hx hb dX11_isWithin_11 (by decide +kernel) ?_
  refine W.widen (k := 0) (n := 0) (Nat.le_of_ble_eq_true rfl) (Nat.le_of_ble_eq_true rfl) ?_
  exact W.zret hx hb hr (by decide +kernel) (n_end hS hP hD [] (by decide +kernel) (fun _ => 0) (fun _ => 0) rfl rfl rfl) hS.2.2 dX11_isWithin_15 hlk

set_option maxHeartbeats 4000000 in
set_option maxRecDepth 100000 in
/-- Minestrata$Net.putJunction -/
theorem m40 (l : Launch) (hst : l.stackTraces = false) (dC : Nat → ClassId) (dI : Nat → Nat → Nat) (g : Nat → Nat) (a0 a1 a2 a3 a4 a5 a6 a7 a8 a9 a10 a11 : Nat) (s2 : Int32) (e0 : ¬ (s2 < (-50))) (e1 : ¬ ((50) < s2)) (sz : Nat) :
    Met l Y17 (Cond.code Y17 prog_9_method_4_code 3 (Option.some Jvm.ClassFile.FieldType.int) :: AW) ({ frames := 0, cells := 0, slots := 0, locals := 0 } : Room) (nP dC dI g [.ref a0, .int (1), .int s2] [(a0, .inr (8, [.int (0), .ref a1, .ref a2, .ref a3, .ref a4, .int (0), .ref a5, .ref a6, .ref a7, .ref a8, .ref a9, .ref a10, .ref a11])), (a1, .inl (g 2, 9, .inl (fun _ => 0))), (a2, .inl (g 0, 9, .inl (fun _ => 0)))] sz) (nQ dC dI (fun f => some (.int (0))) (fun f r => [(a0, .inr (8, [.int (1), .ref a1, .ref a2, .ref a3, .ref a4, .int (0), .ref a5, .ref a6, .ref a7, .ref a8, .ref a9, .ref a10, .ref a11]))]) (va_A [(a0, .inr (8, [.int (0), .ref a1, .ref a2, .ref a3, .ref a4, .int (0), .ref a5, .ref a6, .ref a7, .ref a8, .ref a9, .ref a10, .ref a11])), (a1, .inl (g 2, 9, .inl (fun _ => 0))), (a2, .inl (g 0, 9, .inl (fun _ => 0)))] sz)) 0 0 (va_A [(a0, .inr (8, [.int (0), .ref a1, .ref a2, .ref a3, .ref a4, .int (0), .ref a5, .ref a6, .ref a7, .ref a8, .ref a9, .ref a10, .ref a11])), (a1, .inl (g 2, 9, .inl (fun _ => 0))), (a2, .inl (g 0, 9, .inl (fun _ => 0)))] sz) := by
  refine n_met (by decide +kernel) (Nat.le_of_ble_eq_true rfl) (fun f => some (.int (0))) (fun f r => [(a0, .inr (8, [.int (1), .ref a1, .ref a2, .ref a3, .ref a4, .int (0), .ref a5, .ref a6, .ref a7, .ref a8, .ref a9, .ref a10, .ref a11]))]) ?_
  intro p e s m below meth c A ls ⟨hx, hb, hr, hml, hown, hts, hlk, hnm⟩ hE hP hD hA hl
  have hown : s.vm.findClass "Minestrata$Net" = some m.cls := hown
  have hK := hE.1
  have hS : va_S A s.heap s.heap [] := va_S.rf
  have hl : lv_has ls 3 [(0, .ref a0), (1, .int (1)), (2, .int s2)] := hl
  refine lv_aload_n hx hb dX7_putJunction_0 rfl (lv_at hl 0 rfl) ?_
  refine va_get (D := (dC, dI)) (ci := 8) (v := .int (0)) (C := "Minestrata$Net") (T := TX7) (N := 13) hx hb hts inX7 hown hK hP 0 rfl rfl 0 (by decide) (hts _ q127) (fun _ h9 => h9) rfl dX7_putJunction_1 ?_
  refine lv_bipush (v := (9)) hx hb dX7_putJunction_4 (by decide +kernel) ?_
  refine lv_icmp_lt (tgt := 11) hx hb dX7_putJunction_6 (by decide +kernel) (fun _ => ?_) (fun h => absurd (by decide +kernel) h)
  refine lv_aload_n hx hb dX7_putJunction_11 rfl (lv_at hl 0 rfl) ?_
  refine va_get (D := (dC, dI)) (ci := 8) (v := .ref a1) (C := "Minestrata$Net") (T := TX7) (N := 13) hx hb hts inX7 hown hK hP 0 rfl rfl 1 (by decide) (hts _ q132) (fun _ h9 => h9) rfl dX7_putJunction_12 ?_
  refine lv_aload_n hx hb dX7_putJunction_15 rfl (lv_at hl 0 rfl) ?_
  refine va_get (D := (dC, dI)) (ci := 8) (v := .int (0)) (C := "Minestrata$Net") (T := TX7) (N := 13) hx hb hts inX7 hown hK hP 0 rfl rfl 0 (by decide) (hts _ q127) (fun _ h9 => h9) rfl dX7_putJunction_16 ?_
  refine lv_iload_n hx hb dX7_putJunction_19 rfl (lv_at hl 1 rfl) ?_
  refine va_zast hx hb hK hP hD hS 1 2 rfl rfl (show ¬ ((0 : Int32) < 0 ∨ 9 ≤ Int32.toNatClampNeg (0)) by decide +kernel) dX7_putJunction_20 (fun H locs hP hD hS => ?_)
  have hP : va_P (dC, dI) CL [(a0, .inr (8, [.int (0), .ref a1, .ref a2, .ref a3, .ref a4, .int (0), .ref a5, .ref a6, .ref a7, .ref a8, .ref a9, .ref a10, .ref a11])), (a1, .inl (g 2, 9, .inl (upd (fun _ => 0) (Int32.toNatClampNeg (0)) (vp_nar .boolean (1))))), (a2, .inl (g 0, 9, .inl (fun _ => 0)))] _ := hP
  have hD : va_D A [(a0, .inr (8, [.int (0), .ref a1, .ref a2, .ref a3, .ref a4, .int (0), .ref a5, .ref a6, .ref a7, .ref a8, .ref a9, .ref a10, .ref a11])), (a1, .inl (g 2, 9, .inl (upd (fun _ => 0) (Int32.toNatClampNeg (0)) (vp_nar .boolean (1))))), (a2, .inl (g 0, 9, .inl (fun _ => 0)))] := hD
  refine lv_aload_n hx hb dX7_putJunction_21 rfl (lv_at hl 0 rfl) ?_
  refine va_get (D := (dC, dI)) (ci := 8) (v := .ref a2) (C := "Minestrata$Net") (T := TX7) (N := 13) hx hb hts inX7 hown hK hP 0 rfl rfl 2 (by decide) (hts _ q138) (fun _ h9 => h9) rfl dX7_putJunction_22 ?_
  refine lv_aload_n hx hb dX7_putJunction_25 rfl (lv_at hl 0 rfl) ?_
  refine va_get (D := (dC, dI)) (ci := 8) (v := .int (0)) (C := "Minestrata$Net") (T := TX7) (N := 13) hx hb hts inX7 hown hK hP 0 rfl rfl 0 (by decide) (hts _ q127) (fun _ h9 => h9) rfl dX7_putJunction_26 ?_
  refine lv_iload_n hx hb dX7_putJunction_29 rfl (lv_at hl 1 rfl) ?_
  refine lv_if_eq (tgt := 37) hx hb dX7_putJunction_30 (by decide +kernel) (fun h => absurd h (by decide +kernel)) (fun _ => ?_)
  refine lv_iload_n hx hb dX7_putJunction_33 rfl (lv_at hl 2 rfl) ?_
  refine lv_goto (tgt := 38) hx hb dX7_putJunction_34 (by decide +kernel) ?_
  refine va_iast hx hb hK hP hD hS 2 0 rfl rfl (show ¬ ((0 : Int32) < 0 ∨ 9 ≤ Int32.toNatClampNeg (0)) by decide +kernel) dX7_putJunction_38 (fun H locs hP hD hS => ?_)
  have hP : va_P (dC, dI) CL [(a0, .inr (8, [.int (0), .ref a1, .ref a2, .ref a3, .ref a4, .int (0), .ref a5, .ref a6, .ref a7, .ref a8, .ref a9, .ref a10, .ref a11])), (a1, .inl (g 2, 9, .inl (upd (fun _ => 0) (Int32.toNatClampNeg (0)) (vp_nar .boolean (1))))), (a2, .inl (g 0, 9, .inl (upd (fun _ => 0) (Int32.toNatClampNeg (0)) s2)))] _ := hP
  have hD : va_D A [(a0, .inr (8, [.int (0), .ref a1, .ref a2, .ref a3, .ref a4, .int (0), .ref a5, .ref a6, .ref a7, .ref a8, .ref a9, .ref a10, .ref a11])), (a1, .inl (g 2, 9, .inl (upd (fun _ => 0) (Int32.toNatClampNeg (0)) (vp_nar .boolean (1))))), (a2, .inl (g 0, 9, .inl (upd (fun _ => 0) (Int32.toNatClampNeg (0)) s2)))] := hD
  refine lv_aload_n hx hb dX7_putJunction_39 rfl (lv_at hl 0 rfl) ?_
  refine lv_dup hx hb dX7_putJunction_40 rfl ?_
  refine va_get (D := (dC, dI)) (ci := 8) (v := .int (0)) (C := "Minestrata$Net") (T := TX7) (N := 13) hx hb hts inX7 hown hK hP 0 rfl rfl 0 (by decide) (hts _ q127) (fun _ h9 => h9) rfl dX7_putJunction_41 ?_
  refine lv_iconst (v := (1)) hx hb dX7_putJunction_44 (by decide +kernel) ?_
  refine lv_iadd hx hb dX7_putJunction_45 ?_
  refine nt_i (v := (1)) (by decide +kernel) ?_
  refine va_put (D := (dC, dI)) (ci := 8) (v := .int (1)) (ty := .int) (C := "Minestrata$Net") (T := TX7) (N := 13) hx hb hts inX7 tyX7 tyX7_ok nmX7 hown hK hP hD hS 0 rfl rfl 0 (by decide) (hts _ q127) (fun _ h9 => h9) rfl (by decide +kernel) rfl rfl (Nat.le_of_ble_eq_true rfl) dX7_putJunction_46 (fun H locs hP hD hS => ?_)
  have hP : va_P (dC, dI) CL [(a0, .inr (8, [.int (1), .ref a1, .ref a2, .ref a3, .ref a4, .int (0), .ref a5, .ref a6, .ref a7, .ref a8, .ref a9, .ref a10, .ref a11])), (a1, .inl (g 2, 9, .inl (upd (fun _ => 0) (Int32.toNatClampNeg (0)) (vp_nar .boolean (1))))), (a2, .inl (g 0, 9, .inl (upd (fun _ => 0) (Int32.toNatClampNeg (0)) s2)))] _ := hP
  have hD : va_D A [(a0, .inr (8, [.int (1), .ref a1, .ref a2, .ref a3, .ref a4, .int (0), .ref a5, .ref a6, .ref a7, .ref a8, .ref a9, .ref a10, .ref a11])), (a1, .inl (g 2, 9, .inl (upd (fun _ => 0) (Int32.toNatClampNeg (0)) (vp_nar .boolean (1))))), (a2, .inl (g 0, 9, .inl (upd (fun _ => 0) (Int32.toNatClampNeg (0)) s2)))] := hD
  refine lv_aload_n hx hb dX7_putJunction_49 rfl (lv_at hl 0 rfl) ?_
  refine va_get (D := (dC, dI)) (ci := 8) (v := .int (1)) (C := "Minestrata$Net") (T := TX7) (N := 13) hx hb hts inX7 hown hK hP 0 rfl rfl 0 (by decide) (hts _ q127) (fun _ h9 => h9) rfl dX7_putJunction_50 ?_
  refine lv_iconst (v := (1)) hx hb dX7_putJunction_53 (by decide +kernel) ?_
  refine lv_isub hx hb dX7_putJunction_54 ?_
  refine nt_i (v := (0)) (by decide +kernel) ?_
  refine W.widen (k := 0) (n := 0) (Nat.le_of_ble_eq_true rfl) (Nat.le_of_ble_eq_true rfl) ?_
  exact W.iret hx hb hr (n_end hS hP hD [0] (by decide +kernel) (fun _ => 0) (fun _ => 0) rfl rfl rfl) hS.2.2 dX7_putJunction_55 hlk

