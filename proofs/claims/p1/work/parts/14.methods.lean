set_option maxHeartbeats 4000000 in
set_option maxRecDepth 100000 in
/-- MinestrataModel.in -/
theorem m204 (l : Launch) (hst : l.stackTraces = false) (dC : Nat → ClassId) (dI : Nat → Nat → Nat) (g : Nat → Nat) (s3 : Int32) (e0 : s3 < (1)) (sz : Nat) :
    Met l Y22 (Cond.code Y22 prog_14_method_3_code 3 (Option.some Jvm.ClassFile.FieldType.boolean) :: AW) ({ frames := 0, cells := 0, slots := 0, locals := 0 } : Room) (nP dC dI g [.int s3, .int (1), .int (60)] [] sz) (nQ dC dI (fun f => some (.int (0))) (fun f r => []) (va_A [] sz)) 0 0 (va_A [] sz) := by
  refine n_met (by decide +kernel) (Nat.le_of_ble_eq_true rfl) (fun f => some (.int (0))) (fun f r => []) ?_
  intro p e s m below meth c A ls ⟨hx, hb, hr, hml, hown, hts, hlk, hnm⟩ hE hP hD hA hl
  have hown : s.vm.findClass "MinestrataModel" = some m.cls := hown
  have hK := hE.1
  have hS : va_S A s.heap s.heap [] := va_S.rf
  have hl : lv_has ls 3 [(0, .int s3), (1, .int (1)), (2, .int (60))] := hl
  refine lv_iload_n hx hb dX16_in_0 rfl (lv_at hl 0 rfl) ?_
  refine lv_iload_n hx hb dX16_in_1 rfl (lv_at hl 1 rfl) ?_
  refine lv_icmp_lt (tgt := 14) hx hb dX16_in_2 (by decide +kernel) (fun _ => ?_) (fun h => absurd e0 h)
  refine lv_iconst (v := (0)) hx hb dX16_in_14 (by decide +kernel) ?_
  refine W.widen (k := 0) (n := 0) (Nat.le_of_ble_eq_true rfl) (Nat.le_of_ble_eq_true rfl) ?_
  exact W.zret hx hb hr (by decide +kernel) (n_end hS hP hD [] (by decide +kernel) (fun _ => 0) (fun _ => 0) rfl rfl rfl) hS.2.2 dX16_in_15 hlk

set_option maxHeartbeats 4000000 in
set_option maxRecDepth 100000 in
/-- MinestrataModel.isValue -/
theorem m205 (l : Launch) (hst : l.stackTraces = false) (dC : Nat → ClassId) (dI : Nat → Nat → Nat) (g : Nat → Nat) (s3 : Int32) (e0 : s3 < (1)) (sz : Nat) :
    Met l Y51 (Cond.code Y51 prog_14_method_37_code 2 (Option.some Jvm.ClassFile.FieldType.boolean) :: AW) ({ frames := 1, cells := 0, slots := 0, locals := 22 } : Room) (nP dC dI g [.int (111), .int s3] [] sz) (nQ dC dI (fun f => some (.int (0))) (fun f r => []) (va_A [] sz)) 0 0 (va_A [] sz) := by
  refine n_met (by decide +kernel) (Nat.le_of_ble_eq_true rfl) (fun f => some (.int (0))) (fun f r => []) ?_
  intro p e s m below meth c A ls ⟨hx, hb, hr, hml, hown, hts, hlk, hnm⟩ hE hP hD hA hl
  have hown : s.vm.findClass "MinestrataModel" = some m.cls := hown
  have hK := hE.1
  have hS : va_S A s.heap s.heap [] := va_S.rf
  have hl : lv_has ls 2 [(0, .int (111)), (1, .int s3)] := hl
  refine lv_iload_n hx hb dX16_isValue_0 rfl (lv_at hl 0 rfl) ?_
  refine lv_tableIn (tgt := 120) (off := 119) hx hb dX16_isValue_1 (by decide +kernel) (by decide +kernel) rfl (by decide +kernel) ?_
  refine lv_iload_n hx hb dX16_isValue_120 rfl (lv_at hl 1 rfl) ?_
  refine lv_iconst (v := (1)) hx hb dX16_isValue_121 (by decide +kernel) ?_
  refine lv_bipush (v := (60)) hx hb dX16_isValue_122 (by decide +kernel) ?_
  have hX : nCx p s m _ c prog_14_method_37_code 2 "MinestrataModel" dC dI g A [] _ _ := ⟨⟨hx, hb, hml, hown, hts⟩, hE, hS, hA, hP, hD⟩
  refine n_call (wr := []) hX (n_runS (n := 3) (wc := []) (As := [.int s3, .int (1), .int (60)]) (rest := []) hX (m204 l hst dC dI g s3 e0 _) [] rfl (by decide +kernel) q1503 q1504 q82 q1505 (by decide +kernel) ⟨(Nat.le_of_ble_eq_true rfl), (Nat.le_of_ble_eq_true rfl)⟩ ⟨(Nat.le_of_ble_eq_true rfl), (Nat.le_of_ble_eq_true rfl)⟩ hl.1 rfl rfl (Nat.le_of_ble_eq_true rfl) dX16_isValue_124) [] [] rfl rfl (by decide +kernel) (by decide +kernel) (fun f1 r2 H locs hP hD hS => ?_)
  have hP : va_P (dC, dI) CL [] _ := hP
  have hD : va_D A [] := hD
  refine W.widen (k := 0) (n := 0) (Nat.le_of_ble_eq_true rfl) (Nat.le_of_ble_eq_true rfl) ?_
  refine W.eq (g2 := F0 m 127 ls [.int (0)]) rfl ?_
  refine W.widen (k := 0) (n := 0) (Nat.le_of_ble_eq_true rfl) (Nat.le_of_ble_eq_true rfl) ?_
  exact W.zret hx hb hr (by decide +kernel) (n_end hS hP hD [] (by decide +kernel) (fun _ => 0) (fun _ => 0) rfl rfl rfl) hS.2.2 dX16_isValue_127 hlk

set_option maxHeartbeats 4000000 in
set_option maxRecDepth 100000 in
/-- MinestrataModel.step -/
theorem m206 (l : Launch) (hst : l.stackTraces = false) (dC : Nat → ClassId) (dI : Nat → Nat → Nat) (g : Nat → Nat) (a0 a1 a2 a3 a4 a5 a6 a7 a8 a9 a10 a11 a12 : Nat) (s2 s3 : Int32) (e0 : s3 < (1)) (sz : Nat) :
    Met l Y50 (Cond.code Y50 prog_14_method_41_code 9 (Option.some Jvm.ClassFile.FieldType.char) :: AW) ({ frames := 2, cells := 0, slots := 0, locals := 43 } : Room) (nP dC dI g [.ref a0, .int (111), .int s2, .int s3] [(a0, .inr (15, [.int (0), .int (0), .int (100), .int (0), .int (0), .ref a1, .ref a2, .ref a3, .ref a4, .ref a5, .ref a6, .ref a7, .ref a8, .ref a9, .ref a10, .ref a11, .null, .int (-1), .ref a12, .long (0)]))] sz) (nQ dC dI (fun f => some (.int (32))) (fun f r => [(a0, .inr (15, [.int (1), .int (0), .int (100), .int (0), .int (0), .ref a1, .ref a2, .ref a3, .ref a4, .ref a5, .ref a6, .ref a7, .ref a8, .ref a9, .ref a10, .ref a11, .null, .int (-1), .ref a12, .long (0)]))]) (va_A [(a0, .inr (15, [.int (0), .int (0), .int (100), .int (0), .int (0), .ref a1, .ref a2, .ref a3, .ref a4, .ref a5, .ref a6, .ref a7, .ref a8, .ref a9, .ref a10, .ref a11, .null, .int (-1), .ref a12, .long (0)]))] sz)) 0 0 (va_A [(a0, .inr (15, [.int (0), .int (0), .int (100), .int (0), .int (0), .ref a1, .ref a2, .ref a3, .ref a4, .ref a5, .ref a6, .ref a7, .ref a8, .ref a9, .ref a10, .ref a11, .null, .int (-1), .ref a12, .long (0)]))] sz) := by
  refine n_met (by decide +kernel) (Nat.le_of_ble_eq_true rfl) (fun f => some (.int (32))) (fun f r => [(a0, .inr (15, [.int (1), .int (0), .int (100), .int (0), .int (0), .ref a1, .ref a2, .ref a3, .ref a4, .ref a5, .ref a6, .ref a7, .ref a8, .ref a9, .ref a10, .ref a11, .null, .int (-1), .ref a12, .long (0)]))]) ?_
  intro p e s m below meth c A ls ⟨hx, hb, hr, hml, hown, hts, hlk, hnm⟩ hE hP hD hA hl
  have hown : s.vm.findClass "MinestrataModel" = some m.cls := hown
  have hK := hE.1
  have hS : va_S A s.heap s.heap [] := va_S.rf
  have hl : lv_has ls 9 [(0, .ref a0), (1, .int (111)), (2, .int s2), (3, .int s3)] := hl
  refine lv_aload_n hx hb dX16_step_0 rfl (lv_at hl 0 rfl) ?_
  refine lv_iload_n hx hb dX16_step_1 rfl (lv_at hl 1 rfl) ?_
  refine lv_iload_n hx hb dX16_step_2 rfl (lv_at hl 3 rfl) ?_
  have hX : nCx p s m _ c prog_14_method_41_code 9 "MinestrataModel" dC dI g A [(a0, .inr (15, [.int (0), .int (0), .int (100), .int (0), .int (0), .ref a1, .ref a2, .ref a3, .ref a4, .ref a5, .ref a6, .ref a7, .ref a8, .ref a9, .ref a10, .ref a11, .null, .int (-1), .ref a12, .long (0)]))] _ _ := ⟨⟨hx, hb, hml, hown, hts⟩, hE, hS, hA, hP, hD⟩
  refine n_call (wr := [(a0, .inr (15, [.int (0), .int (0), .int (100), .int (0), .int (0), .ref a1, .ref a2, .ref a3, .ref a4, .ref a5, .ref a6, .ref a7, .ref a8, .ref a9, .ref a10, .ref a11, .null, .int (-1), .ref a12, .long (0)]))]) hX (n_runS (n := 2) (wc := []) (As := [.int (111), .int s3]) (rest := [.ref a0]) hX (m205 l hst dC dI g s3 e0 _) [] rfl (by decide +kernel) q2107 q2108 q82 q2109 (by decide +kernel) ⟨(Nat.le_of_ble_eq_true rfl), (Nat.le_of_ble_eq_true rfl)⟩ ⟨(Nat.le_of_ble_eq_true rfl), (Nat.le_of_ble_eq_true rfl)⟩ hl.1 rfl rfl (Nat.le_of_ble_eq_true rfl) dX16_step_3) [] [0] rfl rfl (by decide +kernel) (by decide +kernel) (fun f1 r2 H locs hP hD hS => ?_)
  have hP : va_P (dC, dI) CL [(a0, .inr (15, [.int (0), .int (0), .int (100), .int (0), .int (0), .ref a1, .ref a2, .ref a3, .ref a4, .ref a5, .ref a6, .ref a7, .ref a8, .ref a9, .ref a10, .ref a11, .null, .int (-1), .ref a12, .long (0)]))] _ := hP
  have hD : va_D A [(a0, .inr (15, [.int (0), .int (0), .int (100), .int (0), .int (0), .ref a1, .ref a2, .ref a3, .ref a4, .ref a5, .ref a6, .ref a7, .ref a8, .ref a9, .ref a10, .ref a11, .null, .int (-1), .ref a12, .long (0)]))] := hD
  refine W.widen (k := 0) (n := 0) (Nat.le_of_ble_eq_true rfl) (Nat.le_of_ble_eq_true rfl) ?_
  refine W.eq (g2 := F0 m 6 ls [.int (0), .ref a0]) rfl ?_
  refine lv_if_ne (tgt := 13) hx hb dX16_step_6 (by decide +kernel) (fun h => absurd (by decide +kernel) h) (fun _ => ?_)
  refine lv_iconst (v := (1)) hx hb dX16_step_9 (by decide +kernel) ?_
  refine lv_goto (tgt := 41) hx hb dX16_step_10 (by decide +kernel) ?_
  refine va_put (D := (dC, dI)) (ci := 15) (v := .int (1)) (ty := .int) (C := "MinestrataModel") (T := TX16) (N := 20) hx hb hts inX16 tyX16 tyX16_ok nmX16 hown hK hP hD hS 0 rfl rfl 0 (by decide) (hts _ q1427) (fun _ h9 => h9) rfl (by decide +kernel) rfl rfl (Nat.le_of_ble_eq_true rfl) dX16_step_41 (fun H locs hP hD hS => ?_)
  have hP : va_P (dC, dI) CL [(a0, .inr (15, [.int (1), .int (0), .int (100), .int (0), .int (0), .ref a1, .ref a2, .ref a3, .ref a4, .ref a5, .ref a6, .ref a7, .ref a8, .ref a9, .ref a10, .ref a11, .null, .int (-1), .ref a12, .long (0)]))] _ := hP
  have hD : va_D A [(a0, .inr (15, [.int (1), .int (0), .int (100), .int (0), .int (0), .ref a1, .ref a2, .ref a3, .ref a4, .ref a5, .ref a6, .ref a7, .ref a8, .ref a9, .ref a10, .ref a11, .null, .int (-1), .ref a12, .long (0)]))] := hD
  refine lv_aload_n hx hb dX16_step_44 rfl (lv_at hl 0 rfl) ?_
  refine va_get (D := (dC, dI)) (ci := 15) (v := .int (1)) (C := "MinestrataModel") (T := TX16) (N := 20) hx hb hts inX16 hown hK hP 0 rfl rfl 0 (by decide) (hts _ q1427) (fun _ h9 => h9) rfl dX16_step_45 ?_
  refine lv_if_le (tgt := 54) hx hb dX16_step_48 (by decide +kernel) (fun h => absurd h (by decide +kernel)) (fun _ => ?_)
  refine lv_bipush (v := (32)) hx hb dX16_step_51 (by decide +kernel) ?_
  refine W.widen (k := 0) (n := 0) (Nat.le_of_ble_eq_true rfl) (Nat.le_of_ble_eq_true rfl) ?_
  exact W.zret hx hb hr (by decide +kernel) (n_end hS hP hD [0] (by decide +kernel) (fun _ => 0) (fun _ => 0) rfl rfl rfl) hS.2.2 dX16_step_53 hlk

set_option maxHeartbeats 4000000 in
set_option maxRecDepth 100000 in
/-- Minestrata.isWithin -/
theorem m207 (l : Launch) (hst : l.stackTraces = false) (dC : Nat → ClassId) (dI : Nat → Nat → Nat) (g : Nat → Nat) (s3 : Int32) (e0 : ¬ (s3 < (1))) (e1 : (60) < s3) (sz : Nat) :
    Met l Y21 (Cond.code Y21 prog_1_method_38_code 3 (Option.some Jvm.ClassFile.FieldType.boolean) :: AW) ({ frames := 0, cells := 0, slots := 0, locals := 0 } : Room) (nP dC dI g [.int s3, .int (1), .int (60)] [] sz) (nQ dC dI (fun f => some (.int (0))) (fun f r => []) (va_A [] sz)) 0 0 (va_A [] sz) := by
  refine n_met (by decide +kernel) (Nat.le_of_ble_eq_true rfl) (fun f => some (.int (0))) (fun f r => []) ?_
  intro p e s m below meth c A ls ⟨hx, hb, hr, hml, hown, hts, hlk, hnm⟩ hE hP hD hA hl
  have hown : s.vm.findClass "Minestrata" = some m.cls := hown
  have hK := hE.1
  have hS : va_S A s.heap s.heap [] := va_S.rf
  have hl : lv_has ls 3 [(0, .int s3), (1, .int (1)), (2, .int (60))] := hl
  refine lv_iload_n hx hb dX11_isWithin_0 rfl (lv_at hl 0 rfl) ?_
  refine lv_iload_n hx hb dX11_isWithin_1 rfl (lv_at hl 1 rfl) ?_
  refine lv_icmp_lt (tgt := 14) hx hb dX11_isWithin_2 (by decide +kernel) (fun h => absurd h e0) (fun _ => ?_)
  refine lv_iload_n hx hb dX11_isWithin_5 rfl (lv_at hl 0 rfl) ?_
  refine lv_iload_n hx hb dX11_isWithin_6 rfl (lv_at hl 2 rfl) ?_
  refine lv_icmp_gt (tgt := 14) hx hb dX11_isWithin_7 (by decide +kernel) (fun _ => ?_) (fun h => absurd e1 h)
  refine lv_iconst (v := (0)) hx hb dX11_isWithin_14 (by decide +kernel) ?_
  refine W.widen (k := 0) (n := 0) (Nat.le_of_ble_eq_true rfl) (Nat.le_of_ble_eq_true rfl) ?_
  exact W.zret hx hb hr (by decide +kernel) (n_end hS hP hD [] (by decide +kernel) (fun _ => 0) (fun _ => 0) rfl rfl rfl) hS.2.2 dX11_isWithin_15 hlk

set_option maxHeartbeats 4000000 in
set_option maxRecDepth 100000 in
/-- Minestrata.isStepValue -/
theorem m208 (l : Launch) (hst : l.stackTraces = false) (dC : Nat → ClassId) (dI : Nat → Nat → Nat) (g : Nat → Nat) (s3 : Int32) (e0 : ¬ (s3 < (1))) (e1 : (60) < s3) (sz : Nat) :
    Met l Y49 (Cond.code Y49 prog_1_method_44_code 2 (Option.some Jvm.ClassFile.FieldType.boolean) :: AW) ({ frames := 1, cells := 0, slots := 0, locals := 22 } : Room) (nP dC dI g [.int (111), .int s3] [] sz) (nQ dC dI (fun f => some (.int (0))) (fun f r => []) (va_A [] sz)) 0 0 (va_A [] sz) := by
  refine n_met (by decide +kernel) (Nat.le_of_ble_eq_true rfl) (fun f => some (.int (0))) (fun f r => []) ?_
  intro p e s m below meth c A ls ⟨hx, hb, hr, hml, hown, hts, hlk, hnm⟩ hE hP hD hA hl
  have hown : s.vm.findClass "Minestrata" = some m.cls := hown
  have hK := hE.1
  have hS : va_S A s.heap s.heap [] := va_S.rf
  have hl : lv_has ls 2 [(0, .int (111)), (1, .int s3)] := hl
  refine lv_iload_n hx hb dX11_isStepValue_0 rfl (lv_at hl 0 rfl) ?_
  refine lv_bipush (v := (100)) hx hb dX11_isStepValue_1 (by decide +kernel) ?_
  refine lv_icmp_eq (tgt := 12) hx hb dX11_isStepValue_3 (by decide +kernel) (fun h => absurd h (by decide +kernel)) (fun _ => ?_)
  refine lv_iload_n hx hb dX11_isStepValue_6 rfl (lv_at hl 0 rfl) ?_
  refine lv_bipush (v := (98)) hx hb dX11_isStepValue_7 (by decide +kernel) ?_
  refine lv_icmp_ne (tgt := 19) hx hb dX11_isStepValue_9 (by decide +kernel) (fun _ => ?_) (fun h => absurd h (by decide +kernel))
  refine lv_iload_n hx hb dX11_isStepValue_19 rfl (lv_at hl 0 rfl) ?_
  refine lv_bipush (v := (102)) hx hb dX11_isStepValue_20 (by decide +kernel) ?_
  refine lv_icmp_eq (tgt := 31) hx hb dX11_isStepValue_22 (by decide +kernel) (fun h => absurd h (by decide +kernel)) (fun _ => ?_)
  refine lv_iload_n hx hb dX11_isStepValue_25 rfl (lv_at hl 0 rfl) ?_
  refine lv_bipush (v := (110)) hx hb dX11_isStepValue_26 (by decide +kernel) ?_
  refine lv_icmp_ne (tgt := 40) hx hb dX11_isStepValue_28 (by decide +kernel) (fun _ => ?_) (fun h => absurd h (by decide +kernel))
  refine lv_iload_n hx hb dX11_isStepValue_40 rfl (lv_at hl 0 rfl) ?_
  refine lv_bipush (v := (115)) hx hb dX11_isStepValue_41 (by decide +kernel) ?_
  refine lv_icmp_ne (tgt := 54) hx hb dX11_isStepValue_43 (by decide +kernel) (fun _ => ?_) (fun h => absurd h (by decide +kernel))
  refine lv_iload_n hx hb dX11_isStepValue_54 rfl (lv_at hl 0 rfl) ?_
  refine lv_bipush (v := (99)) hx hb dX11_isStepValue_55 (by decide +kernel) ?_
  refine lv_icmp_eq (tgt := 76) hx hb dX11_isStepValue_57 (by decide +kernel) (fun h => absurd h (by decide +kernel)) (fun _ => ?_)
  refine lv_iload_n hx hb dX11_isStepValue_60 rfl (lv_at hl 0 rfl) ?_
  refine lv_bipush (v := (111)) hx hb dX11_isStepValue_61 (by decide +kernel) ?_
  refine lv_icmp_ne (tgt := 80) hx hb dX11_isStepValue_63 (by decide +kernel) (fun h => absurd (by decide +kernel) h) (fun _ => ?_)
  refine lv_iload_n hx hb dX11_isStepValue_66 rfl (lv_at hl 1 rfl) ?_
  refine lv_iconst (v := (1)) hx hb dX11_isStepValue_67 (by decide +kernel) ?_
  refine lv_bipush (v := (60)) hx hb dX11_isStepValue_68 (by decide +kernel) ?_
  have hX : nCx p s m _ c prog_1_method_44_code 2 "Minestrata" dC dI g A [] _ _ := ⟨⟨hx, hb, hml, hown, hts⟩, hE, hS, hA, hP, hD⟩
  refine n_call (wr := []) hX (n_runS (n := 3) (wc := []) (As := [.int s3, .int (1), .int (60)]) (rest := []) hX (m207 l hst dC dI g s3 e0 e1 _) [] rfl (by decide +kernel) q814 q815 q71 q816 (by decide +kernel) ⟨(Nat.le_of_ble_eq_true rfl), (Nat.le_of_ble_eq_true rfl)⟩ ⟨(Nat.le_of_ble_eq_true rfl), (Nat.le_of_ble_eq_true rfl)⟩ hl.1 rfl rfl (Nat.le_of_ble_eq_true rfl) dX11_isStepValue_70) [] [] rfl rfl (by decide +kernel) (by decide +kernel) (fun f1 r2 H locs hP hD hS => ?_)
  have hP : va_P (dC, dI) CL [] _ := hP
  have hD : va_D A [] := hD
  refine W.widen (k := 0) (n := 0) (Nat.le_of_ble_eq_true rfl) (Nat.le_of_ble_eq_true rfl) ?_
  refine W.eq (g2 := F0 m 73 ls [.int (0)]) rfl ?_
  refine lv_if_eq (tgt := 80) hx hb dX11_isStepValue_73 (by decide +kernel) (fun _ => ?_) (fun h => absurd (by decide +kernel) h)
  refine lv_iconst (v := (0)) hx hb dX11_isStepValue_80 (by decide +kernel) ?_
  refine W.widen (k := 0) (n := 0) (Nat.le_of_ble_eq_true rfl) (Nat.le_of_ble_eq_true rfl) ?_
  exact W.zret hx hb hr (by decide +kernel) (n_end hS hP hD [] (by decide +kernel) (fun _ => 0) (fun _ => 0) rfl rfl rfl) hS.2.2 dX11_isStepValue_81 hlk

set_option maxHeartbeats 4000000 in
set_option maxRecDepth 100000 in
/-- Minestrata.step -/
theorem m209 (l : Launch) (hst : l.stackTraces = false) (dC : Nat → ClassId) (dI : Nat → Nat → Nat) (g : Nat → Nat) (a0 a1 a2 a3 a4 a5 a6 a7 a8 a9 a10 a11 a12 a13 a14 a15 a16 a17 a18 a19 a20 a21 a22 a23 a24 a25 a26 a27 a28 a29 a30 : Nat) (s2 s3 : Int32) (e0 : ¬ (s3 < (1))) (e1 : (60) < s3) (sz : Nat) :
    vx_Met l Y48 (Cond.code Y48 prog_1_method_9_code 5 (Option.some Jvm.ClassFile.FieldType.char) :: AW) ({ frames := 6, cells := 1, slots := 6, locals := 81 } : Room) (nP dC dI g [.ref a0, .int (111), .int s2, .int s3] [(a0, .inr (12, [.ref a1, .ref a2, .ref a3, .ref a4, .ref a5, .ref a6, .ref a7, .ref a8, .null, .ref a9, .ref a10, .int (0), .int (100), .int (0), .int (0), .int (-1), .long (0), .int (1)])), (a1, .inr (8, [.int (0), .ref a11, .ref a12, .ref a13, .ref a14, .int (0), .ref a15, .ref a16, .ref a17, .ref a18, .ref a19, .ref a20, .ref a21])), (a3, .inr (11, [.int (0), .ref a22, .ref a23, .ref a24, .ref a25, .ref a26, .ref a27, .ref a28, .ref a29, .ref a30]))] sz) (fun _ _ _ _ => False) (nX "java/lang/IllegalArgumentException" (va_A [(a0, .inr (12, [.ref a1, .ref a2, .ref a3, .ref a4, .ref a5, .ref a6, .ref a7, .ref a8, .null, .ref a9, .ref a10, .int (0), .int (100), .int (0), .int (0), .int (-1), .long (0), .int (1)])), (a1, .inr (8, [.int (0), .ref a11, .ref a12, .ref a13, .ref a14, .int (0), .ref a15, .ref a16, .ref a17, .ref a18, .ref a19, .ref a20, .ref a21])), (a3, .inr (11, [.int (0), .ref a22, .ref a23, .ref a24, .ref a25, .ref a26, .ref a27, .ref a28, .ref a29, .ref a30]))] sz)) 1 6 (va_A [(a0, .inr (12, [.ref a1, .ref a2, .ref a3, .ref a4, .ref a5, .ref a6, .ref a7, .ref a8, .null, .ref a9, .ref a10, .int (0), .int (100), .int (0), .int (0), .int (-1), .long (0), .int (1)])), (a1, .inr (8, [.int (0), .ref a11, .ref a12, .ref a13, .ref a14, .int (0), .ref a15, .ref a16, .ref a17, .ref a18, .ref a19, .ref a20, .ref a21])), (a3, .inr (11, [.int (0), .ref a22, .ref a23, .ref a24, .ref a25, .ref a26, .ref a27, .ref a28, .ref a29, .ref a30]))] sz) := by
  refine n_metX (by decide +kernel) (Nat.le_of_ble_eq_true rfl) "java/lang/IllegalArgumentException" ?_
  intro p e s m below meth c A ls ⟨hx, hb, hr, hml, hown, hts, hlk, hnm⟩ hout hE hP hD hA hl
  have hown : s.vm.findClass "Minestrata" = some m.cls := hown
  have hK := hE.1
  have hS : va_S A s.heap s.heap [] := va_S.rf
  have hl : lv_has ls 5 [(0, .ref a0), (1, .int (111)), (2, .int s2), (3, .int s3)] := hl
  have hlsz : ls.size = c.maxLocals := hl.1.trans hml.symm
  refine lv_iload_n hx hb dX11_step_0 rfl (lv_at hl 1 rfl) ?_
  refine lv_iload_n hx hb dX11_step_1 rfl (lv_at hl 3 rfl) ?_
  have hX : nCx p s m _ c prog_1_method_9_code 5 "Minestrata" dC dI g A [(a0, .inr (12, [.ref a1, .ref a2, .ref a3, .ref a4, .ref a5, .ref a6, .ref a7, .ref a8, .null, .ref a9, .ref a10, .int (0), .int (100), .int (0), .int (0), .int (-1), .long (0), .int (1)])), (a1, .inr (8, [.int (0), .ref a11, .ref a12, .ref a13, .ref a14, .int (0), .ref a15, .ref a16, .ref a17, .ref a18, .ref a19, .ref a20, .ref a21])), (a3, .inr (11, [.int (0), .ref a22, .ref a23, .ref a24, .ref a25, .ref a26, .ref a27, .ref a28, .ref a29, .ref a30]))] _ _ := ⟨⟨hx, hb, hml, hown, hts⟩, hE, hS, hA, hP, hD⟩
  refine n_call (wr := [(a0, .inr (12, [.ref a1, .ref a2, .ref a3, .ref a4, .ref a5, .ref a6, .ref a7, .ref a8, .null, .ref a9, .ref a10, .int (0), .int (100), .int (0), .int (0), .int (-1), .long (0), .int (1)])), (a1, .inr (8, [.int (0), .ref a11, .ref a12, .ref a13, .ref a14, .int (0), .ref a15, .ref a16, .ref a17, .ref a18, .ref a19, .ref a20, .ref a21])), (a3, .inr (11, [.int (0), .ref a22, .ref a23, .ref a24, .ref a25, .ref a26, .ref a27, .ref a28, .ref a29, .ref a30]))]) hX (n_runS (n := 2) (wc := []) (As := [.int (111), .int s3]) (rest := []) hX (m208 l hst dC dI g s3 e0 e1 _) [] rfl (by decide +kernel) q1046 q1047 q71 q1048 (by decide +kernel) ⟨(Nat.le_of_ble_eq_true rfl), (Nat.le_of_ble_eq_true rfl)⟩ ⟨(Nat.le_of_ble_eq_true rfl), (Nat.le_of_ble_eq_true rfl)⟩ hl.1 rfl rfl (Nat.le_of_ble_eq_true rfl) dX11_step_2) [] [0, 1, 2] rfl rfl (by decide +kernel) (by decide +kernel) (fun f1 r2 H locs hP hD hS => ?_)
  have hP : va_P (dC, dI) CL [(a0, .inr (12, [.ref a1, .ref a2, .ref a3, .ref a4, .ref a5, .ref a6, .ref a7, .ref a8, .null, .ref a9, .ref a10, .int (0), .int (100), .int (0), .int (0), .int (-1), .long (0), .int (1)])), (a1, .inr (8, [.int (0), .ref a11, .ref a12, .ref a13, .ref a14, .int (0), .ref a15, .ref a16, .ref a17, .ref a18, .ref a19, .ref a20, .ref a21])), (a3, .inr (11, [.int (0), .ref a22, .ref a23, .ref a24, .ref a25, .ref a26, .ref a27, .ref a28, .ref a29, .ref a30]))] _ := hP
  have hD : va_D A [(a0, .inr (12, [.ref a1, .ref a2, .ref a3, .ref a4, .ref a5, .ref a6, .ref a7, .ref a8, .null, .ref a9, .ref a10, .int (0), .int (100), .int (0), .int (0), .int (-1), .long (0), .int (1)])), (a1, .inr (8, [.int (0), .ref a11, .ref a12, .ref a13, .ref a14, .int (0), .ref a15, .ref a16, .ref a17, .ref a18, .ref a19, .ref a20, .ref a21])), (a3, .inr (11, [.int (0), .ref a22, .ref a23, .ref a24, .ref a25, .ref a26, .ref a27, .ref a28, .ref a29, .ref a30]))] := hD
  refine W.widen (k := 0) (n := 0) (Nat.le_of_ble_eq_true rfl) (Nat.le_of_ble_eq_true rfl) ?_
  refine W.eq (g2 := F0 m 5 ls [.int (0)]) rfl ?_
  refine lv_if_ne (tgt := 16) hx hb dX11_step_5 (by decide +kernel) (fun h => absurd (by decide +kernel) h) (fun _ => ?_)
  exact n_throw hx hb hst hown hts hE hS (names := ["java/lang/RuntimeException", "java/lang/Exception"]) (by decide +kernel) (by decide +kernel) q817 q89 hat0p hat0a hat0 hat0g (hl.1.trans hml.symm) dX11_step_8 dX11_step_11 dX11_step_12 dX11_step_15 hout (Nat.le_of_ble_eq_true rfl) (Nat.le_of_ble_eq_true rfl) (Nat.le_of_ble_eq_true rfl) (Nat.le_of_ble_eq_true rfl) hlk (Nat.le_of_ble_eq_true rfl) (Nat.le_of_ble_eq_true rfl)

set_option maxHeartbeats 4000000 in
set_option maxRecDepth 100000 in
/-- MinestrataLaw.step -/
theorem m210 (l : Launch) (hst : l.stackTraces = false) (dC : Nat → ClassId) (dI : Nat → Nat → Nat) (g : Nat → Nat) (a0 a1 a2 a3 a4 a5 a6 a7 a8 a9 a10 a11 a12 a13 a14 a15 a16 a17 a18 a19 a20 a21 a22 a23 a24 a25 a26 a27 a28 a29 a30 a31 : Nat) (s2 s3 : Int32) (e0 : ¬ (s3 < (1))) (e1 : (60) < s3) (sz : Nat) :
    Met l Y47 (Cond.codeWith Y47 method_10_code 6 (Option.some Jvm.ClassFile.FieldType.int) [((0 : Nat), (12 : Nat), (15 : Nat), (13 : Nat)), ((0 : Nat), (12 : Nat), (19 : Nat), (21 : Nat)), ((0 : Nat), (12 : Nat), (23 : Nat), (47 : Nat))] :: AW) ({ frames := 7, cells := 1, slots := 6, locals := 105 } : Room) (nP dC dI g [.ref a0, .int (111), .int s2, .int s3, .ref a1] [(a0, .inr (12, [.ref a2, .ref a3, .ref a4, .ref a5, .ref a6, .ref a7, .ref a8, .ref a9, .null, .ref a10, .ref a11, .int (0), .int (100), .int (0), .int (0), .int (-1), .long (0), .int (1)])), (a2, .inr (8, [.int (0), .ref a12, .ref a13, .ref a14, .ref a15, .int (0), .ref a16, .ref a17, .ref a18, .ref a19, .ref a20, .ref a21, .ref a22])), (a4, .inr (11, [.int (0), .ref a23, .ref a24, .ref a25, .ref a26, .ref a27, .ref a28, .ref a29, .ref a30, .ref a31]))] sz) (nQ dC dI (fun f => some (.int (1))) (fun f r => []) (va_A [(a0, .inr (12, [.ref a2, .ref a3, .ref a4, .ref a5, .ref a6, .ref a7, .ref a8, .ref a9, .null, .ref a10, .ref a11, .int (0), .int (100), .int (0), .int (0), .int (-1), .long (0), .int (1)])), (a2, .inr (8, [.int (0), .ref a12, .ref a13, .ref a14, .ref a15, .int (0), .ref a16, .ref a17, .ref a18, .ref a19, .ref a20, .ref a21, .ref a22])), (a4, .inr (11, [.int (0), .ref a23, .ref a24, .ref a25, .ref a26, .ref a27, .ref a28, .ref a29, .ref a30, .ref a31]))] sz)) 1 6 (va_A [(a0, .inr (12, [.ref a2, .ref a3, .ref a4, .ref a5, .ref a6, .ref a7, .ref a8, .ref a9, .null, .ref a10, .ref a11, .int (0), .int (100), .int (0), .int (0), .int (-1), .long (0), .int (1)])), (a2, .inr (8, [.int (0), .ref a12, .ref a13, .ref a14, .ref a15, .int (0), .ref a16, .ref a17, .ref a18, .ref a19, .ref a20, .ref a21, .ref a22])), (a4, .inr (11, [.int (0), .ref a23, .ref a24, .ref a25, .ref a26, .ref a27, .ref a28, .ref a29, .ref a30, .ref a31]))] sz) := by
  refine n_metW (by decide +kernel) q1040 (Nat.le_of_ble_eq_true rfl) (fun f => some (.int (1))) (fun f r => []) ?_
  intro p e s m below meth c A ls ⟨hx, hb, hr, hml, hown, hts, hlk, hnm⟩ htab hE hP hD hA hl
  have hown : s.vm.findClass "MinestrataLaw" = some m.cls := hown
  have hK := hE.1
  have hS : va_S A s.heap s.heap [] := va_S.rf
  have hl : lv_has ls 6 [(0, .ref a0), (1, .int (111)), (2, .int s2), (3, .int s3), (4, .ref a1)] := hl
  refine lv_aload hx hb dL_step_0 (lv_at hl 4 rfl) ?_
  refine lv_iconst (v := (0)) hx hb dL_step_2 (by decide +kernel) ?_
  refine lv_aload_n hx hb dL_step_3 rfl (lv_at hl 0 rfl) ?_
  refine lv_iload_n hx hb dL_step_4 rfl (lv_at hl 1 rfl) ?_
  refine lv_iload_n hx hb dL_step_5 rfl (lv_at hl 2 rfl) ?_
  refine lv_iload_n hx hb dL_step_6 rfl (lv_at hl 3 rfl) ?_
  have hX : nCx p s m _ c method_10_code 6 "MinestrataLaw" dC dI g A [(a0, .inr (12, [.ref a2, .ref a3, .ref a4, .ref a5, .ref a6, .ref a7, .ref a8, .ref a9, .null, .ref a10, .ref a11, .int (0), .int (100), .int (0), .int (0), .int (-1), .long (0), .int (1)])), (a2, .inr (8, [.int (0), .ref a12, .ref a13, .ref a14, .ref a15, .int (0), .ref a16, .ref a17, .ref a18, .ref a19, .ref a20, .ref a21, .ref a22])), (a4, .inr (11, [.int (0), .ref a23, .ref a24, .ref a25, .ref a26, .ref a27, .ref a28, .ref a29, .ref a30, .ref a31]))] _ _ := ⟨⟨hx, hb, hml, hown, hts⟩, hE, hS, hA, hP, hD⟩
  refine n_callX (E0 := "java/lang/IllegalArgumentException") hX (n_runVX (n := 3) (wc := [(a0, .inr (12, [.ref a2, .ref a3, .ref a4, .ref a5, .ref a6, .ref a7, .ref a8, .ref a9, .null, .ref a10, .ref a11, .int (0), .int (100), .int (0), .int (0), .int (-1), .long (0), .int (1)])), (a2, .inr (8, [.int (0), .ref a12, .ref a13, .ref a14, .ref a15, .int (0), .ref a16, .ref a17, .ref a18, .ref a19, .ref a20, .ref a21, .ref a22])), (a4, .inr (11, [.int (0), .ref a23, .ref a24, .ref a25, .ref a26, .ref a27, .ref a28, .ref a29, .ref a30, .ref a31]))]) (As := [.int (111), .int s2, .int s3]) (rest := [.int (0), .ref a1]) hX (m209 l hst dC dI g a0 a2 a3 a4 a5 a6 a7 a8 a9 a10 a11 a12 a13 a14 a15 a16 a17 a18 a19 a20 a21 a22 a23 a24 a25 a26 a27 a28 a29 a30 a31 s2 s3 e0 e1 _) [0, 1, 2] rfl (by decide +kernel) 0 (ci := 12) rfl (T := TX11) (N := 18) (C := "Minestrata") rfl q1042 q1043 q1044 q71 q1045 (by decide +kernel) ⟨(Nat.le_of_ble_eq_true rfl), (Nat.le_of_ble_eq_true rfl)⟩ ⟨(Nat.le_of_ble_eq_true rfl), (Nat.le_of_ble_eq_true rfl)⟩ hl.1 rfl rfl (Nat.le_of_ble_eq_true rfl) dL_step_7) [0, 1, 2] rfl (fun ce q9 H locs hS hce hcv hcl => ?_)
  refine n_catch (E := "java/lang/IllegalArgumentException") (name := "java/lang/IllegalArgumentException") hE hts hown htab [] ⟨0, 12, 15, 13⟩ [⟨0, 12, 19, 21⟩, ⟨0, 12, 23, 47⟩] rfl (fun z hz => nomatch hz) (by decide +kernel) (by decide) q808 x819 hce hcv hcl ?_
  refine W.widen (k := 1) (n := 6) (Nat.le_of_ble_eq_true rfl) (Nat.le_of_ble_eq_true rfl) ?_
  refine W.eq (g2 := F0 m 15 ls [.ref q9]) rfl ?_
  refine lv_astore (lv' := [(5, .ref q9), (0, .ref a0), (1, .int (111)), (2, .int s2), (3, .int s3), (4, .ref a1)]) hx hb dL_step_15 hl (by decide) rfl (fun ls hl => ?_)
  refine lv_iconst (v := (1)) hx hb dL_step_17 (by decide +kernel) ?_
  refine W.widen (k := 1) (n := 6) (Nat.le_of_ble_eq_true rfl) (Nat.le_of_ble_eq_true rfl) ?_
  exact W.iret hx hb hr (n_end0 hS (fun _ => 0) rfl rfl) hS.2.2 dL_step_18 hlk

set_option maxHeartbeats 4000000 in
set_option maxRecDepth 100000 in
/-- MinestrataModel.in -/
theorem m211 (l : Launch) (hst : l.stackTraces = false) (dC : Nat → ClassId) (dI : Nat → Nat → Nat) (g : Nat → Nat) (s3 : Int32) (e0 : ¬ (s3 < (1))) (e1 : (60) < s3) (sz : Nat) :
    Met l Y22 (Cond.code Y22 prog_14_method_3_code 3 (Option.some Jvm.ClassFile.FieldType.boolean) :: AW) ({ frames := 0, cells := 0, slots := 0, locals := 0 } : Room) (nP dC dI g [.int s3, .int (1), .int (60)] [] sz) (nQ dC dI (fun f => some (.int (0))) (fun f r => []) (va_A [] sz)) 0 0 (va_A [] sz) := by
  refine n_met (by decide +kernel) (Nat.le_of_ble_eq_true rfl) (fun f => some (.int (0))) (fun f r => []) ?_
  intro p e s m below meth c A ls ⟨hx, hb, hr, hml, hown, hts, hlk, hnm⟩ hE hP hD hA hl
  have hown : s.vm.findClass "MinestrataModel" = some m.cls := hown
  have hK := hE.1
  have hS : va_S A s.heap s.heap [] := va_S.rf
  have hl : lv_has ls 3 [(0, .int s3), (1, .int (1)), (2, .int (60))] := hl
  refine lv_iload_n hx hb dX16_in_0 rfl (lv_at hl 0 rfl) ?_
  refine lv_iload_n hx hb dX16_in_1 rfl (lv_at hl 1 rfl) ?_
  refine lv_icmp_lt (tgt := 14) hx hb dX16_in_2 (by decide +kernel) (fun h => absurd h e0) (fun _ => ?_)
  refine lv_iload_n hx hb dX16_in_5 rfl (lv_at hl 0 rfl) ?_
  refine lv_iload_n hx hb dX16_in_6 rfl (lv_at hl 2 rfl) ?_
  refine lv_icmp_gt (tgt := 14) hx hb dX16_in_7 (by decide +kernel) (fun _ => ?_) (fun h => absurd e1 h)
  refine lv_iconst (v := (0)) hx hb dX16_in_14 (by decide +kernel) ?_
  refine W.widen (k := 0) (n := 0) (Nat.le_of_ble_eq_true rfl) (Nat.le_of_ble_eq_true rfl) ?_
  exact W.zret hx hb hr (by decide +kernel) (n_end hS hP hD [] (by decide +kernel) (fun _ => 0) (fun _ => 0) rfl rfl rfl) hS.2.2 dX16_in_15 hlk

set_option maxHeartbeats 4000000 in
set_option maxRecDepth 100000 in
/-- MinestrataModel.isValue -/
theorem m212 (l : Launch) (hst : l.stackTraces = false) (dC : Nat → ClassId) (dI : Nat → Nat → Nat) (g : Nat → Nat) (s3 : Int32) (e0 : ¬ (s3 < (1))) (e1 : (60) < s3) (sz : Nat) :
    Met l Y51 (Cond.code Y51 prog_14_method_37_code 2 (Option.some Jvm.ClassFile.FieldType.boolean) :: AW) ({ frames := 1, cells := 0, slots := 0, locals := 22 } : Room) (nP dC dI g [.int (111), .int s3] [] sz) (nQ dC dI (fun f => some (.int (0))) (fun f r => []) (va_A [] sz)) 0 0 (va_A [] sz) := by
  refine n_met (by decide +kernel) (Nat.le_of_ble_eq_true rfl) (fun f => some (.int (0))) (fun f r => []) ?_
  intro p e s m below meth c A ls ⟨hx, hb, hr, hml, hown, hts, hlk, hnm⟩ hE hP hD hA hl
  have hown : s.vm.findClass "MinestrataModel" = some m.cls := hown
  have hK := hE.1
  have hS : va_S A s.heap s.heap [] := va_S.rf
  have hl : lv_has ls 2 [(0, .int (111)), (1, .int s3)] := hl
  refine lv_iload_n hx hb dX16_isValue_0 rfl (lv_at hl 0 rfl) ?_
  refine lv_tableIn (tgt := 120) (off := 119) hx hb dX16_isValue_1 (by decide +kernel) (by decide +kernel) rfl (by decide +kernel) ?_
  refine lv_iload_n hx hb dX16_isValue_120 rfl (lv_at hl 1 rfl) ?_
  refine lv_iconst (v := (1)) hx hb dX16_isValue_121 (by decide +kernel) ?_
  refine lv_bipush (v := (60)) hx hb dX16_isValue_122 (by decide +kernel) ?_
  have hX : nCx p s m _ c prog_14_method_37_code 2 "MinestrataModel" dC dI g A [] _ _ := ⟨⟨hx, hb, hml, hown, hts⟩, hE, hS, hA, hP, hD⟩
  refine n_call (wr := []) hX (n_runS (n := 3) (wc := []) (As := [.int s3, .int (1), .int (60)]) (rest := []) hX (m211 l hst dC dI g s3 e0 e1 _) [] rfl (by decide +kernel) q1503 q1504 q82 q1505 (by decide +kernel) ⟨(Nat.le_of_ble_eq_true rfl), (Nat.le_of_ble_eq_true rfl)⟩ ⟨(Nat.le_of_ble_eq_true rfl), (Nat.le_of_ble_eq_true rfl)⟩ hl.1 rfl rfl (Nat.le_of_ble_eq_true rfl) dX16_isValue_124) [] [] rfl rfl (by decide +kernel) (by decide +kernel) (fun f1 r2 H locs hP hD hS => ?_)
  have hP : va_P (dC, dI) CL [] _ := hP
  have hD : va_D A [] := hD
  refine W.widen (k := 0) (n := 0) (Nat.le_of_ble_eq_true rfl) (Nat.le_of_ble_eq_true rfl) ?_
  refine W.eq (g2 := F0 m 127 ls [.int (0)]) rfl ?_
  refine W.widen (k := 0) (n := 0) (Nat.le_of_ble_eq_true rfl) (Nat.le_of_ble_eq_true rfl) ?_
  exact W.zret hx hb hr (by decide +kernel) (n_end hS hP hD [] (by decide +kernel) (fun _ => 0) (fun _ => 0) rfl rfl rfl) hS.2.2 dX16_isValue_127 hlk

set_option maxHeartbeats 4000000 in
set_option maxRecDepth 100000 in
/-- MinestrataModel.step -/
theorem m213 (l : Launch) (hst : l.stackTraces = false) (dC : Nat → ClassId) (dI : Nat → Nat → Nat) (g : Nat → Nat) (a0 a1 a2 a3 a4 a5 a6 a7 a8 a9 a10 a11 a12 : Nat) (s2 s3 : Int32) (e0 : ¬ (s3 < (1))) (e1 : (60) < s3) (sz : Nat) :
    Met l Y50 (Cond.code Y50 prog_14_method_41_code 9 (Option.some Jvm.ClassFile.FieldType.char) :: AW) ({ frames := 2, cells := 0, slots := 0, locals := 43 } : Room) (nP dC dI g [.ref a0, .int (111), .int s2, .int s3] [(a0, .inr (15, [.int (0), .int (0), .int (100), .int (0), .int (0), .ref a1, .ref a2, .ref a3, .ref a4, .ref a5, .ref a6, .ref a7, .ref a8, .ref a9, .ref a10, .ref a11, .null, .int (-1), .ref a12, .long (0)]))] sz) (nQ dC dI (fun f => some (.int (32))) (fun f r => [(a0, .inr (15, [.int (1), .int (0), .int (100), .int (0), .int (0), .ref a1, .ref a2, .ref a3, .ref a4, .ref a5, .ref a6, .ref a7, .ref a8, .ref a9, .ref a10, .ref a11, .null, .int (-1), .ref a12, .long (0)]))]) (va_A [(a0, .inr (15, [.int (0), .int (0), .int (100), .int (0), .int (0), .ref a1, .ref a2, .ref a3, .ref a4, .ref a5, .ref a6, .ref a7, .ref a8, .ref a9, .ref a10, .ref a11, .null, .int (-1), .ref a12, .long (0)]))] sz)) 0 0 (va_A [(a0, .inr (15, [.int (0), .int (0), .int (100), .int (0), .int (0), .ref a1, .ref a2, .ref a3, .ref a4, .ref a5, .ref a6, .ref a7, .ref a8, .ref a9, .ref a10, .ref a11, .null, .int (-1), .ref a12, .long (0)]))] sz) := by
  refine n_met (by decide +kernel) (Nat.le_of_ble_eq_true rfl) (fun f => some (.int (32))) (fun f r => [(a0, .inr (15, [.int (1), .int (0), .int (100), .int (0), .int (0), .ref a1, .ref a2, .ref a3, .ref a4, .ref a5, .ref a6, .ref a7, .ref a8, .ref a9, .ref a10, .ref a11, .null, .int (-1), .ref a12, .long (0)]))]) ?_
  intro p e s m below meth c A ls ⟨hx, hb, hr, hml, hown, hts, hlk, hnm⟩ hE hP hD hA hl
  have hown : s.vm.findClass "MinestrataModel" = some m.cls := hown
  have hK := hE.1
  have hS : va_S A s.heap s.heap [] := va_S.rf
  have hl : lv_has ls 9 [(0, .ref a0), (1, .int (111)), (2, .int s2), (3, .int s3)] := hl
  refine lv_aload_n hx hb dX16_step_0 rfl (lv_at hl 0 rfl) ?_
  refine lv_iload_n hx hb dX16_step_1 rfl (lv_at hl 1 rfl) ?_
  refine lv_iload_n hx hb dX16_step_2 rfl (lv_at hl 3 rfl) ?_
  have hX : nCx p s m _ c prog_14_method_41_code 9 "MinestrataModel" dC dI g A [(a0, .inr (15, [.int (0), .int (0), .int (100), .int (0), .int (0), .ref a1, .ref a2, .ref a3, .ref a4, .ref a5, .ref a6, .ref a7, .ref a8, .ref a9, .ref a10, .ref a11, .null, .int (-1), .ref a12, .long (0)]))] _ _ := ⟨⟨hx, hb, hml, hown, hts⟩, hE, hS, hA, hP, hD⟩
  refine n_call (wr := [(a0, .inr (15, [.int (0), .int (0), .int (100), .int (0), .int (0), .ref a1, .ref a2, .ref a3, .ref a4, .ref a5, .ref a6, .ref a7, .ref a8, .ref a9, .ref a10, .ref a11, .null, .int (-1), .ref a12, .long (0)]))]) hX (n_runS (n := 2) (wc := []) (As := [.int (111), .int s3]) (rest := [.ref a0]) hX (m212 l hst dC dI g s3 e0 e1 _) [] rfl (by decide +kernel) q2107 q2108 q82 q2109 (by decide +kernel) ⟨(Nat.le_of_ble_eq_true rfl), (Nat.le_of_ble_eq_true rfl)⟩ ⟨(Nat.le_of_ble_eq_true rfl), (Nat.le_of_ble_eq_true rfl)⟩ hl.1 rfl rfl (Nat.le_of_ble_eq_true rfl) dX16_step_3) [] [0] rfl rfl (by decide +kernel) (by decide +kernel) (fun f1 r2 H locs hP hD hS => ?_)
  have hP : va_P (dC, dI) CL [(a0, .inr (15, [.int (0), .int (0), .int (100), .int (0), .int (0), .ref a1, .ref a2, .ref a3, .ref a4, .ref a5, .ref a6, .ref a7, .ref a8, .ref a9, .ref a10, .ref a11, .null, .int (-1), .ref a12, .long (0)]))] _ := hP
  have hD : va_D A [(a0, .inr (15, [.int (0), .int (0), .int (100), .int (0), .int (0), .ref a1, .ref a2, .ref a3, .ref a4, .ref a5, .ref a6, .ref a7, .ref a8, .ref a9, .ref a10, .ref a11, .null, .int (-1), .ref a12, .long (0)]))] := hD
  refine W.widen (k := 0) (n := 0) (Nat.le_of_ble_eq_true rfl) (Nat.le_of_ble_eq_true rfl) ?_
  refine W.eq (g2 := F0 m 6 ls [.int (0), .ref a0]) rfl ?_
  refine lv_if_ne (tgt := 13) hx hb dX16_step_6 (by decide +kernel) (fun h => absurd (by decide +kernel) h) (fun _ => ?_)
  refine lv_iconst (v := (1)) hx hb dX16_step_9 (by decide +kernel) ?_
  refine lv_goto (tgt := 41) hx hb dX16_step_10 (by decide +kernel) ?_
  refine va_put (D := (dC, dI)) (ci := 15) (v := .int (1)) (ty := .int) (C := "MinestrataModel") (T := TX16) (N := 20) hx hb hts inX16 tyX16 tyX16_ok nmX16 hown hK hP hD hS 0 rfl rfl 0 (by decide) (hts _ q1427) (fun _ h9 => h9) rfl (by decide +kernel) rfl rfl (Nat.le_of_ble_eq_true rfl) dX16_step_41 (fun H locs hP hD hS => ?_)
  have hP : va_P (dC, dI) CL [(a0, .inr (15, [.int (1), .int (0), .int (100), .int (0), .int (0), .ref a1, .ref a2, .ref a3, .ref a4, .ref a5, .ref a6, .ref a7, .ref a8, .ref a9, .ref a10, .ref a11, .null, .int (-1), .ref a12, .long (0)]))] _ := hP
  have hD : va_D A [(a0, .inr (15, [.int (1), .int (0), .int (100), .int (0), .int (0), .ref a1, .ref a2, .ref a3, .ref a4, .ref a5, .ref a6, .ref a7, .ref a8, .ref a9, .ref a10, .ref a11, .null, .int (-1), .ref a12, .long (0)]))] := hD
  refine lv_aload_n hx hb dX16_step_44 rfl (lv_at hl 0 rfl) ?_
  refine va_get (D := (dC, dI)) (ci := 15) (v := .int (1)) (C := "MinestrataModel") (T := TX16) (N := 20) hx hb hts inX16 hown hK hP 0 rfl rfl 0 (by decide) (hts _ q1427) (fun _ h9 => h9) rfl dX16_step_45 ?_
  refine lv_if_le (tgt := 54) hx hb dX16_step_48 (by decide +kernel) (fun h => absurd h (by decide +kernel)) (fun _ => ?_)
  refine lv_bipush (v := (32)) hx hb dX16_step_51 (by decide +kernel) ?_
  refine W.widen (k := 0) (n := 0) (Nat.le_of_ble_eq_true rfl) (Nat.le_of_ble_eq_true rfl) ?_
  exact W.zret hx hb hr (by decide +kernel) (n_end hS hP hD [0] (by decide +kernel) (fun _ => 0) (fun _ => 0) rfl rfl rfl) hS.2.2 dX16_step_53 hlk

set_option maxHeartbeats 4000000 in
set_option maxRecDepth 100000 in
/-- Minestrata.isWithin -/
theorem m214 (l : Launch) (hst : l.stackTraces = false) (dC : Nat → ClassId) (dI : Nat → Nat → Nat) (g : Nat → Nat) (s3 : Int32) (e0 : ¬ (s3 < (1))) (e1 : ¬ ((60) < s3)) (sz : Nat) :
    Met l Y21 (Cond.code Y21 prog_1_method_38_code 3 (Option.some Jvm.ClassFile.FieldType.boolean) :: AW) ({ frames := 0, cells := 0, slots := 0, locals := 0 } : Room) (nP dC dI g [.int s3, .int (1), .int (60)] [] sz) (nQ dC dI (fun f => some (.int (1))) (fun f r => []) (va_A [] sz)) 0 0 (va_A [] sz) := by
  refine n_met (by decide +kernel) (Nat.le_of_ble_eq_true rfl) (fun f => some (.int (1))) (fun f r => []) ?_
  intro p e s m below meth c A ls ⟨hx, hb, hr, hml, hown, hts, hlk, hnm⟩ hE hP hD hA hl
  have hown : s.vm.findClass "Minestrata" = some m.cls := hown
  have hK := hE.1
  have hS : va_S A s.heap s.heap [] := va_S.rf
  have hl : lv_has ls 3 [(0, .int s3), (1, .int (1)), (2, .int (60))] := hl
  refine lv_iload_n hx hb dX11_isWithin_0 rfl (lv_at hl 0 rfl) ?_
  refine lv_iload_n hx hb dX11_isWithin_1 rfl (lv_at hl 1 rfl) ?_
  refine lv_icmp_lt (tgt := 14) hx hb dX11_isWithin_2 (by decide +kernel) (fun h => absurd h e0) (fun _ => ?_)
  refine lv_iload_n hx hb dX11_isWithin_5 rfl (lv_at hl 0 rfl) ?_
  refine lv_iload_n hx hb dX11_isWithin_6 rfl (lv_at hl 2 rfl) ?_
  refine lv_icmp_gt (tgt := 14) hx hb dX11_isWithin_7 (by decide +kernel) (fun h => absurd h e1) (fun _ => ?_)
  refine lv_iconst (v := (1)) hx hb dX11_isWithin_10 (by decide +kernel) ?_
  refine lv_goto (tgt := 15) hx hb dX11_isWithin_11 (by decide +kernel) ?_
  refine W.widen (k := 0) (n := 0) (Nat.le_of_ble_eq_true rfl) (Nat.le_of_ble_eq_true rfl) ?_
  exact W.zret hx hb hr (by decide +kernel) (n_end hS hP hD [] (by decide +kernel) (fun _ => 0) (fun _ => 0) rfl rfl rfl) hS.2.2 dX11_isWithin_15 hlk

set_option maxHeartbeats 4000000 in
set_option maxRecDepth 100000 in
/-- Minestrata.isStepValue -/
theorem m215 (l : Launch) (hst : l.stackTraces = false) (dC : Nat → ClassId) (dI : Nat → Nat → Nat) (g : Nat → Nat) (s3 : Int32) (e0 : ¬ (s3 < (1))) (e1 : ¬ ((60) < s3)) (sz : Nat) :
    Met l Y49 (Cond.code Y49 prog_1_method_44_code 2 (Option.some Jvm.ClassFile.FieldType.boolean) :: AW) ({ frames := 1, cells := 0, slots := 0, locals := 22 } : Room) (nP dC dI g [.int (111), .int s3] [] sz) (nQ dC dI (fun f => some (.int (1))) (fun f r => []) (va_A [] sz)) 0 0 (va_A [] sz) := by
  refine n_met (by decide +kernel) (Nat.le_of_ble_eq_true rfl) (fun f => some (.int (1))) (fun f r => []) ?_
  intro p e s m below meth c A ls ⟨hx, hb, hr, hml, hown, hts, hlk, hnm⟩ hE hP hD hA hl
  have hown : s.vm.findClass "Minestrata" = some m.cls := hown
  have hK := hE.1
  have hS : va_S A s.heap s.heap [] := va_S.rf
  have hl : lv_has ls 2 [(0, .int (111)), (1, .int s3)] := hl
  refine lv_iload_n hx hb dX11_isStepValue_0 rfl (lv_at hl 0 rfl) ?_
  refine lv_bipush (v := (100)) hx hb dX11_isStepValue_1 (by decide +kernel) ?_
  refine lv_icmp_eq (tgt := 12) hx hb dX11_isStepValue_3 (by decide +kernel) (fun h => absurd h (by decide +kernel)) (fun _ => ?_)
  refine lv_iload_n hx hb dX11_isStepValue_6 rfl (lv_at hl 0 rfl) ?_
  refine lv_bipush (v := (98)) hx hb dX11_isStepValue_7 (by decide +kernel) ?_
  refine lv_icmp_ne (tgt := 19) hx hb dX11_isStepValue_9 (by decide +kernel) (fun _ => ?_) (fun h => absurd h (by decide +kernel))
  refine lv_iload_n hx hb dX11_isStepValue_19 rfl (lv_at hl 0 rfl) ?_
  refine lv_bipush (v := (102)) hx hb dX11_isStepValue_20 (by decide +kernel) ?_
  refine lv_icmp_eq (tgt := 31) hx hb dX11_isStepValue_22 (by decide +kernel) (fun h => absurd h (by decide +kernel)) (fun _ => ?_)
  refine lv_iload_n hx hb dX11_isStepValue_25 rfl (lv_at hl 0 rfl) ?_
  refine lv_bipush (v := (110)) hx hb dX11_isStepValue_26 (by decide +kernel) ?_
  refine lv_icmp_ne (tgt := 40) hx hb dX11_isStepValue_28 (by decide +kernel) (fun _ => ?_) (fun h => absurd h (by decide +kernel))
  refine lv_iload_n hx hb dX11_isStepValue_40 rfl (lv_at hl 0 rfl) ?_
  refine lv_bipush (v := (115)) hx hb dX11_isStepValue_41 (by decide +kernel) ?_
  refine lv_icmp_ne (tgt := 54) hx hb dX11_isStepValue_43 (by decide +kernel) (fun _ => ?_) (fun h => absurd h (by decide +kernel))
  refine lv_iload_n hx hb dX11_isStepValue_54 rfl (lv_at hl 0 rfl) ?_
  refine lv_bipush (v := (99)) hx hb dX11_isStepValue_55 (by decide +kernel) ?_
  refine lv_icmp_eq (tgt := 76) hx hb dX11_isStepValue_57 (by decide +kernel) (fun h => absurd h (by decide +kernel)) (fun _ => ?_)
  refine lv_iload_n hx hb dX11_isStepValue_60 rfl (lv_at hl 0 rfl) ?_
  refine lv_bipush (v := (111)) hx hb dX11_isStepValue_61 (by decide +kernel) ?_
  refine lv_icmp_ne (tgt := 80) hx hb dX11_isStepValue_63 (by decide +kernel) (fun h => absurd (by decide +kernel) h) (fun _ => ?_)
  refine lv_iload_n hx hb dX11_isStepValue_66 rfl (lv_at hl 1 rfl) ?_
  refine lv_iconst (v := (1)) hx hb dX11_isStepValue_67 (by decide +kernel) ?_
  refine lv_bipush (v := (60)) hx hb dX11_isStepValue_68 (by decide +kernel) ?_
  have hX : nCx p s m _ c prog_1_method_44_code 2 "Minestrata" dC dI g A [] _ _ := ⟨⟨hx, hb, hml, hown, hts⟩, hE, hS, hA, hP, hD⟩
  refine n_call (wr := []) hX (n_runS (n := 3) (wc := []) (As := [.int s3, .int (1), .int (60)]) (rest := []) hX (m214 l hst dC dI g s3 e0 e1 _) [] rfl (by decide +kernel) q814 q815 q71 q816 (by decide +kernel) ⟨(Nat.le_of_ble_eq_true rfl), (Nat.le_of_ble_eq_true rfl)⟩ ⟨(Nat.le_of_ble_eq_true rfl), (Nat.le_of_ble_eq_true rfl)⟩ hl.1 rfl rfl (Nat.le_of_ble_eq_true rfl) dX11_isStepValue_70) [] [] rfl rfl (by decide +kernel) (by decide +kernel) (fun f1 r2 H locs hP hD hS => ?_)
  have hP : va_P (dC, dI) CL [] _ := hP
  have hD : va_D A [] := hD
  refine W.widen (k := 0) (n := 0) (Nat.le_of_ble_eq_true rfl) (Nat.le_of_ble_eq_true rfl) ?_
  refine W.eq (g2 := F0 m 73 ls [.int (1)]) rfl ?_
  refine lv_if_eq (tgt := 80) hx hb dX11_isStepValue_73 (by decide +kernel) (fun h => absurd h (by decide +kernel)) (fun _ => ?_)
  refine lv_iconst (v := (1)) hx hb dX11_isStepValue_76 (by decide +kernel) ?_
  refine lv_goto (tgt := 81) hx hb dX11_isStepValue_77 (by decide +kernel) ?_
  refine W.widen (k := 0) (n := 0) (Nat.le_of_ble_eq_true rfl) (Nat.le_of_ble_eq_true rfl) ?_
  exact W.zret hx hb hr (by decide +kernel) (n_end hS hP hD [] (by decide +kernel) (fun _ => 0) (fun _ => 0) rfl rfl rfl) hS.2.2 dX11_isStepValue_81 hlk

set_option maxHeartbeats 4000000 in
set_option maxRecDepth 100000 in
/-- Minestrata.hasStepTarget -/
theorem m216 (l : Launch) (hst : l.stackTraces = false) (dC : Nat → ClassId) (dI : Nat → Nat → Nat) (g : Nat → Nat) (a0 a1 a2 a3 a4 a5 a6 a7 a8 a9 a10 a11 a12 a13 a14 a15 a16 a17 a18 a19 : Nat) (s2 : Int32) (sz : Nat) :
    Met l Y52 (Cond.code Y52 prog_1_method_45_code 3 (Option.some Jvm.ClassFile.FieldType.boolean) :: AW) ({ frames := 1, cells := 0, slots := 0, locals := 21 } : Room) (nP dC dI g [.ref a0, .int (111), .int s2] [(a0, .inr (12, [.ref a1, .ref a2, .ref a3, .ref a4, .ref a5, .ref a6, .ref a7, .ref a8, .null, .ref a9, .ref a10, .int (0), .int (100), .int (0), .int (0), .int (-1), .long (0), .int (1)])), (a3, .inr (11, [.int (0), .ref a11, .ref a12, .ref a13, .ref a14, .ref a15, .ref a16, .ref a17, .ref a18, .ref a19]))] sz) (nQ dC dI (fun f => some (.int (0))) (fun f r => [(a0, .inr (12, [.ref a1, .ref a2, .ref a3, .ref a4, .ref a5, .ref a6, .ref a7, .ref a8, .null, .ref a9, .ref a10, .int (0), .int (100), .int (0), .int (0), .int (-1), .long (0), .int (1)])), (a3, .inr (11, [.int (0), .ref a11, .ref a12, .ref a13, .ref a14, .ref a15, .ref a16, .ref a17, .ref a18, .ref a19]))]) (va_A [(a0, .inr (12, [.ref a1, .ref a2, .ref a3, .ref a4, .ref a5, .ref a6, .ref a7, .ref a8, .null, .ref a9, .ref a10, .int (0), .int (100), .int (0), .int (0), .int (-1), .long (0), .int (1)])), (a3, .inr (11, [.int (0), .ref a11, .ref a12, .ref a13, .ref a14, .ref a15, .ref a16, .ref a17, .ref a18, .ref a19]))] sz)) 0 0 (va_A [(a0, .inr (12, [.ref a1, .ref a2, .ref a3, .ref a4, .ref a5, .ref a6, .ref a7, .ref a8, .null, .ref a9, .ref a10, .int (0), .int (100), .int (0), .int (0), .int (-1), .long (0), .int (1)])), (a3, .inr (11, [.int (0), .ref a11, .ref a12, .ref a13, .ref a14, .ref a15, .ref a16, .ref a17, .ref a18, .ref a19]))] sz) := by
  refine n_met (by decide +kernel) (Nat.le_of_ble_eq_true rfl) (fun f => some (.int (0))) (fun f r => [(a0, .inr (12, [.ref a1, .ref a2, .ref a3, .ref a4, .ref a5, .ref a6, .ref a7, .ref a8, .null, .ref a9, .ref a10, .int (0), .int (100), .int (0), .int (0), .int (-1), .long (0), .int (1)])), (a3, .inr (11, [.int (0), .ref a11, .ref a12, .ref a13, .ref a14, .ref a15, .ref a16, .ref a17, .ref a18, .ref a19]))]) ?_
  intro p e s m below meth c A ls ⟨hx, hb, hr, hml, hown, hts, hlk, hnm⟩ hE hP hD hA hl
  have hown : s.vm.findClass "Minestrata" = some m.cls := hown
  have hK := hE.1
  have hS : va_S A s.heap s.heap [] := va_S.rf
  have hl : lv_has ls 3 [(0, .ref a0), (1, .int (111)), (2, .int s2)] := hl
  refine lv_iload_n hx hb dX11_hasStepTarget_0 rfl (lv_at hl 1 rfl) ?_
  refine lv_bipush (v := (100)) hx hb dX11_hasStepTarget_1 (by decide +kernel) ?_
  refine lv_icmp_eq (tgt := 18) hx hb dX11_hasStepTarget_3 (by decide +kernel) (fun h => absurd h (by decide +kernel)) (fun _ => ?_)
  refine lv_iload_n hx hb dX11_hasStepTarget_6 rfl (lv_at hl 1 rfl) ?_
  refine lv_bipush (v := (98)) hx hb dX11_hasStepTarget_7 (by decide +kernel) ?_
  refine lv_icmp_eq (tgt := 18) hx hb dX11_hasStepTarget_9 (by decide +kernel) (fun h => absurd h (by decide +kernel)) (fun _ => ?_)
  refine lv_iload_n hx hb dX11_hasStepTarget_12 rfl (lv_at hl 1 rfl) ?_
  refine lv_bipush (v := (102)) hx hb dX11_hasStepTarget_13 (by decide +kernel) ?_
  refine lv_icmp_ne (tgt := 27) hx hb dX11_hasStepTarget_15 (by decide +kernel) (fun _ => ?_) (fun h => absurd h (by decide +kernel))
  refine lv_iload_n hx hb dX11_hasStepTarget_27 rfl (lv_at hl 1 rfl) ?_
  refine lv_bipush (v := (110)) hx hb dX11_hasStepTarget_28 (by decide +kernel) ?_
  refine lv_icmp_eq (tgt := 39) hx hb dX11_hasStepTarget_30 (by decide +kernel) (fun h => absurd h (by decide +kernel)) (fun _ => ?_)
  refine lv_iload_n hx hb dX11_hasStepTarget_33 rfl (lv_at hl 1 rfl) ?_
  refine lv_bipush (v := (115)) hx hb dX11_hasStepTarget_34 (by decide +kernel) ?_
  refine lv_icmp_ne (tgt := 48) hx hb dX11_hasStepTarget_36 (by decide +kernel) (fun _ => ?_) (fun h => absurd h (by decide +kernel))
  refine lv_aload_n hx hb dX11_hasStepTarget_48 rfl (lv_at hl 0 rfl) ?_
  refine va_get (D := (dC, dI)) (ci := 12) (v := .ref a3) (C := "Minestrata") (T := TX11) (N := 18) hx hb hts inX11 hown hK hP 0 rfl rfl 2 (by decide) (hts _ q506) (fun _ h9 => h9) rfl dX11_hasStepTarget_49 ?_
  refine lv_iload_n hx hb dX11_hasStepTarget_52 rfl (lv_at hl 2 rfl) ?_
  have hX : nCx p s m _ c prog_1_method_45_code 3 "Minestrata" dC dI g A [(a0, .inr (12, [.ref a1, .ref a2, .ref a3, .ref a4, .ref a5, .ref a6, .ref a7, .ref a8, .null, .ref a9, .ref a10, .int (0), .int (100), .int (0), .int (0), .int (-1), .long (0), .int (1)])), (a3, .inr (11, [.int (0), .ref a11, .ref a12, .ref a13, .ref a14, .ref a15, .ref a16, .ref a17, .ref a18, .ref a19]))] _ _ := ⟨⟨hx, hb, hml, hown, hts⟩, hE, hS, hA, hP, hD⟩
  refine n_call (wr := [(a0, .inr (12, [.ref a1, .ref a2, .ref a3, .ref a4, .ref a5, .ref a6, .ref a7, .ref a8, .null, .ref a9, .ref a10, .int (0), .int (100), .int (0), .int (0), .int (-1), .long (0), .int (1)]))]) hX (n_runV (n := 1) (wc := [(a3, .inr (11, [.int (0), .ref a11, .ref a12, .ref a13, .ref a14, .ref a15, .ref a16, .ref a17, .ref a18, .ref a19]))]) (As := [.int s2]) (rest := []) hX (m192 l hst dC dI g a3 a11 a12 a13 a14 a15 a16 a17 a18 a19 s2 _) [1] rfl (by decide +kernel) 1 (ci := 11) rfl (T := TX10) (N := 10) (C := "Minestrata$Stopes") rfl q985 q986 q987 q73 q988 (by decide +kernel) ⟨(Nat.le_of_ble_eq_true rfl), (Nat.le_of_ble_eq_true rfl)⟩ ⟨(Nat.le_of_ble_eq_true rfl), (Nat.le_of_ble_eq_true rfl)⟩ hl.1 rfl rfl (Nat.le_of_ble_eq_true rfl) dX11_hasStepTarget_53) [1] [0] rfl rfl (by decide +kernel) (by decide +kernel) (fun f1 r2 H locs hP hD hS => ?_)
  have hP : va_P (dC, dI) CL [(a0, .inr (12, [.ref a1, .ref a2, .ref a3, .ref a4, .ref a5, .ref a6, .ref a7, .ref a8, .null, .ref a9, .ref a10, .int (0), .int (100), .int (0), .int (0), .int (-1), .long (0), .int (1)])), (a3, .inr (11, [.int (0), .ref a11, .ref a12, .ref a13, .ref a14, .ref a15, .ref a16, .ref a17, .ref a18, .ref a19]))] _ := hP
  have hD : va_D A [(a0, .inr (12, [.ref a1, .ref a2, .ref a3, .ref a4, .ref a5, .ref a6, .ref a7, .ref a8, .null, .ref a9, .ref a10, .int (0), .int (100), .int (0), .int (0), .int (-1), .long (0), .int (1)])), (a3, .inr (11, [.int (0), .ref a11, .ref a12, .ref a13, .ref a14, .ref a15, .ref a16, .ref a17, .ref a18, .ref a19]))] := hD
  refine W.widen (k := 0) (n := 0) (Nat.le_of_ble_eq_true rfl) (Nat.le_of_ble_eq_true rfl) ?_
  refine W.eq (g2 := F0 m 56 ls [.int (0)]) rfl ?_
  refine W.widen (k := 0) (n := 0) (Nat.le_of_ble_eq_true rfl) (Nat.le_of_ble_eq_true rfl) ?_
  exact W.zret hx hb hr (by decide +kernel) (n_end hS hP hD [0, 1] (by decide +kernel) (fun _ => 0) (fun _ => 0) rfl rfl rfl) hS.2.2 dX11_hasStepTarget_56 hlk

set_option maxHeartbeats 4000000 in
set_option maxRecDepth 100000 in
/-- Minestrata.step -/
theorem m217 (l : Launch) (hst : l.stackTraces = false) (dC : Nat → ClassId) (dI : Nat → Nat → Nat) (g : Nat → Nat) (a0 a1 a2 a3 a4 a5 a6 a7 a8 a9 a10 a11 a12 a13 a14 a15 a16 a17 a18 a19 a20 a21 a22 a23 a24 a25 a26 a27 a28 a29 a30 : Nat) (s2 s3 : Int32) (e0 : ¬ (s3 < (1))) (e1 : ¬ ((60) < s3)) (sz : Nat) :
    vx_Met l Y48 (Cond.code Y48 prog_1_method_9_code 5 (Option.some Jvm.ClassFile.FieldType.char) :: AW) ({ frames := 6, cells := 1, slots := 6, locals := 81 } : Room) (nP dC dI g [.ref a0, .int (111), .int s2, .int s3] [(a0, .inr (12, [.ref a1, .ref a2, .ref a3, .ref a4, .ref a5, .ref a6, .ref a7, .ref a8, .null, .ref a9, .ref a10, .int (0), .int (100), .int (0), .int (0), .int (-1), .long (0), .int (1)])), (a1, .inr (8, [.int (0), .ref a11, .ref a12, .ref a13, .ref a14, .int (0), .ref a15, .ref a16, .ref a17, .ref a18, .ref a19, .ref a20, .ref a21])), (a3, .inr (11, [.int (0), .ref a22, .ref a23, .ref a24, .ref a25, .ref a26, .ref a27, .ref a28, .ref a29, .ref a30]))] sz) (fun _ _ _ _ => False) (nX "java/lang/IndexOutOfBoundsException" (va_A [(a0, .inr (12, [.ref a1, .ref a2, .ref a3, .ref a4, .ref a5, .ref a6, .ref a7, .ref a8, .null, .ref a9, .ref a10, .int (0), .int (100), .int (0), .int (0), .int (-1), .long (0), .int (1)])), (a1, .inr (8, [.int (0), .ref a11, .ref a12, .ref a13, .ref a14, .int (0), .ref a15, .ref a16, .ref a17, .ref a18, .ref a19, .ref a20, .ref a21])), (a3, .inr (11, [.int (0), .ref a22, .ref a23, .ref a24, .ref a25, .ref a26, .ref a27, .ref a28, .ref a29, .ref a30]))] sz)) 1 6 (va_A [(a0, .inr (12, [.ref a1, .ref a2, .ref a3, .ref a4, .ref a5, .ref a6, .ref a7, .ref a8, .null, .ref a9, .ref a10, .int (0), .int (100), .int (0), .int (0), .int (-1), .long (0), .int (1)])), (a1, .inr (8, [.int (0), .ref a11, .ref a12, .ref a13, .ref a14, .int (0), .ref a15, .ref a16, .ref a17, .ref a18, .ref a19, .ref a20, .ref a21])), (a3, .inr (11, [.int (0), .ref a22, .ref a23, .ref a24, .ref a25, .ref a26, .ref a27, .ref a28, .ref a29, .ref a30]))] sz) := by
  refine n_metX (by decide +kernel) (Nat.le_of_ble_eq_true rfl) "java/lang/IndexOutOfBoundsException" ?_
  intro p e s m below meth c A ls ⟨hx, hb, hr, hml, hown, hts, hlk, hnm⟩ hout hE hP hD hA hl
  have hown : s.vm.findClass "Minestrata" = some m.cls := hown
  have hK := hE.1
  have hS : va_S A s.heap s.heap [] := va_S.rf
  have hl : lv_has ls 5 [(0, .ref a0), (1, .int (111)), (2, .int s2), (3, .int s3)] := hl
  have hlsz : ls.size = c.maxLocals := hl.1.trans hml.symm
  refine lv_iload_n hx hb dX11_step_0 rfl (lv_at hl 1 rfl) ?_
  refine lv_iload_n hx hb dX11_step_1 rfl (lv_at hl 3 rfl) ?_
  have hX : nCx p s m _ c prog_1_method_9_code 5 "Minestrata" dC dI g A [(a0, .inr (12, [.ref a1, .ref a2, .ref a3, .ref a4, .ref a5, .ref a6, .ref a7, .ref a8, .null, .ref a9, .ref a10, .int (0), .int (100), .int (0), .int (0), .int (-1), .long (0), .int (1)])), (a1, .inr (8, [.int (0), .ref a11, .ref a12, .ref a13, .ref a14, .int (0), .ref a15, .ref a16, .ref a17, .ref a18, .ref a19, .ref a20, .ref a21])), (a3, .inr (11, [.int (0), .ref a22, .ref a23, .ref a24, .ref a25, .ref a26, .ref a27, .ref a28, .ref a29, .ref a30]))] _ _ := ⟨⟨hx, hb, hml, hown, hts⟩, hE, hS, hA, hP, hD⟩
  refine n_call (wr := [(a0, .inr (12, [.ref a1, .ref a2, .ref a3, .ref a4, .ref a5, .ref a6, .ref a7, .ref a8, .null, .ref a9, .ref a10, .int (0), .int (100), .int (0), .int (0), .int (-1), .long (0), .int (1)])), (a1, .inr (8, [.int (0), .ref a11, .ref a12, .ref a13, .ref a14, .int (0), .ref a15, .ref a16, .ref a17, .ref a18, .ref a19, .ref a20, .ref a21])), (a3, .inr (11, [.int (0), .ref a22, .ref a23, .ref a24, .ref a25, .ref a26, .ref a27, .ref a28, .ref a29, .ref a30]))]) hX (n_runS (n := 2) (wc := []) (As := [.int (111), .int s3]) (rest := []) hX (m215 l hst dC dI g s3 e0 e1 _) [] rfl (by decide +kernel) q1046 q1047 q71 q1048 (by decide +kernel) ⟨(Nat.le_of_ble_eq_true rfl), (Nat.le_of_ble_eq_true rfl)⟩ ⟨(Nat.le_of_ble_eq_true rfl), (Nat.le_of_ble_eq_true rfl)⟩ hl.1 rfl rfl (Nat.le_of_ble_eq_true rfl) dX11_step_2) [] [0, 1, 2] rfl rfl (by decide +kernel) (by decide +kernel) (fun f1 r2 H locs hP hD hS => ?_)
  have hP : va_P (dC, dI) CL [(a0, .inr (12, [.ref a1, .ref a2, .ref a3, .ref a4, .ref a5, .ref a6, .ref a7, .ref a8, .null, .ref a9, .ref a10, .int (0), .int (100), .int (0), .int (0), .int (-1), .long (0), .int (1)])), (a1, .inr (8, [.int (0), .ref a11, .ref a12, .ref a13, .ref a14, .int (0), .ref a15, .ref a16, .ref a17, .ref a18, .ref a19, .ref a20, .ref a21])), (a3, .inr (11, [.int (0), .ref a22, .ref a23, .ref a24, .ref a25, .ref a26, .ref a27, .ref a28, .ref a29, .ref a30]))] _ := hP
  have hD : va_D A [(a0, .inr (12, [.ref a1, .ref a2, .ref a3, .ref a4, .ref a5, .ref a6, .ref a7, .ref a8, .null, .ref a9, .ref a10, .int (0), .int (100), .int (0), .int (0), .int (-1), .long (0), .int (1)])), (a1, .inr (8, [.int (0), .ref a11, .ref a12, .ref a13, .ref a14, .int (0), .ref a15, .ref a16, .ref a17, .ref a18, .ref a19, .ref a20, .ref a21])), (a3, .inr (11, [.int (0), .ref a22, .ref a23, .ref a24, .ref a25, .ref a26, .ref a27, .ref a28, .ref a29, .ref a30]))] := hD
  refine W.widen (k := 0) (n := 0) (Nat.le_of_ble_eq_true rfl) (Nat.le_of_ble_eq_true rfl) ?_
  refine W.eq (g2 := F0 m 5 ls [.int (1)]) rfl ?_
  refine lv_if_ne (tgt := 16) hx hb dX11_step_5 (by decide +kernel) (fun _ => ?_) (fun h => absurd h (by decide +kernel))
  refine lv_aload_n hx hb dX11_step_16 rfl (lv_at hl 0 rfl) ?_
  refine lv_iload_n hx hb dX11_step_17 rfl (lv_at hl 1 rfl) ?_
  refine lv_iload_n hx hb dX11_step_18 rfl (lv_at hl 2 rfl) ?_
  have hX : nCx p s m _ c prog_1_method_9_code 5 "Minestrata" dC dI g A [(a0, .inr (12, [.ref a1, .ref a2, .ref a3, .ref a4, .ref a5, .ref a6, .ref a7, .ref a8, .null, .ref a9, .ref a10, .int (0), .int (100), .int (0), .int (0), .int (-1), .long (0), .int (1)])), (a1, .inr (8, [.int (0), .ref a11, .ref a12, .ref a13, .ref a14, .int (0), .ref a15, .ref a16, .ref a17, .ref a18, .ref a19, .ref a20, .ref a21])), (a3, .inr (11, [.int (0), .ref a22, .ref a23, .ref a24, .ref a25, .ref a26, .ref a27, .ref a28, .ref a29, .ref a30]))] _ _ := ⟨⟨hx, hb, hml, hown, hts⟩, hE, hS, hA, hP, hD⟩
  refine n_call (wr := [(a1, .inr (8, [.int (0), .ref a11, .ref a12, .ref a13, .ref a14, .int (0), .ref a15, .ref a16, .ref a17, .ref a18, .ref a19, .ref a20, .ref a21]))]) hX (n_runV (n := 2) (wc := [(a0, .inr (12, [.ref a1, .ref a2, .ref a3, .ref a4, .ref a5, .ref a6, .ref a7, .ref a8, .null, .ref a9, .ref a10, .int (0), .int (100), .int (0), .int (0), .int (-1), .long (0), .int (1)])), (a3, .inr (11, [.int (0), .ref a22, .ref a23, .ref a24, .ref a25, .ref a26, .ref a27, .ref a28, .ref a29, .ref a30]))]) (As := [.int (111), .int s2]) (rest := []) hX (m216 l hst dC dI g a0 a1 a2 a3 a4 a5 a6 a7 a8 a9 a10 a22 a23 a24 a25 a26 a27 a28 a29 a30 s2 _) [0, 2] rfl (by decide +kernel) 0 (ci := 12) rfl (T := TX11) (N := 18) (C := "Minestrata") rfl q1049 q1051 q22 q71 q1052 (by decide +kernel) ⟨(Nat.le_of_ble_eq_true rfl), (Nat.le_of_ble_eq_true rfl)⟩ ⟨(Nat.le_of_ble_eq_true rfl), (Nat.le_of_ble_eq_true rfl)⟩ hl.1 rfl rfl (Nat.le_of_ble_eq_true rfl) dX11_step_19) [0, 2] [1] rfl rfl (by decide +kernel) (by decide +kernel) (fun f3 r4 H locs hP hD hS => ?_)
  have hP : va_P (dC, dI) CL [(a1, .inr (8, [.int (0), .ref a11, .ref a12, .ref a13, .ref a14, .int (0), .ref a15, .ref a16, .ref a17, .ref a18, .ref a19, .ref a20, .ref a21])), (a0, .inr (12, [.ref a1, .ref a2, .ref a3, .ref a4, .ref a5, .ref a6, .ref a7, .ref a8, .null, .ref a9, .ref a10, .int (0), .int (100), .int (0), .int (0), .int (-1), .long (0), .int (1)])), (a3, .inr (11, [.int (0), .ref a22, .ref a23, .ref a24, .ref a25, .ref a26, .ref a27, .ref a28, .ref a29, .ref a30]))] _ := hP
  have hD : va_D A [(a1, .inr (8, [.int (0), .ref a11, .ref a12, .ref a13, .ref a14, .int (0), .ref a15, .ref a16, .ref a17, .ref a18, .ref a19, .ref a20, .ref a21])), (a0, .inr (12, [.ref a1, .ref a2, .ref a3, .ref a4, .ref a5, .ref a6, .ref a7, .ref a8, .null, .ref a9, .ref a10, .int (0), .int (100), .int (0), .int (0), .int (-1), .long (0), .int (1)])), (a3, .inr (11, [.int (0), .ref a22, .ref a23, .ref a24, .ref a25, .ref a26, .ref a27, .ref a28, .ref a29, .ref a30]))] := hD
  refine W.widen (k := 0) (n := 0) (Nat.le_of_ble_eq_true rfl) (Nat.le_of_ble_eq_true rfl) ?_
  refine W.eq (g2 := F0 m 22 ls [.int (0)]) rfl ?_
  refine lv_if_ne (tgt := 33) hx hb dX11_step_22 (by decide +kernel) (fun h => absurd (by decide +kernel) h) (fun _ => ?_)
  exact n_throw hx hb hst hown hts hE hS (names := ["java/lang/RuntimeException", "java/lang/Exception"]) (by decide +kernel) (by decide +kernel) q948 q91 hat1p hat1a hat1 hat1g (hl.1.trans hml.symm) dX11_step_25 dX11_step_28 dX11_step_29 dX11_step_32 hout (Nat.le_of_ble_eq_true rfl) (Nat.le_of_ble_eq_true rfl) (Nat.le_of_ble_eq_true rfl) (Nat.le_of_ble_eq_true rfl) hlk (Nat.le_of_ble_eq_true rfl) (Nat.le_of_ble_eq_true rfl)

set_option maxHeartbeats 4000000 in
set_option maxRecDepth 100000 in
/-- MinestrataLaw.step -/
theorem m218 (l : Launch) (hst : l.stackTraces = false) (dC : Nat → ClassId) (dI : Nat → Nat → Nat) (g : Nat → Nat) (a0 a1 a2 a3 a4 a5 a6 a7 a8 a9 a10 a11 a12 a13 a14 a15 a16 a17 a18 a19 a20 a21 a22 a23 a24 a25 a26 a27 a28 a29 a30 a31 : Nat) (s2 s3 : Int32) (e0 : ¬ (s3 < (1))) (e1 : ¬ ((60) < s3)) (sz : Nat) :
    Met l Y47 (Cond.codeWith Y47 method_10_code 6 (Option.some Jvm.ClassFile.FieldType.int) [((0 : Nat), (12 : Nat), (15 : Nat), (13 : Nat)), ((0 : Nat), (12 : Nat), (19 : Nat), (21 : Nat)), ((0 : Nat), (12 : Nat), (23 : Nat), (47 : Nat))] :: AW) ({ frames := 7, cells := 1, slots := 6, locals := 105 } : Room) (nP dC dI g [.ref a0, .int (111), .int s2, .int s3, .ref a1] [(a0, .inr (12, [.ref a2, .ref a3, .ref a4, .ref a5, .ref a6, .ref a7, .ref a8, .ref a9, .null, .ref a10, .ref a11, .int (0), .int (100), .int (0), .int (0), .int (-1), .long (0), .int (1)])), (a2, .inr (8, [.int (0), .ref a12, .ref a13, .ref a14, .ref a15, .int (0), .ref a16, .ref a17, .ref a18, .ref a19, .ref a20, .ref a21, .ref a22])), (a4, .inr (11, [.int (0), .ref a23, .ref a24, .ref a25, .ref a26, .ref a27, .ref a28, .ref a29, .ref a30, .ref a31]))] sz) (nQ dC dI (fun f => some (.int (2))) (fun f r => []) (va_A [(a0, .inr (12, [.ref a2, .ref a3, .ref a4, .ref a5, .ref a6, .ref a7, .ref a8, .ref a9, .null, .ref a10, .ref a11, .int (0), .int (100), .int (0), .int (0), .int (-1), .long (0), .int (1)])), (a2, .inr (8, [.int (0), .ref a12, .ref a13, .ref a14, .ref a15, .int (0), .ref a16, .ref a17, .ref a18, .ref a19, .ref a20, .ref a21, .ref a22])), (a4, .inr (11, [.int (0), .ref a23, .ref a24, .ref a25, .ref a26, .ref a27, .ref a28, .ref a29, .ref a30, .ref a31]))] sz)) 1 6 (va_A [(a0, .inr (12, [.ref a2, .ref a3, .ref a4, .ref a5, .ref a6, .ref a7, .ref a8, .ref a9, .null, .ref a10, .ref a11, .int (0), .int (100), .int (0), .int (0), .int (-1), .long (0), .int (1)])), (a2, .inr (8, [.int (0), .ref a12, .ref a13, .ref a14, .ref a15, .int (0), .ref a16, .ref a17, .ref a18, .ref a19, .ref a20, .ref a21, .ref a22])), (a4, .inr (11, [.int (0), .ref a23, .ref a24, .ref a25, .ref a26, .ref a27, .ref a28, .ref a29, .ref a30, .ref a31]))] sz) := by
  refine n_metW (by decide +kernel) q1040 (Nat.le_of_ble_eq_true rfl) (fun f => some (.int (2))) (fun f r => []) ?_
  intro p e s m below meth c A ls ⟨hx, hb, hr, hml, hown, hts, hlk, hnm⟩ htab hE hP hD hA hl
  have hown : s.vm.findClass "MinestrataLaw" = some m.cls := hown
  have hK := hE.1
  have hS : va_S A s.heap s.heap [] := va_S.rf
  have hl : lv_has ls 6 [(0, .ref a0), (1, .int (111)), (2, .int s2), (3, .int s3), (4, .ref a1)] := hl
  refine lv_aload hx hb dL_step_0 (lv_at hl 4 rfl) ?_
  refine lv_iconst (v := (0)) hx hb dL_step_2 (by decide +kernel) ?_
  refine lv_aload_n hx hb dL_step_3 rfl (lv_at hl 0 rfl) ?_
  refine lv_iload_n hx hb dL_step_4 rfl (lv_at hl 1 rfl) ?_
  refine lv_iload_n hx hb dL_step_5 rfl (lv_at hl 2 rfl) ?_
  refine lv_iload_n hx hb dL_step_6 rfl (lv_at hl 3 rfl) ?_
  have hX : nCx p s m _ c method_10_code 6 "MinestrataLaw" dC dI g A [(a0, .inr (12, [.ref a2, .ref a3, .ref a4, .ref a5, .ref a6, .ref a7, .ref a8, .ref a9, .null, .ref a10, .ref a11, .int (0), .int (100), .int (0), .int (0), .int (-1), .long (0), .int (1)])), (a2, .inr (8, [.int (0), .ref a12, .ref a13, .ref a14, .ref a15, .int (0), .ref a16, .ref a17, .ref a18, .ref a19, .ref a20, .ref a21, .ref a22])), (a4, .inr (11, [.int (0), .ref a23, .ref a24, .ref a25, .ref a26, .ref a27, .ref a28, .ref a29, .ref a30, .ref a31]))] _ _ := ⟨⟨hx, hb, hml, hown, hts⟩, hE, hS, hA, hP, hD⟩
  refine n_callX (E0 := "java/lang/IndexOutOfBoundsException") hX (n_runVX (n := 3) (wc := [(a0, .inr (12, [.ref a2, .ref a3, .ref a4, .ref a5, .ref a6, .ref a7, .ref a8, .ref a9, .null, .ref a10, .ref a11, .int (0), .int (100), .int (0), .int (0), .int (-1), .long (0), .int (1)])), (a2, .inr (8, [.int (0), .ref a12, .ref a13, .ref a14, .ref a15, .int (0), .ref a16, .ref a17, .ref a18, .ref a19, .ref a20, .ref a21, .ref a22])), (a4, .inr (11, [.int (0), .ref a23, .ref a24, .ref a25, .ref a26, .ref a27, .ref a28, .ref a29, .ref a30, .ref a31]))]) (As := [.int (111), .int s2, .int s3]) (rest := [.int (0), .ref a1]) hX (m217 l hst dC dI g a0 a2 a3 a4 a5 a6 a7 a8 a9 a10 a11 a12 a13 a14 a15 a16 a17 a18 a19 a20 a21 a22 a23 a24 a25 a26 a27 a28 a29 a30 a31 s2 s3 e0 e1 _) [0, 1, 2] rfl (by decide +kernel) 0 (ci := 12) rfl (T := TX11) (N := 18) (C := "Minestrata") rfl q1042 q1043 q1044 q71 q1045 (by decide +kernel) ⟨(Nat.le_of_ble_eq_true rfl), (Nat.le_of_ble_eq_true rfl)⟩ ⟨(Nat.le_of_ble_eq_true rfl), (Nat.le_of_ble_eq_true rfl)⟩ hl.1 rfl rfl (Nat.le_of_ble_eq_true rfl) dL_step_7) [0, 1, 2] rfl (fun ce q9 H locs hS hce hcv hcl => ?_)
  refine n_catch (E := "java/lang/IndexOutOfBoundsException") (name := "java/lang/IndexOutOfBoundsException") hE hts hown htab [⟨0, 12, 15, 13⟩] ⟨0, 12, 19, 21⟩ [⟨0, 12, 23, 47⟩] rfl (List.forall_mem_cons.mpr ⟨Or.inr ⟨by decide, "java/lang/IllegalArgumentException", hts _ q808, hE.2.2.2.1 ("java/lang/IndexOutOfBoundsException", "java/lang/IllegalArgumentException") (by decide +kernel)⟩, (fun z hz => nomatch hz)⟩) (by decide +kernel) (by decide) q907 x950 hce hcv hcl ?_
  refine W.widen (k := 1) (n := 6) (Nat.le_of_ble_eq_true rfl) (Nat.le_of_ble_eq_true rfl) ?_
  refine W.eq (g2 := F0 m 19 ls [.ref q9]) rfl ?_
  refine lv_astore (lv' := [(5, .ref q9), (0, .ref a0), (1, .int (111)), (2, .int s2), (3, .int s3), (4, .ref a1)]) hx hb dL_step_19 hl (by decide) rfl (fun ls hl => ?_)
  refine lv_iconst (v := (2)) hx hb dL_step_21 (by decide +kernel) ?_
  refine W.widen (k := 1) (n := 6) (Nat.le_of_ble_eq_true rfl) (Nat.le_of_ble_eq_true rfl) ?_
  exact W.iret hx hb hr (n_end0 hS (fun _ => 0) rfl rfl) hS.2.2 dL_step_22 hlk

set_option maxHeartbeats 4000000 in
set_option maxRecDepth 100000 in
/-- MinestrataModel.in -/
theorem m219 (l : Launch) (hst : l.stackTraces = false) (dC : Nat → ClassId) (dI : Nat → Nat → Nat) (g : Nat → Nat) (s3 : Int32) (e0 : ¬ (s3 < (1))) (e1 : ¬ ((60) < s3)) (sz : Nat) :
    Met l Y22 (Cond.code Y22 prog_14_method_3_code 3 (Option.some Jvm.ClassFile.FieldType.boolean) :: AW) ({ frames := 0, cells := 0, slots := 0, locals := 0 } : Room) (nP dC dI g [.int s3, .int (1), .int (60)] [] sz) (nQ dC dI (fun f => some (.int (1))) (fun f r => []) (va_A [] sz)) 0 0 (va_A [] sz) := by
  refine n_met (by decide +kernel) (Nat.le_of_ble_eq_true rfl) (fun f => some (.int (1))) (fun f r => []) ?_
  intro p e s m below meth c A ls ⟨hx, hb, hr, hml, hown, hts, hlk, hnm⟩ hE hP hD hA hl
  have hown : s.vm.findClass "MinestrataModel" = some m.cls := hown
  have hK := hE.1
  have hS : va_S A s.heap s.heap [] := va_S.rf
  have hl : lv_has ls 3 [(0, .int s3), (1, .int (1)), (2, .int (60))] := hl
  refine lv_iload_n hx hb dX16_in_0 rfl (lv_at hl 0 rfl) ?_
  refine lv_iload_n hx hb dX16_in_1 rfl (lv_at hl 1 rfl) ?_
  refine lv_icmp_lt (tgt := 14) hx hb dX16_in_2 (by decide +kernel) (fun h => absurd h e0) (fun _ => ?_)
  refine lv_iload_n hx hb dX16_in_5 rfl (lv_at hl 0 rfl) ?_
  refine lv_iload_n hx hb dX16_in_6 rfl (lv_at hl 2 rfl) ?_
  refine lv_icmp_gt (tgt := 14) hx hb dX16_in_7 (by decide +kernel) (fun h => absurd h e1) (fun _ => ?_)
  refine lv_iconst (v := (1)) hx hb dX16_in_10 (by decide +kernel) ?_
  refine lv_goto (tgt := 15) hx hb dX16_in_11 (by decide +kernel) ?_
  refine W.widen (k := 0) (n := 0) (Nat.le_of_ble_eq_true rfl) (Nat.le_of_ble_eq_true rfl) ?_
  exact W.zret hx hb hr (by decide +kernel) (n_end hS hP hD [] (by decide +kernel) (fun _ => 0) (fun _ => 0) rfl rfl rfl) hS.2.2 dX16_in_15 hlk

set_option maxHeartbeats 4000000 in
set_option maxRecDepth 100000 in
/-- MinestrataModel.isValue -/
theorem m220 (l : Launch) (hst : l.stackTraces = false) (dC : Nat → ClassId) (dI : Nat → Nat → Nat) (g : Nat → Nat) (s3 : Int32) (e0 : ¬ (s3 < (1))) (e1 : ¬ ((60) < s3)) (sz : Nat) :
    Met l Y51 (Cond.code Y51 prog_14_method_37_code 2 (Option.some Jvm.ClassFile.FieldType.boolean) :: AW) ({ frames := 1, cells := 0, slots := 0, locals := 22 } : Room) (nP dC dI g [.int (111), .int s3] [] sz) (nQ dC dI (fun f => some (.int (1))) (fun f r => []) (va_A [] sz)) 0 0 (va_A [] sz) := by
  refine n_met (by decide +kernel) (Nat.le_of_ble_eq_true rfl) (fun f => some (.int (1))) (fun f r => []) ?_
  intro p e s m below meth c A ls ⟨hx, hb, hr, hml, hown, hts, hlk, hnm⟩ hE hP hD hA hl
  have hown : s.vm.findClass "MinestrataModel" = some m.cls := hown
  have hK := hE.1
  have hS : va_S A s.heap s.heap [] := va_S.rf
  have hl : lv_has ls 2 [(0, .int (111)), (1, .int s3)] := hl
  refine lv_iload_n hx hb dX16_isValue_0 rfl (lv_at hl 0 rfl) ?_
  refine lv_tableIn (tgt := 120) (off := 119) hx hb dX16_isValue_1 (by decide +kernel) (by decide +kernel) rfl (by decide +kernel) ?_
  refine lv_iload_n hx hb dX16_isValue_120 rfl (lv_at hl 1 rfl) ?_
  refine lv_iconst (v := (1)) hx hb dX16_isValue_121 (by decide +kernel) ?_
  refine lv_bipush (v := (60)) hx hb dX16_isValue_122 (by decide +kernel) ?_
  have hX : nCx p s m _ c prog_14_method_37_code 2 "MinestrataModel" dC dI g A [] _ _ := ⟨⟨hx, hb, hml, hown, hts⟩, hE, hS, hA, hP, hD⟩
  refine n_call (wr := []) hX (n_runS (n := 3) (wc := []) (As := [.int s3, .int (1), .int (60)]) (rest := []) hX (m219 l hst dC dI g s3 e0 e1 _) [] rfl (by decide +kernel) q1503 q1504 q82 q1505 (by decide +kernel) ⟨(Nat.le_of_ble_eq_true rfl), (Nat.le_of_ble_eq_true rfl)⟩ ⟨(Nat.le_of_ble_eq_true rfl), (Nat.le_of_ble_eq_true rfl)⟩ hl.1 rfl rfl (Nat.le_of_ble_eq_true rfl) dX16_isValue_124) [] [] rfl rfl (by decide +kernel) (by decide +kernel) (fun f1 r2 H locs hP hD hS => ?_)
  have hP : va_P (dC, dI) CL [] _ := hP
  have hD : va_D A [] := hD
  refine W.widen (k := 0) (n := 0) (Nat.le_of_ble_eq_true rfl) (Nat.le_of_ble_eq_true rfl) ?_
  refine W.eq (g2 := F0 m 127 ls [.int (1)]) rfl ?_
  refine W.widen (k := 0) (n := 0) (Nat.le_of_ble_eq_true rfl) (Nat.le_of_ble_eq_true rfl) ?_
  exact W.zret hx hb hr (by decide +kernel) (n_end hS hP hD [] (by decide +kernel) (fun _ => 0) (fun _ => 0) rfl rfl rfl) hS.2.2 dX16_isValue_127 hlk

set_option maxHeartbeats 4000000 in
set_option maxRecDepth 100000 in
/-- MinestrataModel.isThere -/
theorem m221 (l : Launch) (hst : l.stackTraces = false) (dC : Nat → ClassId) (dI : Nat → Nat → Nat) (g : Nat → Nat) (a0 a1 a2 a3 a4 a5 a6 a7 a8 a9 a10 a11 a12 : Nat) (s2 : Int32) (sz : Nat) :
    Met l Y54 (Cond.code Y54 prog_14_method_38_code 3 (Option.some Jvm.ClassFile.FieldType.boolean) :: AW) ({ frames := 2, cells := 0, slots := 0, locals := 43 } : Room) (nP dC dI g [.ref a0, .int (111), .int s2] [(a0, .inr (15, [.int (0), .int (0), .int (100), .int (0), .int (0), .ref a1, .ref a2, .ref a3, .ref a4, .ref a5, .ref a6, .ref a7, .ref a8, .ref a9, .ref a10, .ref a11, .null, .int (-1), .ref a12, .long (0)])), (a9, .inr (1, [.int (0), .ref (g 21), .int (0)]))] sz) (nQ dC dI (fun f => some (.int (0))) (fun f r => [(a0, .inr (15, [.int (0), .int (0), .int (100), .int (0), .int (0), .ref a1, .ref a2, .ref a3, .ref a4, .ref a5, .ref a6, .ref a7, .ref a8, .ref a9, .ref a10, .ref a11, .null, .int (-1), .ref a12, .long (0)])), (a9, .inr (1, [.int (0), .ref (g 21), .int (0)]))]) (va_A [(a0, .inr (15, [.int (0), .int (0), .int (100), .int (0), .int (0), .ref a1, .ref a2, .ref a3, .ref a4, .ref a5, .ref a6, .ref a7, .ref a8, .ref a9, .ref a10, .ref a11, .null, .int (-1), .ref a12, .long (0)])), (a9, .inr (1, [.int (0), .ref (g 21), .int (0)]))] sz)) 0 0 (va_A [(a0, .inr (15, [.int (0), .int (0), .int (100), .int (0), .int (0), .ref a1, .ref a2, .ref a3, .ref a4, .ref a5, .ref a6, .ref a7, .ref a8, .ref a9, .ref a10, .ref a11, .null, .int (-1), .ref a12, .long (0)])), (a9, .inr (1, [.int (0), .ref (g 21), .int (0)]))] sz) := by
  refine n_met (by decide +kernel) (Nat.le_of_ble_eq_true rfl) (fun f => some (.int (0))) (fun f r => [(a0, .inr (15, [.int (0), .int (0), .int (100), .int (0), .int (0), .ref a1, .ref a2, .ref a3, .ref a4, .ref a5, .ref a6, .ref a7, .ref a8, .ref a9, .ref a10, .ref a11, .null, .int (-1), .ref a12, .long (0)])), (a9, .inr (1, [.int (0), .ref (g 21), .int (0)]))]) ?_
  intro p e s m below meth c A ls ⟨hx, hb, hr, hml, hown, hts, hlk, hnm⟩ hE hP hD hA hl
  have hown : s.vm.findClass "MinestrataModel" = some m.cls := hown
  have hK := hE.1
  have hS : va_S A s.heap s.heap [] := va_S.rf
  have hl : lv_has ls 3 [(0, .ref a0), (1, .int (111)), (2, .int s2)] := hl
  refine lv_iload_n hx hb dX16_isThere_0 rfl (lv_at hl 1 rfl) ?_
  refine lv_bipush (v := (100)) hx hb dX16_isThere_1 (by decide +kernel) ?_
  refine lv_icmp_eq (tgt := 18) hx hb dX16_isThere_3 (by decide +kernel) (fun h => absurd h (by decide +kernel)) (fun _ => ?_)
  refine lv_iload_n hx hb dX16_isThere_6 rfl (lv_at hl 1 rfl) ?_
  refine lv_bipush (v := (102)) hx hb dX16_isThere_7 (by decide +kernel) ?_
  refine lv_icmp_eq (tgt := 18) hx hb dX16_isThere_9 (by decide +kernel) (fun h => absurd h (by decide +kernel)) (fun _ => ?_)
  refine lv_iload_n hx hb dX16_isThere_12 rfl (lv_at hl 1 rfl) ?_
  refine lv_bipush (v := (98)) hx hb dX16_isThere_13 (by decide +kernel) ?_
  refine lv_icmp_ne (tgt := 35) hx hb dX16_isThere_15 (by decide +kernel) (fun _ => ?_) (fun h => absurd h (by decide +kernel))
  refine lv_iload_n hx hb dX16_isThere_35 rfl (lv_at hl 1 rfl) ?_
  refine lv_bipush (v := (115)) hx hb dX16_isThere_36 (by decide +kernel) ?_
  refine lv_icmp_eq (tgt := 47) hx hb dX16_isThere_38 (by decide +kernel) (fun h => absurd h (by decide +kernel)) (fun _ => ?_)
  refine lv_iload_n hx hb dX16_isThere_41 rfl (lv_at hl 1 rfl) ?_
  refine lv_bipush (v := (110)) hx hb dX16_isThere_42 (by decide +kernel) ?_
  refine lv_icmp_ne (tgt := 55) hx hb dX16_isThere_44 (by decide +kernel) (fun _ => ?_) (fun h => absurd h (by decide +kernel))
  refine lv_aload_n hx hb dX16_isThere_55 rfl (lv_at hl 0 rfl) ?_
  refine lv_iload_n hx hb dX16_isThere_56 rfl (lv_at hl 2 rfl) ?_
  have hX : nCx p s m _ c prog_14_method_38_code 3 "MinestrataModel" dC dI g A [(a0, .inr (15, [.int (0), .int (0), .int (100), .int (0), .int (0), .ref a1, .ref a2, .ref a3, .ref a4, .ref a5, .ref a6, .ref a7, .ref a8, .ref a9, .ref a10, .ref a11, .null, .int (-1), .ref a12, .long (0)])), (a9, .inr (1, [.int (0), .ref (g 21), .int (0)]))] _ _ := ⟨⟨hx, hb, hml, hown, hts⟩, hE, hS, hA, hP, hD⟩
  refine n_call (wr := []) hX (n_runV (n := 1) (wc := [(a0, .inr (15, [.int (0), .int (0), .int (100), .int (0), .int (0), .ref a1, .ref a2, .ref a3, .ref a4, .ref a5, .ref a6, .ref a7, .ref a8, .ref a9, .ref a10, .ref a11, .null, .int (-1), .ref a12, .long (0)])), (a9, .inr (1, [.int (0), .ref (g 21), .int (0)]))]) (As := [.int s2]) (rest := []) hX (m197 l hst dC dI g a0 a1 a2 a3 a4 a5 a6 a7 a8 a9 a10 a11 a12 s2 _) [0, 1] rfl (by decide +kernel) 0 (ci := 15) rfl (T := TX16) (N := 20) (C := "MinestrataModel") rfl q1679 q1681 q45 q82 q1682 (by decide +kernel) ⟨(Nat.le_of_ble_eq_true rfl), (Nat.le_of_ble_eq_true rfl)⟩ ⟨(Nat.le_of_ble_eq_true rfl), (Nat.le_of_ble_eq_true rfl)⟩ hl.1 rfl rfl (Nat.le_of_ble_eq_true rfl) dX16_isThere_57) [0, 1] [] rfl rfl (by decide +kernel) (by decide +kernel) (fun f1 r2 H locs hP hD hS => ?_)
  have hP : va_P (dC, dI) CL [(a0, .inr (15, [.int (0), .int (0), .int (100), .int (0), .int (0), .ref a1, .ref a2, .ref a3, .ref a4, .ref a5, .ref a6, .ref a7, .ref a8, .ref a9, .ref a10, .ref a11, .null, .int (-1), .ref a12, .long (0)])), (a9, .inr (1, [.int (0), .ref (g 21), .int (0)]))] _ := hP
  have hD : va_D A [(a0, .inr (15, [.int (0), .int (0), .int (100), .int (0), .int (0), .ref a1, .ref a2, .ref a3, .ref a4, .ref a5, .ref a6, .ref a7, .ref a8, .ref a9, .ref a10, .ref a11, .null, .int (-1), .ref a12, .long (0)])), (a9, .inr (1, [.int (0), .ref (g 21), .int (0)]))] := hD
  refine W.widen (k := 0) (n := 0) (Nat.le_of_ble_eq_true rfl) (Nat.le_of_ble_eq_true rfl) ?_
  refine W.eq (g2 := F0 m 60 ls [.int (0)]) rfl ?_
  refine W.widen (k := 0) (n := 0) (Nat.le_of_ble_eq_true rfl) (Nat.le_of_ble_eq_true rfl) ?_
  exact W.zret hx hb hr (by decide +kernel) (n_end hS hP hD [0, 1] (by decide +kernel) (fun _ => 0) (fun _ => 0) rfl rfl rfl) hS.2.2 dX16_isThere_60 hlk

set_option maxHeartbeats 4000000 in
set_option maxRecDepth 100000 in
/-- MinestrataModel.step -/
theorem m222 (l : Launch) (hst : l.stackTraces = false) (dC : Nat → ClassId) (dI : Nat → Nat → Nat) (g : Nat → Nat) (a0 a1 a2 a3 a4 a5 a6 a7 a8 a9 a10 a11 a12 : Nat) (s2 s3 : Int32) (e0 : ¬ (s3 < (1))) (e1 : ¬ ((60) < s3)) (sz : Nat) :
    Met l Y50 (Cond.code Y50 prog_14_method_41_code 9 (Option.some Jvm.ClassFile.FieldType.char) :: AW) ({ frames := 3, cells := 0, slots := 0, locals := 65 } : Room) (nP dC dI g [.ref a0, .int (111), .int s2, .int s3] [(a0, .inr (15, [.int (0), .int (0), .int (100), .int (0), .int (0), .ref a1, .ref a2, .ref a3, .ref a4, .ref a5, .ref a6, .ref a7, .ref a8, .ref a9, .ref a10, .ref a11, .null, .int (-1), .ref a12, .long (0)])), (a9, .inr (1, [.int (0), .ref (g 21), .int (0)]))] sz) (nQ dC dI (fun f => some (.int (32))) (fun f r => [(a0, .inr (15, [.int (2), .int (0), .int (100), .int (0), .int (0), .ref a1, .ref a2, .ref a3, .ref a4, .ref a5, .ref a6, .ref a7, .ref a8, .ref a9, .ref a10, .ref a11, .null, .int (-1), .ref a12, .long (0)])), (a9, .inr (1, [.int (0), .ref (g 21), .int (0)]))]) (va_A [(a0, .inr (15, [.int (0), .int (0), .int (100), .int (0), .int (0), .ref a1, .ref a2, .ref a3, .ref a4, .ref a5, .ref a6, .ref a7, .ref a8, .ref a9, .ref a10, .ref a11, .null, .int (-1), .ref a12, .long (0)])), (a9, .inr (1, [.int (0), .ref (g 21), .int (0)]))] sz)) 0 0 (va_A [(a0, .inr (15, [.int (0), .int (0), .int (100), .int (0), .int (0), .ref a1, .ref a2, .ref a3, .ref a4, .ref a5, .ref a6, .ref a7, .ref a8, .ref a9, .ref a10, .ref a11, .null, .int (-1), .ref a12, .long (0)])), (a9, .inr (1, [.int (0), .ref (g 21), .int (0)]))] sz) := by
  refine n_met (by decide +kernel) (Nat.le_of_ble_eq_true rfl) (fun f => some (.int (32))) (fun f r => [(a0, .inr (15, [.int (2), .int (0), .int (100), .int (0), .int (0), .ref a1, .ref a2, .ref a3, .ref a4, .ref a5, .ref a6, .ref a7, .ref a8, .ref a9, .ref a10, .ref a11, .null, .int (-1), .ref a12, .long (0)])), (a9, .inr (1, [.int (0), .ref (g 21), .int (0)]))]) ?_
  intro p e s m below meth c A ls ⟨hx, hb, hr, hml, hown, hts, hlk, hnm⟩ hE hP hD hA hl
  have hown : s.vm.findClass "MinestrataModel" = some m.cls := hown
  have hK := hE.1
  have hS : va_S A s.heap s.heap [] := va_S.rf
  have hl : lv_has ls 9 [(0, .ref a0), (1, .int (111)), (2, .int s2), (3, .int s3)] := hl
  refine lv_aload_n hx hb dX16_step_0 rfl (lv_at hl 0 rfl) ?_
  refine lv_iload_n hx hb dX16_step_1 rfl (lv_at hl 1 rfl) ?_
  refine lv_iload_n hx hb dX16_step_2 rfl (lv_at hl 3 rfl) ?_
  have hX : nCx p s m _ c prog_14_method_41_code 9 "MinestrataModel" dC dI g A [(a0, .inr (15, [.int (0), .int (0), .int (100), .int (0), .int (0), .ref a1, .ref a2, .ref a3, .ref a4, .ref a5, .ref a6, .ref a7, .ref a8, .ref a9, .ref a10, .ref a11, .null, .int (-1), .ref a12, .long (0)])), (a9, .inr (1, [.int (0), .ref (g 21), .int (0)]))] _ _ := ⟨⟨hx, hb, hml, hown, hts⟩, hE, hS, hA, hP, hD⟩
  refine n_call (wr := [(a0, .inr (15, [.int (0), .int (0), .int (100), .int (0), .int (0), .ref a1, .ref a2, .ref a3, .ref a4, .ref a5, .ref a6, .ref a7, .ref a8, .ref a9, .ref a10, .ref a11, .null, .int (-1), .ref a12, .long (0)])), (a9, .inr (1, [.int (0), .ref (g 21), .int (0)]))]) hX (n_runS (n := 2) (wc := []) (As := [.int (111), .int s3]) (rest := [.ref a0]) hX (m220 l hst dC dI g s3 e0 e1 _) [] rfl (by decide +kernel) q2107 q2108 q82 q2109 (by decide +kernel) ⟨(Nat.le_of_ble_eq_true rfl), (Nat.le_of_ble_eq_true rfl)⟩ ⟨(Nat.le_of_ble_eq_true rfl), (Nat.le_of_ble_eq_true rfl)⟩ hl.1 rfl rfl (Nat.le_of_ble_eq_true rfl) dX16_step_3) [] [0, 1] rfl rfl (by decide +kernel) (by decide +kernel) (fun f1 r2 H locs hP hD hS => ?_)
  have hP : va_P (dC, dI) CL [(a0, .inr (15, [.int (0), .int (0), .int (100), .int (0), .int (0), .ref a1, .ref a2, .ref a3, .ref a4, .ref a5, .ref a6, .ref a7, .ref a8, .ref a9, .ref a10, .ref a11, .null, .int (-1), .ref a12, .long (0)])), (a9, .inr (1, [.int (0), .ref (g 21), .int (0)]))] _ := hP
  have hD : va_D A [(a0, .inr (15, [.int (0), .int (0), .int (100), .int (0), .int (0), .ref a1, .ref a2, .ref a3, .ref a4, .ref a5, .ref a6, .ref a7, .ref a8, .ref a9, .ref a10, .ref a11, .null, .int (-1), .ref a12, .long (0)])), (a9, .inr (1, [.int (0), .ref (g 21), .int (0)]))] := hD
  refine W.widen (k := 0) (n := 0) (Nat.le_of_ble_eq_true rfl) (Nat.le_of_ble_eq_true rfl) ?_
  refine W.eq (g2 := F0 m 6 ls [.int (1), .ref a0]) rfl ?_
  refine lv_if_ne (tgt := 13) hx hb dX16_step_6 (by decide +kernel) (fun _ => ?_) (fun h => absurd h (by decide +kernel))
  refine lv_aload_n hx hb dX16_step_13 rfl (lv_at hl 0 rfl) ?_
  refine lv_iload_n hx hb dX16_step_14 rfl (lv_at hl 1 rfl) ?_
  refine lv_iload_n hx hb dX16_step_15 rfl (lv_at hl 2 rfl) ?_
  have hX : nCx p s m _ c prog_14_method_41_code 9 "MinestrataModel" dC dI g A [(a0, .inr (15, [.int (0), .int (0), .int (100), .int (0), .int (0), .ref a1, .ref a2, .ref a3, .ref a4, .ref a5, .ref a6, .ref a7, .ref a8, .ref a9, .ref a10, .ref a11, .null, .int (-1), .ref a12, .long (0)])), (a9, .inr (1, [.int (0), .ref (g 21), .int (0)]))] _ _ := ⟨⟨hx, hb, hml, hown, hts⟩, hE, hS, hA, hP, hD⟩
  refine n_call (wr := []) hX (n_runV (n := 2) (wc := [(a0, .inr (15, [.int (0), .int (0), .int (100), .int (0), .int (0), .ref a1, .ref a2, .ref a3, .ref a4, .ref a5, .ref a6, .ref a7, .ref a8, .ref a9, .ref a10, .ref a11, .null, .int (-1), .ref a12, .long (0)])), (a9, .inr (1, [.int (0), .ref (g 21), .int (0)]))]) (As := [.int (111), .int s2]) (rest := [.ref a0]) hX (m221 l hst dC dI g a0 a1 a2 a3 a4 a5 a6 a7 a8 a9 a10 a11 a12 s2 _) [0, 1] rfl (by decide +kernel) 0 (ci := 15) rfl (T := TX16) (N := 20) (C := "MinestrataModel") rfl q2110 q2112 q63 q82 q2113 (by decide +kernel) ⟨(Nat.le_of_ble_eq_true rfl), (Nat.le_of_ble_eq_true rfl)⟩ ⟨(Nat.le_of_ble_eq_true rfl), (Nat.le_of_ble_eq_true rfl)⟩ hl.1 rfl rfl (Nat.le_of_ble_eq_true rfl) dX16_step_16) [0, 1] [] rfl rfl (by decide +kernel) (by decide +kernel) (fun f3 r4 H locs hP hD hS => ?_)
  have hP : va_P (dC, dI) CL [(a0, .inr (15, [.int (0), .int (0), .int (100), .int (0), .int (0), .ref a1, .ref a2, .ref a3, .ref a4, .ref a5, .ref a6, .ref a7, .ref a8, .ref a9, .ref a10, .ref a11, .null, .int (-1), .ref a12, .long (0)])), (a9, .inr (1, [.int (0), .ref (g 21), .int (0)]))] _ := hP
  have hD : va_D A [(a0, .inr (15, [.int (0), .int (0), .int (100), .int (0), .int (0), .ref a1, .ref a2, .ref a3, .ref a4, .ref a5, .ref a6, .ref a7, .ref a8, .ref a9, .ref a10, .ref a11, .null, .int (-1), .ref a12, .long (0)])), (a9, .inr (1, [.int (0), .ref (g 21), .int (0)]))] := hD
  refine W.widen (k := 0) (n := 0) (Nat.le_of_ble_eq_true rfl) (Nat.le_of_ble_eq_true rfl) ?_
  refine W.eq (g2 := F0 m 19 ls [.int (0), .ref a0]) rfl ?_
  refine lv_if_ne (tgt := 26) hx hb dX16_step_19 (by decide +kernel) (fun h => absurd (by decide +kernel) h) (fun _ => ?_)
  refine lv_iconst (v := (2)) hx hb dX16_step_22 (by decide +kernel) ?_
  refine lv_goto (tgt := 41) hx hb dX16_step_23 (by decide +kernel) ?_
  refine va_put (D := (dC, dI)) (ci := 15) (v := .int (2)) (ty := .int) (C := "MinestrataModel") (T := TX16) (N := 20) hx hb hts inX16 tyX16 tyX16_ok nmX16 hown hK hP hD hS 0 rfl rfl 0 (by decide) (hts _ q1427) (fun _ h9 => h9) rfl (by decide +kernel) rfl rfl (Nat.le_of_ble_eq_true rfl) dX16_step_41 (fun H locs hP hD hS => ?_)
  have hP : va_P (dC, dI) CL [(a0, .inr (15, [.int (2), .int (0), .int (100), .int (0), .int (0), .ref a1, .ref a2, .ref a3, .ref a4, .ref a5, .ref a6, .ref a7, .ref a8, .ref a9, .ref a10, .ref a11, .null, .int (-1), .ref a12, .long (0)])), (a9, .inr (1, [.int (0), .ref (g 21), .int (0)]))] _ := hP
  have hD : va_D A [(a0, .inr (15, [.int (2), .int (0), .int (100), .int (0), .int (0), .ref a1, .ref a2, .ref a3, .ref a4, .ref a5, .ref a6, .ref a7, .ref a8, .ref a9, .ref a10, .ref a11, .null, .int (-1), .ref a12, .long (0)])), (a9, .inr (1, [.int (0), .ref (g 21), .int (0)]))] := hD
  refine lv_aload_n hx hb dX16_step_44 rfl (lv_at hl 0 rfl) ?_
  refine va_get (D := (dC, dI)) (ci := 15) (v := .int (2)) (C := "MinestrataModel") (T := TX16) (N := 20) hx hb hts inX16 hown hK hP 0 rfl rfl 0 (by decide) (hts _ q1427) (fun _ h9 => h9) rfl dX16_step_45 ?_
  refine lv_if_le (tgt := 54) hx hb dX16_step_48 (by decide +kernel) (fun h => absurd h (by decide +kernel)) (fun _ => ?_)
  refine lv_bipush (v := (32)) hx hb dX16_step_51 (by decide +kernel) ?_
  refine W.widen (k := 0) (n := 0) (Nat.le_of_ble_eq_true rfl) (Nat.le_of_ble_eq_true rfl) ?_
  exact W.zret hx hb hr (by decide +kernel) (n_end hS hP hD [0, 1] (by decide +kernel) (fun _ => 0) (fun _ => 0) rfl rfl rfl) hS.2.2 dX16_step_53 hlk

set_option maxHeartbeats 4000000 in
set_option maxRecDepth 100000 in
/-- Minestrata.isStepValue -/
theorem m223 (l : Launch) (hst : l.stackTraces = false) (dC : Nat → ClassId) (dI : Nat → Nat → Nat) (g : Nat → Nat) (s3 k1 : Int32) (e0 : ¬ (k1 = (100))) (e1 : ¬ (k1 = (98))) (e2 : ¬ (k1 = (102))) (e3 : ¬ (k1 = (110))) (e4 : ¬ (k1 = (115))) (e5 : ¬ (k1 = (99))) (e6 : ¬ (k1 = (111))) (sz : Nat) :
    Met l Y49 (Cond.code Y49 prog_1_method_44_code 2 (Option.some Jvm.ClassFile.FieldType.boolean) :: AW) ({ frames := 1, cells := 0, slots := 0, locals := 22 } : Room) (nP dC dI g [.int k1, .int s3] [] sz) (nQ dC dI (fun f => some (.int (0))) (fun f r => []) (va_A [] sz)) 0 0 (va_A [] sz) := by
  refine n_met (by decide +kernel) (Nat.le_of_ble_eq_true rfl) (fun f => some (.int (0))) (fun f r => []) ?_
  intro p e s m below meth c A ls ⟨hx, hb, hr, hml, hown, hts, hlk, hnm⟩ hE hP hD hA hl
  have hown : s.vm.findClass "Minestrata" = some m.cls := hown
  have hK := hE.1
  have hS : va_S A s.heap s.heap [] := va_S.rf
  have hl : lv_has ls 2 [(0, .int k1), (1, .int s3)] := hl
  refine lv_iload_n hx hb dX11_isStepValue_0 rfl (lv_at hl 0 rfl) ?_
  refine lv_bipush (v := (100)) hx hb dX11_isStepValue_1 (by decide +kernel) ?_
  refine lv_icmp_eq (tgt := 12) hx hb dX11_isStepValue_3 (by decide +kernel) (fun h => absurd h e0) (fun _ => ?_)
  refine lv_iload_n hx hb dX11_isStepValue_6 rfl (lv_at hl 0 rfl) ?_
  refine lv_bipush (v := (98)) hx hb dX11_isStepValue_7 (by decide +kernel) ?_
  refine lv_icmp_ne (tgt := 19) hx hb dX11_isStepValue_9 (by decide +kernel) (fun _ => ?_) (fun h => absurd h e1)
  refine lv_iload_n hx hb dX11_isStepValue_19 rfl (lv_at hl 0 rfl) ?_
  refine lv_bipush (v := (102)) hx hb dX11_isStepValue_20 (by decide +kernel) ?_
  refine lv_icmp_eq (tgt := 31) hx hb dX11_isStepValue_22 (by decide +kernel) (fun h => absurd h e2) (fun _ => ?_)
  refine lv_iload_n hx hb dX11_isStepValue_25 rfl (lv_at hl 0 rfl) ?_
  refine lv_bipush (v := (110)) hx hb dX11_isStepValue_26 (by decide +kernel) ?_
  refine lv_icmp_ne (tgt := 40) hx hb dX11_isStepValue_28 (by decide +kernel) (fun _ => ?_) (fun h => absurd h e3)
  refine lv_iload_n hx hb dX11_isStepValue_40 rfl (lv_at hl 0 rfl) ?_
  refine lv_bipush (v := (115)) hx hb dX11_isStepValue_41 (by decide +kernel) ?_
  refine lv_icmp_ne (tgt := 54) hx hb dX11_isStepValue_43 (by decide +kernel) (fun _ => ?_) (fun h => absurd h e4)
  refine lv_iload_n hx hb dX11_isStepValue_54 rfl (lv_at hl 0 rfl) ?_
  refine lv_bipush (v := (99)) hx hb dX11_isStepValue_55 (by decide +kernel) ?_
  refine lv_icmp_eq (tgt := 76) hx hb dX11_isStepValue_57 (by decide +kernel) (fun h => absurd h e5) (fun _ => ?_)
  refine lv_iload_n hx hb dX11_isStepValue_60 rfl (lv_at hl 0 rfl) ?_
  refine lv_bipush (v := (111)) hx hb dX11_isStepValue_61 (by decide +kernel) ?_
  refine lv_icmp_ne (tgt := 80) hx hb dX11_isStepValue_63 (by decide +kernel) (fun _ => ?_) (fun h => absurd h e6)
  refine lv_iconst (v := (0)) hx hb dX11_isStepValue_80 (by decide +kernel) ?_
  refine W.widen (k := 0) (n := 0) (Nat.le_of_ble_eq_true rfl) (Nat.le_of_ble_eq_true rfl) ?_
  exact W.zret hx hb hr (by decide +kernel) (n_end hS hP hD [] (by decide +kernel) (fun _ => 0) (fun _ => 0) rfl rfl rfl) hS.2.2 dX11_isStepValue_81 hlk

set_option maxHeartbeats 4000000 in
set_option maxRecDepth 100000 in
/-- Minestrata.step -/
theorem m224 (l : Launch) (hst : l.stackTraces = false) (dC : Nat → ClassId) (dI : Nat → Nat → Nat) (g : Nat → Nat) (a0 a1 a2 a3 a4 a5 a6 a7 a8 a9 a10 a11 a12 a13 a14 a15 a16 a17 a18 a19 a20 a21 a22 a23 a24 a25 a26 a27 a28 a29 a30 : Nat) (s2 s3 k1 : Int32) (e0 : ¬ (k1 = (100))) (e1 : ¬ (k1 = (98))) (e2 : ¬ (k1 = (102))) (e3 : ¬ (k1 = (110))) (e4 : ¬ (k1 = (115))) (e5 : ¬ (k1 = (99))) (e6 : ¬ (k1 = (111))) (sz : Nat) :
    vx_Met l Y48 (Cond.code Y48 prog_1_method_9_code 5 (Option.some Jvm.ClassFile.FieldType.char) :: AW) ({ frames := 6, cells := 1, slots := 6, locals := 81 } : Room) (nP dC dI g [.ref a0, .int k1, .int s2, .int s3] [(a0, .inr (12, [.ref a1, .ref a2, .ref a3, .ref a4, .ref a5, .ref a6, .ref a7, .ref a8, .null, .ref a9, .ref a10, .int (0), .int (100), .int (0), .int (0), .int (-1), .long (0), .int (1)])), (a1, .inr (8, [.int (0), .ref a11, .ref a12, .ref a13, .ref a14, .int (0), .ref a15, .ref a16, .ref a17, .ref a18, .ref a19, .ref a20, .ref a21])), (a3, .inr (11, [.int (0), .ref a22, .ref a23, .ref a24, .ref a25, .ref a26, .ref a27, .ref a28, .ref a29, .ref a30]))] sz) (fun _ _ _ _ => False) (nX "java/lang/IllegalArgumentException" (va_A [(a0, .inr (12, [.ref a1, .ref a2, .ref a3, .ref a4, .ref a5, .ref a6, .ref a7, .ref a8, .null, .ref a9, .ref a10, .int (0), .int (100), .int (0), .int (0), .int (-1), .long (0), .int (1)])), (a1, .inr (8, [.int (0), .ref a11, .ref a12, .ref a13, .ref a14, .int (0), .ref a15, .ref a16, .ref a17, .ref a18, .ref a19, .ref a20, .ref a21])), (a3, .inr (11, [.int (0), .ref a22, .ref a23, .ref a24, .ref a25, .ref a26, .ref a27, .ref a28, .ref a29, .ref a30]))] sz)) 1 6 (va_A [(a0, .inr (12, [.ref a1, .ref a2, .ref a3, .ref a4, .ref a5, .ref a6, .ref a7, .ref a8, .null, .ref a9, .ref a10, .int (0), .int (100), .int (0), .int (0), .int (-1), .long (0), .int (1)])), (a1, .inr (8, [.int (0), .ref a11, .ref a12, .ref a13, .ref a14, .int (0), .ref a15, .ref a16, .ref a17, .ref a18, .ref a19, .ref a20, .ref a21])), (a3, .inr (11, [.int (0), .ref a22, .ref a23, .ref a24, .ref a25, .ref a26, .ref a27, .ref a28, .ref a29, .ref a30]))] sz) := by
  refine n_metX (by decide +kernel) (Nat.le_of_ble_eq_true rfl) "java/lang/IllegalArgumentException" ?_
  intro p e s m below meth c A ls ⟨hx, hb, hr, hml, hown, hts, hlk, hnm⟩ hout hE hP hD hA hl
  have hown : s.vm.findClass "Minestrata" = some m.cls := hown
  have hK := hE.1
  have hS : va_S A s.heap s.heap [] := va_S.rf
  have hl : lv_has ls 5 [(0, .ref a0), (1, .int k1), (2, .int s2), (3, .int s3)] := hl
  have hlsz : ls.size = c.maxLocals := hl.1.trans hml.symm
  refine lv_iload_n hx hb dX11_step_0 rfl (lv_at hl 1 rfl) ?_
  refine lv_iload_n hx hb dX11_step_1 rfl (lv_at hl 3 rfl) ?_
  have hX : nCx p s m _ c prog_1_method_9_code 5 "Minestrata" dC dI g A [(a0, .inr (12, [.ref a1, .ref a2, .ref a3, .ref a4, .ref a5, .ref a6, .ref a7, .ref a8, .null, .ref a9, .ref a10, .int (0), .int (100), .int (0), .int (0), .int (-1), .long (0), .int (1)])), (a1, .inr (8, [.int (0), .ref a11, .ref a12, .ref a13, .ref a14, .int (0), .ref a15, .ref a16, .ref a17, .ref a18, .ref a19, .ref a20, .ref a21])), (a3, .inr (11, [.int (0), .ref a22, .ref a23, .ref a24, .ref a25, .ref a26, .ref a27, .ref a28, .ref a29, .ref a30]))] _ _ := ⟨⟨hx, hb, hml, hown, hts⟩, hE, hS, hA, hP, hD⟩
  refine n_call (wr := [(a0, .inr (12, [.ref a1, .ref a2, .ref a3, .ref a4, .ref a5, .ref a6, .ref a7, .ref a8, .null, .ref a9, .ref a10, .int (0), .int (100), .int (0), .int (0), .int (-1), .long (0), .int (1)])), (a1, .inr (8, [.int (0), .ref a11, .ref a12, .ref a13, .ref a14, .int (0), .ref a15, .ref a16, .ref a17, .ref a18, .ref a19, .ref a20, .ref a21])), (a3, .inr (11, [.int (0), .ref a22, .ref a23, .ref a24, .ref a25, .ref a26, .ref a27, .ref a28, .ref a29, .ref a30]))]) hX (n_runS (n := 2) (wc := []) (As := [.int k1, .int s3]) (rest := []) hX (m223 l hst dC dI g s3 k1 e0 e1 e2 e3 e4 e5 e6 _) [] rfl (by decide +kernel) q1046 q1047 q71 q1048 (by decide +kernel) ⟨(Nat.le_of_ble_eq_true rfl), (Nat.le_of_ble_eq_true rfl)⟩ ⟨(Nat.le_of_ble_eq_true rfl), (Nat.le_of_ble_eq_true rfl)⟩ hl.1 rfl rfl (Nat.le_of_ble_eq_true rfl) dX11_step_2) [] [0, 1, 2] rfl rfl (by decide +kernel) (by decide +kernel) (fun f1 r2 H locs hP hD hS => ?_)
  have hP : va_P (dC, dI) CL [(a0, .inr (12, [.ref a1, .ref a2, .ref a3, .ref a4, .ref a5, .ref a6, .ref a7, .ref a8, .null, .ref a9, .ref a10, .int (0), .int (100), .int (0), .int (0), .int (-1), .long (0), .int (1)])), (a1, .inr (8, [.int (0), .ref a11, .ref a12, .ref a13, .ref a14, .int (0), .ref a15, .ref a16, .ref a17, .ref a18, .ref a19, .ref a20, .ref a21])), (a3, .inr (11, [.int (0), .ref a22, .ref a23, .ref a24, .ref a25, .ref a26, .ref a27, .ref a28, .ref a29, .ref a30]))] _ := hP
  have hD : va_D A [(a0, .inr (12, [.ref a1, .ref a2, .ref a3, .ref a4, .ref a5, .ref a6, .ref a7, .ref a8, .null, .ref a9, .ref a10, .int (0), .int (100), .int (0), .int (0), .int (-1), .long (0), .int (1)])), (a1, .inr (8, [.int (0), .ref a11, .ref a12, .ref a13, .ref a14, .int (0), .ref a15, .ref a16, .ref a17, .ref a18, .ref a19, .ref a20, .ref a21])), (a3, .inr (11, [.int (0), .ref a22, .ref a23, .ref a24, .ref a25, .ref a26, .ref a27, .ref a28, .ref a29, .ref a30]))] := hD
  refine W.widen (k := 0) (n := 0) (Nat.le_of_ble_eq_true rfl) (Nat.le_of_ble_eq_true rfl) ?_
  refine W.eq (g2 := F0 m 5 ls [.int (0)]) rfl ?_
  refine lv_if_ne (tgt := 16) hx hb dX11_step_5 (by decide +kernel) (fun h => absurd (by decide +kernel) h) (fun _ => ?_)
  exact n_throw hx hb hst hown hts hE hS (names := ["java/lang/RuntimeException", "java/lang/Exception"]) (by decide +kernel) (by decide +kernel) q817 q89 hat0p hat0a hat0 hat0g (hl.1.trans hml.symm) dX11_step_8 dX11_step_11 dX11_step_12 dX11_step_15 hout (Nat.le_of_ble_eq_true rfl) (Nat.le_of_ble_eq_true rfl) (Nat.le_of_ble_eq_true rfl) (Nat.le_of_ble_eq_true rfl) hlk (Nat.le_of_ble_eq_true rfl) (Nat.le_of_ble_eq_true rfl)

set_option maxHeartbeats 4000000 in
set_option maxRecDepth 100000 in
/-- MinestrataLaw.step -/
theorem m225 (l : Launch) (hst : l.stackTraces = false) (dC : Nat → ClassId) (dI : Nat → Nat → Nat) (g : Nat → Nat) (a0 a1 a2 a3 a4 a5 a6 a7 a8 a9 a10 a11 a12 a13 a14 a15 a16 a17 a18 a19 a20 a21 a22 a23 a24 a25 a26 a27 a28 a29 a30 a31 : Nat) (s2 s3 k1 : Int32) (e0 : ¬ (k1 = (100))) (e1 : ¬ (k1 = (98))) (e2 : ¬ (k1 = (102))) (e3 : ¬ (k1 = (110))) (e4 : ¬ (k1 = (115))) (e5 : ¬ (k1 = (99))) (e6 : ¬ (k1 = (111))) (sz : Nat) :
    Met l Y47 (Cond.codeWith Y47 method_10_code 6 (Option.some Jvm.ClassFile.FieldType.int) [((0 : Nat), (12 : Nat), (15 : Nat), (13 : Nat)), ((0 : Nat), (12 : Nat), (19 : Nat), (21 : Nat)), ((0 : Nat), (12 : Nat), (23 : Nat), (47 : Nat))] :: AW) ({ frames := 7, cells := 1, slots := 6, locals := 105 } : Room) (nP dC dI g [.ref a0, .int k1, .int s2, .int s3, .ref a1] [(a0, .inr (12, [.ref a2, .ref a3, .ref a4, .ref a5, .ref a6, .ref a7, .ref a8, .ref a9, .null, .ref a10, .ref a11, .int (0), .int (100), .int (0), .int (0), .int (-1), .long (0), .int (1)])), (a2, .inr (8, [.int (0), .ref a12, .ref a13, .ref a14, .ref a15, .int (0), .ref a16, .ref a17, .ref a18, .ref a19, .ref a20, .ref a21, .ref a22])), (a4, .inr (11, [.int (0), .ref a23, .ref a24, .ref a25, .ref a26, .ref a27, .ref a28, .ref a29, .ref a30, .ref a31]))] sz) (nQ dC dI (fun f => some (.int (1))) (fun f r => []) (va_A [(a0, .inr (12, [.ref a2, .ref a3, .ref a4, .ref a5, .ref a6, .ref a7, .ref a8, .ref a9, .null, .ref a10, .ref a11, .int (0), .int (100), .int (0), .int (0), .int (-1), .long (0), .int (1)])), (a2, .inr (8, [.int (0), .ref a12, .ref a13, .ref a14, .ref a15, .int (0), .ref a16, .ref a17, .ref a18, .ref a19, .ref a20, .ref a21, .ref a22])), (a4, .inr (11, [.int (0), .ref a23, .ref a24, .ref a25, .ref a26, .ref a27, .ref a28, .ref a29, .ref a30, .ref a31]))] sz)) 1 6 (va_A [(a0, .inr (12, [.ref a2, .ref a3, .ref a4, .ref a5, .ref a6, .ref a7, .ref a8, .ref a9, .null, .ref a10, .ref a11, .int (0), .int (100), .int (0), .int (0), .int (-1), .long (0), .int (1)])), (a2, .inr (8, [.int (0), .ref a12, .ref a13, .ref a14, .ref a15, .int (0), .ref a16, .ref a17, .ref a18, .ref a19, .ref a20, .ref a21, .ref a22])), (a4, .inr (11, [.int (0), .ref a23, .ref a24, .ref a25, .ref a26, .ref a27, .ref a28, .ref a29, .ref a30, .ref a31]))] sz) := by
  refine n_metW (by decide +kernel) q1040 (Nat.le_of_ble_eq_true rfl) (fun f => some (.int (1))) (fun f r => []) ?_
  intro p e s m below meth c A ls ⟨hx, hb, hr, hml, hown, hts, hlk, hnm⟩ htab hE hP hD hA hl
  have hown : s.vm.findClass "MinestrataLaw" = some m.cls := hown
  have hK := hE.1
  have hS : va_S A s.heap s.heap [] := va_S.rf
  have hl : lv_has ls 6 [(0, .ref a0), (1, .int k1), (2, .int s2), (3, .int s3), (4, .ref a1)] := hl
  refine lv_aload hx hb dL_step_0 (lv_at hl 4 rfl) ?_
  refine lv_iconst (v := (0)) hx hb dL_step_2 (by decide +kernel) ?_
  refine lv_aload_n hx hb dL_step_3 rfl (lv_at hl 0 rfl) ?_
  refine lv_iload_n hx hb dL_step_4 rfl (lv_at hl 1 rfl) ?_
  refine lv_iload_n hx hb dL_step_5 rfl (lv_at hl 2 rfl) ?_
  refine lv_iload_n hx hb dL_step_6 rfl (lv_at hl 3 rfl) ?_
  have hX : nCx p s m _ c method_10_code 6 "MinestrataLaw" dC dI g A [(a0, .inr (12, [.ref a2, .ref a3, .ref a4, .ref a5, .ref a6, .ref a7, .ref a8, .ref a9, .null, .ref a10, .ref a11, .int (0), .int (100), .int (0), .int (0), .int (-1), .long (0), .int (1)])), (a2, .inr (8, [.int (0), .ref a12, .ref a13, .ref a14, .ref a15, .int (0), .ref a16, .ref a17, .ref a18, .ref a19, .ref a20, .ref a21, .ref a22])), (a4, .inr (11, [.int (0), .ref a23, .ref a24, .ref a25, .ref a26, .ref a27, .ref a28, .ref a29, .ref a30, .ref a31]))] _ _ := ⟨⟨hx, hb, hml, hown, hts⟩, hE, hS, hA, hP, hD⟩
  refine n_callX (E0 := "java/lang/IllegalArgumentException") hX (n_runVX (n := 3) (wc := [(a0, .inr (12, [.ref a2, .ref a3, .ref a4, .ref a5, .ref a6, .ref a7, .ref a8, .ref a9, .null, .ref a10, .ref a11, .int (0), .int (100), .int (0), .int (0), .int (-1), .long (0), .int (1)])), (a2, .inr (8, [.int (0), .ref a12, .ref a13, .ref a14, .ref a15, .int (0), .ref a16, .ref a17, .ref a18, .ref a19, .ref a20, .ref a21, .ref a22])), (a4, .inr (11, [.int (0), .ref a23, .ref a24, .ref a25, .ref a26, .ref a27, .ref a28, .ref a29, .ref a30, .ref a31]))]) (As := [.int k1, .int s2, .int s3]) (rest := [.int (0), .ref a1]) hX (m224 l hst dC dI g a0 a2 a3 a4 a5 a6 a7 a8 a9 a10 a11 a12 a13 a14 a15 a16 a17 a18 a19 a20 a21 a22 a23 a24 a25 a26 a27 a28 a29 a30 a31 s2 s3 k1 e0 e1 e2 e3 e4 e5 e6 _) [0, 1, 2] rfl (by decide +kernel) 0 (ci := 12) rfl (T := TX11) (N := 18) (C := "Minestrata") rfl q1042 q1043 q1044 q71 q1045 (by decide +kernel) ⟨(Nat.le_of_ble_eq_true rfl), (Nat.le_of_ble_eq_true rfl)⟩ ⟨(Nat.le_of_ble_eq_true rfl), (Nat.le_of_ble_eq_true rfl)⟩ hl.1 rfl rfl (Nat.le_of_ble_eq_true rfl) dL_step_7) [0, 1, 2] rfl (fun ce q9 H locs hS hce hcv hcl => ?_)
  refine n_catch (E := "java/lang/IllegalArgumentException") (name := "java/lang/IllegalArgumentException") hE hts hown htab [] ⟨0, 12, 15, 13⟩ [⟨0, 12, 19, 21⟩, ⟨0, 12, 23, 47⟩] rfl (fun z hz => nomatch hz) (by decide +kernel) (by decide) q808 x819 hce hcv hcl ?_
  refine W.widen (k := 1) (n := 6) (Nat.le_of_ble_eq_true rfl) (Nat.le_of_ble_eq_true rfl) ?_
  refine W.eq (g2 := F0 m 15 ls [.ref q9]) rfl ?_
  refine lv_astore (lv' := [(5, .ref q9), (0, .ref a0), (1, .int k1), (2, .int s2), (3, .int s3), (4, .ref a1)]) hx hb dL_step_15 hl (by decide) rfl (fun ls hl => ?_)
  refine lv_iconst (v := (1)) hx hb dL_step_17 (by decide +kernel) ?_
  refine W.widen (k := 1) (n := 6) (Nat.le_of_ble_eq_true rfl) (Nat.le_of_ble_eq_true rfl) ?_
  exact W.iret hx hb hr (n_end0 hS (fun _ => 0) rfl rfl) hS.2.2 dL_step_18 hlk

set_option maxHeartbeats 4000000 in
set_option maxRecDepth 100000 in
/-- MinestrataModel.isValue -/
theorem m226 (l : Launch) (hst : l.stackTraces = false) (dC : Nat → ClassId) (dI : Nat → Nat → Nat) (g : Nat → Nat) (s3 k1 : Int32) (e0 : ¬ (k1 = (100))) (e1 : ¬ (k1 = (98))) (e2 : ¬ (k1 = (102))) (e3 : ¬ (k1 = (110))) (e4 : ¬ (k1 = (115))) (e5 : ¬ (k1 = (99))) (e6 : ¬ (k1 = (111))) (sz : Nat) :
    Met l Y51 (Cond.code Y51 prog_14_method_37_code 2 (Option.some Jvm.ClassFile.FieldType.boolean) :: AW) ({ frames := 0, cells := 0, slots := 0, locals := 0 } : Room) (nP dC dI g [.int k1, .int s3] [] sz) (nQ dC dI (fun f => some (.int (0))) (fun f r => []) (va_A [] sz)) 0 0 (va_A [] sz) := by
  refine n_met (by decide +kernel) (Nat.le_of_ble_eq_true rfl) (fun f => some (.int (0))) (fun f r => []) ?_
  intro p e s m below meth c A ls ⟨hx, hb, hr, hml, hown, hts, hlk, hnm⟩ hE hP hD hA hl
  have hown : s.vm.findClass "MinestrataModel" = some m.cls := hown
  have hK := hE.1
  have hS : va_S A s.heap s.heap [] := va_S.rf
  have hl : lv_has ls 2 [(0, .int k1), (1, .int s3)] := hl
  refine lv_iload_n hx hb dX16_isValue_0 rfl (lv_at hl 0 rfl) ?_
  by_cases h1 : k1 = (101)
  · skip
    subst h1
    refine lv_tableIn (tgt := 128) (off := 127) hx hb dX16_isValue_1 (by decide +kernel) (by decide +kernel) rfl (by decide +kernel) ?_
    refine lv_iload_n hx hb dX16_isValue_128 rfl (lv_at hl 0 rfl) ?_
    refine lv_bipush (v := (99)) hx hb dX16_isValue_129 (by decide +kernel) ?_
    refine lv_icmp_ne (tgt := 138) hx hb dX16_isValue_131 (by decide +kernel) (fun _ => ?_) (fun h => absurd h (by decide +kernel))
    refine lv_iconst (v := (0)) hx hb dX16_isValue_138 (by decide +kernel) ?_
    refine W.widen (k := 0) (n := 0) (Nat.le_of_ble_eq_true rfl) (Nat.le_of_ble_eq_true rfl) ?_
    exact W.zret hx hb hr (by decide +kernel) (n_end hS hP hD [] (by decide +kernel) (fun _ => 0) (fun _ => 0) rfl rfl rfl) hS.2.2 dX16_isValue_139 hlk
  · skip
    by_cases h2 : k1 = (103)
    · skip
      subst h2
      refine lv_tableIn (tgt := 128) (off := 127) hx hb dX16_isValue_1 (by decide +kernel) (by decide +kernel) rfl (by decide +kernel) ?_
      refine lv_iload_n hx hb dX16_isValue_128 rfl (lv_at hl 0 rfl) ?_
      refine lv_bipush (v := (99)) hx hb dX16_isValue_129 (by decide +kernel) ?_
      refine lv_icmp_ne (tgt := 138) hx hb dX16_isValue_131 (by decide +kernel) (fun _ => ?_) (fun h => absurd h (by decide +kernel))
      refine lv_iconst (v := (0)) hx hb dX16_isValue_138 (by decide +kernel) ?_
      refine W.widen (k := 0) (n := 0) (Nat.le_of_ble_eq_true rfl) (Nat.le_of_ble_eq_true rfl) ?_
      exact W.zret hx hb hr (by decide +kernel) (n_end hS hP hD [] (by decide +kernel) (fun _ => 0) (fun _ => 0) rfl rfl rfl) hS.2.2 dX16_isValue_139 hlk
    · skip
      by_cases h3 : k1 = (104)
      · skip
        subst h3
        refine lv_tableIn (tgt := 128) (off := 127) hx hb dX16_isValue_1 (by decide +kernel) (by decide +kernel) rfl (by decide +kernel) ?_
        refine lv_iload_n hx hb dX16_isValue_128 rfl (lv_at hl 0 rfl) ?_
        refine lv_bipush (v := (99)) hx hb dX16_isValue_129 (by decide +kernel) ?_
        refine lv_icmp_ne (tgt := 138) hx hb dX16_isValue_131 (by decide +kernel) (fun _ => ?_) (fun h => absurd h (by decide +kernel))
        refine lv_iconst (v := (0)) hx hb dX16_isValue_138 (by decide +kernel) ?_
        refine W.widen (k := 0) (n := 0) (Nat.le_of_ble_eq_true rfl) (Nat.le_of_ble_eq_true rfl) ?_
        exact W.zret hx hb hr (by decide +kernel) (n_end hS hP hD [] (by decide +kernel) (fun _ => 0) (fun _ => 0) rfl rfl rfl) hS.2.2 dX16_isValue_139 hlk
      · skip
        by_cases h4 : k1 = (105)
        · skip
          subst h4
          refine lv_tableIn (tgt := 128) (off := 127) hx hb dX16_isValue_1 (by decide +kernel) (by decide +kernel) rfl (by decide +kernel) ?_
          refine lv_iload_n hx hb dX16_isValue_128 rfl (lv_at hl 0 rfl) ?_
          refine lv_bipush (v := (99)) hx hb dX16_isValue_129 (by decide +kernel) ?_
          refine lv_icmp_ne (tgt := 138) hx hb dX16_isValue_131 (by decide +kernel) (fun _ => ?_) (fun h => absurd h (by decide +kernel))
          refine lv_iconst (v := (0)) hx hb dX16_isValue_138 (by decide +kernel) ?_
          refine W.widen (k := 0) (n := 0) (Nat.le_of_ble_eq_true rfl) (Nat.le_of_ble_eq_true rfl) ?_
          exact W.zret hx hb hr (by decide +kernel) (n_end hS hP hD [] (by decide +kernel) (fun _ => 0) (fun _ => 0) rfl rfl rfl) hS.2.2 dX16_isValue_139 hlk
        · skip
          by_cases h5 : k1 = (106)
          · skip
            subst h5
            refine lv_tableIn (tgt := 128) (off := 127) hx hb dX16_isValue_1 (by decide +kernel) (by decide +kernel) rfl (by decide +kernel) ?_
            refine lv_iload_n hx hb dX16_isValue_128 rfl (lv_at hl 0 rfl) ?_
            refine lv_bipush (v := (99)) hx hb dX16_isValue_129 (by decide +kernel) ?_
            refine lv_icmp_ne (tgt := 138) hx hb dX16_isValue_131 (by decide +kernel) (fun _ => ?_) (fun h => absurd h (by decide +kernel))
            refine lv_iconst (v := (0)) hx hb dX16_isValue_138 (by decide +kernel) ?_
            refine W.widen (k := 0) (n := 0) (Nat.le_of_ble_eq_true rfl) (Nat.le_of_ble_eq_true rfl) ?_
            exact W.zret hx hb hr (by decide +kernel) (n_end hS hP hD [] (by decide +kernel) (fun _ => 0) (fun _ => 0) rfl rfl rfl) hS.2.2 dX16_isValue_139 hlk
          · skip
            by_cases h6 : k1 = (107)
            · skip
              subst h6
              refine lv_tableIn (tgt := 128) (off := 127) hx hb dX16_isValue_1 (by decide +kernel) (by decide +kernel) rfl (by decide +kernel) ?_
              refine lv_iload_n hx hb dX16_isValue_128 rfl (lv_at hl 0 rfl) ?_
              refine lv_bipush (v := (99)) hx hb dX16_isValue_129 (by decide +kernel) ?_
              refine lv_icmp_ne (tgt := 138) hx hb dX16_isValue_131 (by decide +kernel) (fun _ => ?_) (fun h => absurd h (by decide +kernel))
              refine lv_iconst (v := (0)) hx hb dX16_isValue_138 (by decide +kernel) ?_
              refine W.widen (k := 0) (n := 0) (Nat.le_of_ble_eq_true rfl) (Nat.le_of_ble_eq_true rfl) ?_
              exact W.zret hx hb hr (by decide +kernel) (n_end hS hP hD [] (by decide +kernel) (fun _ => 0) (fun _ => 0) rfl rfl rfl) hS.2.2 dX16_isValue_139 hlk
            · skip
              by_cases h7 : k1 = (108)
              · skip
                subst h7
                refine lv_tableIn (tgt := 128) (off := 127) hx hb dX16_isValue_1 (by decide +kernel) (by decide +kernel) rfl (by decide +kernel) ?_
                refine lv_iload_n hx hb dX16_isValue_128 rfl (lv_at hl 0 rfl) ?_
                refine lv_bipush (v := (99)) hx hb dX16_isValue_129 (by decide +kernel) ?_
                refine lv_icmp_ne (tgt := 138) hx hb dX16_isValue_131 (by decide +kernel) (fun _ => ?_) (fun h => absurd h (by decide +kernel))
                refine lv_iconst (v := (0)) hx hb dX16_isValue_138 (by decide +kernel) ?_
                refine W.widen (k := 0) (n := 0) (Nat.le_of_ble_eq_true rfl) (Nat.le_of_ble_eq_true rfl) ?_
                exact W.zret hx hb hr (by decide +kernel) (n_end hS hP hD [] (by decide +kernel) (fun _ => 0) (fun _ => 0) rfl rfl rfl) hS.2.2 dX16_isValue_139 hlk
              · skip
                by_cases h8 : k1 = (109)
                · skip
                  subst h8
                  refine lv_tableIn (tgt := 128) (off := 127) hx hb dX16_isValue_1 (by decide +kernel) (by decide +kernel) rfl (by decide +kernel) ?_
                  refine lv_iload_n hx hb dX16_isValue_128 rfl (lv_at hl 0 rfl) ?_
                  refine lv_bipush (v := (99)) hx hb dX16_isValue_129 (by decide +kernel) ?_
                  refine lv_icmp_ne (tgt := 138) hx hb dX16_isValue_131 (by decide +kernel) (fun _ => ?_) (fun h => absurd h (by decide +kernel))
                  refine lv_iconst (v := (0)) hx hb dX16_isValue_138 (by decide +kernel) ?_
                  refine W.widen (k := 0) (n := 0) (Nat.le_of_ble_eq_true rfl) (Nat.le_of_ble_eq_true rfl) ?_
                  exact W.zret hx hb hr (by decide +kernel) (n_end hS hP hD [] (by decide +kernel) (fun _ => 0) (fun _ => 0) rfl rfl rfl) hS.2.2 dX16_isValue_139 hlk
                · skip
                  by_cases h9 : k1 = (112)
                  · skip
                    subst h9
                    refine lv_tableIn (tgt := 128) (off := 127) hx hb dX16_isValue_1 (by decide +kernel) (by decide +kernel) rfl (by decide +kernel) ?_
                    refine lv_iload_n hx hb dX16_isValue_128 rfl (lv_at hl 0 rfl) ?_
                    refine lv_bipush (v := (99)) hx hb dX16_isValue_129 (by decide +kernel) ?_
                    refine lv_icmp_ne (tgt := 138) hx hb dX16_isValue_131 (by decide +kernel) (fun _ => ?_) (fun h => absurd h (by decide +kernel))
                    refine lv_iconst (v := (0)) hx hb dX16_isValue_138 (by decide +kernel) ?_
                    refine W.widen (k := 0) (n := 0) (Nat.le_of_ble_eq_true rfl) (Nat.le_of_ble_eq_true rfl) ?_
                    exact W.zret hx hb hr (by decide +kernel) (n_end hS hP hD [] (by decide +kernel) (fun _ => 0) (fun _ => 0) rfl rfl rfl) hS.2.2 dX16_isValue_139 hlk
                  · skip
                    by_cases h10 : k1 = (113)
                    · skip
                      subst h10
                      refine lv_tableIn (tgt := 128) (off := 127) hx hb dX16_isValue_1 (by decide +kernel) (by decide +kernel) rfl (by decide +kernel) ?_
                      refine lv_iload_n hx hb dX16_isValue_128 rfl (lv_at hl 0 rfl) ?_
                      refine lv_bipush (v := (99)) hx hb dX16_isValue_129 (by decide +kernel) ?_
                      refine lv_icmp_ne (tgt := 138) hx hb dX16_isValue_131 (by decide +kernel) (fun _ => ?_) (fun h => absurd h (by decide +kernel))
                      refine lv_iconst (v := (0)) hx hb dX16_isValue_138 (by decide +kernel) ?_
                      refine W.widen (k := 0) (n := 0) (Nat.le_of_ble_eq_true rfl) (Nat.le_of_ble_eq_true rfl) ?_
                      exact W.zret hx hb hr (by decide +kernel) (n_end hS hP hD [] (by decide +kernel) (fun _ => 0) (fun _ => 0) rfl rfl rfl) hS.2.2 dX16_isValue_139 hlk
                    · skip
                      by_cases h11 : k1 = (114)
                      · skip
                        subst h11
                        refine lv_tableIn (tgt := 128) (off := 127) hx hb dX16_isValue_1 (by decide +kernel) (by decide +kernel) rfl (by decide +kernel) ?_
                        refine lv_iload_n hx hb dX16_isValue_128 rfl (lv_at hl 0 rfl) ?_
                        refine lv_bipush (v := (99)) hx hb dX16_isValue_129 (by decide +kernel) ?_
                        refine lv_icmp_ne (tgt := 138) hx hb dX16_isValue_131 (by decide +kernel) (fun _ => ?_) (fun h => absurd h (by decide +kernel))
                        refine lv_iconst (v := (0)) hx hb dX16_isValue_138 (by decide +kernel) ?_
                        refine W.widen (k := 0) (n := 0) (Nat.le_of_ble_eq_true rfl) (Nat.le_of_ble_eq_true rfl) ?_
                        exact W.zret hx hb hr (by decide +kernel) (n_end hS hP hD [] (by decide +kernel) (fun _ => 0) (fun _ => 0) rfl rfl rfl) hS.2.2 dX16_isValue_139 hlk
                      · skip
                        by_cases h12 : k1 < (98)
                        · skip
                          refine lv_tableOut (tgt := 128) hx hb dX16_isValue_1 (Or.inl (by have z := h12; simp only [n_lt, show ((98) : Int32).toInt = 98 from rfl] at z; exact z)) (by decide +kernel) ?_
                          refine lv_iload_n hx hb dX16_isValue_128 rfl (lv_at hl 0 rfl) ?_
                          refine lv_bipush (v := (99)) hx hb dX16_isValue_129 (by decide +kernel) ?_
                          refine lv_icmp_ne (tgt := 138) hx hb dX16_isValue_131 (by decide +kernel) (fun _ => ?_) (fun h => absurd h e5)
                          refine lv_iconst (v := (0)) hx hb dX16_isValue_138 (by decide +kernel) ?_
                          refine W.widen (k := 0) (n := 0) (Nat.le_of_ble_eq_true rfl) (Nat.le_of_ble_eq_true rfl) ?_
                          exact W.zret hx hb hr (by decide +kernel) (n_end hS hP hD [] (by decide +kernel) (fun _ => 0) (fun _ => 0) rfl rfl rfl) hS.2.2 dX16_isValue_139 hlk
                        · skip
                          refine lv_tableOut (tgt := 128) hx hb dX16_isValue_1 (Or.inr (by have z := (show (115) < k1 by have z0 := e0; have z1 := e1; have z2 := e2; have z3 := e3; have z4 := e4; have z5 := e5; have z6 := e6; have z7 := h1; have z8 := h2; have z9 := h3; have z10 := h4; have z11 := h5; have z12 := h6; have z13 := h7; have z14 := h8; have z15 := h9; have z16 := h10; have z17 := h11; have z18 := h12; simp only [n_lt, n_le, n_eq, show ((98) : Int32).toInt = 98 from rfl, show ((99) : Int32).toInt = 99 from rfl, show ((100) : Int32).toInt = 100 from rfl, show ((101) : Int32).toInt = 101 from rfl, show ((102) : Int32).toInt = 102 from rfl, show ((103) : Int32).toInt = 103 from rfl, show ((104) : Int32).toInt = 104 from rfl, show ((105) : Int32).toInt = 105 from rfl, show ((106) : Int32).toInt = 106 from rfl, show ((107) : Int32).toInt = 107 from rfl, show ((108) : Int32).toInt = 108 from rfl, show ((109) : Int32).toInt = 109 from rfl, show ((110) : Int32).toInt = 110 from rfl, show ((111) : Int32).toInt = 111 from rfl, show ((112) : Int32).toInt = 112 from rfl, show ((113) : Int32).toInt = 113 from rfl, show ((114) : Int32).toInt = 114 from rfl, show ((115) : Int32).toInt = 115 from rfl] at z0 z1 z2 z3 z4 z5 z6 z7 z8 z9 z10 z11 z12 z13 z14 z15 z16 z17 z18 ⊢; omega); simp only [n_lt, show ((115) : Int32).toInt = 115 from rfl] at z; exact z)) (by decide +kernel) ?_
                          refine lv_iload_n hx hb dX16_isValue_128 rfl (lv_at hl 0 rfl) ?_
                          refine lv_bipush (v := (99)) hx hb dX16_isValue_129 (by decide +kernel) ?_
                          refine lv_icmp_ne (tgt := 138) hx hb dX16_isValue_131 (by decide +kernel) (fun _ => ?_) (fun h => absurd h e5)
                          refine lv_iconst (v := (0)) hx hb dX16_isValue_138 (by decide +kernel) ?_
                          refine W.widen (k := 0) (n := 0) (Nat.le_of_ble_eq_true rfl) (Nat.le_of_ble_eq_true rfl) ?_
                          exact W.zret hx hb hr (by decide +kernel) (n_end hS hP hD [] (by decide +kernel) (fun _ => 0) (fun _ => 0) rfl rfl rfl) hS.2.2 dX16_isValue_139 hlk

set_option maxHeartbeats 4000000 in
set_option maxRecDepth 100000 in
/-- MinestrataModel.step -/
theorem m227 (l : Launch) (hst : l.stackTraces = false) (dC : Nat → ClassId) (dI : Nat → Nat → Nat) (g : Nat → Nat) (a0 a1 a2 a3 a4 a5 a6 a7 a8 a9 a10 a11 a12 : Nat) (s2 s3 k1 : Int32) (e0 : ¬ (k1 = (100))) (e1 : ¬ (k1 = (98))) (e2 : ¬ (k1 = (102))) (e3 : ¬ (k1 = (110))) (e4 : ¬ (k1 = (115))) (e5 : ¬ (k1 = (99))) (e6 : ¬ (k1 = (111))) (sz : Nat) :
    Met l Y50 (Cond.code Y50 prog_14_method_41_code 9 (Option.some Jvm.ClassFile.FieldType.char) :: AW) ({ frames := 1, cells := 0, slots := 0, locals := 21 } : Room) (nP dC dI g [.ref a0, .int k1, .int s2, .int s3] [(a0, .inr (15, [.int (0), .int (0), .int (100), .int (0), .int (0), .ref a1, .ref a2, .ref a3, .ref a4, .ref a5, .ref a6, .ref a7, .ref a8, .ref a9, .ref a10, .ref a11, .null, .int (-1), .ref a12, .long (0)]))] sz) (nQ dC dI (fun f => some (.int (32))) (fun f r => [(a0, .inr (15, [.int (1), .int (0), .int (100), .int (0), .int (0), .ref a1, .ref a2, .ref a3, .ref a4, .ref a5, .ref a6, .ref a7, .ref a8, .ref a9, .ref a10, .ref a11, .null, .int (-1), .ref a12, .long (0)]))]) (va_A [(a0, .inr (15, [.int (0), .int (0), .int (100), .int (0), .int (0), .ref a1, .ref a2, .ref a3, .ref a4, .ref a5, .ref a6, .ref a7, .ref a8, .ref a9, .ref a10, .ref a11, .null, .int (-1), .ref a12, .long (0)]))] sz)) 0 0 (va_A [(a0, .inr (15, [.int (0), .int (0), .int (100), .int (0), .int (0), .ref a1, .ref a2, .ref a3, .ref a4, .ref a5, .ref a6, .ref a7, .ref a8, .ref a9, .ref a10, .ref a11, .null, .int (-1), .ref a12, .long (0)]))] sz) := by
  refine n_met (by decide +kernel) (Nat.le_of_ble_eq_true rfl) (fun f => some (.int (32))) (fun f r => [(a0, .inr (15, [.int (1), .int (0), .int (100), .int (0), .int (0), .ref a1, .ref a2, .ref a3, .ref a4, .ref a5, .ref a6, .ref a7, .ref a8, .ref a9, .ref a10, .ref a11, .null, .int (-1), .ref a12, .long (0)]))]) ?_
  intro p e s m below meth c A ls ⟨hx, hb, hr, hml, hown, hts, hlk, hnm⟩ hE hP hD hA hl
  have hown : s.vm.findClass "MinestrataModel" = some m.cls := hown
  have hK := hE.1
  have hS : va_S A s.heap s.heap [] := va_S.rf
  have hl : lv_has ls 9 [(0, .ref a0), (1, .int k1), (2, .int s2), (3, .int s3)] := hl
  refine lv_aload_n hx hb dX16_step_0 rfl (lv_at hl 0 rfl) ?_
  refine lv_iload_n hx hb dX16_step_1 rfl (lv_at hl 1 rfl) ?_
  refine lv_iload_n hx hb dX16_step_2 rfl (lv_at hl 3 rfl) ?_
  have hX : nCx p s m _ c prog_14_method_41_code 9 "MinestrataModel" dC dI g A [(a0, .inr (15, [.int (0), .int (0), .int (100), .int (0), .int (0), .ref a1, .ref a2, .ref a3, .ref a4, .ref a5, .ref a6, .ref a7, .ref a8, .ref a9, .ref a10, .ref a11, .null, .int (-1), .ref a12, .long (0)]))] _ _ := ⟨⟨hx, hb, hml, hown, hts⟩, hE, hS, hA, hP, hD⟩
  refine n_call (wr := [(a0, .inr (15, [.int (0), .int (0), .int (100), .int (0), .int (0), .ref a1, .ref a2, .ref a3, .ref a4, .ref a5, .ref a6, .ref a7, .ref a8, .ref a9, .ref a10, .ref a11, .null, .int (-1), .ref a12, .long (0)]))]) hX (n_runS (n := 2) (wc := []) (As := [.int k1, .int s3]) (rest := [.ref a0]) hX (m226 l hst dC dI g s3 k1 e0 e1 e2 e3 e4 e5 e6 _) [] rfl (by decide +kernel) q2107 q2108 q82 q2109 (by decide +kernel) ⟨(Nat.le_of_ble_eq_true rfl), (Nat.le_of_ble_eq_true rfl)⟩ ⟨(Nat.le_of_ble_eq_true rfl), (Nat.le_of_ble_eq_true rfl)⟩ hl.1 rfl rfl (Nat.le_of_ble_eq_true rfl) dX16_step_3) [] [0] rfl rfl (by decide +kernel) (by decide +kernel) (fun f1 r2 H locs hP hD hS => ?_)
  have hP : va_P (dC, dI) CL [(a0, .inr (15, [.int (0), .int (0), .int (100), .int (0), .int (0), .ref a1, .ref a2, .ref a3, .ref a4, .ref a5, .ref a6, .ref a7, .ref a8, .ref a9, .ref a10, .ref a11, .null, .int (-1), .ref a12, .long (0)]))] _ := hP
  have hD : va_D A [(a0, .inr (15, [.int (0), .int (0), .int (100), .int (0), .int (0), .ref a1, .ref a2, .ref a3, .ref a4, .ref a5, .ref a6, .ref a7, .ref a8, .ref a9, .ref a10, .ref a11, .null, .int (-1), .ref a12, .long (0)]))] := hD
  refine W.widen (k := 0) (n := 0) (Nat.le_of_ble_eq_true rfl) (Nat.le_of_ble_eq_true rfl) ?_
  refine W.eq (g2 := F0 m 6 ls [.int (0), .ref a0]) rfl ?_
  refine lv_if_ne (tgt := 13) hx hb dX16_step_6 (by decide +kernel) (fun h => absurd (by decide +kernel) h) (fun _ => ?_)
  refine lv_iconst (v := (1)) hx hb dX16_step_9 (by decide +kernel) ?_
  refine lv_goto (tgt := 41) hx hb dX16_step_10 (by decide +kernel) ?_
  refine va_put (D := (dC, dI)) (ci := 15) (v := .int (1)) (ty := .int) (C := "MinestrataModel") (T := TX16) (N := 20) hx hb hts inX16 tyX16 tyX16_ok nmX16 hown hK hP hD hS 0 rfl rfl 0 (by decide) (hts _ q1427) (fun _ h9 => h9) rfl (by decide +kernel) rfl rfl (Nat.le_of_ble_eq_true rfl) dX16_step_41 (fun H locs hP hD hS => ?_)
  have hP : va_P (dC, dI) CL [(a0, .inr (15, [.int (1), .int (0), .int (100), .int (0), .int (0), .ref a1, .ref a2, .ref a3, .ref a4, .ref a5, .ref a6, .ref a7, .ref a8, .ref a9, .ref a10, .ref a11, .null, .int (-1), .ref a12, .long (0)]))] _ := hP
  have hD : va_D A [(a0, .inr (15, [.int (1), .int (0), .int (100), .int (0), .int (0), .ref a1, .ref a2, .ref a3, .ref a4, .ref a5, .ref a6, .ref a7, .ref a8, .ref a9, .ref a10, .ref a11, .null, .int (-1), .ref a12, .long (0)]))] := hD
  refine lv_aload_n hx hb dX16_step_44 rfl (lv_at hl 0 rfl) ?_
  refine va_get (D := (dC, dI)) (ci := 15) (v := .int (1)) (C := "MinestrataModel") (T := TX16) (N := 20) hx hb hts inX16 hown hK hP 0 rfl rfl 0 (by decide) (hts _ q1427) (fun _ h9 => h9) rfl dX16_step_45 ?_
  refine lv_if_le (tgt := 54) hx hb dX16_step_48 (by decide +kernel) (fun h => absurd h (by decide +kernel)) (fun _ => ?_)
  refine lv_bipush (v := (32)) hx hb dX16_step_51 (by decide +kernel) ?_
  refine W.widen (k := 0) (n := 0) (Nat.le_of_ble_eq_true rfl) (Nat.le_of_ble_eq_true rfl) ?_
  exact W.zret hx hb hr (by decide +kernel) (n_end hS hP hD [0] (by decide +kernel) (fun _ => 0) (fun _ => 0) rfl rfl rfl) hS.2.2 dX16_step_53 hlk

set_option maxHeartbeats 4000000 in
set_option maxRecDepth 100000 in
/-- Minestrata.refusedBy -/
theorem m228 (l : Launch) (hst : l.stackTraces = false) (dC : Nat → ClassId) (dI : Nat → Nat → Nat) (g : Nat → Nat) (a0 a1 a2 a3 a4 a5 a6 a7 a8 a9 a10 : Nat) (sz : Nat) :
    vx_Met l Y56 (Cond.code Y56 prog_1_method_10_code 1 (Option.some Jvm.ClassFile.FieldType.int) :: AW) ({ frames := 6, cells := 1, slots := 6, locals := 81 } : Room) (nP dC dI g [.ref a0] [(a0, .inr (12, [.ref a1, .ref a2, .ref a3, .ref a4, .ref a5, .ref a6, .ref a7, .ref a8, .null, .ref a9, .ref a10, .int (0), .int (100), .int (0), .int (0), .int (-1), .long (0), .int (1)]))] sz) (fun _ _ _ _ => False) (nX "java/util/NoSuchElementException" (va_A [(a0, .inr (12, [.ref a1, .ref a2, .ref a3, .ref a4, .ref a5, .ref a6, .ref a7, .ref a8, .null, .ref a9, .ref a10, .int (0), .int (100), .int (0), .int (0), .int (-1), .long (0), .int (1)]))] sz)) 1 6 (va_A [(a0, .inr (12, [.ref a1, .ref a2, .ref a3, .ref a4, .ref a5, .ref a6, .ref a7, .ref a8, .null, .ref a9, .ref a10, .int (0), .int (100), .int (0), .int (0), .int (-1), .long (0), .int (1)]))] sz) := by
  refine n_metX (by decide +kernel) (Nat.le_of_ble_eq_true rfl) "java/util/NoSuchElementException" ?_
  intro p e s m below meth c A ls ⟨hx, hb, hr, hml, hown, hts, hlk, hnm⟩ hout hE hP hD hA hl
  have hown : s.vm.findClass "Minestrata" = some m.cls := hown
  have hK := hE.1
  have hS : va_S A s.heap s.heap [] := va_S.rf
  have hl : lv_has ls 1 [(0, .ref a0)] := hl
  have hlsz : ls.size = c.maxLocals := hl.1.trans hml.symm
  refine lv_aload_n hx hb dX11_refusedBy_0 rfl (lv_at hl 0 rfl) ?_
  refine va_get (D := (dC, dI)) (ci := 12) (v := .int (-1)) (C := "Minestrata") (T := TX11) (N := 18) hx hb hts inX11 hown hK hP 0 rfl rfl 15 (by decide) (hts _ q519) (fun _ h9 => h9) rfl dX11_refusedBy_1 ?_
  refine lv_if_ge (tgt := 15) hx hb dX11_refusedBy_4 (by decide +kernel) (fun h => absurd h (by decide +kernel)) (fun _ => ?_)
  exact n_throw hx hb hst hown hts hE hS (names := ["java/lang/RuntimeException", "java/lang/Exception"]) (by decide +kernel) (by decide +kernel) q1023 q100 hat2p hat2a hat2 hat2g (hl.1.trans hml.symm) dX11_refusedBy_7 dX11_refusedBy_10 dX11_refusedBy_11 dX11_refusedBy_14 hout (Nat.le_of_ble_eq_true rfl) (Nat.le_of_ble_eq_true rfl) (Nat.le_of_ble_eq_true rfl) (Nat.le_of_ble_eq_true rfl) hlk (Nat.le_of_ble_eq_true rfl) (Nat.le_of_ble_eq_true rfl)

set_option maxHeartbeats 4000000 in
set_option maxRecDepth 100000 in
/-- MinestrataLaw.refusedBy -/
theorem m229 (l : Launch) (hst : l.stackTraces = false) (dC : Nat → ClassId) (dI : Nat → Nat → Nat) (g : Nat → Nat) (a0 a1 a2 a3 a4 a5 a6 a7 a8 a9 a10 a11 : Nat) (sz : Nat) :
    Met l Y55 (Cond.codeWith Y55 method_11_code 3 (Option.some Jvm.ClassFile.FieldType.int) [((0 : Nat), (8 : Nat), (11 : Nat), (41 : Nat))] :: AW) ({ frames := 7, cells := 1, slots := 6, locals := 101 } : Room) (nP dC dI g [.ref a0, .ref a1] [(a0, .inr (12, [.ref a2, .ref a3, .ref a4, .ref a5, .ref a6, .ref a7, .ref a8, .ref a9, .null, .ref a10, .ref a11, .int (0), .int (100), .int (0), .int (0), .int (-1), .long (0), .int (1)]))] sz) (nQ dC dI (fun f => some (.int (1))) (fun f r => []) (va_A [(a0, .inr (12, [.ref a2, .ref a3, .ref a4, .ref a5, .ref a6, .ref a7, .ref a8, .ref a9, .null, .ref a10, .ref a11, .int (0), .int (100), .int (0), .int (0), .int (-1), .long (0), .int (1)]))] sz)) 1 6 (va_A [(a0, .inr (12, [.ref a2, .ref a3, .ref a4, .ref a5, .ref a6, .ref a7, .ref a8, .ref a9, .null, .ref a10, .ref a11, .int (0), .int (100), .int (0), .int (0), .int (-1), .long (0), .int (1)]))] sz) := by
  refine n_metW (by decide +kernel) q1139 (Nat.le_of_ble_eq_true rfl) (fun f => some (.int (1))) (fun f r => []) ?_
  intro p e s m below meth c A ls ⟨hx, hb, hr, hml, hown, hts, hlk, hnm⟩ htab hE hP hD hA hl
  have hown : s.vm.findClass "MinestrataLaw" = some m.cls := hown
  have hK := hE.1
  have hS : va_S A s.heap s.heap [] := va_S.rf
  have hl : lv_has ls 3 [(0, .ref a0), (1, .ref a1)] := hl
  refine lv_aload_n hx hb dL_refusedBy_0 rfl (lv_at hl 1 rfl) ?_
  refine lv_iconst (v := (0)) hx hb dL_refusedBy_1 (by decide +kernel) ?_
  refine lv_aload_n hx hb dL_refusedBy_2 rfl (lv_at hl 0 rfl) ?_
  have hX : nCx p s m _ c method_11_code 3 "MinestrataLaw" dC dI g A [(a0, .inr (12, [.ref a2, .ref a3, .ref a4, .ref a5, .ref a6, .ref a7, .ref a8, .ref a9, .null, .ref a10, .ref a11, .int (0), .int (100), .int (0), .int (0), .int (-1), .long (0), .int (1)]))] _ _ := ⟨⟨hx, hb, hml, hown, hts⟩, hE, hS, hA, hP, hD⟩
  refine n_callX (E0 := "java/util/NoSuchElementException") hX (n_runVX (n := 0) (wc := [(a0, .inr (12, [.ref a2, .ref a3, .ref a4, .ref a5, .ref a6, .ref a7, .ref a8, .ref a9, .null, .ref a10, .ref a11, .int (0), .int (100), .int (0), .int (0), .int (-1), .long (0), .int (1)]))]) (As := []) (rest := [.int (0), .ref a1]) hX (m228 l hst dC dI g a0 a2 a3 a4 a5 a6 a7 a8 a9 a10 a11 _) [0] rfl (by decide +kernel) 0 (ci := 12) rfl (T := TX11) (N := 18) (C := "Minestrata") rfl q1140 q1141 q1142 q71 q1143 (by decide +kernel) ⟨(Nat.le_of_ble_eq_true rfl), (Nat.le_of_ble_eq_true rfl)⟩ ⟨(Nat.le_of_ble_eq_true rfl), (Nat.le_of_ble_eq_true rfl)⟩ hl.1 rfl rfl (Nat.le_of_ble_eq_true rfl) dL_refusedBy_3) [0] rfl (fun ce q9 H locs hS hce hcv hcl => ?_)
  refine n_catch (E := "java/util/NoSuchElementException") (name := "java/util/NoSuchElementException") hE hts hown htab [] ⟨0, 8, 11, 41⟩ [] rfl (fun z hz => nomatch hz) (by decide +kernel) (by decide) q1018 x1025 hce hcv hcl ?_
  refine W.widen (k := 1) (n := 6) (Nat.le_of_ble_eq_true rfl) (Nat.le_of_ble_eq_true rfl) ?_
  refine W.eq (g2 := F0 m 11 ls [.ref q9]) rfl ?_
  refine lv_astore_n (lv' := [(2, .ref q9), (0, .ref a0), (1, .ref a1)]) hx hb dL_refusedBy_11 rfl hl (by decide) rfl (fun ls hl => ?_)
  refine lv_iconst (v := (1)) hx hb dL_refusedBy_12 (by decide +kernel) ?_
  refine W.widen (k := 1) (n := 6) (Nat.le_of_ble_eq_true rfl) (Nat.le_of_ble_eq_true rfl) ?_
  exact W.iret hx hb hr (n_end0 hS (fun _ => 0) rfl rfl) hS.2.2 dL_refusedBy_13 hlk

set_option maxHeartbeats 4000000 in
set_option maxRecDepth 100000 in
/-- MinestrataModel.refusedBy -/
theorem m230 (l : Launch) (hst : l.stackTraces = false) (dC : Nat → ClassId) (dI : Nat → Nat → Nat) (g : Nat → Nat) (a0 a1 a2 a3 a4 a5 a6 a7 a8 a9 a10 a11 a12 : Nat) (sz : Nat) :
    Met l Y57 (Cond.code Y57 prog_14_method_45_code 1 (Option.some Jvm.ClassFile.FieldType.int) :: AW) ({ frames := 1, cells := 0, slots := 0, locals := 21 } : Room) (nP dC dI g [.ref a0] [(a0, .inr (15, [.int (0), .int (0), .int (100), .int (0), .int (0), .ref a1, .ref a2, .ref a3, .ref a4, .ref a5, .ref a6, .ref a7, .ref a8, .ref a9, .ref a10, .ref a11, .null, .int (-1), .ref a12, .long (0)]))] sz) (nQ dC dI (fun f => some (.int (0))) (fun f r => [(a0, .inr (15, [.int (1), .int (0), .int (100), .int (0), .int (0), .ref a1, .ref a2, .ref a3, .ref a4, .ref a5, .ref a6, .ref a7, .ref a8, .ref a9, .ref a10, .ref a11, .null, .int (-1), .ref a12, .long (0)]))]) (va_A [(a0, .inr (15, [.int (0), .int (0), .int (100), .int (0), .int (0), .ref a1, .ref a2, .ref a3, .ref a4, .ref a5, .ref a6, .ref a7, .ref a8, .ref a9, .ref a10, .ref a11, .null, .int (-1), .ref a12, .long (0)]))] sz)) 0 0 (va_A [(a0, .inr (15, [.int (0), .int (0), .int (100), .int (0), .int (0), .ref a1, .ref a2, .ref a3, .ref a4, .ref a5, .ref a6, .ref a7, .ref a8, .ref a9, .ref a10, .ref a11, .null, .int (-1), .ref a12, .long (0)]))] sz) := by
  refine n_met (by decide +kernel) (Nat.le_of_ble_eq_true rfl) (fun f => some (.int (0))) (fun f r => [(a0, .inr (15, [.int (1), .int (0), .int (100), .int (0), .int (0), .ref a1, .ref a2, .ref a3, .ref a4, .ref a5, .ref a6, .ref a7, .ref a8, .ref a9, .ref a10, .ref a11, .null, .int (-1), .ref a12, .long (0)]))]) ?_
  intro p e s m below meth c A ls ⟨hx, hb, hr, hml, hown, hts, hlk, hnm⟩ hE hP hD hA hl
  have hown : s.vm.findClass "MinestrataModel" = some m.cls := hown
  have hK := hE.1
  have hS : va_S A s.heap s.heap [] := va_S.rf
  have hl : lv_has ls 1 [(0, .ref a0)] := hl
  refine lv_aload_n hx hb dX16_refusedBy_0 rfl (lv_at hl 0 rfl) ?_
  refine va_get (D := (dC, dI)) (ci := 15) (v := .int (-1)) (C := "MinestrataModel") (T := TX16) (N := 20) hx hb hts inX16 hown hK hP 0 rfl rfl 17 (by decide) (hts _ q1451) (fun _ h9 => h9) rfl dX16_refusedBy_1 ?_
  refine lv_iconst (v := (-1)) hx hb dX16_refusedBy_4 (by decide +kernel) ?_
  refine lv_icmp_ne (tgt := 16) hx hb dX16_refusedBy_5 (by decide +kernel) (fun h => absurd (by decide +kernel) h) (fun _ => ?_)
  refine lv_aload_n hx hb dX16_refusedBy_8 rfl (lv_at hl 0 rfl) ?_
  refine lv_iconst (v := (1)) hx hb dX16_refusedBy_9 (by decide +kernel) ?_
  have hX : nCx p s m _ c prog_14_method_45_code 1 "MinestrataModel" dC dI g A [(a0, .inr (15, [.int (0), .int (0), .int (100), .int (0), .int (0), .ref a1, .ref a2, .ref a3, .ref a4, .ref a5, .ref a6, .ref a7, .ref a8, .ref a9, .ref a10, .ref a11, .null, .int (-1), .ref a12, .long (0)]))] _ _ := ⟨⟨hx, hb, hml, hown, hts⟩, hE, hS, hA, hP, hD⟩
  refine n_call (wr := []) hX (n_runV (n := 1) (wc := [(a0, .inr (15, [.int (0), .int (0), .int (100), .int (0), .int (0), .ref a1, .ref a2, .ref a3, .ref a4, .ref a5, .ref a6, .ref a7, .ref a8, .ref a9, .ref a10, .ref a11, .null, .int (-1), .ref a12, .long (0)]))]) (As := [.int (1)]) (rest := []) hX (m31 l hst dC dI g a0 a1 a2 a3 a4 a5 a6 a7 a8 a9 a10 a11 a12 _) [0] rfl (by decide +kernel) 0 (ci := 15) rfl (T := TX16) (N := 20) (C := "MinestrataModel") rfl q1506 q1508 q39 q82 q1509 (by decide +kernel) ⟨(Nat.le_of_ble_eq_true rfl), (Nat.le_of_ble_eq_true rfl)⟩ ⟨(Nat.le_of_ble_eq_true rfl), (Nat.le_of_ble_eq_true rfl)⟩ hl.1 rfl rfl (Nat.le_of_ble_eq_true rfl) dX16_refusedBy_10) [0] [] rfl rfl (by decide +kernel) (by decide +kernel) (fun f1 r2 H locs hP hD hS => ?_)
  have hP : va_P (dC, dI) CL [(a0, .inr (15, [.int (1), .int (0), .int (100), .int (0), .int (0), .ref a1, .ref a2, .ref a3, .ref a4, .ref a5, .ref a6, .ref a7, .ref a8, .ref a9, .ref a10, .ref a11, .null, .int (-1), .ref a12, .long (0)]))] _ := hP
  have hD : va_D A [(a0, .inr (15, [.int (1), .int (0), .int (100), .int (0), .int (0), .ref a1, .ref a2, .ref a3, .ref a4, .ref a5, .ref a6, .ref a7, .ref a8, .ref a9, .ref a10, .ref a11, .null, .int (-1), .ref a12, .long (0)]))] := hD
  refine W.widen (k := 0) (n := 0) (Nat.le_of_ble_eq_true rfl) (Nat.le_of_ble_eq_true rfl) ?_
  refine W.eq (g2 := F0 m 13 ls [.int (0)]) rfl ?_
  refine lv_goto (tgt := 24) hx hb dX16_refusedBy_13 (by decide +kernel) ?_
  refine W.widen (k := 0) (n := 0) (Nat.le_of_ble_eq_true rfl) (Nat.le_of_ble_eq_true rfl) ?_
  exact W.iret hx hb hr (n_end hS hP hD [0] (by decide +kernel) (fun _ => 0) (fun _ => 0) rfl rfl rfl) hS.2.2 dX16_refusedBy_24 hlk

set_option maxHeartbeats 4000000 in
set_option maxRecDepth 100000 in
/-- Minestrata$Groups.gather -/
theorem m231 (l : Launch) (hst : l.stackTraces = false) (dC : Nat → ClassId) (dI : Nat → Nat → Nat) (g : Nat → Nat) (a0 a1 a2 a3 a4 a5 a6 a7 a8 a9 a10 a11 a12 : Nat) (sz : Nat) :
    Met l Y62 (Cond.code Y62 prog_8_method_2_code 5 (Option.none : Option Jvm.ClassFile.FieldType) :: AW) ({ frames := 0, cells := 0, slots := 0, locals := 0 } : Room) (nP dC dI g [.ref a0, .ref a1] [(a1, .inr (8, [.int (0), .ref a2, .ref a3, .ref a4, .ref a5, .int (0), .ref a6, .ref a7, .ref a8, .ref a9, .ref a10, .ref a11, .ref a12]))] sz) (nQ dC dI (fun f => none) (fun f r => [(a1, .inr (8, [.int (0), .ref a2, .ref a3, .ref a4, .ref a5, .int (0), .ref a6, .ref a7, .ref a8, .ref a9, .ref a10, .ref a11, .ref a12]))]) (va_A [(a1, .inr (8, [.int (0), .ref a2, .ref a3, .ref a4, .ref a5, .int (0), .ref a6, .ref a7, .ref a8, .ref a9, .ref a10, .ref a11, .ref a12]))] sz)) 0 0 (va_A [(a1, .inr (8, [.int (0), .ref a2, .ref a3, .ref a4, .ref a5, .int (0), .ref a6, .ref a7, .ref a8, .ref a9, .ref a10, .ref a11, .ref a12]))] sz) := by
  refine n_met (by decide +kernel) (Nat.le_of_ble_eq_true rfl) (fun f => none) (fun f r => [(a1, .inr (8, [.int (0), .ref a2, .ref a3, .ref a4, .ref a5, .int (0), .ref a6, .ref a7, .ref a8, .ref a9, .ref a10, .ref a11, .ref a12]))]) ?_
  intro p e s m below meth c A ls ⟨hx, hb, hr, hml, hown, hts, hlk, hnm⟩ hE hP hD hA hl
  have hown : s.vm.findClass "Minestrata$Groups" = some m.cls := hown
  have hK := hE.1
  have hS : va_S A s.heap s.heap [] := va_S.rf
  have hl : lv_has ls 5 [(0, .ref a0), (1, .ref a1)] := hl
  refine lv_iconst (v := (0)) hx hb dX6_gather_0 (by decide +kernel) ?_
  refine lv_istore_n (lv' := [(2, .int (0)), (0, .ref a0), (1, .ref a1)]) hx hb dX6_gather_1 rfl hl (by decide) rfl (fun ls hl => ?_)
  refine lv_iload_n hx hb dX6_gather_2 rfl (lv_at hl 0 rfl) ?_
  refine lv_aload_n hx hb dX6_gather_3 rfl (lv_at hl 2 rfl) ?_
  refine va_get (D := (dC, dI)) (ci := 8) (v := .int (0)) (C := "Minestrata$Net") (T := TX7) (N := 13) hx hb hts inX7 hown hK hP 0 rfl rfl 0 (by decide) (hts _ q126) (fun _ h9 => h9) rfl dX6_gather_4 ?_
  refine lv_icmp_ge (tgt := 30) hx hb dX6_gather_7 (by decide +kernel) (fun _ => ?_) (fun h => absurd (by decide +kernel) h)
  refine lv_iconst (v := (0)) hx hb dX6_gather_30 (by decide +kernel) ?_
  refine lv_istore_n (lv' := [(2, .int (0)), (0, .ref a0), (1, .ref a1)]) hx hb dX6_gather_31 rfl hl (by decide) rfl (fun ls hl => ?_)
  refine lv_iload_n hx hb dX6_gather_32 rfl (lv_at hl 0 rfl) ?_
  refine lv_aload_n hx hb dX6_gather_33 rfl (lv_at hl 2 rfl) ?_
  refine va_get (D := (dC, dI)) (ci := 8) (v := .int (0)) (C := "Minestrata$Net") (T := TX7) (N := 13) hx hb hts inX7 hown hK hP 0 rfl rfl 0 (by decide) (hts _ q126) (fun _ h9 => h9) rfl dX6_gather_34 ?_
  refine lv_icmp_ge (tgt := 124) hx hb dX6_gather_37 (by decide +kernel) (fun _ => ?_) (fun h => absurd (by decide +kernel) h)
  refine lv_iconst (v := (0)) hx hb dX6_gather_124 (by decide +kernel) ?_
  refine lv_istore_n (lv' := [(2, .int (0)), (0, .ref a0), (1, .ref a1)]) hx hb dX6_gather_125 rfl hl (by decide) rfl (fun ls hl => ?_)
  refine lv_iload_n hx hb dX6_gather_126 rfl (lv_at hl 0 rfl) ?_
  refine lv_aload_n hx hb dX6_gather_127 rfl (lv_at hl 2 rfl) ?_
  refine va_get (D := (dC, dI)) (ci := 8) (v := .int (0)) (C := "Minestrata$Net") (T := TX7) (N := 13) hx hb hts inX7 hown hK hP 0 rfl rfl 0 (by decide) (hts _ q126) (fun _ h9 => h9) rfl dX6_gather_128 ?_
  refine lv_icmp_ge (tgt := 161) hx hb dX6_gather_131 (by decide +kernel) (fun _ => ?_) (fun h => absurd (by decide +kernel) h)
  refine W.widen (k := 0) (n := 0) (Nat.le_of_ble_eq_true rfl) (Nat.le_of_ble_eq_true rfl) ?_
  exact W.vret hx hb hr (n_end hS hP hD [0] (by decide +kernel) (fun _ => 0) (fun _ => 0) rfl rfl rfl) hS.2.2 dX6_gather_161 hlk

set_option maxHeartbeats 4000000 in
set_option maxRecDepth 100000 in
/-- Minestrata$Air.findUnknowns -/
theorem m232 (l : Launch) (hst : l.stackTraces = false) (dC : Nat → ClassId) (dI : Nat → Nat → Nat) (g : Nat → Nat) (a0 a1 a2 a3 a4 a5 a6 a7 a8 a9 a10 a11 a12 a13 a14 a15 a16 a17 a18 a19 a20 a21 a22 a23 a24 a25 a26 a27 a28 : Nat) (sz : Nat) :
    Met l Y61 (Cond.code Y61 prog_2_method_5_code 4 (Option.none : Option Jvm.ClassFile.FieldType) :: AW) ({ frames := 1, cells := 0, slots := 0, locals := 24 } : Room) (nP dC dI g [.ref a0, .ref a1] [(a1, .inr (8, [.int (0), .ref a2, .ref a3, .ref a4, .ref a5, .int (0), .ref a6, .ref a7, .ref a8, .ref a9, .ref a10, .ref a11, .ref a12])), (a0, .inr (2, [.ref a13, .ref a14, .ref a15, .ref a16, .ref a17, .ref a18, .int (0), .ref a19, .ref a20, .ref a21, .ref a22, .ref a23, .ref a24, .ref a25, .int (0), .int (0)])), (a20, .inr (7, [.ref a26, .ref a27, .ref a28]))] sz) (nQ dC dI (fun f => none) (fun f r => [(a1, .inr (8, [.int (0), .ref a2, .ref a3, .ref a4, .ref a5, .int (0), .ref a6, .ref a7, .ref a8, .ref a9, .ref a10, .ref a11, .ref a12])), (a0, .inr (2, [.ref a13, .ref a14, .ref a15, .ref a16, .ref a17, .ref a18, .int (0), .ref a19, .ref a20, .ref a21, .ref a22, .ref a23, .ref a24, .ref a25, .int (0), .int (0)])), (a20, .inr (7, [.ref a26, .ref a27, .ref a28]))]) (va_A [(a1, .inr (8, [.int (0), .ref a2, .ref a3, .ref a4, .ref a5, .int (0), .ref a6, .ref a7, .ref a8, .ref a9, .ref a10, .ref a11, .ref a12])), (a0, .inr (2, [.ref a13, .ref a14, .ref a15, .ref a16, .ref a17, .ref a18, .int (0), .ref a19, .ref a20, .ref a21, .ref a22, .ref a23, .ref a24, .ref a25, .int (0), .int (0)])), (a20, .inr (7, [.ref a26, .ref a27, .ref a28]))] sz)) 0 0 (va_A [(a1, .inr (8, [.int (0), .ref a2, .ref a3, .ref a4, .ref a5, .int (0), .ref a6, .ref a7, .ref a8, .ref a9, .ref a10, .ref a11, .ref a12])), (a0, .inr (2, [.ref a13, .ref a14, .ref a15, .ref a16, .ref a17, .ref a18, .int (0), .ref a19, .ref a20, .ref a21, .ref a22, .ref a23, .ref a24, .ref a25, .int (0), .int (0)])), (a20, .inr (7, [.ref a26, .ref a27, .ref a28]))] sz) := by
  refine n_met (by decide +kernel) (Nat.le_of_ble_eq_true rfl) (fun f => none) (fun f r => [(a1, .inr (8, [.int (0), .ref a2, .ref a3, .ref a4, .ref a5, .int (0), .ref a6, .ref a7, .ref a8, .ref a9, .ref a10, .ref a11, .ref a12])), (a0, .inr (2, [.ref a13, .ref a14, .ref a15, .ref a16, .ref a17, .ref a18, .int (0), .ref a19, .ref a20, .ref a21, .ref a22, .ref a23, .ref a24, .ref a25, .int (0), .int (0)])), (a20, .inr (7, [.ref a26, .ref a27, .ref a28]))]) ?_
  intro p e s m below meth c A ls ⟨hx, hb, hr, hml, hown, hts, hlk, hnm⟩ hE hP hD hA hl
  have hown : s.vm.findClass "Minestrata$Air" = some m.cls := hown
  have hK := hE.1
  have hS : va_S A s.heap s.heap [] := va_S.rf
  have hl : lv_has ls 4 [(0, .ref a0), (1, .ref a1)] := hl
  refine lv_iconst (v := (0)) hx hb dX0_findUnknowns_0 (by decide +kernel) ?_
  refine lv_istore_n (lv' := [(2, .int (0)), (0, .ref a0), (1, .ref a1)]) hx hb dX0_findUnknowns_1 rfl hl (by decide) rfl (fun ls hl => ?_)
  refine lv_iload_n hx hb dX0_findUnknowns_2 rfl (lv_at hl 0 rfl) ?_
  refine lv_aload_n hx hb dX0_findUnknowns_3 rfl (lv_at hl 2 rfl) ?_
  refine va_get (D := (dC, dI)) (ci := 8) (v := .int (0)) (C := "Minestrata$Net") (T := TX7) (N := 13) hx hb hts inX7 hown hK hP 0 rfl rfl 5 (by decide) (hts _ q151) (fun _ h9 => h9) rfl dX0_findUnknowns_4 ?_
  refine lv_icmp_ge (tgt := 30) hx hb dX0_findUnknowns_7 (by decide +kernel) (fun _ => ?_) (fun h => absurd (by decide +kernel) h)
  refine lv_aload_n hx hb dX0_findUnknowns_30 rfl (lv_at hl 1 rfl) ?_
  refine va_get (D := (dC, dI)) (ci := 2) (v := .ref a20) (C := "Minestrata$Air") (T := TX0) (N := 16) hx hb hts inX0 hown hK hP 1 rfl rfl 8 (by decide) (hts _ q367) (fun _ h9 => h9) rfl dX0_findUnknowns_31 ?_
  refine lv_aload_n hx hb dX0_findUnknowns_34 rfl (lv_at hl 2 rfl) ?_
  have hX : nCx p s m _ c prog_2_method_5_code 4 "Minestrata$Air" dC dI g A [(a1, .inr (8, [.int (0), .ref a2, .ref a3, .ref a4, .ref a5, .int (0), .ref a6, .ref a7, .ref a8, .ref a9, .ref a10, .ref a11, .ref a12])), (a0, .inr (2, [.ref a13, .ref a14, .ref a15, .ref a16, .ref a17, .ref a18, .int (0), .ref a19, .ref a20, .ref a21, .ref a22, .ref a23, .ref a24, .ref a25, .int (0), .int (0)])), (a20, .inr (7, [.ref a26, .ref a27, .ref a28]))] _ _ := ⟨⟨hx, hb, hml, hown, hts⟩, hE, hS, hA, hP, hD⟩
  refine n_call (wr := [(a0, .inr (2, [.ref a13, .ref a14, .ref a15, .ref a16, .ref a17, .ref a18, .int (0), .ref a19, .ref a20, .ref a21, .ref a22, .ref a23, .ref a24, .ref a25, .int (0), .int (0)])), (a20, .inr (7, [.ref a26, .ref a27, .ref a28]))]) hX (n_runV (n := 1) (wc := [(a1, .inr (8, [.int (0), .ref a2, .ref a3, .ref a4, .ref a5, .int (0), .ref a6, .ref a7, .ref a8, .ref a9, .ref a10, .ref a11, .ref a12]))]) (As := [.ref a1]) (rest := []) hX (m231 l hst dC dI g a20 a1 a2 a3 a4 a5 a6 a7 a8 a9 a10 a11 a12 _) [0] rfl (by decide +kernel) 2 (ci := 7) rfl (T := TX6) (N := 3) (C := "Minestrata$Groups") rfl q579 q580 q581 q76 q582 (by decide +kernel) ⟨(Nat.le_of_ble_eq_true rfl), (Nat.le_of_ble_eq_true rfl)⟩ ⟨(Nat.le_of_ble_eq_true rfl), (Nat.le_of_ble_eq_true rfl)⟩ hl.1 rfl rfl (Nat.le_of_ble_eq_true rfl) dX0_findUnknowns_35) [0] [1, 2] rfl rfl (by decide +kernel) (by decide +kernel) (fun f1 r2 H locs hP hD hS => ?_)
  have hP : va_P (dC, dI) CL [(a0, .inr (2, [.ref a13, .ref a14, .ref a15, .ref a16, .ref a17, .ref a18, .int (0), .ref a19, .ref a20, .ref a21, .ref a22, .ref a23, .ref a24, .ref a25, .int (0), .int (0)])), (a20, .inr (7, [.ref a26, .ref a27, .ref a28])), (a1, .inr (8, [.int (0), .ref a2, .ref a3, .ref a4, .ref a5, .int (0), .ref a6, .ref a7, .ref a8, .ref a9, .ref a10, .ref a11, .ref a12]))] _ := hP
  have hD : va_D A [(a0, .inr (2, [.ref a13, .ref a14, .ref a15, .ref a16, .ref a17, .ref a18, .int (0), .ref a19, .ref a20, .ref a21, .ref a22, .ref a23, .ref a24, .ref a25, .int (0), .int (0)])), (a20, .inr (7, [.ref a26, .ref a27, .ref a28])), (a1, .inr (8, [.int (0), .ref a2, .ref a3, .ref a4, .ref a5, .int (0), .ref a6, .ref a7, .ref a8, .ref a9, .ref a10, .ref a11, .ref a12]))] := hD
  refine W.widen (k := 0) (n := 0) (Nat.le_of_ble_eq_true rfl) (Nat.le_of_ble_eq_true rfl) ?_
  refine W.eq (g2 := F0 m 38 ls []) rfl ?_
  refine lv_aload_n hx hb dX0_findUnknowns_38 rfl (lv_at hl 1 rfl) ?_
  refine lv_iconst (v := (0)) hx hb dX0_findUnknowns_39 (by decide +kernel) ?_
  refine va_put (D := (dC, dI)) (ci := 2) (v := .int (0)) (ty := .int) (C := "Minestrata$Air") (T := TX0) (N := 16) hx hb hts inX0 tyX0 tyX0_ok nmX0 hown hK hP hD hS 0 rfl rfl 14 (by decide) (hts _ q373) (fun _ h9 => h9) rfl (by decide +kernel) rfl rfl (Nat.le_of_ble_eq_true rfl) dX0_findUnknowns_40 (fun H locs hP hD hS => ?_)
  have hP : va_P (dC, dI) CL [(a0, .inr (2, [.ref a13, .ref a14, .ref a15, .ref a16, .ref a17, .ref a18, .int (0), .ref a19, .ref a20, .ref a21, .ref a22, .ref a23, .ref a24, .ref a25, .int (0), .int (0)])), (a20, .inr (7, [.ref a26, .ref a27, .ref a28])), (a1, .inr (8, [.int (0), .ref a2, .ref a3, .ref a4, .ref a5, .int (0), .ref a6, .ref a7, .ref a8, .ref a9, .ref a10, .ref a11, .ref a12]))] _ := hP
  have hD : va_D A [(a0, .inr (2, [.ref a13, .ref a14, .ref a15, .ref a16, .ref a17, .ref a18, .int (0), .ref a19, .ref a20, .ref a21, .ref a22, .ref a23, .ref a24, .ref a25, .int (0), .int (0)])), (a20, .inr (7, [.ref a26, .ref a27, .ref a28])), (a1, .inr (8, [.int (0), .ref a2, .ref a3, .ref a4, .ref a5, .int (0), .ref a6, .ref a7, .ref a8, .ref a9, .ref a10, .ref a11, .ref a12]))] := hD
  refine lv_iconst (v := (0)) hx hb dX0_findUnknowns_43 (by decide +kernel) ?_
  refine lv_istore_n (lv' := [(2, .int (0)), (0, .ref a0), (1, .ref a1)]) hx hb dX0_findUnknowns_44 rfl hl (by decide) rfl (fun ls hl => ?_)
  refine lv_iload_n hx hb dX0_findUnknowns_45 rfl (lv_at hl 0 rfl) ?_
  refine lv_aload_n hx hb dX0_findUnknowns_46 rfl (lv_at hl 2 rfl) ?_
  refine va_get (D := (dC, dI)) (ci := 8) (v := .int (0)) (C := "Minestrata$Net") (T := TX7) (N := 13) hx hb hts inX7 hown hK hP 2 rfl rfl 0 (by decide) (hts _ q129) (fun _ h9 => h9) rfl dX0_findUnknowns_47 ?_
  refine lv_icmp_ge (tgt := 154) hx hb dX0_findUnknowns_50 (by decide +kernel) (fun _ => ?_) (fun h => absurd (by decide +kernel) h)
  refine W.widen (k := 0) (n := 0) (Nat.le_of_ble_eq_true rfl) (Nat.le_of_ble_eq_true rfl) ?_
  exact W.vret hx hb hr (n_end hS hP hD [2, 0, 1] (by decide +kernel) (fun _ => 0) (fun _ => 0) rfl rfl rfl) hS.2.2 dX0_findUnknowns_154 hlk

set_option maxHeartbeats 4000000 in
set_option maxRecDepth 100000 in
/-- Minestrata$Equations.begin -/
theorem m233 (l : Launch) (hst : l.stackTraces = false) (dC : Nat → ClassId) (dI : Nat → Nat → Nat) (g : Nat → Nat) (a0 a1 : Nat) (sz : Nat) :
    Met l Y65 (Cond.code Y65 prog_4_method_2_code 6 (Option.none : Option Jvm.ClassFile.FieldType) :: AW) ({ frames := 1, cells := 0, slots := 0, locals := 16 } : Room) (nP dC dI g [.ref a0, .int (0), .long (2147483647)] [(a0, .inr (3, [.ref a1, .long (2)]))] sz) (nQ dC dI (fun f => none) (fun f r => [(a0, .inr (3, [.ref a1, .long (2147483647)]))]) (va_A [(a0, .inr (3, [.ref a1, .long (2)]))] sz)) 0 0 (va_A [(a0, .inr (3, [.ref a1, .long (2)]))] sz) := by
  refine n_met (by decide +kernel) (Nat.le_of_ble_eq_true rfl) (fun f => none) (fun f r => [(a0, .inr (3, [.ref a1, .long (2147483647)]))]) ?_
  intro p e s m below meth c A ls ⟨hx, hb, hr, hml, hown, hts, hlk, hnm⟩ hE hP hD hA hl
  have hown : s.vm.findClass "Minestrata$Equations" = some m.cls := hown
  have hK := hE.1
  have hS : va_S A s.heap s.heap [] := va_S.rf
  have hl : lv_has ls 6 [(0, .ref a0), (1, .int (0)), (2, .long (2147483647))] := hl
  refine lv_aload_n hx hb dX2_begin_0 rfl (lv_at hl 0 rfl) ?_
  refine lv_lload_n hx hb dX2_begin_1 rfl (lv_at hl 2 rfl) ?_
  refine lv_ldc2 (v := (2)) hx hb hown (hts _ q309) dX2_begin_2 ?_
  refine va_mmax_long hx hb (hml.trans hl.1.symm) hown (hts _ q605) (hts _ q606) (hts _ q96) (hts _ q607) (Nat.le_of_ble_eq_true rfl) (Nat.le_of_ble_eq_true rfl) (Nat.le_of_ble_eq_true rfl) (Nat.le_of_ble_eq_true rfl) dX2_begin_5 ?_
  refine nt_l (v := (2147483647)) (by decide +kernel) ?_
  refine va_put (D := (dC, dI)) (ci := 3) (v := .long (2147483647)) (ty := .long) (C := "Minestrata$Equations") (T := TX2) (N := 2) hx hb hts inX2 tyX2 tyX2_ok nmX2 hown hK hP hD hS 0 rfl rfl 1 (by decide) (hts _ q313) (fun _ h9 => h9) rfl (by decide +kernel) rfl rfl (Nat.le_of_ble_eq_true rfl) dX2_begin_8 (fun H locs hP hD hS => ?_)
  have hP : va_P (dC, dI) CL [(a0, .inr (3, [.ref a1, .long (2147483647)]))] _ := hP
  have hD : va_D A [(a0, .inr (3, [.ref a1, .long (2147483647)]))] := hD
  refine lv_iconst (v := (0)) hx hb dX2_begin_11 (by decide +kernel) ?_
  refine lv_istore (lv' := [(4, .int (0)), (0, .ref a0), (1, .int (0)), (2, .long (2147483647))]) hx hb dX2_begin_12 hl (by decide) rfl (fun ls hl => ?_)
  refine lv_iload hx hb dX2_begin_14 (lv_at hl 0 rfl) ?_
  refine lv_iload_n hx hb dX2_begin_16 rfl (lv_at hl 2 rfl) ?_
  refine lv_icmp_ge (tgt := 52) hx hb dX2_begin_17 (by decide +kernel) (fun _ => ?_) (fun h => absurd (by decide +kernel) h)
  refine W.widen (k := 0) (n := 0) (Nat.le_of_ble_eq_true rfl) (Nat.le_of_ble_eq_true rfl) ?_
  exact W.vret hx hb hr (n_end hS hP hD [0] (by decide +kernel) (fun _ => 0) (fun _ => 0) rfl rfl rfl) hS.2.2 dX2_begin_52 hlk

set_option maxHeartbeats 4000000 in
set_option maxRecDepth 100000 in
/-- Minestrata$Equations.solve -/
theorem m234 (l : Launch) (hst : l.stackTraces = false) (dC : Nat → ClassId) (dI : Nat → Nat → Nat) (g : Nat → Nat) (a0 : Nat) (sz : Nat) :
    Met l Y66 (Cond.code Y66 prog_4_method_4_code 9 (Option.some Jvm.ClassFile.FieldType.long) :: AW) ({ frames := 0, cells := 0, slots := 0, locals := 0 } : Room) (nP dC dI g [.ref a0, .int (0)] [] sz) (nQ dC dI (fun f => some (.long (1))) (fun f r => []) (va_A [] sz)) 0 0 (va_A [] sz) := by
  refine n_met (by decide +kernel) (Nat.le_of_ble_eq_true rfl) (fun f => some (.long (1))) (fun f r => []) ?_
  intro p e s m below meth c A ls ⟨hx, hb, hr, hml, hown, hts, hlk, hnm⟩ hE hP hD hA hl
  have hown : s.vm.findClass "Minestrata$Equations" = some m.cls := hown
  have hK := hE.1
  have hS : va_S A s.heap s.heap [] := va_S.rf
  have hl : lv_has ls 9 [(0, .ref a0), (1, .int (0))] := hl
  refine lv_lconst (v := (1)) hx hb dX2_solve_0 (by decide +kernel) ?_
  refine lv_lstore_n (lv' := [(2, .long (1)), (0, .ref a0), (1, .int (0))]) hx hb dX2_solve_1 rfl hl (by decide) rfl (fun ls hl => ?_)
  refine lv_iconst (v := (0)) hx hb dX2_solve_2 (by decide +kernel) ?_
  refine lv_istore (lv' := [(4, .int (0)), (2, .long (1)), (0, .ref a0), (1, .int (0))]) hx hb dX2_solve_3 hl (by decide) rfl (fun ls hl => ?_)
  refine lv_iload hx hb dX2_solve_5 (lv_at hl 0 rfl) ?_
  refine lv_iload_n hx hb dX2_solve_7 rfl (lv_at hl 3 rfl) ?_
  refine lv_icmp_ge (tgt := 167) hx hb dX2_solve_8 (by decide +kernel) (fun _ => ?_) (fun h => absurd (by decide +kernel) h)
  refine lv_lload_n hx hb dX2_solve_167 rfl (lv_at hl 1 rfl) ?_
  refine W.widen (k := 0) (n := 0) (Nat.le_of_ble_eq_true rfl) (Nat.le_of_ble_eq_true rfl) ?_
  exact W.lret hx hb hr (n_end hS hP hD [] (by decide +kernel) (fun _ => 0) (fun _ => 0) rfl rfl rfl) hS.2.2 dX2_solve_168 hlk

set_option maxHeartbeats 4000000 in
set_option maxRecDepth 100000 in
/-- Minestrata$Air.solveModulo -/
theorem m235 (l : Launch) (hst : l.stackTraces = false) (dC : Nat → ClassId) (dI : Nat → Nat → Nat) (g : Nat → Nat) (a0 a1 a2 a3 a4 a5 a6 a7 a8 a9 a10 a11 a12 a13 a14 a15 a16 a17 a18 a19 a20 a21 a22 a23 a24 a25 a26 a27 a28 : Nat) (sz : Nat) :
    Met l Y64 (Cond.code Y64 prog_2_method_6_code 7 (Option.some Jvm.ClassFile.FieldType.long) :: AW) ({ frames := 2, cells := 0, slots := 0, locals := 41 } : Room) (nP dC dI g [.ref a0, .ref a1, .long (2147483647)] [(a1, .inr (8, [.int (0), .ref a2, .ref a3, .ref a4, .ref a5, .int (0), .ref a6, .ref a7, .ref a8, .ref a9, .ref a10, .ref a11, .ref a12])), (a0, .inr (2, [.ref a13, .ref a14, .ref a15, .ref a16, .ref a17, .ref a18, .int (0), .ref a19, .ref a20, .ref a21, .ref a22, .ref a23, .ref a24, .ref a25, .int (0), .int (0)])), (a13, .inr (9, [.int (0), .ref a26, .ref a27])), (a21, .inr (3, [.ref a28, .long (2)]))] sz) (nQ dC dI (fun f => some (.long (1))) (fun f r => [(a1, .inr (8, [.int (0), .ref a2, .ref a3, .ref a4, .ref a5, .int (0), .ref a6, .ref a7, .ref a8, .ref a9, .ref a10, .ref a11, .ref a12])), (a0, .inr (2, [.ref a13, .ref a14, .ref a15, .ref a16, .ref a17, .ref a18, .int (0), .ref a19, .ref a20, .ref a21, .ref a22, .ref a23, .ref a24, .ref a25, .int (0), .int (0)])), (a13, .inr (9, [.int (0), .ref a26, .ref a27])), (a21, .inr (3, [.ref a28, .long (2147483647)]))]) (va_A [(a1, .inr (8, [.int (0), .ref a2, .ref a3, .ref a4, .ref a5, .int (0), .ref a6, .ref a7, .ref a8, .ref a9, .ref a10, .ref a11, .ref a12])), (a0, .inr (2, [.ref a13, .ref a14, .ref a15, .ref a16, .ref a17, .ref a18, .int (0), .ref a19, .ref a20, .ref a21, .ref a22, .ref a23, .ref a24, .ref a25, .int (0), .int (0)])), (a13, .inr (9, [.int (0), .ref a26, .ref a27])), (a21, .inr (3, [.ref a28, .long (2)]))] sz)) 0 0 (va_A [(a1, .inr (8, [.int (0), .ref a2, .ref a3, .ref a4, .ref a5, .int (0), .ref a6, .ref a7, .ref a8, .ref a9, .ref a10, .ref a11, .ref a12])), (a0, .inr (2, [.ref a13, .ref a14, .ref a15, .ref a16, .ref a17, .ref a18, .int (0), .ref a19, .ref a20, .ref a21, .ref a22, .ref a23, .ref a24, .ref a25, .int (0), .int (0)])), (a13, .inr (9, [.int (0), .ref a26, .ref a27])), (a21, .inr (3, [.ref a28, .long (2)]))] sz) := by
  refine n_met (by decide +kernel) (Nat.le_of_ble_eq_true rfl) (fun f => some (.long (1))) (fun f r => [(a1, .inr (8, [.int (0), .ref a2, .ref a3, .ref a4, .ref a5, .int (0), .ref a6, .ref a7, .ref a8, .ref a9, .ref a10, .ref a11, .ref a12])), (a0, .inr (2, [.ref a13, .ref a14, .ref a15, .ref a16, .ref a17, .ref a18, .int (0), .ref a19, .ref a20, .ref a21, .ref a22, .ref a23, .ref a24, .ref a25, .int (0), .int (0)])), (a13, .inr (9, [.int (0), .ref a26, .ref a27])), (a21, .inr (3, [.ref a28, .long (2147483647)]))]) ?_
  intro p e s m below meth c A ls ⟨hx, hb, hr, hml, hown, hts, hlk, hnm⟩ hE hP hD hA hl
  have hown : s.vm.findClass "Minestrata$Air" = some m.cls := hown
  have hK := hE.1
  have hS : va_S A s.heap s.heap [] := va_S.rf
  have hl : lv_has ls 7 [(0, .ref a0), (1, .ref a1), (2, .long (2147483647))] := hl
  refine lv_lload_n hx hb dX0_solveModulo_0 rfl (lv_at hl 2 rfl) ?_
  refine lv_ldc2 (v := (2)) hx hb hown (hts _ q600) dX0_solveModulo_1 ?_
  refine W.lcmp hx hb dX0_solveModulo_4 ?_
  refine nt_i (v := (1)) (by decide +kernel) ?_
  refine lv_if_lt (tgt := 20) hx hb dX0_solveModulo_5 (by decide +kernel) (fun h => absurd h (by decide +kernel)) (fun _ => ?_)
  refine lv_aload_n hx hb dX0_solveModulo_8 rfl (lv_at hl 0 rfl) ?_
  refine va_get (D := (dC, dI)) (ci := 2) (v := .ref a13) (C := "Minestrata$Air") (T := TX0) (N := 16) hx hb hts inX0 hown hK hP 1 rfl rfl 0 (by decide) (hts _ q351) (fun _ h9 => h9) rfl dX0_solveModulo_9 ?_
  refine va_get (D := (dC, dI)) (ci := 9) (v := .int (0)) (C := "Minestrata$Radix") (T := TX8) (N := 3) hx hb hts inX8 hown hK hP 2 rfl rfl 0 (by decide) (hts _ q263) (fun _ h9 => h9) rfl dX0_solveModulo_12 ?_
  refine lv_bipush (v := (32)) hx hb dX0_solveModulo_15 (by decide +kernel) ?_
  refine lv_icmp_lt (tgt := 22) hx hb dX0_solveModulo_17 (by decide +kernel) (fun _ => ?_) (fun h => absurd (by decide +kernel) h)
  refine lv_aload_n hx hb dX0_solveModulo_22 rfl (lv_at hl 0 rfl) ?_
  refine va_get (D := (dC, dI)) (ci := 2) (v := .ref a21) (C := "Minestrata$Air") (T := TX0) (N := 16) hx hb hts inX0 hown hK hP 1 rfl rfl 9 (by decide) (hts _ q368) (fun _ h9 => h9) rfl dX0_solveModulo_23 ?_
  refine lv_aload_n hx hb dX0_solveModulo_26 rfl (lv_at hl 0 rfl) ?_
  refine va_get (D := (dC, dI)) (ci := 2) (v := .int (0)) (C := "Minestrata$Air") (T := TX0) (N := 16) hx hb hts inX0 hown hK hP 1 rfl rfl 14 (by decide) (hts _ q373) (fun _ h9 => h9) rfl dX0_solveModulo_27 ?_
  refine lv_lload_n hx hb dX0_solveModulo_30 rfl (lv_at hl 2 rfl) ?_
  have hX : nCx p s m _ c prog_2_method_6_code 7 "Minestrata$Air" dC dI g A [(a1, .inr (8, [.int (0), .ref a2, .ref a3, .ref a4, .ref a5, .int (0), .ref a6, .ref a7, .ref a8, .ref a9, .ref a10, .ref a11, .ref a12])), (a0, .inr (2, [.ref a13, .ref a14, .ref a15, .ref a16, .ref a17, .ref a18, .int (0), .ref a19, .ref a20, .ref a21, .ref a22, .ref a23, .ref a24, .ref a25, .int (0), .int (0)])), (a13, .inr (9, [.int (0), .ref a26, .ref a27])), (a21, .inr (3, [.ref a28, .long (2)]))] _ _ := ⟨⟨hx, hb, hml, hown, hts⟩, hE, hS, hA, hP, hD⟩
  refine n_call (wr := [(a1, .inr (8, [.int (0), .ref a2, .ref a3, .ref a4, .ref a5, .int (0), .ref a6, .ref a7, .ref a8, .ref a9, .ref a10, .ref a11, .ref a12])), (a0, .inr (2, [.ref a13, .ref a14, .ref a15, .ref a16, .ref a17, .ref a18, .int (0), .ref a19, .ref a20, .ref a21, .ref a22, .ref a23, .ref a24, .ref a25, .int (0), .int (0)])), (a13, .inr (9, [.int (0), .ref a26, .ref a27]))]) hX (n_runV (n := 2) (wc := [(a21, .inr (3, [.ref a28, .long (2)]))]) (As := [.int (0), .long (2147483647)]) (rest := []) hX (m233 l hst dC dI g a21 a28 _) [3] rfl (by decide +kernel) 3 (ci := 3) rfl (T := TX2) (N := 2) (C := "Minestrata$Equations") rfl q601 q602 q603 q77 q604 (by decide +kernel) ⟨(Nat.le_of_ble_eq_true rfl), (Nat.le_of_ble_eq_true rfl)⟩ ⟨(Nat.le_of_ble_eq_true rfl), (Nat.le_of_ble_eq_true rfl)⟩ hl.1 rfl rfl (Nat.le_of_ble_eq_true rfl) dX0_solveModulo_31) [3] [0, 1, 2] rfl rfl (by decide +kernel) (by decide +kernel) (fun f1 r2 H locs hP hD hS => ?_)
  have hP : va_P (dC, dI) CL [(a1, .inr (8, [.int (0), .ref a2, .ref a3, .ref a4, .ref a5, .int (0), .ref a6, .ref a7, .ref a8, .ref a9, .ref a10, .ref a11, .ref a12])), (a0, .inr (2, [.ref a13, .ref a14, .ref a15, .ref a16, .ref a17, .ref a18, .int (0), .ref a19, .ref a20, .ref a21, .ref a22, .ref a23, .ref a24, .ref a25, .int (0), .int (0)])), (a13, .inr (9, [.int (0), .ref a26, .ref a27])), (a21, .inr (3, [.ref a28, .long (2147483647)]))] _ := hP
  have hD : va_D A [(a1, .inr (8, [.int (0), .ref a2, .ref a3, .ref a4, .ref a5, .int (0), .ref a6, .ref a7, .ref a8, .ref a9, .ref a10, .ref a11, .ref a12])), (a0, .inr (2, [.ref a13, .ref a14, .ref a15, .ref a16, .ref a17, .ref a18, .int (0), .ref a19, .ref a20, .ref a21, .ref a22, .ref a23, .ref a24, .ref a25, .int (0), .int (0)])), (a13, .inr (9, [.int (0), .ref a26, .ref a27])), (a21, .inr (3, [.ref a28, .long (2147483647)]))] := hD
  refine W.widen (k := 0) (n := 0) (Nat.le_of_ble_eq_true rfl) (Nat.le_of_ble_eq_true rfl) ?_
  refine W.eq (g2 := F0 m 34 ls []) rfl ?_
  refine lv_lconst (v := (1)) hx hb dX0_solveModulo_34 (by decide +kernel) ?_
  refine lv_lstore (lv' := [(4, .long (1)), (0, .ref a0), (1, .ref a1), (2, .long (2147483647))]) hx hb dX0_solveModulo_35 hl (by decide) rfl (fun ls hl => ?_)
  refine lv_iconst (v := (0)) hx hb dX0_solveModulo_37 (by decide +kernel) ?_
  refine lv_istore (lv' := [(6, .int (0)), (4, .long (1)), (0, .ref a0), (1, .ref a1), (2, .long (2147483647))]) hx hb dX0_solveModulo_38 hl (by decide) rfl (fun ls hl => ?_)
  refine lv_iload hx hb dX0_solveModulo_40 (lv_at hl 0 rfl) ?_
  refine lv_aload_n hx hb dX0_solveModulo_42 rfl (lv_at hl 3 rfl) ?_
  refine va_get (D := (dC, dI)) (ci := 8) (v := .int (0)) (C := "Minestrata$Net") (T := TX7) (N := 13) hx hb hts inX7 hown hK hP 0 rfl rfl 5 (by decide) (hts _ q151) (fun _ h9 => h9) rfl dX0_solveModulo_43 ?_
  refine lv_icmp_ge (tgt := 159) hx hb dX0_solveModulo_46 (by decide +kernel) (fun _ => ?_) (fun h => absurd (by decide +kernel) h)
  refine lv_aload_n hx hb dX0_solveModulo_159 rfl (lv_at hl 2 rfl) ?_
  refine va_get (D := (dC, dI)) (ci := 2) (v := .ref a21) (C := "Minestrata$Air") (T := TX0) (N := 16) hx hb hts inX0 hown hK hP 1 rfl rfl 9 (by decide) (hts _ q368) (fun _ h9 => h9) rfl dX0_solveModulo_160 ?_
  refine lv_aload_n hx hb dX0_solveModulo_163 rfl (lv_at hl 2 rfl) ?_
  refine va_get (D := (dC, dI)) (ci := 2) (v := .int (0)) (C := "Minestrata$Air") (T := TX0) (N := 16) hx hb hts inX0 hown hK hP 1 rfl rfl 14 (by decide) (hts _ q373) (fun _ h9 => h9) rfl dX0_solveModulo_164 ?_
  have hX : nCx p s m _ c prog_2_method_6_code 7 "Minestrata$Air" dC dI g A [(a1, .inr (8, [.int (0), .ref a2, .ref a3, .ref a4, .ref a5, .int (0), .ref a6, .ref a7, .ref a8, .ref a9, .ref a10, .ref a11, .ref a12])), (a0, .inr (2, [.ref a13, .ref a14, .ref a15, .ref a16, .ref a17, .ref a18, .int (0), .ref a19, .ref a20, .ref a21, .ref a22, .ref a23, .ref a24, .ref a25, .int (0), .int (0)])), (a13, .inr (9, [.int (0), .ref a26, .ref a27])), (a21, .inr (3, [.ref a28, .long (2147483647)]))] _ _ := ⟨⟨hx, hb, hml, hown, hts⟩, hE, hS, hA, hP, hD⟩
  refine n_call (wr := [(a1, .inr (8, [.int (0), .ref a2, .ref a3, .ref a4, .ref a5, .int (0), .ref a6, .ref a7, .ref a8, .ref a9, .ref a10, .ref a11, .ref a12])), (a0, .inr (2, [.ref a13, .ref a14, .ref a15, .ref a16, .ref a17, .ref a18, .int (0), .ref a19, .ref a20, .ref a21, .ref a22, .ref a23, .ref a24, .ref a25, .int (0), .int (0)])), (a13, .inr (9, [.int (0), .ref a26, .ref a27])), (a21, .inr (3, [.ref a28, .long (2147483647)]))]) hX (n_runV (n := 1) (wc := []) (As := [.int (0)]) (rest := []) hX (m234 l hst dC dI g a21 _) [] rfl (by decide +kernel) 3 (ci := 3) rfl (T := TX2) (N := 2) (C := "Minestrata$Equations") rfl q628 q629 q630 q77 q631 (by decide +kernel) ⟨(Nat.le_of_ble_eq_true rfl), (Nat.le_of_ble_eq_true rfl)⟩ ⟨(Nat.le_of_ble_eq_true rfl), (Nat.le_of_ble_eq_true rfl)⟩ hl.1 rfl rfl (Nat.le_of_ble_eq_true rfl) dX0_solveModulo_167) [] [0, 1, 2, 3] rfl rfl (by decide +kernel) (by decide +kernel) (fun f3 r4 H locs hP hD hS => ?_)
  have hP : va_P (dC, dI) CL [(a1, .inr (8, [.int (0), .ref a2, .ref a3, .ref a4, .ref a5, .int (0), .ref a6, .ref a7, .ref a8, .ref a9, .ref a10, .ref a11, .ref a12])), (a0, .inr (2, [.ref a13, .ref a14, .ref a15, .ref a16, .ref a17, .ref a18, .int (0), .ref a19, .ref a20, .ref a21, .ref a22, .ref a23, .ref a24, .ref a25, .int (0), .int (0)])), (a13, .inr (9, [.int (0), .ref a26, .ref a27])), (a21, .inr (3, [.ref a28, .long (2147483647)]))] _ := hP
  have hD : va_D A [(a1, .inr (8, [.int (0), .ref a2, .ref a3, .ref a4, .ref a5, .int (0), .ref a6, .ref a7, .ref a8, .ref a9, .ref a10, .ref a11, .ref a12])), (a0, .inr (2, [.ref a13, .ref a14, .ref a15, .ref a16, .ref a17, .ref a18, .int (0), .ref a19, .ref a20, .ref a21, .ref a22, .ref a23, .ref a24, .ref a25, .int (0), .int (0)])), (a13, .inr (9, [.int (0), .ref a26, .ref a27])), (a21, .inr (3, [.ref a28, .long (2147483647)]))] := hD
  refine W.widen (k := 0) (n := 0) (Nat.le_of_ble_eq_true rfl) (Nat.le_of_ble_eq_true rfl) ?_
  refine W.eq (g2 := F0 m 170 ls [.long (1)]) rfl ?_
  refine lv_lload hx hb dX0_solveModulo_170 (lv_at hl 1 rfl) ?_
  refine lv_lmul hx hb dX0_solveModulo_172 ?_
  refine nt_l (v := (1)) (by decide +kernel) ?_
  refine lv_lload_n hx hb dX0_solveModulo_173 rfl (lv_at hl 4 rfl) ?_
  refine lv_lrem hx hb dX0_solveModulo_174 (by decide +kernel) ?_
  refine nt_l (v := (1)) (by decide +kernel) ?_
  refine W.widen (k := 0) (n := 0) (Nat.le_of_ble_eq_true rfl) (Nat.le_of_ble_eq_true rfl) ?_
  exact W.lret hx hb hr (n_end hS hP hD [0, 1, 2, 3] (by decide +kernel) (fun _ => 0) (fun _ => 0) rfl rfl rfl) hS.2.2 dX0_solveModulo_175 hlk

