set_option maxHeartbeats 4000000 in
set_option maxRecDepth 100000 in
/-- Minestrata$Net.<init> -/
theorem m0 (l : Launch) (hst : l.stackTraces = false) (dC : Nat → ClassId) (dI : Nat → Nat → Nat) (g : Nat → Nat) (a0 : Nat) (sz : Nat) :
    Met l Y1 (Cond.code Y1 prog_9_method_1_code 1 (Option.none : Option Jvm.ClassFile.FieldType) :: AW) ({ frames := 1, cells := 11, slots := 134, locals := 12 } : Room) (nP dC dI g [.ref a0] [(a0, .inr (8, [.int (0), .null, .null, .null, .null, .int (0), .null, .null, .null, .null, .null, .null, .null]))] sz) (nQ dC dI (fun f => none) (fun f r => [(a0, .inr (8, [.int (0), .ref (f 0), .ref (f 1), .ref (f 2), .ref (f 3), .int (0), .ref (f 4), .ref (f 5), .ref (f 6), .ref (f 7), .ref (f 8), .ref (f 9), .ref (f 10)])), (f 0, .inl (g 2, 9, .inl (fun _ => 0))), (f 1, .inl (g 0, 9, .inl (fun _ => 0)))]) (va_A [(a0, .inr (8, [.int (0), .null, .null, .null, .null, .int (0), .null, .null, .null, .null, .null, .null, .null]))] sz)) 11 134 (va_A [(a0, .inr (8, [.int (0), .null, .null, .null, .null, .int (0), .null, .null, .null, .null, .null, .null, .null]))] sz) := by
  refine n_met (by decide +kernel) (Nat.le_of_ble_eq_true rfl) (fun f => none) (fun f r => [(a0, .inr (8, [.int (0), .ref (f 0), .ref (f 1), .ref (f 2), .ref (f 3), .int (0), .ref (f 4), .ref (f 5), .ref (f 6), .ref (f 7), .ref (f 8), .ref (f 9), .ref (f 10)])), (f 0, .inl (g 2, 9, .inl (fun _ => 0))), (f 1, .inl (g 0, 9, .inl (fun _ => 0)))]) ?_
  intro p e s m below meth c A ls ⟨hx, hb, hr, hml, hown, hts, hlk, hnm⟩ hE hP hD hA hl
  have hown : s.vm.findClass "Minestrata$Net" = some m.cls := hown
  have hin : meth.name = "<init>" := hnm
  have hK := hE.1
  have hS : va_S A s.heap s.heap [] := va_S.rf
  have hl : lv_has ls 1 [(0, .ref a0)] := hl
  refine lv_aload_n hx hb dX7_init_0 rfl (lv_at hl 0 rfl) ?_
  refine n_oinit hx hb hml hown hts q125 q118 q119 hl.1 dX7_init_1 (Nat.le_of_ble_eq_true rfl) (Nat.le_of_ble_eq_true rfl) ?_
  refine lv_aload_n hx hb dX7_init_4 rfl (lv_at hl 0 rfl) ?_
  refine lv_bipush (v := (9)) hx hb dX7_init_5 (by decide +kernel) ?_
  refine n_newa hx hb (atype := .boolean) (ty := .boolean) q200 hts rfl hK hP hD hS hA 2 rfl (fun _ _ => rfl) (N' := 9) (a0 := (9, .inl (fun _ => 0))) (fun _ => rfl) (by decide +kernel) (by decide +kernel) (Nat.le_of_ble_eq_true rfl) (Nat.le_of_ble_eq_true rfl) (Nat.le_of_ble_eq_true rfl) dX7_init_7 (fun q1 H hP hD hS => ?_)
  have hP : va_P (dC, dI) CL [(a0, .inr (8, [.int (0), .null, .null, .null, .null, .int (0), .null, .null, .null, .null, .null, .null, .null])), (q1, .inl (g 2, 9, .inl (fun _ => 0)))] _ := hP
  have hD : va_D A [(a0, .inr (8, [.int (0), .null, .null, .null, .null, .int (0), .null, .null, .null, .null, .null, .null, .null])), (q1, .inl (g 2, 9, .inl (fun _ => 0)))] := hD
  refine W.widen (k := 1) (n := 9) (Nat.le_of_ble_eq_true rfl) (Nat.le_of_ble_eq_true rfl) ?_
  refine va_putF (D := (dC, dI)) (ci := 8) (v := .ref q1) (ty := (.array .boolean)) (C := "Minestrata$Net") (T := TX7) (N := 13) hx hb hts inX7 tyX7 tyX7_ok nmX7 hown hK hP hD hS 0 rfl rfl 1 (by decide) (hts _ q132) (fun _ h9 => h9) rfl hin rfl (by decide +kernel) rfl rfl (Nat.le_of_ble_eq_true rfl) dX7_init_9 (fun H locs hP hD hS => ?_)
  have hP : va_P (dC, dI) CL [(a0, .inr (8, [.int (0), .ref q1, .null, .null, .null, .int (0), .null, .null, .null, .null, .null, .null, .null])), (q1, .inl (g 2, 9, .inl (fun _ => 0)))] _ := hP
  have hD : va_D A [(a0, .inr (8, [.int (0), .ref q1, .null, .null, .null, .int (0), .null, .null, .null, .null, .null, .null, .null])), (q1, .inl (g 2, 9, .inl (fun _ => 0)))] := hD
  refine lv_aload_n hx hb dX7_init_12 rfl (lv_at hl 0 rfl) ?_
  refine lv_bipush (v := (9)) hx hb dX7_init_13 (by decide +kernel) ?_
  refine n_newa hx hb (atype := .int) (ty := .int) q201 hts rfl hK hP hD hS hA 0 rfl (fun _ _ => rfl) (N' := 9) (a0 := (9, .inl (fun _ => 0))) (fun _ => rfl) (by decide +kernel) (by decide +kernel) (Nat.le_of_ble_eq_true rfl) (Nat.le_of_ble_eq_true rfl) (Nat.le_of_ble_eq_true rfl) dX7_init_15 (fun q2 H hP hD hS => ?_)
  have hP : va_P (dC, dI) CL [(a0, .inr (8, [.int (0), .ref q1, .null, .null, .null, .int (0), .null, .null, .null, .null, .null, .null, .null])), (q1, .inl (g 2, 9, .inl (fun _ => 0))), (q2, .inl (g 0, 9, .inl (fun _ => 0)))] _ := hP
  have hD : va_D A [(a0, .inr (8, [.int (0), .ref q1, .null, .null, .null, .int (0), .null, .null, .null, .null, .null, .null, .null])), (q1, .inl (g 2, 9, .inl (fun _ => 0))), (q2, .inl (g 0, 9, .inl (fun _ => 0)))] := hD
  refine W.widen (k := 2) (n := 18) (Nat.le_of_ble_eq_true rfl) (Nat.le_of_ble_eq_true rfl) ?_
  refine va_putF (D := (dC, dI)) (ci := 8) (v := .ref q2) (ty := (.array .int)) (C := "Minestrata$Net") (T := TX7) (N := 13) hx hb hts inX7 tyX7 tyX7_ok nmX7 hown hK hP hD hS 0 rfl rfl 2 (by decide) (hts _ q138) (fun _ h9 => h9) rfl hin rfl (by decide +kernel) rfl rfl (Nat.le_of_ble_eq_true rfl) dX7_init_17 (fun H locs hP hD hS => ?_)
  have hP : va_P (dC, dI) CL [(a0, .inr (8, [.int (0), .ref q1, .ref q2, .null, .null, .int (0), .null, .null, .null, .null, .null, .null, .null])), (q1, .inl (g 2, 9, .inl (fun _ => 0))), (q2, .inl (g 0, 9, .inl (fun _ => 0)))] _ := hP
  have hD : va_D A [(a0, .inr (8, [.int (0), .ref q1, .ref q2, .null, .null, .int (0), .null, .null, .null, .null, .null, .null, .null])), (q1, .inl (g 2, 9, .inl (fun _ => 0))), (q2, .inl (g 0, 9, .inl (fun _ => 0)))] := hD
  refine lv_aload_n hx hb dX7_init_20 rfl (lv_at hl 0 rfl) ?_
  refine lv_bipush (v := (9)) hx hb dX7_init_21 (by decide +kernel) ?_
  refine n_newa hx hb (atype := .int) (ty := .int) q201 hts rfl hK hP hD hS hA 0 rfl (fun _ _ => rfl) (N' := 9) (a0 := (9, .inl (fun _ => 0))) (fun _ => rfl) (by decide +kernel) (by decide +kernel) (Nat.le_of_ble_eq_true rfl) (Nat.le_of_ble_eq_true rfl) (Nat.le_of_ble_eq_true rfl) dX7_init_23 (fun q3 H hP hD hS => ?_)
  have hP : va_P (dC, dI) CL [(a0, .inr (8, [.int (0), .ref q1, .ref q2, .null, .null, .int (0), .null, .null, .null, .null, .null, .null, .null])), (q1, .inl (g 2, 9, .inl (fun _ => 0))), (q2, .inl (g 0, 9, .inl (fun _ => 0)))] _ := hP.sub [0, 1, 2] rfl
  have hD : va_D A [(a0, .inr (8, [.int (0), .ref q1, .ref q2, .null, .null, .int (0), .null, .null, .null, .null, .null, .null, .null])), (q1, .inl (g 2, 9, .inl (fun _ => 0))), (q2, .inl (g 0, 9, .inl (fun _ => 0)))] := hD.sub [0, 1, 2] (by decide +kernel) rfl
  refine W.widen (k := 3) (n := 27) (Nat.le_of_ble_eq_true rfl) (Nat.le_of_ble_eq_true rfl) ?_
  refine va_putF (D := (dC, dI)) (ci := 8) (v := .ref q3) (ty := (.array .int)) (C := "Minestrata$Net") (T := TX7) (N := 13) hx hb hts inX7 tyX7 tyX7_ok nmX7 hown hK hP hD hS 0 rfl rfl 3 (by decide) (hts _ q141) (fun _ h9 => h9) rfl hin rfl (by decide +kernel) rfl rfl (Nat.le_of_ble_eq_true rfl) dX7_init_25 (fun H locs hP hD hS => ?_)
  have hP : va_P (dC, dI) CL [(a0, .inr (8, [.int (0), .ref q1, .ref q2, .ref q3, .null, .int (0), .null, .null, .null, .null, .null, .null, .null])), (q1, .inl (g 2, 9, .inl (fun _ => 0))), (q2, .inl (g 0, 9, .inl (fun _ => 0)))] _ := hP
  have hD : va_D A [(a0, .inr (8, [.int (0), .ref q1, .ref q2, .ref q3, .null, .int (0), .null, .null, .null, .null, .null, .null, .null])), (q1, .inl (g 2, 9, .inl (fun _ => 0))), (q2, .inl (g 0, 9, .inl (fun _ => 0)))] := hD
  refine lv_aload_n hx hb dX7_init_28 rfl (lv_at hl 0 rfl) ?_
  refine lv_bipush (v := (9)) hx hb dX7_init_29 (by decide +kernel) ?_
  refine n_newa hx hb (atype := .boolean) (ty := .boolean) q200 hts rfl hK hP hD hS hA 2 rfl (fun _ _ => rfl) (N' := 9) (a0 := (9, .inl (fun _ => 0))) (fun _ => rfl) (by decide +kernel) (by decide +kernel) (Nat.le_of_ble_eq_true rfl) (Nat.le_of_ble_eq_true rfl) (Nat.le_of_ble_eq_true rfl) dX7_init_31 (fun q4 H hP hD hS => ?_)
  have hP : va_P (dC, dI) CL [(a0, .inr (8, [.int (0), .ref q1, .ref q2, .ref q3, .null, .int (0), .null, .null, .null, .null, .null, .null, .null])), (q1, .inl (g 2, 9, .inl (fun _ => 0))), (q2, .inl (g 0, 9, .inl (fun _ => 0)))] _ := hP.sub [0, 1, 2] rfl
  have hD : va_D A [(a0, .inr (8, [.int (0), .ref q1, .ref q2, .ref q3, .null, .int (0), .null, .null, .null, .null, .null, .null, .null])), (q1, .inl (g 2, 9, .inl (fun _ => 0))), (q2, .inl (g 0, 9, .inl (fun _ => 0)))] := hD.sub [0, 1, 2] (by decide +kernel) rfl
  refine W.widen (k := 4) (n := 36) (Nat.le_of_ble_eq_true rfl) (Nat.le_of_ble_eq_true rfl) ?_
  refine va_putF (D := (dC, dI)) (ci := 8) (v := .ref q4) (ty := (.array .boolean)) (C := "Minestrata$Net") (T := TX7) (N := 13) hx hb hts inX7 tyX7 tyX7_ok nmX7 hown hK hP hD hS 0 rfl rfl 4 (by decide) (hts _ q144) (fun _ h9 => h9) rfl hin rfl (by decide +kernel) rfl rfl (Nat.le_of_ble_eq_true rfl) dX7_init_33 (fun H locs hP hD hS => ?_)
  have hP : va_P (dC, dI) CL [(a0, .inr (8, [.int (0), .ref q1, .ref q2, .ref q3, .ref q4, .int (0), .null, .null, .null, .null, .null, .null, .null])), (q1, .inl (g 2, 9, .inl (fun _ => 0))), (q2, .inl (g 0, 9, .inl (fun _ => 0)))] _ := hP
  have hD : va_D A [(a0, .inr (8, [.int (0), .ref q1, .ref q2, .ref q3, .ref q4, .int (0), .null, .null, .null, .null, .null, .null, .null])), (q1, .inl (g 2, 9, .inl (fun _ => 0))), (q2, .inl (g 0, 9, .inl (fun _ => 0)))] := hD
  refine lv_aload_n hx hb dX7_init_36 rfl (lv_at hl 0 rfl) ?_
  refine lv_bipush (v := (14)) hx hb dX7_init_37 (by decide +kernel) ?_
  refine n_newa hx hb (atype := .int) (ty := .int) q201 hts rfl hK hP hD hS hA 0 rfl (fun _ _ => rfl) (N' := 14) (a0 := (14, .inl (fun _ => 0))) (fun _ => rfl) (by decide +kernel) (by decide +kernel) (Nat.le_of_ble_eq_true rfl) (Nat.le_of_ble_eq_true rfl) (Nat.le_of_ble_eq_true rfl) dX7_init_39 (fun q5 H hP hD hS => ?_)
  have hP : va_P (dC, dI) CL [(a0, .inr (8, [.int (0), .ref q1, .ref q2, .ref q3, .ref q4, .int (0), .null, .null, .null, .null, .null, .null, .null])), (q1, .inl (g 2, 9, .inl (fun _ => 0))), (q2, .inl (g 0, 9, .inl (fun _ => 0)))] _ := hP.sub [0, 1, 2] rfl
  have hD : va_D A [(a0, .inr (8, [.int (0), .ref q1, .ref q2, .ref q3, .ref q4, .int (0), .null, .null, .null, .null, .null, .null, .null])), (q1, .inl (g 2, 9, .inl (fun _ => 0))), (q2, .inl (g 0, 9, .inl (fun _ => 0)))] := hD.sub [0, 1, 2] (by decide +kernel) rfl
  refine W.widen (k := 5) (n := 50) (Nat.le_of_ble_eq_true rfl) (Nat.le_of_ble_eq_true rfl) ?_
  refine va_putF (D := (dC, dI)) (ci := 8) (v := .ref q5) (ty := (.array .int)) (C := "Minestrata$Net") (T := TX7) (N := 13) hx hb hts inX7 tyX7 tyX7_ok nmX7 hown hK hP hD hS 0 rfl rfl 6 (by decide) (hts _ q152) (fun _ h9 => h9) rfl hin rfl (by decide +kernel) rfl rfl (Nat.le_of_ble_eq_true rfl) dX7_init_41 (fun H locs hP hD hS => ?_)
  have hP : va_P (dC, dI) CL [(a0, .inr (8, [.int (0), .ref q1, .ref q2, .ref q3, .ref q4, .int (0), .ref q5, .null, .null, .null, .null, .null, .null])), (q1, .inl (g 2, 9, .inl (fun _ => 0))), (q2, .inl (g 0, 9, .inl (fun _ => 0)))] _ := hP
  have hD : va_D A [(a0, .inr (8, [.int (0), .ref q1, .ref q2, .ref q3, .ref q4, .int (0), .ref q5, .null, .null, .null, .null, .null, .null])), (q1, .inl (g 2, 9, .inl (fun _ => 0))), (q2, .inl (g 0, 9, .inl (fun _ => 0)))] := hD
  refine lv_aload_n hx hb dX7_init_44 rfl (lv_at hl 0 rfl) ?_
  refine lv_bipush (v := (14)) hx hb dX7_init_45 (by decide +kernel) ?_
  refine n_newa hx hb (atype := .int) (ty := .int) q201 hts rfl hK hP hD hS hA 0 rfl (fun _ _ => rfl) (N' := 14) (a0 := (14, .inl (fun _ => 0))) (fun _ => rfl) (by decide +kernel) (by decide +kernel) (Nat.le_of_ble_eq_true rfl) (Nat.le_of_ble_eq_true rfl) (Nat.le_of_ble_eq_true rfl) dX7_init_47 (fun q6 H hP hD hS => ?_)
  have hP : va_P (dC, dI) CL [(a0, .inr (8, [.int (0), .ref q1, .ref q2, .ref q3, .ref q4, .int (0), .ref q5, .null, .null, .null, .null, .null, .null])), (q1, .inl (g 2, 9, .inl (fun _ => 0))), (q2, .inl (g 0, 9, .inl (fun _ => 0)))] _ := hP.sub [0, 1, 2] rfl
  have hD : va_D A [(a0, .inr (8, [.int (0), .ref q1, .ref q2, .ref q3, .ref q4, .int (0), .ref q5, .null, .null, .null, .null, .null, .null])), (q1, .inl (g 2, 9, .inl (fun _ => 0))), (q2, .inl (g 0, 9, .inl (fun _ => 0)))] := hD.sub [0, 1, 2] (by decide +kernel) rfl
  refine W.widen (k := 6) (n := 64) (Nat.le_of_ble_eq_true rfl) (Nat.le_of_ble_eq_true rfl) ?_
  refine va_putF (D := (dC, dI)) (ci := 8) (v := .ref q6) (ty := (.array .int)) (C := "Minestrata$Net") (T := TX7) (N := 13) hx hb hts inX7 tyX7 tyX7_ok nmX7 hown hK hP hD hS 0 rfl rfl 7 (by decide) (hts _ q157) (fun _ h9 => h9) rfl hin rfl (by decide +kernel) rfl rfl (Nat.le_of_ble_eq_true rfl) dX7_init_49 (fun H locs hP hD hS => ?_)
  have hP : va_P (dC, dI) CL [(a0, .inr (8, [.int (0), .ref q1, .ref q2, .ref q3, .ref q4, .int (0), .ref q5, .ref q6, .null, .null, .null, .null, .null])), (q1, .inl (g 2, 9, .inl (fun _ => 0))), (q2, .inl (g 0, 9, .inl (fun _ => 0)))] _ := hP
  have hD : va_D A [(a0, .inr (8, [.int (0), .ref q1, .ref q2, .ref q3, .ref q4, .int (0), .ref q5, .ref q6, .null, .null, .null, .null, .null])), (q1, .inl (g 2, 9, .inl (fun _ => 0))), (q2, .inl (g 0, 9, .inl (fun _ => 0)))] := hD
  refine lv_aload_n hx hb dX7_init_52 rfl (lv_at hl 0 rfl) ?_
  refine lv_bipush (v := (14)) hx hb dX7_init_53 (by decide +kernel) ?_
  refine n_newa hx hb (atype := .int) (ty := .int) q201 hts rfl hK hP hD hS hA 0 rfl (fun _ _ => rfl) (N' := 14) (a0 := (14, .inl (fun _ => 0))) (fun _ => rfl) (by decide +kernel) (by decide +kernel) (Nat.le_of_ble_eq_true rfl) (Nat.le_of_ble_eq_true rfl) (Nat.le_of_ble_eq_true rfl) dX7_init_55 (fun q7 H hP hD hS => ?_)
  have hP : va_P (dC, dI) CL [(a0, .inr (8, [.int (0), .ref q1, .ref q2, .ref q3, .ref q4, .int (0), .ref q5, .ref q6, .null, .null, .null, .null, .null])), (q1, .inl (g 2, 9, .inl (fun _ => 0))), (q2, .inl (g 0, 9, .inl (fun _ => 0)))] _ := hP.sub [0, 1, 2] rfl
  have hD : va_D A [(a0, .inr (8, [.int (0), .ref q1, .ref q2, .ref q3, .ref q4, .int (0), .ref q5, .ref q6, .null, .null, .null, .null, .null])), (q1, .inl (g 2, 9, .inl (fun _ => 0))), (q2, .inl (g 0, 9, .inl (fun _ => 0)))] := hD.sub [0, 1, 2] (by decide +kernel) rfl
  refine W.widen (k := 7) (n := 78) (Nat.le_of_ble_eq_true rfl) (Nat.le_of_ble_eq_true rfl) ?_
  refine va_putF (D := (dC, dI)) (ci := 8) (v := .ref q7) (ty := (.array .int)) (C := "Minestrata$Net") (T := TX7) (N := 13) hx hb hts inX7 tyX7 tyX7_ok nmX7 hown hK hP hD hS 0 rfl rfl 8 (by decide) (hts _ q162) (fun _ h9 => h9) rfl hin rfl (by decide +kernel) rfl rfl (Nat.le_of_ble_eq_true rfl) dX7_init_57 (fun H locs hP hD hS => ?_)
  have hP : va_P (dC, dI) CL [(a0, .inr (8, [.int (0), .ref q1, .ref q2, .ref q3, .ref q4, .int (0), .ref q5, .ref q6, .ref q7, .null, .null, .null, .null])), (q1, .inl (g 2, 9, .inl (fun _ => 0))), (q2, .inl (g 0, 9, .inl (fun _ => 0)))] _ := hP
  have hD : va_D A [(a0, .inr (8, [.int (0), .ref q1, .ref q2, .ref q3, .ref q4, .int (0), .ref q5, .ref q6, .ref q7, .null, .null, .null, .null])), (q1, .inl (g 2, 9, .inl (fun _ => 0))), (q2, .inl (g 0, 9, .inl (fun _ => 0)))] := hD
  refine lv_aload_n hx hb dX7_init_60 rfl (lv_at hl 0 rfl) ?_
  refine lv_bipush (v := (14)) hx hb dX7_init_61 (by decide +kernel) ?_
  refine n_newa hx hb (atype := .boolean) (ty := .boolean) q200 hts rfl hK hP hD hS hA 2 rfl (fun _ _ => rfl) (N' := 14) (a0 := (14, .inl (fun _ => 0))) (fun _ => rfl) (by decide +kernel) (by decide +kernel) (Nat.le_of_ble_eq_true rfl) (Nat.le_of_ble_eq_true rfl) (Nat.le_of_ble_eq_true rfl) dX7_init_63 (fun q8 H hP hD hS => ?_)
  have hP : va_P (dC, dI) CL [(a0, .inr (8, [.int (0), .ref q1, .ref q2, .ref q3, .ref q4, .int (0), .ref q5, .ref q6, .ref q7, .null, .null, .null, .null])), (q1, .inl (g 2, 9, .inl (fun _ => 0))), (q2, .inl (g 0, 9, .inl (fun _ => 0)))] _ := hP.sub [0, 1, 2] rfl
  have hD : va_D A [(a0, .inr (8, [.int (0), .ref q1, .ref q2, .ref q3, .ref q4, .int (0), .ref q5, .ref q6, .ref q7, .null, .null, .null, .null])), (q1, .inl (g 2, 9, .inl (fun _ => 0))), (q2, .inl (g 0, 9, .inl (fun _ => 0)))] := hD.sub [0, 1, 2] (by decide +kernel) rfl
  refine W.widen (k := 8) (n := 92) (Nat.le_of_ble_eq_true rfl) (Nat.le_of_ble_eq_true rfl) ?_
  refine va_putF (D := (dC, dI)) (ci := 8) (v := .ref q8) (ty := (.array .boolean)) (C := "Minestrata$Net") (T := TX7) (N := 13) hx hb hts inX7 tyX7 tyX7_ok nmX7 hown hK hP hD hS 0 rfl rfl 9 (by decide) (hts _ q164) (fun _ h9 => h9) rfl hin rfl (by decide +kernel) rfl rfl (Nat.le_of_ble_eq_true rfl) dX7_init_65 (fun H locs hP hD hS => ?_)
  have hP : va_P (dC, dI) CL [(a0, .inr (8, [.int (0), .ref q1, .ref q2, .ref q3, .ref q4, .int (0), .ref q5, .ref q6, .ref q7, .ref q8, .null, .null, .null])), (q1, .inl (g 2, 9, .inl (fun _ => 0))), (q2, .inl (g 0, 9, .inl (fun _ => 0)))] _ := hP
  have hD : va_D A [(a0, .inr (8, [.int (0), .ref q1, .ref q2, .ref q3, .ref q4, .int (0), .ref q5, .ref q6, .ref q7, .ref q8, .null, .null, .null])), (q1, .inl (g 2, 9, .inl (fun _ => 0))), (q2, .inl (g 0, 9, .inl (fun _ => 0)))] := hD
  refine lv_aload_n hx hb dX7_init_68 rfl (lv_at hl 0 rfl) ?_
  refine lv_bipush (v := (14)) hx hb dX7_init_69 (by decide +kernel) ?_
  refine n_newa hx hb (atype := .boolean) (ty := .boolean) q200 hts rfl hK hP hD hS hA 2 rfl (fun _ _ => rfl) (N' := 14) (a0 := (14, .inl (fun _ => 0))) (fun _ => rfl) (by decide +kernel) (by decide +kernel) (Nat.le_of_ble_eq_true rfl) (Nat.le_of_ble_eq_true rfl) (Nat.le_of_ble_eq_true rfl) dX7_init_71 (fun q9 H hP hD hS => ?_)
  have hP : va_P (dC, dI) CL [(a0, .inr (8, [.int (0), .ref q1, .ref q2, .ref q3, .ref q4, .int (0), .ref q5, .ref q6, .ref q7, .ref q8, .null, .null, .null])), (q1, .inl (g 2, 9, .inl (fun _ => 0))), (q2, .inl (g 0, 9, .inl (fun _ => 0)))] _ := hP.sub [0, 1, 2] rfl
  have hD : va_D A [(a0, .inr (8, [.int (0), .ref q1, .ref q2, .ref q3, .ref q4, .int (0), .ref q5, .ref q6, .ref q7, .ref q8, .null, .null, .null])), (q1, .inl (g 2, 9, .inl (fun _ => 0))), (q2, .inl (g 0, 9, .inl (fun _ => 0)))] := hD.sub [0, 1, 2] (by decide +kernel) rfl
  refine W.widen (k := 9) (n := 106) (Nat.le_of_ble_eq_true rfl) (Nat.le_of_ble_eq_true rfl) ?_
  refine va_putF (D := (dC, dI)) (ci := 8) (v := .ref q9) (ty := (.array .boolean)) (C := "Minestrata$Net") (T := TX7) (N := 13) hx hb hts inX7 tyX7 tyX7_ok nmX7 hown hK hP hD hS 0 rfl rfl 10 (by decide) (hts _ q166) (fun _ h9 => h9) rfl hin rfl (by decide +kernel) rfl rfl (Nat.le_of_ble_eq_true rfl) dX7_init_73 (fun H locs hP hD hS => ?_)
  have hP : va_P (dC, dI) CL [(a0, .inr (8, [.int (0), .ref q1, .ref q2, .ref q3, .ref q4, .int (0), .ref q5, .ref q6, .ref q7, .ref q8, .ref q9, .null, .null])), (q1, .inl (g 2, 9, .inl (fun _ => 0))), (q2, .inl (g 0, 9, .inl (fun _ => 0)))] _ := hP
  have hD : va_D A [(a0, .inr (8, [.int (0), .ref q1, .ref q2, .ref q3, .ref q4, .int (0), .ref q5, .ref q6, .ref q7, .ref q8, .ref q9, .null, .null])), (q1, .inl (g 2, 9, .inl (fun _ => 0))), (q2, .inl (g 0, 9, .inl (fun _ => 0)))] := hD
  refine lv_aload_n hx hb dX7_init_76 rfl (lv_at hl 0 rfl) ?_
  refine lv_bipush (v := (14)) hx hb dX7_init_77 (by decide +kernel) ?_
  refine n_newa hx hb (atype := .boolean) (ty := .boolean) q200 hts rfl hK hP hD hS hA 2 rfl (fun _ _ => rfl) (N' := 14) (a0 := (14, .inl (fun _ => 0))) (fun _ => rfl) (by decide +kernel) (by decide +kernel) (Nat.le_of_ble_eq_true rfl) (Nat.le_of_ble_eq_true rfl) (Nat.le_of_ble_eq_true rfl) dX7_init_79 (fun q10 H hP hD hS => ?_)
  have hP : va_P (dC, dI) CL [(a0, .inr (8, [.int (0), .ref q1, .ref q2, .ref q3, .ref q4, .int (0), .ref q5, .ref q6, .ref q7, .ref q8, .ref q9, .null, .null])), (q1, .inl (g 2, 9, .inl (fun _ => 0))), (q2, .inl (g 0, 9, .inl (fun _ => 0)))] _ := hP.sub [0, 1, 2] rfl
  have hD : va_D A [(a0, .inr (8, [.int (0), .ref q1, .ref q2, .ref q3, .ref q4, .int (0), .ref q5, .ref q6, .ref q7, .ref q8, .ref q9, .null, .null])), (q1, .inl (g 2, 9, .inl (fun _ => 0))), (q2, .inl (g 0, 9, .inl (fun _ => 0)))] := hD.sub [0, 1, 2] (by decide +kernel) rfl
  refine W.widen (k := 10) (n := 120) (Nat.le_of_ble_eq_true rfl) (Nat.le_of_ble_eq_true rfl) ?_
  refine va_putF (D := (dC, dI)) (ci := 8) (v := .ref q10) (ty := (.array .boolean)) (C := "Minestrata$Net") (T := TX7) (N := 13) hx hb hts inX7 tyX7 tyX7_ok nmX7 hown hK hP hD hS 0 rfl rfl 11 (by decide) (hts _ q168) (fun _ h9 => h9) rfl hin rfl (by decide +kernel) rfl rfl (Nat.le_of_ble_eq_true rfl) dX7_init_81 (fun H locs hP hD hS => ?_)
  have hP : va_P (dC, dI) CL [(a0, .inr (8, [.int (0), .ref q1, .ref q2, .ref q3, .ref q4, .int (0), .ref q5, .ref q6, .ref q7, .ref q8, .ref q9, .ref q10, .null])), (q1, .inl (g 2, 9, .inl (fun _ => 0))), (q2, .inl (g 0, 9, .inl (fun _ => 0)))] _ := hP
  have hD : va_D A [(a0, .inr (8, [.int (0), .ref q1, .ref q2, .ref q3, .ref q4, .int (0), .ref q5, .ref q6, .ref q7, .ref q8, .ref q9, .ref q10, .null])), (q1, .inl (g 2, 9, .inl (fun _ => 0))), (q2, .inl (g 0, 9, .inl (fun _ => 0)))] := hD
  refine lv_aload_n hx hb dX7_init_84 rfl (lv_at hl 0 rfl) ?_
  refine lv_bipush (v := (14)) hx hb dX7_init_85 (by decide +kernel) ?_
  refine n_newa hx hb (atype := .int) (ty := .int) q201 hts rfl hK hP hD hS hA 0 rfl (fun _ _ => rfl) (N' := 14) (a0 := (14, .inl (fun _ => 0))) (fun _ => rfl) (by decide +kernel) (by decide +kernel) (Nat.le_of_ble_eq_true rfl) (Nat.le_of_ble_eq_true rfl) (Nat.le_of_ble_eq_true rfl) dX7_init_87 (fun q11 H hP hD hS => ?_)
  have hP : va_P (dC, dI) CL [(a0, .inr (8, [.int (0), .ref q1, .ref q2, .ref q3, .ref q4, .int (0), .ref q5, .ref q6, .ref q7, .ref q8, .ref q9, .ref q10, .null])), (q1, .inl (g 2, 9, .inl (fun _ => 0))), (q2, .inl (g 0, 9, .inl (fun _ => 0)))] _ := hP.sub [0, 1, 2] rfl
  have hD : va_D A [(a0, .inr (8, [.int (0), .ref q1, .ref q2, .ref q3, .ref q4, .int (0), .ref q5, .ref q6, .ref q7, .ref q8, .ref q9, .ref q10, .null])), (q1, .inl (g 2, 9, .inl (fun _ => 0))), (q2, .inl (g 0, 9, .inl (fun _ => 0)))] := hD.sub [0, 1, 2] (by decide +kernel) rfl
  refine W.widen (k := 11) (n := 134) (Nat.le_of_ble_eq_true rfl) (Nat.le_of_ble_eq_true rfl) ?_
  refine va_putF (D := (dC, dI)) (ci := 8) (v := .ref q11) (ty := (.array .int)) (C := "Minestrata$Net") (T := TX7) (N := 13) hx hb hts inX7 tyX7 tyX7_ok nmX7 hown hK hP hD hS 0 rfl rfl 12 (by decide) (hts _ q171) (fun _ h9 => h9) rfl hin rfl (by decide +kernel) rfl rfl (Nat.le_of_ble_eq_true rfl) dX7_init_89 (fun H locs hP hD hS => ?_)
  have hP : va_P (dC, dI) CL [(a0, .inr (8, [.int (0), .ref q1, .ref q2, .ref q3, .ref q4, .int (0), .ref q5, .ref q6, .ref q7, .ref q8, .ref q9, .ref q10, .ref q11])), (q1, .inl (g 2, 9, .inl (fun _ => 0))), (q2, .inl (g 0, 9, .inl (fun _ => 0)))] _ := hP
  have hD : va_D A [(a0, .inr (8, [.int (0), .ref q1, .ref q2, .ref q3, .ref q4, .int (0), .ref q5, .ref q6, .ref q7, .ref q8, .ref q9, .ref q10, .ref q11])), (q1, .inl (g 2, 9, .inl (fun _ => 0))), (q2, .inl (g 0, 9, .inl (fun _ => 0)))] := hD
  refine W.widen (k := 11) (n := 134) (Nat.le_of_ble_eq_true rfl) (Nat.le_of_ble_eq_true rfl) ?_
  exact W.vret hx hb hr (n_end hS hP hD [0, 1, 2] (by decide +kernel) (fun k => match k with | 0 => q1 | 1 => q2 | 2 => q3 | 3 => q4 | 4 => q5 | 5 => q6 | 6 => q7 | 7 => q8 | 8 => q9 | 9 => q10 | 10 => q11 | _ => 0) (fun _ => 0) rfl rfl rfl) hS.2.2 dX7_init_92 hlk

set_option maxHeartbeats 4000000 in
set_option maxRecDepth 100000 in
/-- Minestrata$Net.<init> -/
theorem m1 (l : Launch) (hst : l.stackTraces = false) (dC : Nat → ClassId) (dI : Nat → Nat → Nat) (g : Nat → Nat) (a0 : Nat) (sz : Nat) :
    Met l Y1 (Cond.code Y1 prog_9_method_1_code 1 (Option.none : Option Jvm.ClassFile.FieldType) :: AW) ({ frames := 1, cells := 11, slots := 134, locals := 12 } : Room) (nP dC dI g [.ref a0] [(a0, .inr (8, [.int (0), .null, .null, .null, .null, .int (0), .null, .null, .null, .null, .null, .null, .null]))] sz) (nQ dC dI (fun f => none) (fun f r => []) (va_A [(a0, .inr (8, [.int (0), .null, .null, .null, .null, .int (0), .null, .null, .null, .null, .null, .null, .null]))] sz)) 11 134 (va_A [(a0, .inr (8, [.int (0), .null, .null, .null, .null, .int (0), .null, .null, .null, .null, .null, .null, .null]))] sz) := by
  refine n_met (by decide +kernel) (Nat.le_of_ble_eq_true rfl) (fun f => none) (fun f r => []) ?_
  intro p e s m below meth c A ls ⟨hx, hb, hr, hml, hown, hts, hlk, hnm⟩ hE hP hD hA hl
  have hown : s.vm.findClass "Minestrata$Net" = some m.cls := hown
  have hin : meth.name = "<init>" := hnm
  have hK := hE.1
  have hS : va_S A s.heap s.heap [] := va_S.rf
  have hl : lv_has ls 1 [(0, .ref a0)] := hl
  refine lv_aload_n hx hb dX7_init_0 rfl (lv_at hl 0 rfl) ?_
  refine n_oinit hx hb hml hown hts q125 q118 q119 hl.1 dX7_init_1 (Nat.le_of_ble_eq_true rfl) (Nat.le_of_ble_eq_true rfl) ?_
  refine lv_aload_n hx hb dX7_init_4 rfl (lv_at hl 0 rfl) ?_
  refine lv_bipush (v := (9)) hx hb dX7_init_5 (by decide +kernel) ?_
  refine n_newa hx hb (atype := .boolean) (ty := .boolean) q200 hts rfl hK hP hD hS hA 2 rfl (fun _ _ => rfl) (N' := 9) (a0 := (9, .inl (fun _ => 0))) (fun _ => rfl) (by decide +kernel) (by decide +kernel) (Nat.le_of_ble_eq_true rfl) (Nat.le_of_ble_eq_true rfl) (Nat.le_of_ble_eq_true rfl) dX7_init_7 (fun q1 H hP hD hS => ?_)
  have hP : va_P (dC, dI) CL [(a0, .inr (8, [.int (0), .null, .null, .null, .null, .int (0), .null, .null, .null, .null, .null, .null, .null]))] _ := hP.sub [0] rfl
  have hD : va_D A [(a0, .inr (8, [.int (0), .null, .null, .null, .null, .int (0), .null, .null, .null, .null, .null, .null, .null]))] := hD.sub [0] (by decide +kernel) rfl
  refine W.widen (k := 1) (n := 9) (Nat.le_of_ble_eq_true rfl) (Nat.le_of_ble_eq_true rfl) ?_
  refine va_putF (D := (dC, dI)) (ci := 8) (v := .ref q1) (ty := (.array .boolean)) (C := "Minestrata$Net") (T := TX7) (N := 13) hx hb hts inX7 tyX7 tyX7_ok nmX7 hown hK hP hD hS 0 rfl rfl 1 (by decide) (hts _ q132) (fun _ h9 => h9) rfl hin rfl (by decide +kernel) rfl rfl (Nat.le_of_ble_eq_true rfl) dX7_init_9 (fun H locs hP hD hS => ?_)
  have hP : va_P (dC, dI) CL [(a0, .inr (8, [.int (0), .ref q1, .null, .null, .null, .int (0), .null, .null, .null, .null, .null, .null, .null]))] _ := hP
  have hD : va_D A [(a0, .inr (8, [.int (0), .ref q1, .null, .null, .null, .int (0), .null, .null, .null, .null, .null, .null, .null]))] := hD
  refine lv_aload_n hx hb dX7_init_12 rfl (lv_at hl 0 rfl) ?_
  refine lv_bipush (v := (9)) hx hb dX7_init_13 (by decide +kernel) ?_
  refine n_newa hx hb (atype := .int) (ty := .int) q201 hts rfl hK hP hD hS hA 0 rfl (fun _ _ => rfl) (N' := 9) (a0 := (9, .inl (fun _ => 0))) (fun _ => rfl) (by decide +kernel) (by decide +kernel) (Nat.le_of_ble_eq_true rfl) (Nat.le_of_ble_eq_true rfl) (Nat.le_of_ble_eq_true rfl) dX7_init_15 (fun q2 H hP hD hS => ?_)
  have hP : va_P (dC, dI) CL [(a0, .inr (8, [.int (0), .ref q1, .null, .null, .null, .int (0), .null, .null, .null, .null, .null, .null, .null]))] _ := hP.sub [0] rfl
  have hD : va_D A [(a0, .inr (8, [.int (0), .ref q1, .null, .null, .null, .int (0), .null, .null, .null, .null, .null, .null, .null]))] := hD.sub [0] (by decide +kernel) rfl
  refine W.widen (k := 2) (n := 18) (Nat.le_of_ble_eq_true rfl) (Nat.le_of_ble_eq_true rfl) ?_
  refine va_putF (D := (dC, dI)) (ci := 8) (v := .ref q2) (ty := (.array .int)) (C := "Minestrata$Net") (T := TX7) (N := 13) hx hb hts inX7 tyX7 tyX7_ok nmX7 hown hK hP hD hS 0 rfl rfl 2 (by decide) (hts _ q138) (fun _ h9 => h9) rfl hin rfl (by decide +kernel) rfl rfl (Nat.le_of_ble_eq_true rfl) dX7_init_17 (fun H locs hP hD hS => ?_)
  have hP : va_P (dC, dI) CL [(a0, .inr (8, [.int (0), .ref q1, .ref q2, .null, .null, .int (0), .null, .null, .null, .null, .null, .null, .null]))] _ := hP
  have hD : va_D A [(a0, .inr (8, [.int (0), .ref q1, .ref q2, .null, .null, .int (0), .null, .null, .null, .null, .null, .null, .null]))] := hD
  refine lv_aload_n hx hb dX7_init_20 rfl (lv_at hl 0 rfl) ?_
  refine lv_bipush (v := (9)) hx hb dX7_init_21 (by decide +kernel) ?_
  refine n_newa hx hb (atype := .int) (ty := .int) q201 hts rfl hK hP hD hS hA 0 rfl (fun _ _ => rfl) (N' := 9) (a0 := (9, .inl (fun _ => 0))) (fun _ => rfl) (by decide +kernel) (by decide +kernel) (Nat.le_of_ble_eq_true rfl) (Nat.le_of_ble_eq_true rfl) (Nat.le_of_ble_eq_true rfl) dX7_init_23 (fun q3 H hP hD hS => ?_)
  have hP : va_P (dC, dI) CL [(a0, .inr (8, [.int (0), .ref q1, .ref q2, .null, .null, .int (0), .null, .null, .null, .null, .null, .null, .null]))] _ := hP.sub [0] rfl
  have hD : va_D A [(a0, .inr (8, [.int (0), .ref q1, .ref q2, .null, .null, .int (0), .null, .null, .null, .null, .null, .null, .null]))] := hD.sub [0] (by decide +kernel) rfl
  refine W.widen (k := 3) (n := 27) (Nat.le_of_ble_eq_true rfl) (Nat.le_of_ble_eq_true rfl) ?_
  refine va_putF (D := (dC, dI)) (ci := 8) (v := .ref q3) (ty := (.array .int)) (C := "Minestrata$Net") (T := TX7) (N := 13) hx hb hts inX7 tyX7 tyX7_ok nmX7 hown hK hP hD hS 0 rfl rfl 3 (by decide) (hts _ q141) (fun _ h9 => h9) rfl hin rfl (by decide +kernel) rfl rfl (Nat.le_of_ble_eq_true rfl) dX7_init_25 (fun H locs hP hD hS => ?_)
  have hP : va_P (dC, dI) CL [(a0, .inr (8, [.int (0), .ref q1, .ref q2, .ref q3, .null, .int (0), .null, .null, .null, .null, .null, .null, .null]))] _ := hP
  have hD : va_D A [(a0, .inr (8, [.int (0), .ref q1, .ref q2, .ref q3, .null, .int (0), .null, .null, .null, .null, .null, .null, .null]))] := hD
  refine lv_aload_n hx hb dX7_init_28 rfl (lv_at hl 0 rfl) ?_
  refine lv_bipush (v := (9)) hx hb dX7_init_29 (by decide +kernel) ?_
  refine n_newa hx hb (atype := .boolean) (ty := .boolean) q200 hts rfl hK hP hD hS hA 2 rfl (fun _ _ => rfl) (N' := 9) (a0 := (9, .inl (fun _ => 0))) (fun _ => rfl) (by decide +kernel) (by decide +kernel) (Nat.le_of_ble_eq_true rfl) (Nat.le_of_ble_eq_true rfl) (Nat.le_of_ble_eq_true rfl) dX7_init_31 (fun q4 H hP hD hS => ?_)
  have hP : va_P (dC, dI) CL [(a0, .inr (8, [.int (0), .ref q1, .ref q2, .ref q3, .null, .int (0), .null, .null, .null, .null, .null, .null, .null]))] _ := hP.sub [0] rfl
  have hD : va_D A [(a0, .inr (8, [.int (0), .ref q1, .ref q2, .ref q3, .null, .int (0), .null, .null, .null, .null, .null, .null, .null]))] := hD.sub [0] (by decide +kernel) rfl
  refine W.widen (k := 4) (n := 36) (Nat.le_of_ble_eq_true rfl) (Nat.le_of_ble_eq_true rfl) ?_
  refine va_putF (D := (dC, dI)) (ci := 8) (v := .ref q4) (ty := (.array .boolean)) (C := "Minestrata$Net") (T := TX7) (N := 13) hx hb hts inX7 tyX7 tyX7_ok nmX7 hown hK hP hD hS 0 rfl rfl 4 (by decide) (hts _ q144) (fun _ h9 => h9) rfl hin rfl (by decide +kernel) rfl rfl (Nat.le_of_ble_eq_true rfl) dX7_init_33 (fun H locs hP hD hS => ?_)
  have hP : va_P (dC, dI) CL [(a0, .inr (8, [.int (0), .ref q1, .ref q2, .ref q3, .ref q4, .int (0), .null, .null, .null, .null, .null, .null, .null]))] _ := hP
  have hD : va_D A [(a0, .inr (8, [.int (0), .ref q1, .ref q2, .ref q3, .ref q4, .int (0), .null, .null, .null, .null, .null, .null, .null]))] := hD
  refine lv_aload_n hx hb dX7_init_36 rfl (lv_at hl 0 rfl) ?_
  refine lv_bipush (v := (14)) hx hb dX7_init_37 (by decide +kernel) ?_
  refine n_newa hx hb (atype := .int) (ty := .int) q201 hts rfl hK hP hD hS hA 0 rfl (fun _ _ => rfl) (N' := 14) (a0 := (14, .inl (fun _ => 0))) (fun _ => rfl) (by decide +kernel) (by decide +kernel) (Nat.le_of_ble_eq_true rfl) (Nat.le_of_ble_eq_true rfl) (Nat.le_of_ble_eq_true rfl) dX7_init_39 (fun q5 H hP hD hS => ?_)
  have hP : va_P (dC, dI) CL [(a0, .inr (8, [.int (0), .ref q1, .ref q2, .ref q3, .ref q4, .int (0), .null, .null, .null, .null, .null, .null, .null]))] _ := hP.sub [0] rfl
  have hD : va_D A [(a0, .inr (8, [.int (0), .ref q1, .ref q2, .ref q3, .ref q4, .int (0), .null, .null, .null, .null, .null, .null, .null]))] := hD.sub [0] (by decide +kernel) rfl
  refine W.widen (k := 5) (n := 50) (Nat.le_of_ble_eq_true rfl) (Nat.le_of_ble_eq_true rfl) ?_
  refine va_putF (D := (dC, dI)) (ci := 8) (v := .ref q5) (ty := (.array .int)) (C := "Minestrata$Net") (T := TX7) (N := 13) hx hb hts inX7 tyX7 tyX7_ok nmX7 hown hK hP hD hS 0 rfl rfl 6 (by decide) (hts _ q152) (fun _ h9 => h9) rfl hin rfl (by decide +kernel) rfl rfl (Nat.le_of_ble_eq_true rfl) dX7_init_41 (fun H locs hP hD hS => ?_)
  have hP : va_P (dC, dI) CL [(a0, .inr (8, [.int (0), .ref q1, .ref q2, .ref q3, .ref q4, .int (0), .ref q5, .null, .null, .null, .null, .null, .null]))] _ := hP
  have hD : va_D A [(a0, .inr (8, [.int (0), .ref q1, .ref q2, .ref q3, .ref q4, .int (0), .ref q5, .null, .null, .null, .null, .null, .null]))] := hD
  refine lv_aload_n hx hb dX7_init_44 rfl (lv_at hl 0 rfl) ?_
  refine lv_bipush (v := (14)) hx hb dX7_init_45 (by decide +kernel) ?_
  refine n_newa hx hb (atype := .int) (ty := .int) q201 hts rfl hK hP hD hS hA 0 rfl (fun _ _ => rfl) (N' := 14) (a0 := (14, .inl (fun _ => 0))) (fun _ => rfl) (by decide +kernel) (by decide +kernel) (Nat.le_of_ble_eq_true rfl) (Nat.le_of_ble_eq_true rfl) (Nat.le_of_ble_eq_true rfl) dX7_init_47 (fun q6 H hP hD hS => ?_)
  have hP : va_P (dC, dI) CL [(a0, .inr (8, [.int (0), .ref q1, .ref q2, .ref q3, .ref q4, .int (0), .ref q5, .null, .null, .null, .null, .null, .null]))] _ := hP.sub [0] rfl
  have hD : va_D A [(a0, .inr (8, [.int (0), .ref q1, .ref q2, .ref q3, .ref q4, .int (0), .ref q5, .null, .null, .null, .null, .null, .null]))] := hD.sub [0] (by decide +kernel) rfl
  refine W.widen (k := 6) (n := 64) (Nat.le_of_ble_eq_true rfl) (Nat.le_of_ble_eq_true rfl) ?_
  refine va_putF (D := (dC, dI)) (ci := 8) (v := .ref q6) (ty := (.array .int)) (C := "Minestrata$Net") (T := TX7) (N := 13) hx hb hts inX7 tyX7 tyX7_ok nmX7 hown hK hP hD hS 0 rfl rfl 7 (by decide) (hts _ q157) (fun _ h9 => h9) rfl hin rfl (by decide +kernel) rfl rfl (Nat.le_of_ble_eq_true rfl) dX7_init_49 (fun H locs hP hD hS => ?_)
  have hP : va_P (dC, dI) CL [(a0, .inr (8, [.int (0), .ref q1, .ref q2, .ref q3, .ref q4, .int (0), .ref q5, .ref q6, .null, .null, .null, .null, .null]))] _ := hP
  have hD : va_D A [(a0, .inr (8, [.int (0), .ref q1, .ref q2, .ref q3, .ref q4, .int (0), .ref q5, .ref q6, .null, .null, .null, .null, .null]))] := hD
  refine lv_aload_n hx hb dX7_init_52 rfl (lv_at hl 0 rfl) ?_
  refine lv_bipush (v := (14)) hx hb dX7_init_53 (by decide +kernel) ?_
  refine n_newa hx hb (atype := .int) (ty := .int) q201 hts rfl hK hP hD hS hA 0 rfl (fun _ _ => rfl) (N' := 14) (a0 := (14, .inl (fun _ => 0))) (fun _ => rfl) (by decide +kernel) (by decide +kernel) (Nat.le_of_ble_eq_true rfl) (Nat.le_of_ble_eq_true rfl) (Nat.le_of_ble_eq_true rfl) dX7_init_55 (fun q7 H hP hD hS => ?_)
  have hP : va_P (dC, dI) CL [(a0, .inr (8, [.int (0), .ref q1, .ref q2, .ref q3, .ref q4, .int (0), .ref q5, .ref q6, .null, .null, .null, .null, .null]))] _ := hP.sub [0] rfl
  have hD : va_D A [(a0, .inr (8, [.int (0), .ref q1, .ref q2, .ref q3, .ref q4, .int (0), .ref q5, .ref q6, .null, .null, .null, .null, .null]))] := hD.sub [0] (by decide +kernel) rfl
  refine W.widen (k := 7) (n := 78) (Nat.le_of_ble_eq_true rfl) (Nat.le_of_ble_eq_true rfl) ?_
  refine va_putF (D := (dC, dI)) (ci := 8) (v := .ref q7) (ty := (.array .int)) (C := "Minestrata$Net") (T := TX7) (N := 13) hx hb hts inX7 tyX7 tyX7_ok nmX7 hown hK hP hD hS 0 rfl rfl 8 (by decide) (hts _ q162) (fun _ h9 => h9) rfl hin rfl (by decide +kernel) rfl rfl (Nat.le_of_ble_eq_true rfl) dX7_init_57 (fun H locs hP hD hS => ?_)
  have hP : va_P (dC, dI) CL [(a0, .inr (8, [.int (0), .ref q1, .ref q2, .ref q3, .ref q4, .int (0), .ref q5, .ref q6, .ref q7, .null, .null, .null, .null]))] _ := hP
  have hD : va_D A [(a0, .inr (8, [.int (0), .ref q1, .ref q2, .ref q3, .ref q4, .int (0), .ref q5, .ref q6, .ref q7, .null, .null, .null, .null]))] := hD
  refine lv_aload_n hx hb dX7_init_60 rfl (lv_at hl 0 rfl) ?_
  refine lv_bipush (v := (14)) hx hb dX7_init_61 (by decide +kernel) ?_
  refine n_newa hx hb (atype := .boolean) (ty := .boolean) q200 hts rfl hK hP hD hS hA 2 rfl (fun _ _ => rfl) (N' := 14) (a0 := (14, .inl (fun _ => 0))) (fun _ => rfl) (by decide +kernel) (by decide +kernel) (Nat.le_of_ble_eq_true rfl) (Nat.le_of_ble_eq_true rfl) (Nat.le_of_ble_eq_true rfl) dX7_init_63 (fun q8 H hP hD hS => ?_)
  have hP : va_P (dC, dI) CL [(a0, .inr (8, [.int (0), .ref q1, .ref q2, .ref q3, .ref q4, .int (0), .ref q5, .ref q6, .ref q7, .null, .null, .null, .null]))] _ := hP.sub [0] rfl
  have hD : va_D A [(a0, .inr (8, [.int (0), .ref q1, .ref q2, .ref q3, .ref q4, .int (0), .ref q5, .ref q6, .ref q7, .null, .null, .null, .null]))] := hD.sub [0] (by decide +kernel) rfl
  refine W.widen (k := 8) (n := 92) (Nat.le_of_ble_eq_true rfl) (Nat.le_of_ble_eq_true rfl) ?_
  refine va_putF (D := (dC, dI)) (ci := 8) (v := .ref q8) (ty := (.array .boolean)) (C := "Minestrata$Net") (T := TX7) (N := 13) hx hb hts inX7 tyX7 tyX7_ok nmX7 hown hK hP hD hS 0 rfl rfl 9 (by decide) (hts _ q164) (fun _ h9 => h9) rfl hin rfl (by decide +kernel) rfl rfl (Nat.le_of_ble_eq_true rfl) dX7_init_65 (fun H locs hP hD hS => ?_)
  have hP : va_P (dC, dI) CL [(a0, .inr (8, [.int (0), .ref q1, .ref q2, .ref q3, .ref q4, .int (0), .ref q5, .ref q6, .ref q7, .ref q8, .null, .null, .null]))] _ := hP
  have hD : va_D A [(a0, .inr (8, [.int (0), .ref q1, .ref q2, .ref q3, .ref q4, .int (0), .ref q5, .ref q6, .ref q7, .ref q8, .null, .null, .null]))] := hD
  refine lv_aload_n hx hb dX7_init_68 rfl (lv_at hl 0 rfl) ?_
  refine lv_bipush (v := (14)) hx hb dX7_init_69 (by decide +kernel) ?_
  refine n_newa hx hb (atype := .boolean) (ty := .boolean) q200 hts rfl hK hP hD hS hA 2 rfl (fun _ _ => rfl) (N' := 14) (a0 := (14, .inl (fun _ => 0))) (fun _ => rfl) (by decide +kernel) (by decide +kernel) (Nat.le_of_ble_eq_true rfl) (Nat.le_of_ble_eq_true rfl) (Nat.le_of_ble_eq_true rfl) dX7_init_71 (fun q9 H hP hD hS => ?_)
  have hP : va_P (dC, dI) CL [(a0, .inr (8, [.int (0), .ref q1, .ref q2, .ref q3, .ref q4, .int (0), .ref q5, .ref q6, .ref q7, .ref q8, .null, .null, .null]))] _ := hP.sub [0] rfl
  have hD : va_D A [(a0, .inr (8, [.int (0), .ref q1, .ref q2, .ref q3, .ref q4, .int (0), .ref q5, .ref q6, .ref q7, .ref q8, .null, .null, .null]))] := hD.sub [0] (by decide +kernel) rfl
  refine W.widen (k := 9) (n := 106) (Nat.le_of_ble_eq_true rfl) (Nat.le_of_ble_eq_true rfl) ?_
  refine va_putF (D := (dC, dI)) (ci := 8) (v := .ref q9) (ty := (.array .boolean)) (C := "Minestrata$Net") (T := TX7) (N := 13) hx hb hts inX7 tyX7 tyX7_ok nmX7 hown hK hP hD hS 0 rfl rfl 10 (by decide) (hts _ q166) (fun _ h9 => h9) rfl hin rfl (by decide +kernel) rfl rfl (Nat.le_of_ble_eq_true rfl) dX7_init_73 (fun H locs hP hD hS => ?_)
  have hP : va_P (dC, dI) CL [(a0, .inr (8, [.int (0), .ref q1, .ref q2, .ref q3, .ref q4, .int (0), .ref q5, .ref q6, .ref q7, .ref q8, .ref q9, .null, .null]))] _ := hP
  have hD : va_D A [(a0, .inr (8, [.int (0), .ref q1, .ref q2, .ref q3, .ref q4, .int (0), .ref q5, .ref q6, .ref q7, .ref q8, .ref q9, .null, .null]))] := hD
  refine lv_aload_n hx hb dX7_init_76 rfl (lv_at hl 0 rfl) ?_
  refine lv_bipush (v := (14)) hx hb dX7_init_77 (by decide +kernel) ?_
  refine n_newa hx hb (atype := .boolean) (ty := .boolean) q200 hts rfl hK hP hD hS hA 2 rfl (fun _ _ => rfl) (N' := 14) (a0 := (14, .inl (fun _ => 0))) (fun _ => rfl) (by decide +kernel) (by decide +kernel) (Nat.le_of_ble_eq_true rfl) (Nat.le_of_ble_eq_true rfl) (Nat.le_of_ble_eq_true rfl) dX7_init_79 (fun q10 H hP hD hS => ?_)
  have hP : va_P (dC, dI) CL [(a0, .inr (8, [.int (0), .ref q1, .ref q2, .ref q3, .ref q4, .int (0), .ref q5, .ref q6, .ref q7, .ref q8, .ref q9, .null, .null]))] _ := hP.sub [0] rfl
  have hD : va_D A [(a0, .inr (8, [.int (0), .ref q1, .ref q2, .ref q3, .ref q4, .int (0), .ref q5, .ref q6, .ref q7, .ref q8, .ref q9, .null, .null]))] := hD.sub [0] (by decide +kernel) rfl
  refine W.widen (k := 10) (n := 120) (Nat.le_of_ble_eq_true rfl) (Nat.le_of_ble_eq_true rfl) ?_
  refine va_putF (D := (dC, dI)) (ci := 8) (v := .ref q10) (ty := (.array .boolean)) (C := "Minestrata$Net") (T := TX7) (N := 13) hx hb hts inX7 tyX7 tyX7_ok nmX7 hown hK hP hD hS 0 rfl rfl 11 (by decide) (hts _ q168) (fun _ h9 => h9) rfl hin rfl (by decide +kernel) rfl rfl (Nat.le_of_ble_eq_true rfl) dX7_init_81 (fun H locs hP hD hS => ?_)
  have hP : va_P (dC, dI) CL [(a0, .inr (8, [.int (0), .ref q1, .ref q2, .ref q3, .ref q4, .int (0), .ref q5, .ref q6, .ref q7, .ref q8, .ref q9, .ref q10, .null]))] _ := hP
  have hD : va_D A [(a0, .inr (8, [.int (0), .ref q1, .ref q2, .ref q3, .ref q4, .int (0), .ref q5, .ref q6, .ref q7, .ref q8, .ref q9, .ref q10, .null]))] := hD
  refine lv_aload_n hx hb dX7_init_84 rfl (lv_at hl 0 rfl) ?_
  refine lv_bipush (v := (14)) hx hb dX7_init_85 (by decide +kernel) ?_
  refine n_newa hx hb (atype := .int) (ty := .int) q201 hts rfl hK hP hD hS hA 0 rfl (fun _ _ => rfl) (N' := 14) (a0 := (14, .inl (fun _ => 0))) (fun _ => rfl) (by decide +kernel) (by decide +kernel) (Nat.le_of_ble_eq_true rfl) (Nat.le_of_ble_eq_true rfl) (Nat.le_of_ble_eq_true rfl) dX7_init_87 (fun q11 H hP hD hS => ?_)
  have hP : va_P (dC, dI) CL [(a0, .inr (8, [.int (0), .ref q1, .ref q2, .ref q3, .ref q4, .int (0), .ref q5, .ref q6, .ref q7, .ref q8, .ref q9, .ref q10, .null]))] _ := hP.sub [0] rfl
  have hD : va_D A [(a0, .inr (8, [.int (0), .ref q1, .ref q2, .ref q3, .ref q4, .int (0), .ref q5, .ref q6, .ref q7, .ref q8, .ref q9, .ref q10, .null]))] := hD.sub [0] (by decide +kernel) rfl
  refine W.widen (k := 11) (n := 134) (Nat.le_of_ble_eq_true rfl) (Nat.le_of_ble_eq_true rfl) ?_
  refine va_putF (D := (dC, dI)) (ci := 8) (v := .ref q11) (ty := (.array .int)) (C := "Minestrata$Net") (T := TX7) (N := 13) hx hb hts inX7 tyX7 tyX7_ok nmX7 hown hK hP hD hS 0 rfl rfl 12 (by decide) (hts _ q171) (fun _ h9 => h9) rfl hin rfl (by decide +kernel) rfl rfl (Nat.le_of_ble_eq_true rfl) dX7_init_89 (fun H locs hP hD hS => ?_)
  have hP : va_P (dC, dI) CL [(a0, .inr (8, [.int (0), .ref q1, .ref q2, .ref q3, .ref q4, .int (0), .ref q5, .ref q6, .ref q7, .ref q8, .ref q9, .ref q10, .ref q11]))] _ := hP
  have hD : va_D A [(a0, .inr (8, [.int (0), .ref q1, .ref q2, .ref q3, .ref q4, .int (0), .ref q5, .ref q6, .ref q7, .ref q8, .ref q9, .ref q10, .ref q11]))] := hD
  refine W.widen (k := 11) (n := 134) (Nat.le_of_ble_eq_true rfl) (Nat.le_of_ble_eq_true rfl) ?_
  exact W.vret hx hb hr (n_end hS hP hD [] (by decide +kernel) (fun _ => 0) (fun _ => 0) rfl rfl rfl) hS.2.2 dX7_init_92 hlk

set_option maxHeartbeats 4000000 in
set_option maxRecDepth 100000 in
/-- Minestrata$Stopes.<init> -/
theorem m2 (l : Launch) (hst : l.stackTraces = false) (dC : Nat → ClassId) (dI : Nat → Nat → Nat) (g : Nat → Nat) (a0 : Nat) (sz : Nat) :
    Met l Y2 (Cond.code Y2 prog_12_method_1_code 1 (Option.none : Option Jvm.ClassFile.FieldType) :: AW) ({ frames := 1, cells := 9, slots := 72, locals := 12 } : Room) (nP dC dI g [.ref a0] [(a0, .inr (11, [.int (0), .null, .null, .null, .null, .null, .null, .null, .null, .null]))] sz) (nQ dC dI (fun f => none) (fun f r => [(a0, .inr (11, [.int (0), .ref (f 0), .ref (f 1), .ref (f 2), .ref (f 3), .ref (f 4), .ref (f 5), .ref (f 6), .ref (f 7), .ref (f 8)]))]) (va_A [(a0, .inr (11, [.int (0), .null, .null, .null, .null, .null, .null, .null, .null, .null]))] sz)) 9 72 (va_A [(a0, .inr (11, [.int (0), .null, .null, .null, .null, .null, .null, .null, .null, .null]))] sz) := by
  refine n_met (by decide +kernel) (Nat.le_of_ble_eq_true rfl) (fun f => none) (fun f r => [(a0, .inr (11, [.int (0), .ref (f 0), .ref (f 1), .ref (f 2), .ref (f 3), .ref (f 4), .ref (f 5), .ref (f 6), .ref (f 7), .ref (f 8)]))]) ?_
  intro p e s m below meth c A ls ⟨hx, hb, hr, hml, hown, hts, hlk, hnm⟩ hE hP hD hA hl
  have hown : s.vm.findClass "Minestrata$Stopes" = some m.cls := hown
  have hin : meth.name = "<init>" := hnm
  have hK := hE.1
  have hS : va_S A s.heap s.heap [] := va_S.rf
  have hl : lv_has ls 1 [(0, .ref a0)] := hl
  refine lv_aload_n hx hb dX10_init_0 rfl (lv_at hl 0 rfl) ?_
  refine n_oinit hx hb hml hown hts q207 q118 q119 hl.1 dX10_init_1 (Nat.le_of_ble_eq_true rfl) (Nat.le_of_ble_eq_true rfl) ?_
  refine lv_aload_n hx hb dX10_init_4 rfl (lv_at hl 0 rfl) ?_
  refine lv_bipush (v := (8)) hx hb dX10_init_5 (by decide +kernel) ?_
  refine n_newa hx hb (atype := .int) (ty := .int) q201 hts rfl hK hP hD hS hA 0 rfl (fun _ _ => rfl) (N' := 8) (a0 := (8, .inl (fun _ => 0))) (fun _ => rfl) (by decide +kernel) (by decide +kernel) (Nat.le_of_ble_eq_true rfl) (Nat.le_of_ble_eq_true rfl) (Nat.le_of_ble_eq_true rfl) dX10_init_7 (fun q1 H hP hD hS => ?_)
  have hP : va_P (dC, dI) CL [(a0, .inr (11, [.int (0), .null, .null, .null, .null, .null, .null, .null, .null, .null]))] _ := hP.sub [0] rfl
  have hD : va_D A [(a0, .inr (11, [.int (0), .null, .null, .null, .null, .null, .null, .null, .null, .null]))] := hD.sub [0] (by decide +kernel) rfl
  refine W.widen (k := 1) (n := 8) (Nat.le_of_ble_eq_true rfl) (Nat.le_of_ble_eq_true rfl) ?_
  refine va_putF (D := (dC, dI)) (ci := 11) (v := .ref q1) (ty := (.array .int)) (C := "Minestrata$Stopes") (T := TX10) (N := 10) hx hb hts inX10 tyX10 tyX10_ok nmX10 hown hK hP hD hS 0 rfl rfl 1 (by decide) (hts _ q211) (fun _ h9 => h9) rfl hin rfl (by decide +kernel) rfl rfl (Nat.le_of_ble_eq_true rfl) dX10_init_9 (fun H locs hP hD hS => ?_)
  have hP : va_P (dC, dI) CL [(a0, .inr (11, [.int (0), .ref q1, .null, .null, .null, .null, .null, .null, .null, .null]))] _ := hP
  have hD : va_D A [(a0, .inr (11, [.int (0), .ref q1, .null, .null, .null, .null, .null, .null, .null, .null]))] := hD
  refine lv_aload_n hx hb dX10_init_12 rfl (lv_at hl 0 rfl) ?_
  refine lv_bipush (v := (8)) hx hb dX10_init_13 (by decide +kernel) ?_
  refine n_newa hx hb (atype := .int) (ty := .int) q201 hts rfl hK hP hD hS hA 0 rfl (fun _ _ => rfl) (N' := 8) (a0 := (8, .inl (fun _ => 0))) (fun _ => rfl) (by decide +kernel) (by decide +kernel) (Nat.le_of_ble_eq_true rfl) (Nat.le_of_ble_eq_true rfl) (Nat.le_of_ble_eq_true rfl) dX10_init_15 (fun q2 H hP hD hS => ?_)
  have hP : va_P (dC, dI) CL [(a0, .inr (11, [.int (0), .ref q1, .null, .null, .null, .null, .null, .null, .null, .null]))] _ := hP.sub [0] rfl
  have hD : va_D A [(a0, .inr (11, [.int (0), .ref q1, .null, .null, .null, .null, .null, .null, .null, .null]))] := hD.sub [0] (by decide +kernel) rfl
  refine W.widen (k := 2) (n := 16) (Nat.le_of_ble_eq_true rfl) (Nat.le_of_ble_eq_true rfl) ?_
  refine va_putF (D := (dC, dI)) (ci := 11) (v := .ref q2) (ty := (.array .int)) (C := "Minestrata$Stopes") (T := TX10) (N := 10) hx hb hts inX10 tyX10 tyX10_ok nmX10 hown hK hP hD hS 0 rfl rfl 2 (by decide) (hts _ q213) (fun _ h9 => h9) rfl hin rfl (by decide +kernel) rfl rfl (Nat.le_of_ble_eq_true rfl) dX10_init_17 (fun H locs hP hD hS => ?_)
  have hP : va_P (dC, dI) CL [(a0, .inr (11, [.int (0), .ref q1, .ref q2, .null, .null, .null, .null, .null, .null, .null]))] _ := hP
  have hD : va_D A [(a0, .inr (11, [.int (0), .ref q1, .ref q2, .null, .null, .null, .null, .null, .null, .null]))] := hD
  refine lv_aload_n hx hb dX10_init_20 rfl (lv_at hl 0 rfl) ?_
  refine lv_bipush (v := (8)) hx hb dX10_init_21 (by decide +kernel) ?_
  refine n_newa hx hb (atype := .int) (ty := .int) q201 hts rfl hK hP hD hS hA 0 rfl (fun _ _ => rfl) (N' := 8) (a0 := (8, .inl (fun _ => 0))) (fun _ => rfl) (by decide +kernel) (by decide +kernel) (Nat.le_of_ble_eq_true rfl) (Nat.le_of_ble_eq_true rfl) (Nat.le_of_ble_eq_true rfl) dX10_init_23 (fun q3 H hP hD hS => ?_)
  have hP : va_P (dC, dI) CL [(a0, .inr (11, [.int (0), .ref q1, .ref q2, .null, .null, .null, .null, .null, .null, .null]))] _ := hP.sub [0] rfl
  have hD : va_D A [(a0, .inr (11, [.int (0), .ref q1, .ref q2, .null, .null, .null, .null, .null, .null, .null]))] := hD.sub [0] (by decide +kernel) rfl
  refine W.widen (k := 3) (n := 24) (Nat.le_of_ble_eq_true rfl) (Nat.le_of_ble_eq_true rfl) ?_
  refine va_putF (D := (dC, dI)) (ci := 11) (v := .ref q3) (ty := (.array .int)) (C := "Minestrata$Stopes") (T := TX10) (N := 10) hx hb hts inX10 tyX10 tyX10_ok nmX10 hown hK hP hD hS 0 rfl rfl 3 (by decide) (hts _ q215) (fun _ h9 => h9) rfl hin rfl (by decide +kernel) rfl rfl (Nat.le_of_ble_eq_true rfl) dX10_init_25 (fun H locs hP hD hS => ?_)
  have hP : va_P (dC, dI) CL [(a0, .inr (11, [.int (0), .ref q1, .ref q2, .ref q3, .null, .null, .null, .null, .null, .null]))] _ := hP
  have hD : va_D A [(a0, .inr (11, [.int (0), .ref q1, .ref q2, .ref q3, .null, .null, .null, .null, .null, .null]))] := hD
  refine lv_aload_n hx hb dX10_init_28 rfl (lv_at hl 0 rfl) ?_
  refine lv_bipush (v := (8)) hx hb dX10_init_29 (by decide +kernel) ?_
  refine n_newa hx hb (atype := .int) (ty := .int) q201 hts rfl hK hP hD hS hA 0 rfl (fun _ _ => rfl) (N' := 8) (a0 := (8, .inl (fun _ => 0))) (fun _ => rfl) (by decide +kernel) (by decide +kernel) (Nat.le_of_ble_eq_true rfl) (Nat.le_of_ble_eq_true rfl) (Nat.le_of_ble_eq_true rfl) dX10_init_31 (fun q4 H hP hD hS => ?_)
  have hP : va_P (dC, dI) CL [(a0, .inr (11, [.int (0), .ref q1, .ref q2, .ref q3, .null, .null, .null, .null, .null, .null]))] _ := hP.sub [0] rfl
  have hD : va_D A [(a0, .inr (11, [.int (0), .ref q1, .ref q2, .ref q3, .null, .null, .null, .null, .null, .null]))] := hD.sub [0] (by decide +kernel) rfl
  refine W.widen (k := 4) (n := 32) (Nat.le_of_ble_eq_true rfl) (Nat.le_of_ble_eq_true rfl) ?_
  refine va_putF (D := (dC, dI)) (ci := 11) (v := .ref q4) (ty := (.array .int)) (C := "Minestrata$Stopes") (T := TX10) (N := 10) hx hb hts inX10 tyX10 tyX10_ok nmX10 hown hK hP hD hS 0 rfl rfl 4 (by decide) (hts _ q217) (fun _ h9 => h9) rfl hin rfl (by decide +kernel) rfl rfl (Nat.le_of_ble_eq_true rfl) dX10_init_33 (fun H locs hP hD hS => ?_)
  have hP : va_P (dC, dI) CL [(a0, .inr (11, [.int (0), .ref q1, .ref q2, .ref q3, .ref q4, .null, .null, .null, .null, .null]))] _ := hP
  have hD : va_D A [(a0, .inr (11, [.int (0), .ref q1, .ref q2, .ref q3, .ref q4, .null, .null, .null, .null, .null]))] := hD
  refine lv_aload_n hx hb dX10_init_36 rfl (lv_at hl 0 rfl) ?_
  refine lv_bipush (v := (8)) hx hb dX10_init_37 (by decide +kernel) ?_
  refine n_newa hx hb (atype := .char) (ty := .char) q249 hts rfl hK hP hD hS hA 4 rfl (fun _ _ => rfl) (N' := 8) (a0 := (8, .inl (fun _ => 0))) (fun _ => rfl) (by decide +kernel) (by decide +kernel) (Nat.le_of_ble_eq_true rfl) (Nat.le_of_ble_eq_true rfl) (Nat.le_of_ble_eq_true rfl) dX10_init_39 (fun q5 H hP hD hS => ?_)
  have hP : va_P (dC, dI) CL [(a0, .inr (11, [.int (0), .ref q1, .ref q2, .ref q3, .ref q4, .null, .null, .null, .null, .null]))] _ := hP.sub [0] rfl
  have hD : va_D A [(a0, .inr (11, [.int (0), .ref q1, .ref q2, .ref q3, .ref q4, .null, .null, .null, .null, .null]))] := hD.sub [0] (by decide +kernel) rfl
  refine W.widen (k := 5) (n := 40) (Nat.le_of_ble_eq_true rfl) (Nat.le_of_ble_eq_true rfl) ?_
  refine va_putF (D := (dC, dI)) (ci := 11) (v := .ref q5) (ty := (.array .char)) (C := "Minestrata$Stopes") (T := TX10) (N := 10) hx hb hts inX10 tyX10 tyX10_ok nmX10 hown hK hP hD hS 0 rfl rfl 5 (by decide) (hts _ q219) (fun _ h9 => h9) rfl hin rfl (by decide +kernel) rfl rfl (Nat.le_of_ble_eq_true rfl) dX10_init_41 (fun H locs hP hD hS => ?_)
  have hP : va_P (dC, dI) CL [(a0, .inr (11, [.int (0), .ref q1, .ref q2, .ref q3, .ref q4, .ref q5, .null, .null, .null, .null]))] _ := hP
  have hD : va_D A [(a0, .inr (11, [.int (0), .ref q1, .ref q2, .ref q3, .ref q4, .ref q5, .null, .null, .null, .null]))] := hD
  refine lv_aload_n hx hb dX10_init_44 rfl (lv_at hl 0 rfl) ?_
  refine lv_bipush (v := (8)) hx hb dX10_init_45 (by decide +kernel) ?_
  refine n_newa hx hb (atype := .int) (ty := .int) q201 hts rfl hK hP hD hS hA 0 rfl (fun _ _ => rfl) (N' := 8) (a0 := (8, .inl (fun _ => 0))) (fun _ => rfl) (by decide +kernel) (by decide +kernel) (Nat.le_of_ble_eq_true rfl) (Nat.le_of_ble_eq_true rfl) (Nat.le_of_ble_eq_true rfl) dX10_init_47 (fun q6 H hP hD hS => ?_)
  have hP : va_P (dC, dI) CL [(a0, .inr (11, [.int (0), .ref q1, .ref q2, .ref q3, .ref q4, .ref q5, .null, .null, .null, .null]))] _ := hP.sub [0] rfl
  have hD : va_D A [(a0, .inr (11, [.int (0), .ref q1, .ref q2, .ref q3, .ref q4, .ref q5, .null, .null, .null, .null]))] := hD.sub [0] (by decide +kernel) rfl
  refine W.widen (k := 6) (n := 48) (Nat.le_of_ble_eq_true rfl) (Nat.le_of_ble_eq_true rfl) ?_
  refine va_putF (D := (dC, dI)) (ci := 11) (v := .ref q6) (ty := (.array .int)) (C := "Minestrata$Stopes") (T := TX10) (N := 10) hx hb hts inX10 tyX10 tyX10_ok nmX10 hown hK hP hD hS 0 rfl rfl 6 (by decide) (hts _ q221) (fun _ h9 => h9) rfl hin rfl (by decide +kernel) rfl rfl (Nat.le_of_ble_eq_true rfl) dX10_init_49 (fun H locs hP hD hS => ?_)
  have hP : va_P (dC, dI) CL [(a0, .inr (11, [.int (0), .ref q1, .ref q2, .ref q3, .ref q4, .ref q5, .ref q6, .null, .null, .null]))] _ := hP
  have hD : va_D A [(a0, .inr (11, [.int (0), .ref q1, .ref q2, .ref q3, .ref q4, .ref q5, .ref q6, .null, .null, .null]))] := hD
  refine lv_aload_n hx hb dX10_init_52 rfl (lv_at hl 0 rfl) ?_
  refine lv_bipush (v := (8)) hx hb dX10_init_53 (by decide +kernel) ?_
  refine n_newa hx hb (atype := .int) (ty := .int) q201 hts rfl hK hP hD hS hA 0 rfl (fun _ _ => rfl) (N' := 8) (a0 := (8, .inl (fun _ => 0))) (fun _ => rfl) (by decide +kernel) (by decide +kernel) (Nat.le_of_ble_eq_true rfl) (Nat.le_of_ble_eq_true rfl) (Nat.le_of_ble_eq_true rfl) dX10_init_55 (fun q7 H hP hD hS => ?_)
  have hP : va_P (dC, dI) CL [(a0, .inr (11, [.int (0), .ref q1, .ref q2, .ref q3, .ref q4, .ref q5, .ref q6, .null, .null, .null]))] _ := hP.sub [0] rfl
  have hD : va_D A [(a0, .inr (11, [.int (0), .ref q1, .ref q2, .ref q3, .ref q4, .ref q5, .ref q6, .null, .null, .null]))] := hD.sub [0] (by decide +kernel) rfl
  refine W.widen (k := 7) (n := 56) (Nat.le_of_ble_eq_true rfl) (Nat.le_of_ble_eq_true rfl) ?_
  refine va_putF (D := (dC, dI)) (ci := 11) (v := .ref q7) (ty := (.array .int)) (C := "Minestrata$Stopes") (T := TX10) (N := 10) hx hb hts inX10 tyX10 tyX10_ok nmX10 hown hK hP hD hS 0 rfl rfl 7 (by decide) (hts _ q224) (fun _ h9 => h9) rfl hin rfl (by decide +kernel) rfl rfl (Nat.le_of_ble_eq_true rfl) dX10_init_57 (fun H locs hP hD hS => ?_)
  have hP : va_P (dC, dI) CL [(a0, .inr (11, [.int (0), .ref q1, .ref q2, .ref q3, .ref q4, .ref q5, .ref q6, .ref q7, .null, .null]))] _ := hP
  have hD : va_D A [(a0, .inr (11, [.int (0), .ref q1, .ref q2, .ref q3, .ref q4, .ref q5, .ref q6, .ref q7, .null, .null]))] := hD
  refine lv_aload_n hx hb dX10_init_60 rfl (lv_at hl 0 rfl) ?_
  refine lv_bipush (v := (8)) hx hb dX10_init_61 (by decide +kernel) ?_
  refine n_newa hx hb (atype := .int) (ty := .int) q201 hts rfl hK hP hD hS hA 0 rfl (fun _ _ => rfl) (N' := 8) (a0 := (8, .inl (fun _ => 0))) (fun _ => rfl) (by decide +kernel) (by decide +kernel) (Nat.le_of_ble_eq_true rfl) (Nat.le_of_ble_eq_true rfl) (Nat.le_of_ble_eq_true rfl) dX10_init_63 (fun q8 H hP hD hS => ?_)
  have hP : va_P (dC, dI) CL [(a0, .inr (11, [.int (0), .ref q1, .ref q2, .ref q3, .ref q4, .ref q5, .ref q6, .ref q7, .null, .null]))] _ := hP.sub [0] rfl
  have hD : va_D A [(a0, .inr (11, [.int (0), .ref q1, .ref q2, .ref q3, .ref q4, .ref q5, .ref q6, .ref q7, .null, .null]))] := hD.sub [0] (by decide +kernel) rfl
  refine W.widen (k := 8) (n := 64) (Nat.le_of_ble_eq_true rfl) (Nat.le_of_ble_eq_true rfl) ?_
  refine va_putF (D := (dC, dI)) (ci := 11) (v := .ref q8) (ty := (.array .int)) (C := "Minestrata$Stopes") (T := TX10) (N := 10) hx hb hts inX10 tyX10 tyX10_ok nmX10 hown hK hP hD hS 0 rfl rfl 8 (by decide) (hts _ q226) (fun _ h9 => h9) rfl hin rfl (by decide +kernel) rfl rfl (Nat.le_of_ble_eq_true rfl) dX10_init_65 (fun H locs hP hD hS => ?_)
  have hP : va_P (dC, dI) CL [(a0, .inr (11, [.int (0), .ref q1, .ref q2, .ref q3, .ref q4, .ref q5, .ref q6, .ref q7, .ref q8, .null]))] _ := hP
  have hD : va_D A [(a0, .inr (11, [.int (0), .ref q1, .ref q2, .ref q3, .ref q4, .ref q5, .ref q6, .ref q7, .ref q8, .null]))] := hD
  refine lv_aload_n hx hb dX10_init_68 rfl (lv_at hl 0 rfl) ?_
  refine lv_bipush (v := (8)) hx hb dX10_init_69 (by decide +kernel) ?_
  refine n_newa hx hb (atype := .int) (ty := .int) q201 hts rfl hK hP hD hS hA 0 rfl (fun _ _ => rfl) (N' := 8) (a0 := (8, .inl (fun _ => 0))) (fun _ => rfl) (by decide +kernel) (by decide +kernel) (Nat.le_of_ble_eq_true rfl) (Nat.le_of_ble_eq_true rfl) (Nat.le_of_ble_eq_true rfl) dX10_init_71 (fun q9 H hP hD hS => ?_)
  have hP : va_P (dC, dI) CL [(a0, .inr (11, [.int (0), .ref q1, .ref q2, .ref q3, .ref q4, .ref q5, .ref q6, .ref q7, .ref q8, .null]))] _ := hP.sub [0] rfl
  have hD : va_D A [(a0, .inr (11, [.int (0), .ref q1, .ref q2, .ref q3, .ref q4, .ref q5, .ref q6, .ref q7, .ref q8, .null]))] := hD.sub [0] (by decide +kernel) rfl
  refine W.widen (k := 9) (n := 72) (Nat.le_of_ble_eq_true rfl) (Nat.le_of_ble_eq_true rfl) ?_
  refine va_putF (D := (dC, dI)) (ci := 11) (v := .ref q9) (ty := (.array .int)) (C := "Minestrata$Stopes") (T := TX10) (N := 10) hx hb hts inX10 tyX10 tyX10_ok nmX10 hown hK hP hD hS 0 rfl rfl 9 (by decide) (hts _ q227) (fun _ h9 => h9) rfl hin rfl (by decide +kernel) rfl rfl (Nat.le_of_ble_eq_true rfl) dX10_init_73 (fun H locs hP hD hS => ?_)
  have hP : va_P (dC, dI) CL [(a0, .inr (11, [.int (0), .ref q1, .ref q2, .ref q3, .ref q4, .ref q5, .ref q6, .ref q7, .ref q8, .ref q9]))] _ := hP
  have hD : va_D A [(a0, .inr (11, [.int (0), .ref q1, .ref q2, .ref q3, .ref q4, .ref q5, .ref q6, .ref q7, .ref q8, .ref q9]))] := hD
  refine W.widen (k := 9) (n := 72) (Nat.le_of_ble_eq_true rfl) (Nat.le_of_ble_eq_true rfl) ?_
  exact W.vret hx hb hr (n_end hS hP hD [0] (by decide +kernel) (fun k => match k with | 0 => q1 | 1 => q2 | 2 => q3 | 3 => q4 | 4 => q5 | 5 => q6 | 6 => q7 | 7 => q8 | 8 => q9 | _ => 0) (fun _ => 0) rfl rfl rfl) hS.2.2 dX10_init_76 hlk

set_option maxHeartbeats 4000000 in
set_option maxRecDepth 100000 in
/-- Minestrata$Stopes.<init> -/
theorem m3 (l : Launch) (hst : l.stackTraces = false) (dC : Nat → ClassId) (dI : Nat → Nat → Nat) (g : Nat → Nat) (a0 : Nat) (sz : Nat) :
    Met l Y2 (Cond.code Y2 prog_12_method_1_code 1 (Option.none : Option Jvm.ClassFile.FieldType) :: AW) ({ frames := 1, cells := 9, slots := 72, locals := 12 } : Room) (nP dC dI g [.ref a0] [(a0, .inr (11, [.int (0), .null, .null, .null, .null, .null, .null, .null, .null, .null]))] sz) (nQ dC dI (fun f => none) (fun f r => []) (va_A [(a0, .inr (11, [.int (0), .null, .null, .null, .null, .null, .null, .null, .null, .null]))] sz)) 9 72 (va_A [(a0, .inr (11, [.int (0), .null, .null, .null, .null, .null, .null, .null, .null, .null]))] sz) := by
  refine n_met (by decide +kernel) (Nat.le_of_ble_eq_true rfl) (fun f => none) (fun f r => []) ?_
  intro p e s m below meth c A ls ⟨hx, hb, hr, hml, hown, hts, hlk, hnm⟩ hE hP hD hA hl
  have hown : s.vm.findClass "Minestrata$Stopes" = some m.cls := hown
  have hin : meth.name = "<init>" := hnm
  have hK := hE.1
  have hS : va_S A s.heap s.heap [] := va_S.rf
  have hl : lv_has ls 1 [(0, .ref a0)] := hl
  refine lv_aload_n hx hb dX10_init_0 rfl (lv_at hl 0 rfl) ?_
  refine n_oinit hx hb hml hown hts q207 q118 q119 hl.1 dX10_init_1 (Nat.le_of_ble_eq_true rfl) (Nat.le_of_ble_eq_true rfl) ?_
  refine lv_aload_n hx hb dX10_init_4 rfl (lv_at hl 0 rfl) ?_
  refine lv_bipush (v := (8)) hx hb dX10_init_5 (by decide +kernel) ?_
  refine n_newa hx hb (atype := .int) (ty := .int) q201 hts rfl hK hP hD hS hA 0 rfl (fun _ _ => rfl) (N' := 8) (a0 := (8, .inl (fun _ => 0))) (fun _ => rfl) (by decide +kernel) (by decide +kernel) (Nat.le_of_ble_eq_true rfl) (Nat.le_of_ble_eq_true rfl) (Nat.le_of_ble_eq_true rfl) dX10_init_7 (fun q1 H hP hD hS => ?_)
  have hP : va_P (dC, dI) CL [(a0, .inr (11, [.int (0), .null, .null, .null, .null, .null, .null, .null, .null, .null]))] _ := hP.sub [0] rfl
  have hD : va_D A [(a0, .inr (11, [.int (0), .null, .null, .null, .null, .null, .null, .null, .null, .null]))] := hD.sub [0] (by decide +kernel) rfl
  refine W.widen (k := 1) (n := 8) (Nat.le_of_ble_eq_true rfl) (Nat.le_of_ble_eq_true rfl) ?_
  refine va_putF (D := (dC, dI)) (ci := 11) (v := .ref q1) (ty := (.array .int)) (C := "Minestrata$Stopes") (T := TX10) (N := 10) hx hb hts inX10 tyX10 tyX10_ok nmX10 hown hK hP hD hS 0 rfl rfl 1 (by decide) (hts _ q211) (fun _ h9 => h9) rfl hin rfl (by decide +kernel) rfl rfl (Nat.le_of_ble_eq_true rfl) dX10_init_9 (fun H locs hP hD hS => ?_)
  have hP : va_P (dC, dI) CL [(a0, .inr (11, [.int (0), .ref q1, .null, .null, .null, .null, .null, .null, .null, .null]))] _ := hP
  have hD : va_D A [(a0, .inr (11, [.int (0), .ref q1, .null, .null, .null, .null, .null, .null, .null, .null]))] := hD
  refine lv_aload_n hx hb dX10_init_12 rfl (lv_at hl 0 rfl) ?_
  refine lv_bipush (v := (8)) hx hb dX10_init_13 (by decide +kernel) ?_
  refine n_newa hx hb (atype := .int) (ty := .int) q201 hts rfl hK hP hD hS hA 0 rfl (fun _ _ => rfl) (N' := 8) (a0 := (8, .inl (fun _ => 0))) (fun _ => rfl) (by decide +kernel) (by decide +kernel) (Nat.le_of_ble_eq_true rfl) (Nat.le_of_ble_eq_true rfl) (Nat.le_of_ble_eq_true rfl) dX10_init_15 (fun q2 H hP hD hS => ?_)
  have hP : va_P (dC, dI) CL [(a0, .inr (11, [.int (0), .ref q1, .null, .null, .null, .null, .null, .null, .null, .null]))] _ := hP.sub [0] rfl
  have hD : va_D A [(a0, .inr (11, [.int (0), .ref q1, .null, .null, .null, .null, .null, .null, .null, .null]))] := hD.sub [0] (by decide +kernel) rfl
  refine W.widen (k := 2) (n := 16) (Nat.le_of_ble_eq_true rfl) (Nat.le_of_ble_eq_true rfl) ?_
  refine va_putF (D := (dC, dI)) (ci := 11) (v := .ref q2) (ty := (.array .int)) (C := "Minestrata$Stopes") (T := TX10) (N := 10) hx hb hts inX10 tyX10 tyX10_ok nmX10 hown hK hP hD hS 0 rfl rfl 2 (by decide) (hts _ q213) (fun _ h9 => h9) rfl hin rfl (by decide +kernel) rfl rfl (Nat.le_of_ble_eq_true rfl) dX10_init_17 (fun H locs hP hD hS => ?_)
  have hP : va_P (dC, dI) CL [(a0, .inr (11, [.int (0), .ref q1, .ref q2, .null, .null, .null, .null, .null, .null, .null]))] _ := hP
  have hD : va_D A [(a0, .inr (11, [.int (0), .ref q1, .ref q2, .null, .null, .null, .null, .null, .null, .null]))] := hD
  refine lv_aload_n hx hb dX10_init_20 rfl (lv_at hl 0 rfl) ?_
  refine lv_bipush (v := (8)) hx hb dX10_init_21 (by decide +kernel) ?_
  refine n_newa hx hb (atype := .int) (ty := .int) q201 hts rfl hK hP hD hS hA 0 rfl (fun _ _ => rfl) (N' := 8) (a0 := (8, .inl (fun _ => 0))) (fun _ => rfl) (by decide +kernel) (by decide +kernel) (Nat.le_of_ble_eq_true rfl) (Nat.le_of_ble_eq_true rfl) (Nat.le_of_ble_eq_true rfl) dX10_init_23 (fun q3 H hP hD hS => ?_)
  have hP : va_P (dC, dI) CL [(a0, .inr (11, [.int (0), .ref q1, .ref q2, .null, .null, .null, .null, .null, .null, .null]))] _ := hP.sub [0] rfl
  have hD : va_D A [(a0, .inr (11, [.int (0), .ref q1, .ref q2, .null, .null, .null, .null, .null, .null, .null]))] := hD.sub [0] (by decide +kernel) rfl
  refine W.widen (k := 3) (n := 24) (Nat.le_of_ble_eq_true rfl) (Nat.le_of_ble_eq_true rfl) ?_
  refine va_putF (D := (dC, dI)) (ci := 11) (v := .ref q3) (ty := (.array .int)) (C := "Minestrata$Stopes") (T := TX10) (N := 10) hx hb hts inX10 tyX10 tyX10_ok nmX10 hown hK hP hD hS 0 rfl rfl 3 (by decide) (hts _ q215) (fun _ h9 => h9) rfl hin rfl (by decide +kernel) rfl rfl (Nat.le_of_ble_eq_true rfl) dX10_init_25 (fun H locs hP hD hS => ?_)
  have hP : va_P (dC, dI) CL [(a0, .inr (11, [.int (0), .ref q1, .ref q2, .ref q3, .null, .null, .null, .null, .null, .null]))] _ := hP
  have hD : va_D A [(a0, .inr (11, [.int (0), .ref q1, .ref q2, .ref q3, .null, .null, .null, .null, .null, .null]))] := hD
  refine lv_aload_n hx hb dX10_init_28 rfl (lv_at hl 0 rfl) ?_
  refine lv_bipush (v := (8)) hx hb dX10_init_29 (by decide +kernel) ?_
  refine n_newa hx hb (atype := .int) (ty := .int) q201 hts rfl hK hP hD hS hA 0 rfl (fun _ _ => rfl) (N' := 8) (a0 := (8, .inl (fun _ => 0))) (fun _ => rfl) (by decide +kernel) (by decide +kernel) (Nat.le_of_ble_eq_true rfl) (Nat.le_of_ble_eq_true rfl) (Nat.le_of_ble_eq_true rfl) dX10_init_31 (fun q4 H hP hD hS => ?_)
  have hP : va_P (dC, dI) CL [(a0, .inr (11, [.int (0), .ref q1, .ref q2, .ref q3, .null, .null, .null, .null, .null, .null]))] _ := hP.sub [0] rfl
  have hD : va_D A [(a0, .inr (11, [.int (0), .ref q1, .ref q2, .ref q3, .null, .null, .null, .null, .null, .null]))] := hD.sub [0] (by decide +kernel) rfl
  refine W.widen (k := 4) (n := 32) (Nat.le_of_ble_eq_true rfl) (Nat.le_of_ble_eq_true rfl) ?_
  refine va_putF (D := (dC, dI)) (ci := 11) (v := .ref q4) (ty := (.array .int)) (C := "Minestrata$Stopes") (T := TX10) (N := 10) hx hb hts inX10 tyX10 tyX10_ok nmX10 hown hK hP hD hS 0 rfl rfl 4 (by decide) (hts _ q217) (fun _ h9 => h9) rfl hin rfl (by decide +kernel) rfl rfl (Nat.le_of_ble_eq_true rfl) dX10_init_33 (fun H locs hP hD hS => ?_)
  have hP : va_P (dC, dI) CL [(a0, .inr (11, [.int (0), .ref q1, .ref q2, .ref q3, .ref q4, .null, .null, .null, .null, .null]))] _ := hP
  have hD : va_D A [(a0, .inr (11, [.int (0), .ref q1, .ref q2, .ref q3, .ref q4, .null, .null, .null, .null, .null]))] := hD
  refine lv_aload_n hx hb dX10_init_36 rfl (lv_at hl 0 rfl) ?_
  refine lv_bipush (v := (8)) hx hb dX10_init_37 (by decide +kernel) ?_
  refine n_newa hx hb (atype := .char) (ty := .char) q249 hts rfl hK hP hD hS hA 4 rfl (fun _ _ => rfl) (N' := 8) (a0 := (8, .inl (fun _ => 0))) (fun _ => rfl) (by decide +kernel) (by decide +kernel) (Nat.le_of_ble_eq_true rfl) (Nat.le_of_ble_eq_true rfl) (Nat.le_of_ble_eq_true rfl) dX10_init_39 (fun q5 H hP hD hS => ?_)
  have hP : va_P (dC, dI) CL [(a0, .inr (11, [.int (0), .ref q1, .ref q2, .ref q3, .ref q4, .null, .null, .null, .null, .null]))] _ := hP.sub [0] rfl
  have hD : va_D A [(a0, .inr (11, [.int (0), .ref q1, .ref q2, .ref q3, .ref q4, .null, .null, .null, .null, .null]))] := hD.sub [0] (by decide +kernel) rfl
  refine W.widen (k := 5) (n := 40) (Nat.le_of_ble_eq_true rfl) (Nat.le_of_ble_eq_true rfl) ?_
  refine va_putF (D := (dC, dI)) (ci := 11) (v := .ref q5) (ty := (.array .char)) (C := "Minestrata$Stopes") (T := TX10) (N := 10) hx hb hts inX10 tyX10 tyX10_ok nmX10 hown hK hP hD hS 0 rfl rfl 5 (by decide) (hts _ q219) (fun _ h9 => h9) rfl hin rfl (by decide +kernel) rfl rfl (Nat.le_of_ble_eq_true rfl) dX10_init_41 (fun H locs hP hD hS => ?_)
  have hP : va_P (dC, dI) CL [(a0, .inr (11, [.int (0), .ref q1, .ref q2, .ref q3, .ref q4, .ref q5, .null, .null, .null, .null]))] _ := hP
  have hD : va_D A [(a0, .inr (11, [.int (0), .ref q1, .ref q2, .ref q3, .ref q4, .ref q5, .null, .null, .null, .null]))] := hD
  refine lv_aload_n hx hb dX10_init_44 rfl (lv_at hl 0 rfl) ?_
  refine lv_bipush (v := (8)) hx hb dX10_init_45 (by decide +kernel) ?_
  refine n_newa hx hb (atype := .int) (ty := .int) q201 hts rfl hK hP hD hS hA 0 rfl (fun _ _ => rfl) (N' := 8) (a0 := (8, .inl (fun _ => 0))) (fun _ => rfl) (by decide +kernel) (by decide +kernel) (Nat.le_of_ble_eq_true rfl) (Nat.le_of_ble_eq_true rfl) (Nat.le_of_ble_eq_true rfl) dX10_init_47 (fun q6 H hP hD hS => ?_)
  have hP : va_P (dC, dI) CL [(a0, .inr (11, [.int (0), .ref q1, .ref q2, .ref q3, .ref q4, .ref q5, .null, .null, .null, .null]))] _ := hP.sub [0] rfl
  have hD : va_D A [(a0, .inr (11, [.int (0), .ref q1, .ref q2, .ref q3, .ref q4, .ref q5, .null, .null, .null, .null]))] := hD.sub [0] (by decide +kernel) rfl
  refine W.widen (k := 6) (n := 48) (Nat.le_of_ble_eq_true rfl) (Nat.le_of_ble_eq_true rfl) ?_
  refine va_putF (D := (dC, dI)) (ci := 11) (v := .ref q6) (ty := (.array .int)) (C := "Minestrata$Stopes") (T := TX10) (N := 10) hx hb hts inX10 tyX10 tyX10_ok nmX10 hown hK hP hD hS 0 rfl rfl 6 (by decide) (hts _ q221) (fun _ h9 => h9) rfl hin rfl (by decide +kernel) rfl rfl (Nat.le_of_ble_eq_true rfl) dX10_init_49 (fun H locs hP hD hS => ?_)
  have hP : va_P (dC, dI) CL [(a0, .inr (11, [.int (0), .ref q1, .ref q2, .ref q3, .ref q4, .ref q5, .ref q6, .null, .null, .null]))] _ := hP
  have hD : va_D A [(a0, .inr (11, [.int (0), .ref q1, .ref q2, .ref q3, .ref q4, .ref q5, .ref q6, .null, .null, .null]))] := hD
  refine lv_aload_n hx hb dX10_init_52 rfl (lv_at hl 0 rfl) ?_
  refine lv_bipush (v := (8)) hx hb dX10_init_53 (by decide +kernel) ?_
  refine n_newa hx hb (atype := .int) (ty := .int) q201 hts rfl hK hP hD hS hA 0 rfl (fun _ _ => rfl) (N' := 8) (a0 := (8, .inl (fun _ => 0))) (fun _ => rfl) (by decide +kernel) (by decide +kernel) (Nat.le_of_ble_eq_true rfl) (Nat.le_of_ble_eq_true rfl) (Nat.le_of_ble_eq_true rfl) dX10_init_55 (fun q7 H hP hD hS => ?_)
  have hP : va_P (dC, dI) CL [(a0, .inr (11, [.int (0), .ref q1, .ref q2, .ref q3, .ref q4, .ref q5, .ref q6, .null, .null, .null]))] _ := hP.sub [0] rfl
  have hD : va_D A [(a0, .inr (11, [.int (0), .ref q1, .ref q2, .ref q3, .ref q4, .ref q5, .ref q6, .null, .null, .null]))] := hD.sub [0] (by decide +kernel) rfl
  refine W.widen (k := 7) (n := 56) (Nat.le_of_ble_eq_true rfl) (Nat.le_of_ble_eq_true rfl) ?_
  refine va_putF (D := (dC, dI)) (ci := 11) (v := .ref q7) (ty := (.array .int)) (C := "Minestrata$Stopes") (T := TX10) (N := 10) hx hb hts inX10 tyX10 tyX10_ok nmX10 hown hK hP hD hS 0 rfl rfl 7 (by decide) (hts _ q224) (fun _ h9 => h9) rfl hin rfl (by decide +kernel) rfl rfl (Nat.le_of_ble_eq_true rfl) dX10_init_57 (fun H locs hP hD hS => ?_)
  have hP : va_P (dC, dI) CL [(a0, .inr (11, [.int (0), .ref q1, .ref q2, .ref q3, .ref q4, .ref q5, .ref q6, .ref q7, .null, .null]))] _ := hP
  have hD : va_D A [(a0, .inr (11, [.int (0), .ref q1, .ref q2, .ref q3, .ref q4, .ref q5, .ref q6, .ref q7, .null, .null]))] := hD
  refine lv_aload_n hx hb dX10_init_60 rfl (lv_at hl 0 rfl) ?_
  refine lv_bipush (v := (8)) hx hb dX10_init_61 (by decide +kernel) ?_
  refine n_newa hx hb (atype := .int) (ty := .int) q201 hts rfl hK hP hD hS hA 0 rfl (fun _ _ => rfl) (N' := 8) (a0 := (8, .inl (fun _ => 0))) (fun _ => rfl) (by decide +kernel) (by decide +kernel) (Nat.le_of_ble_eq_true rfl) (Nat.le_of_ble_eq_true rfl) (Nat.le_of_ble_eq_true rfl) dX10_init_63 (fun q8 H hP hD hS => ?_)
  have hP : va_P (dC, dI) CL [(a0, .inr (11, [.int (0), .ref q1, .ref q2, .ref q3, .ref q4, .ref q5, .ref q6, .ref q7, .null, .null]))] _ := hP.sub [0] rfl
  have hD : va_D A [(a0, .inr (11, [.int (0), .ref q1, .ref q2, .ref q3, .ref q4, .ref q5, .ref q6, .ref q7, .null, .null]))] := hD.sub [0] (by decide +kernel) rfl
  refine W.widen (k := 8) (n := 64) (Nat.le_of_ble_eq_true rfl) (Nat.le_of_ble_eq_true rfl) ?_
  refine va_putF (D := (dC, dI)) (ci := 11) (v := .ref q8) (ty := (.array .int)) (C := "Minestrata$Stopes") (T := TX10) (N := 10) hx hb hts inX10 tyX10 tyX10_ok nmX10 hown hK hP hD hS 0 rfl rfl 8 (by decide) (hts _ q226) (fun _ h9 => h9) rfl hin rfl (by decide +kernel) rfl rfl (Nat.le_of_ble_eq_true rfl) dX10_init_65 (fun H locs hP hD hS => ?_)
  have hP : va_P (dC, dI) CL [(a0, .inr (11, [.int (0), .ref q1, .ref q2, .ref q3, .ref q4, .ref q5, .ref q6, .ref q7, .ref q8, .null]))] _ := hP
  have hD : va_D A [(a0, .inr (11, [.int (0), .ref q1, .ref q2, .ref q3, .ref q4, .ref q5, .ref q6, .ref q7, .ref q8, .null]))] := hD
  refine lv_aload_n hx hb dX10_init_68 rfl (lv_at hl 0 rfl) ?_
  refine lv_bipush (v := (8)) hx hb dX10_init_69 (by decide +kernel) ?_
  refine n_newa hx hb (atype := .int) (ty := .int) q201 hts rfl hK hP hD hS hA 0 rfl (fun _ _ => rfl) (N' := 8) (a0 := (8, .inl (fun _ => 0))) (fun _ => rfl) (by decide +kernel) (by decide +kernel) (Nat.le_of_ble_eq_true rfl) (Nat.le_of_ble_eq_true rfl) (Nat.le_of_ble_eq_true rfl) dX10_init_71 (fun q9 H hP hD hS => ?_)
  have hP : va_P (dC, dI) CL [(a0, .inr (11, [.int (0), .ref q1, .ref q2, .ref q3, .ref q4, .ref q5, .ref q6, .ref q7, .ref q8, .null]))] _ := hP.sub [0] rfl
  have hD : va_D A [(a0, .inr (11, [.int (0), .ref q1, .ref q2, .ref q3, .ref q4, .ref q5, .ref q6, .ref q7, .ref q8, .null]))] := hD.sub [0] (by decide +kernel) rfl
  refine W.widen (k := 9) (n := 72) (Nat.le_of_ble_eq_true rfl) (Nat.le_of_ble_eq_true rfl) ?_
  refine va_putF (D := (dC, dI)) (ci := 11) (v := .ref q9) (ty := (.array .int)) (C := "Minestrata$Stopes") (T := TX10) (N := 10) hx hb hts inX10 tyX10 tyX10_ok nmX10 hown hK hP hD hS 0 rfl rfl 9 (by decide) (hts _ q227) (fun _ h9 => h9) rfl hin rfl (by decide +kernel) rfl rfl (Nat.le_of_ble_eq_true rfl) dX10_init_73 (fun H locs hP hD hS => ?_)
  have hP : va_P (dC, dI) CL [(a0, .inr (11, [.int (0), .ref q1, .ref q2, .ref q3, .ref q4, .ref q5, .ref q6, .ref q7, .ref q8, .ref q9]))] _ := hP
  have hD : va_D A [(a0, .inr (11, [.int (0), .ref q1, .ref q2, .ref q3, .ref q4, .ref q5, .ref q6, .ref q7, .ref q8, .ref q9]))] := hD
  refine W.widen (k := 9) (n := 72) (Nat.le_of_ble_eq_true rfl) (Nat.le_of_ble_eq_true rfl) ?_
  exact W.vret hx hb hr (n_end hS hP hD [] (by decide +kernel) (fun _ => 0) (fun _ => 0) rfl rfl rfl) hS.2.2 dX10_init_76 hlk

set_option maxHeartbeats 4000000 in
set_option maxRecDepth 100000 in
/-- Minestrata$Radix.<init> -/
theorem m4 (l : Launch) (hst : l.stackTraces = false) (dC : Nat → ClassId) (dI : Nat → Nat → Nat) (g : Nat → Nat) (a0 : Nat) (sz : Nat) :
    Met l Y4 (Cond.code Y4 prog_10_method_1_code 1 (Option.none : Option Jvm.ClassFile.FieldType) :: AW) ({ frames := 1, cells := 2, slots := 64, locals := 12 } : Room) (nP dC dI g [.ref a0] [(a0, .inr (9, [.int (0), .null, .null]))] sz) (nQ dC dI (fun f => none) (fun f r => [(a0, .inr (9, [.int (0), .ref (f 0), .ref (f 1)])), (f 0, .inl (g 1, 32, .inr (.inl (fun _ => 0)))), (f 1, .inl (g 1, 32, .inr (.inl (fun _ => 0))))]) (va_A [(a0, .inr (9, [.int (0), .null, .null]))] sz)) 2 64 (va_A [(a0, .inr (9, [.int (0), .null, .null]))] sz) := by
  refine n_met (by decide +kernel) (Nat.le_of_ble_eq_true rfl) (fun f => none) (fun f r => [(a0, .inr (9, [.int (0), .ref (f 0), .ref (f 1)])), (f 0, .inl (g 1, 32, .inr (.inl (fun _ => 0)))), (f 1, .inl (g 1, 32, .inr (.inl (fun _ => 0))))]) ?_
  intro p e s m below meth c A ls ⟨hx, hb, hr, hml, hown, hts, hlk, hnm⟩ hE hP hD hA hl
  have hown : s.vm.findClass "Minestrata$Radix" = some m.cls := hown
  have hin : meth.name = "<init>" := hnm
  have hK := hE.1
  have hS : va_S A s.heap s.heap [] := va_S.rf
  have hl : lv_has ls 1 [(0, .ref a0)] := hl
  refine lv_aload_n hx hb dX8_init_0 rfl (lv_at hl 0 rfl) ?_
  refine n_oinit hx hb hml hown hts q261 q118 q119 hl.1 dX8_init_1 (Nat.le_of_ble_eq_true rfl) (Nat.le_of_ble_eq_true rfl) ?_
  refine lv_aload_n hx hb dX8_init_4 rfl (lv_at hl 0 rfl) ?_
  refine lv_bipush (v := (32)) hx hb dX8_init_5 (by decide +kernel) ?_
  refine n_newa hx hb (atype := .long) (ty := .long) q278 hts rfl hK hP hD hS hA 1 rfl (fun _ _ => rfl) (N' := 32) (a0 := (32, .inr (.inl (fun _ => 0)))) (fun _ => rfl) (by decide +kernel) (by decide +kernel) (Nat.le_of_ble_eq_true rfl) (Nat.le_of_ble_eq_true rfl) (Nat.le_of_ble_eq_true rfl) dX8_init_7 (fun q1 H hP hD hS => ?_)
  have hP : va_P (dC, dI) CL [(a0, .inr (9, [.int (0), .null, .null])), (q1, .inl (g 1, 32, .inr (.inl (fun _ => 0))))] _ := hP
  have hD : va_D A [(a0, .inr (9, [.int (0), .null, .null])), (q1, .inl (g 1, 32, .inr (.inl (fun _ => 0))))] := hD
  refine W.widen (k := 1) (n := 32) (Nat.le_of_ble_eq_true rfl) (Nat.le_of_ble_eq_true rfl) ?_
  refine va_putF (D := (dC, dI)) (ci := 9) (v := .ref q1) (ty := (.array .long)) (C := "Minestrata$Radix") (T := TX8) (N := 3) hx hb hts inX8 tyX8 tyX8_ok nmX8 hown hK hP hD hS 0 rfl rfl 1 (by decide) (hts _ q266) (fun _ h9 => h9) rfl hin rfl (by decide +kernel) rfl rfl (Nat.le_of_ble_eq_true rfl) dX8_init_9 (fun H locs hP hD hS => ?_)
  have hP : va_P (dC, dI) CL [(a0, .inr (9, [.int (0), .ref q1, .null])), (q1, .inl (g 1, 32, .inr (.inl (fun _ => 0))))] _ := hP
  have hD : va_D A [(a0, .inr (9, [.int (0), .ref q1, .null])), (q1, .inl (g 1, 32, .inr (.inl (fun _ => 0))))] := hD
  refine lv_aload_n hx hb dX8_init_12 rfl (lv_at hl 0 rfl) ?_
  refine lv_bipush (v := (32)) hx hb dX8_init_13 (by decide +kernel) ?_
  refine n_newa hx hb (atype := .long) (ty := .long) q278 hts rfl hK hP hD hS hA 1 rfl (fun _ _ => rfl) (N' := 32) (a0 := (32, .inr (.inl (fun _ => 0)))) (fun _ => rfl) (by decide +kernel) (by decide +kernel) (Nat.le_of_ble_eq_true rfl) (Nat.le_of_ble_eq_true rfl) (Nat.le_of_ble_eq_true rfl) dX8_init_15 (fun q2 H hP hD hS => ?_)
  have hP : va_P (dC, dI) CL [(a0, .inr (9, [.int (0), .ref q1, .null])), (q1, .inl (g 1, 32, .inr (.inl (fun _ => 0)))), (q2, .inl (g 1, 32, .inr (.inl (fun _ => 0))))] _ := hP
  have hD : va_D A [(a0, .inr (9, [.int (0), .ref q1, .null])), (q1, .inl (g 1, 32, .inr (.inl (fun _ => 0)))), (q2, .inl (g 1, 32, .inr (.inl (fun _ => 0))))] := hD
  refine W.widen (k := 2) (n := 64) (Nat.le_of_ble_eq_true rfl) (Nat.le_of_ble_eq_true rfl) ?_
  refine va_putF (D := (dC, dI)) (ci := 9) (v := .ref q2) (ty := (.array .long)) (C := "Minestrata$Radix") (T := TX8) (N := 3) hx hb hts inX8 tyX8 tyX8_ok nmX8 hown hK hP hD hS 0 rfl rfl 2 (by decide) (hts _ q270) (fun _ h9 => h9) rfl hin rfl (by decide +kernel) rfl rfl (Nat.le_of_ble_eq_true rfl) dX8_init_17 (fun H locs hP hD hS => ?_)
  have hP : va_P (dC, dI) CL [(a0, .inr (9, [.int (0), .ref q1, .ref q2])), (q1, .inl (g 1, 32, .inr (.inl (fun _ => 0)))), (q2, .inl (g 1, 32, .inr (.inl (fun _ => 0))))] _ := hP
  have hD : va_D A [(a0, .inr (9, [.int (0), .ref q1, .ref q2])), (q1, .inl (g 1, 32, .inr (.inl (fun _ => 0)))), (q2, .inl (g 1, 32, .inr (.inl (fun _ => 0))))] := hD
  refine W.widen (k := 2) (n := 64) (Nat.le_of_ble_eq_true rfl) (Nat.le_of_ble_eq_true rfl) ?_
  exact W.vret hx hb hr (n_end hS hP hD [0, 1, 2] (by decide +kernel) (fun k => match k with | 0 => q1 | 1 => q2 | _ => 0) (fun _ => 0) rfl rfl rfl) hS.2.2 dX8_init_20 hlk

set_option maxHeartbeats 4000000 in
set_option maxRecDepth 100000 in
/-- Minestrata$Groups.<init> -/
theorem m5 (l : Launch) (hst : l.stackTraces = false) (dC : Nat → ClassId) (dI : Nat → Nat → Nat) (g : Nat → Nat) (a0 : Nat) (sz : Nat) :
    Met l Y5 (Cond.code Y5 prog_8_method_1_code 1 (Option.none : Option Jvm.ClassFile.FieldType) :: AW) ({ frames := 1, cells := 3, slots := 32, locals := 12 } : Room) (nP dC dI g [.ref a0] [(a0, .inr (7, [.null, .null, .null]))] sz) (nQ dC dI (fun f => none) (fun f r => [(a0, .inr (7, [.ref (f 0), .ref (f 1), .ref (f 2)]))]) (va_A [(a0, .inr (7, [.null, .null, .null]))] sz)) 3 32 (va_A [(a0, .inr (7, [.null, .null, .null]))] sz) := by
  refine n_met (by decide +kernel) (Nat.le_of_ble_eq_true rfl) (fun f => none) (fun f r => [(a0, .inr (7, [.ref (f 0), .ref (f 1), .ref (f 2)]))]) ?_
  intro p e s m below meth c A ls ⟨hx, hb, hr, hml, hown, hts, hlk, hnm⟩ hE hP hD hA hl
  have hown : s.vm.findClass "Minestrata$Groups" = some m.cls := hown
  have hin : meth.name = "<init>" := hnm
  have hK := hE.1
  have hS : va_S A s.heap s.heap [] := va_S.rf
  have hl : lv_has ls 1 [(0, .ref a0)] := hl
  refine lv_aload_n hx hb dX6_init_0 rfl (lv_at hl 0 rfl) ?_
  refine n_oinit hx hb hml hown hts q286 q118 q119 hl.1 dX6_init_1 (Nat.le_of_ble_eq_true rfl) (Nat.le_of_ble_eq_true rfl) ?_
  refine lv_aload_n hx hb dX6_init_4 rfl (lv_at hl 0 rfl) ?_
  refine lv_bipush (v := (14)) hx hb dX6_init_5 (by decide +kernel) ?_
  refine n_newa hx hb (atype := .boolean) (ty := .boolean) q200 hts rfl hK hP hD hS hA 2 rfl (fun _ _ => rfl) (N' := 14) (a0 := (14, .inl (fun _ => 0))) (fun _ => rfl) (by decide +kernel) (by decide +kernel) (Nat.le_of_ble_eq_true rfl) (Nat.le_of_ble_eq_true rfl) (Nat.le_of_ble_eq_true rfl) dX6_init_7 (fun q1 H hP hD hS => ?_)
  have hP : va_P (dC, dI) CL [(a0, .inr (7, [.null, .null, .null]))] _ := hP.sub [0] rfl
  have hD : va_D A [(a0, .inr (7, [.null, .null, .null]))] := hD.sub [0] (by decide +kernel) rfl
  refine W.widen (k := 1) (n := 14) (Nat.le_of_ble_eq_true rfl) (Nat.le_of_ble_eq_true rfl) ?_
  refine va_putF (D := (dC, dI)) (ci := 7) (v := .ref q1) (ty := (.array .boolean)) (C := "Minestrata$Groups") (T := TX6) (N := 3) hx hb hts inX6 tyX6 tyX6_ok nmX6 hown hK hP hD hS 0 rfl rfl 0 (by decide) (hts _ q287) (fun _ h9 => h9) rfl hin rfl (by decide +kernel) rfl rfl (Nat.le_of_ble_eq_true rfl) dX6_init_9 (fun H locs hP hD hS => ?_)
  have hP : va_P (dC, dI) CL [(a0, .inr (7, [.ref q1, .null, .null]))] _ := hP
  have hD : va_D A [(a0, .inr (7, [.ref q1, .null, .null]))] := hD
  refine lv_aload_n hx hb dX6_init_12 rfl (lv_at hl 0 rfl) ?_
  refine lv_bipush (v := (9)) hx hb dX6_init_13 (by decide +kernel) ?_
  refine n_newa hx hb (atype := .int) (ty := .int) q201 hts rfl hK hP hD hS hA 0 rfl (fun _ _ => rfl) (N' := 9) (a0 := (9, .inl (fun _ => 0))) (fun _ => rfl) (by decide +kernel) (by decide +kernel) (Nat.le_of_ble_eq_true rfl) (Nat.le_of_ble_eq_true rfl) (Nat.le_of_ble_eq_true rfl) dX6_init_15 (fun q2 H hP hD hS => ?_)
  have hP : va_P (dC, dI) CL [(a0, .inr (7, [.ref q1, .null, .null]))] _ := hP.sub [0] rfl
  have hD : va_D A [(a0, .inr (7, [.ref q1, .null, .null]))] := hD.sub [0] (by decide +kernel) rfl
  refine W.widen (k := 2) (n := 23) (Nat.le_of_ble_eq_true rfl) (Nat.le_of_ble_eq_true rfl) ?_
  refine va_putF (D := (dC, dI)) (ci := 7) (v := .ref q2) (ty := (.array .int)) (C := "Minestrata$Groups") (T := TX6) (N := 3) hx hb hts inX6 tyX6 tyX6_ok nmX6 hown hK hP hD hS 0 rfl rfl 1 (by decide) (hts _ q291) (fun _ h9 => h9) rfl hin rfl (by decide +kernel) rfl rfl (Nat.le_of_ble_eq_true rfl) dX6_init_17 (fun H locs hP hD hS => ?_)
  have hP : va_P (dC, dI) CL [(a0, .inr (7, [.ref q1, .ref q2, .null]))] _ := hP
  have hD : va_D A [(a0, .inr (7, [.ref q1, .ref q2, .null]))] := hD
  refine lv_aload_n hx hb dX6_init_20 rfl (lv_at hl 0 rfl) ?_
  refine lv_bipush (v := (9)) hx hb dX6_init_21 (by decide +kernel) ?_
  refine n_newa hx hb (atype := .boolean) (ty := .boolean) q200 hts rfl hK hP hD hS hA 2 rfl (fun _ _ => rfl) (N' := 9) (a0 := (9, .inl (fun _ => 0))) (fun _ => rfl) (by decide +kernel) (by decide +kernel) (Nat.le_of_ble_eq_true rfl) (Nat.le_of_ble_eq_true rfl) (Nat.le_of_ble_eq_true rfl) dX6_init_23 (fun q3 H hP hD hS => ?_)
  have hP : va_P (dC, dI) CL [(a0, .inr (7, [.ref q1, .ref q2, .null]))] _ := hP.sub [0] rfl
  have hD : va_D A [(a0, .inr (7, [.ref q1, .ref q2, .null]))] := hD.sub [0] (by decide +kernel) rfl
  refine W.widen (k := 3) (n := 32) (Nat.le_of_ble_eq_true rfl) (Nat.le_of_ble_eq_true rfl) ?_
  refine va_putF (D := (dC, dI)) (ci := 7) (v := .ref q3) (ty := (.array .boolean)) (C := "Minestrata$Groups") (T := TX6) (N := 3) hx hb hts inX6 tyX6 tyX6_ok nmX6 hown hK hP hD hS 0 rfl rfl 2 (by decide) (hts _ q294) (fun _ h9 => h9) rfl hin rfl (by decide +kernel) rfl rfl (Nat.le_of_ble_eq_true rfl) dX6_init_25 (fun H locs hP hD hS => ?_)
  have hP : va_P (dC, dI) CL [(a0, .inr (7, [.ref q1, .ref q2, .ref q3]))] _ := hP
  have hD : va_D A [(a0, .inr (7, [.ref q1, .ref q2, .ref q3]))] := hD
  refine W.widen (k := 3) (n := 32) (Nat.le_of_ble_eq_true rfl) (Nat.le_of_ble_eq_true rfl) ?_
  exact W.vret hx hb hr (n_end hS hP hD [0] (by decide +kernel) (fun k => match k with | 0 => q1 | 1 => q2 | 2 => q3 | _ => 0) (fun _ => 0) rfl rfl rfl) hS.2.2 dX6_init_28 hlk

set_option maxHeartbeats 4000000 in
set_option maxRecDepth 100000 in
/-- Minestrata$Equations.<init> -/
theorem m6 (l : Launch) (hst : l.stackTraces = false) (dC : Nat → ClassId) (dI : Nat → Nat → Nat) (g : Nat → Nat) (a0 : Nat) (sz : Nat) :
    Met l Y6 (Cond.code Y6 prog_4_method_1_code 1 (Option.none : Option Jvm.ClassFile.FieldType) :: AW) ({ frames := 1, cells := 10, slots := 99, locals := 12 } : Room) (nP dC dI g [.ref a0] [(a0, .inr (3, [.null, .long (0)]))] sz) (nQ dC dI (fun f => none) (fun f r => [(a0, .inr (3, [.ref (f 0), .long (2)]))]) (va_A [(a0, .inr (3, [.null, .long (0)]))] sz)) 10 99 (va_A [(a0, .inr (3, [.null, .long (0)]))] sz) := by
  refine n_met (by decide +kernel) (Nat.le_of_ble_eq_true rfl) (fun f => none) (fun f r => [(a0, .inr (3, [.ref (f 0), .long (2)]))]) ?_
  intro p e s m below meth c A ls ⟨hx, hb, hr, hml, hown, hts, hlk, hnm⟩ hE hP hD hA hl
  have hown : s.vm.findClass "Minestrata$Equations" = some m.cls := hown
  have hin : meth.name = "<init>" := hnm
  have hK := hE.1
  have hS : va_S A s.heap s.heap [] := va_S.rf
  have hl : lv_has ls 1 [(0, .ref a0)] := hl
  refine lv_aload_n hx hb dX2_init_0 rfl (lv_at hl 0 rfl) ?_
  refine n_oinit hx hb hml hown hts q307 q118 q119 hl.1 dX2_init_1 (Nat.le_of_ble_eq_true rfl) (Nat.le_of_ble_eq_true rfl) ?_
  refine lv_aload_n hx hb dX2_init_4 rfl (lv_at hl 0 rfl) ?_
  refine lv_bipush (v := (9)) hx hb dX2_init_5 (by decide +kernel) ?_
  refine lv_bipush (v := (10)) hx hb dX2_init_7 (by decide +kernel) ?_
  refine n_mna hx hb (ty := .long) hown hts q308 hE.2.2.1.1 (hts _ q278) hK hP hD hS hA 5 rfl (hK.2 1 _ rfl).2 (N' := 9) (K' := 10) (z := (10, .inr (.inl (fun _ => 0)))) (by decide +kernel) (by decide +kernel) (by decide +kernel) (by decide +kernel) (Nat.le_of_ble_eq_true rfl) (Nat.le_of_ble_eq_true rfl) (Nat.le_of_ble_eq_true rfl) rfl rfl (Nat.le_of_ble_eq_true rfl) (Nat.le_of_ble_eq_true rfl) (fun c9 => n_inner c9 10 _) dX2_init_9 (fun q1 r2 H hP hD hS => ?_)
  have hP : va_P (dC, dI) CL [(a0, .inr (3, [.null, .long (0)]))] _ := hP.sub [0] rfl
  have hD : va_D A [(a0, .inr (3, [.null, .long (0)]))] := hD.sub [0] (by decide +kernel) rfl
  refine W.widen (k := 10) (n := 99) (Nat.le_of_ble_eq_true rfl) (Nat.le_of_ble_eq_true rfl) ?_
  refine va_putF (D := (dC, dI)) (ci := 3) (v := .ref q1) (ty := (.array (.array .long))) (C := "Minestrata$Equations") (T := TX2) (N := 2) hx hb hts inX2 tyX2 tyX2_ok nmX2 hown hK hP hD hS 0 rfl rfl 0 (by decide) (hts _ q310) (fun _ h9 => h9) rfl hin rfl (by decide +kernel) rfl rfl (Nat.le_of_ble_eq_true rfl) dX2_init_13 (fun H locs hP hD hS => ?_)
  have hP : va_P (dC, dI) CL [(a0, .inr (3, [.ref q1, .long (0)]))] _ := hP
  have hD : va_D A [(a0, .inr (3, [.ref q1, .long (0)]))] := hD
  refine lv_aload_n hx hb dX2_init_16 rfl (lv_at hl 0 rfl) ?_
  refine lv_ldc2 (v := (2)) hx hb hown (hts _ q309) dX2_init_17 ?_
  refine va_put (D := (dC, dI)) (ci := 3) (v := .long (2)) (ty := .long) (C := "Minestrata$Equations") (T := TX2) (N := 2) hx hb hts inX2 tyX2 tyX2_ok nmX2 hown hK hP hD hS 0 rfl rfl 1 (by decide) (hts _ q313) (fun _ h9 => h9) rfl (by decide +kernel) rfl rfl (Nat.le_of_ble_eq_true rfl) dX2_init_20 (fun H locs hP hD hS => ?_)
  have hP : va_P (dC, dI) CL [(a0, .inr (3, [.ref q1, .long (2)]))] _ := hP
  have hD : va_D A [(a0, .inr (3, [.ref q1, .long (2)]))] := hD
  refine W.widen (k := 10) (n := 99) (Nat.le_of_ble_eq_true rfl) (Nat.le_of_ble_eq_true rfl) ?_
  exact W.vret hx hb hr (n_end hS hP hD [0] (by decide +kernel) (fun k => match k with | 0 => q1 | _ => 0) (fun _ => 0) rfl rfl rfl) hS.2.2 dX2_init_23 hlk

set_option maxHeartbeats 4000000 in
set_option maxRecDepth 100000 in
/-- Minestrata$Fraction.<init> -/
theorem m7 (l : Launch) (hst : l.stackTraces = false) (dC : Nat → ClassId) (dI : Nat → Nat → Nat) (g : Nat → Nat) (a0 : Nat) (sz : Nat) :
    Met l Y7 (Cond.code Y7 prog_6_method_1_code 1 (Option.none : Option Jvm.ClassFile.FieldType) :: AW) ({ frames := 1, cells := 4, slots := 129, locals := 12 } : Room) (nP dC dI g [.ref a0] [(a0, .inr (5, [.null, .null, .int (0), .int (0), .null, .null]))] sz) (nQ dC dI (fun f => none) (fun f r => [(a0, .inr (5, [.ref (f 2), .ref (f 0), .int (0), .int (0), .ref (f 3), .ref (f 1)])), (f 0, .inl (g 1, 32, .inr (.inl (fun _ => 0)))), (f 1, .inl (g 1, 32, .inr (.inl (fun _ => 0))))]) (va_A [(a0, .inr (5, [.null, .null, .int (0), .int (0), .null, .null]))] sz)) 4 129 (va_A [(a0, .inr (5, [.null, .null, .int (0), .int (0), .null, .null]))] sz) := by
  refine n_met (by decide +kernel) (Nat.le_of_ble_eq_true rfl) (fun f => none) (fun f r => [(a0, .inr (5, [.ref (f 2), .ref (f 0), .int (0), .int (0), .ref (f 3), .ref (f 1)])), (f 0, .inl (g 1, 32, .inr (.inl (fun _ => 0)))), (f 1, .inl (g 1, 32, .inr (.inl (fun _ => 0))))]) ?_
  intro p e s m below meth c A ls ⟨hx, hb, hr, hml, hown, hts, hlk, hnm⟩ hE hP hD hA hl
  have hown : s.vm.findClass "Minestrata$Fraction" = some m.cls := hown
  have hin : meth.name = "<init>" := hnm
  have hK := hE.1
  have hS : va_S A s.heap s.heap [] := va_S.rf
  have hl : lv_has ls 1 [(0, .ref a0)] := hl
  refine lv_aload_n hx hb dX4_init_0 rfl (lv_at hl 0 rfl) ?_
  refine n_oinit hx hb hml hown hts q324 q118 q119 hl.1 dX4_init_1 (Nat.le_of_ble_eq_true rfl) (Nat.le_of_ble_eq_true rfl) ?_
  refine lv_aload_n hx hb dX4_init_4 rfl (lv_at hl 0 rfl) ?_
  refine lv_bipush (v := (32)) hx hb dX4_init_5 (by decide +kernel) ?_
  refine n_newa hx hb (atype := .long) (ty := .long) q278 hts rfl hK hP hD hS hA 1 rfl (fun _ _ => rfl) (N' := 32) (a0 := (32, .inr (.inl (fun _ => 0)))) (fun _ => rfl) (by decide +kernel) (by decide +kernel) (Nat.le_of_ble_eq_true rfl) (Nat.le_of_ble_eq_true rfl) (Nat.le_of_ble_eq_true rfl) dX4_init_7 (fun q1 H hP hD hS => ?_)
  have hP : va_P (dC, dI) CL [(a0, .inr (5, [.null, .null, .int (0), .int (0), .null, .null]))] _ := hP.sub [0] rfl
  have hD : va_D A [(a0, .inr (5, [.null, .null, .int (0), .int (0), .null, .null]))] := hD.sub [0] (by decide +kernel) rfl
  refine W.widen (k := 1) (n := 32) (Nat.le_of_ble_eq_true rfl) (Nat.le_of_ble_eq_true rfl) ?_
  refine va_putF (D := (dC, dI)) (ci := 5) (v := .ref q1) (ty := (.array .long)) (C := "Minestrata$Fraction") (T := TX4) (N := 6) hx hb hts inX4 tyX4 tyX4_ok nmX4 hown hK hP hD hS 0 rfl rfl 0 (by decide) (hts _ q325) (fun _ h9 => h9) rfl hin rfl (by decide +kernel) rfl rfl (Nat.le_of_ble_eq_true rfl) dX4_init_9 (fun H locs hP hD hS => ?_)
  have hP : va_P (dC, dI) CL [(a0, .inr (5, [.ref q1, .null, .int (0), .int (0), .null, .null]))] _ := hP
  have hD : va_D A [(a0, .inr (5, [.ref q1, .null, .int (0), .int (0), .null, .null]))] := hD
  refine lv_aload_n hx hb dX4_init_12 rfl (lv_at hl 0 rfl) ?_
  refine lv_bipush (v := (32)) hx hb dX4_init_13 (by decide +kernel) ?_
  refine n_newa hx hb (atype := .long) (ty := .long) q278 hts rfl hK hP hD hS hA 1 rfl (fun _ _ => rfl) (N' := 32) (a0 := (32, .inr (.inl (fun _ => 0)))) (fun _ => rfl) (by decide +kernel) (by decide +kernel) (Nat.le_of_ble_eq_true rfl) (Nat.le_of_ble_eq_true rfl) (Nat.le_of_ble_eq_true rfl) dX4_init_15 (fun q2 H hP hD hS => ?_)
  have hP : va_P (dC, dI) CL [(a0, .inr (5, [.ref q1, .null, .int (0), .int (0), .null, .null])), (q2, .inl (g 1, 32, .inr (.inl (fun _ => 0))))] _ := hP
  have hD : va_D A [(a0, .inr (5, [.ref q1, .null, .int (0), .int (0), .null, .null])), (q2, .inl (g 1, 32, .inr (.inl (fun _ => 0))))] := hD
  refine W.widen (k := 2) (n := 64) (Nat.le_of_ble_eq_true rfl) (Nat.le_of_ble_eq_true rfl) ?_
  refine va_putF (D := (dC, dI)) (ci := 5) (v := .ref q2) (ty := (.array .long)) (C := "Minestrata$Fraction") (T := TX4) (N := 6) hx hb hts inX4 tyX4 tyX4_ok nmX4 hown hK hP hD hS 0 rfl rfl 1 (by decide) (hts _ q328) (fun _ h9 => h9) rfl hin rfl (by decide +kernel) rfl rfl (Nat.le_of_ble_eq_true rfl) dX4_init_17 (fun H locs hP hD hS => ?_)
  have hP : va_P (dC, dI) CL [(a0, .inr (5, [.ref q1, .ref q2, .int (0), .int (0), .null, .null])), (q2, .inl (g 1, 32, .inr (.inl (fun _ => 0))))] _ := hP
  have hD : va_D A [(a0, .inr (5, [.ref q1, .ref q2, .int (0), .int (0), .null, .null])), (q2, .inl (g 1, 32, .inr (.inl (fun _ => 0))))] := hD
  refine lv_aload_n hx hb dX4_init_20 rfl (lv_at hl 0 rfl) ?_
  refine lv_bipush (v := (33)) hx hb dX4_init_21 (by decide +kernel) ?_
  refine n_newa hx hb (atype := .long) (ty := .long) q278 hts rfl hK hP hD hS hA 1 rfl (fun _ _ => rfl) (N' := 33) (a0 := (33, .inr (.inl (fun _ => 0)))) (fun _ => rfl) (by decide +kernel) (by decide +kernel) (Nat.le_of_ble_eq_true rfl) (Nat.le_of_ble_eq_true rfl) (Nat.le_of_ble_eq_true rfl) dX4_init_23 (fun q3 H hP hD hS => ?_)
  have hP : va_P (dC, dI) CL [(a0, .inr (5, [.ref q1, .ref q2, .int (0), .int (0), .null, .null])), (q2, .inl (g 1, 32, .inr (.inl (fun _ => 0))))] _ := hP.sub [0, 1] rfl
  have hD : va_D A [(a0, .inr (5, [.ref q1, .ref q2, .int (0), .int (0), .null, .null])), (q2, .inl (g 1, 32, .inr (.inl (fun _ => 0))))] := hD.sub [0, 1] (by decide +kernel) rfl
  refine W.widen (k := 3) (n := 97) (Nat.le_of_ble_eq_true rfl) (Nat.le_of_ble_eq_true rfl) ?_
  refine va_putF (D := (dC, dI)) (ci := 5) (v := .ref q3) (ty := (.array .long)) (C := "Minestrata$Fraction") (T := TX4) (N := 6) hx hb hts inX4 tyX4 tyX4_ok nmX4 hown hK hP hD hS 0 rfl rfl 4 (by decide) (hts _ q336) (fun _ h9 => h9) rfl hin rfl (by decide +kernel) rfl rfl (Nat.le_of_ble_eq_true rfl) dX4_init_25 (fun H locs hP hD hS => ?_)
  have hP : va_P (dC, dI) CL [(a0, .inr (5, [.ref q1, .ref q2, .int (0), .int (0), .ref q3, .null])), (q2, .inl (g 1, 32, .inr (.inl (fun _ => 0))))] _ := hP
  have hD : va_D A [(a0, .inr (5, [.ref q1, .ref q2, .int (0), .int (0), .ref q3, .null])), (q2, .inl (g 1, 32, .inr (.inl (fun _ => 0))))] := hD
  refine lv_aload_n hx hb dX4_init_28 rfl (lv_at hl 0 rfl) ?_
  refine lv_bipush (v := (32)) hx hb dX4_init_29 (by decide +kernel) ?_
  refine n_newa hx hb (atype := .long) (ty := .long) q278 hts rfl hK hP hD hS hA 1 rfl (fun _ _ => rfl) (N' := 32) (a0 := (32, .inr (.inl (fun _ => 0)))) (fun _ => rfl) (by decide +kernel) (by decide +kernel) (Nat.le_of_ble_eq_true rfl) (Nat.le_of_ble_eq_true rfl) (Nat.le_of_ble_eq_true rfl) dX4_init_31 (fun q4 H hP hD hS => ?_)
  have hP : va_P (dC, dI) CL [(a0, .inr (5, [.ref q1, .ref q2, .int (0), .int (0), .ref q3, .null])), (q2, .inl (g 1, 32, .inr (.inl (fun _ => 0)))), (q4, .inl (g 1, 32, .inr (.inl (fun _ => 0))))] _ := hP
  have hD : va_D A [(a0, .inr (5, [.ref q1, .ref q2, .int (0), .int (0), .ref q3, .null])), (q2, .inl (g 1, 32, .inr (.inl (fun _ => 0)))), (q4, .inl (g 1, 32, .inr (.inl (fun _ => 0))))] := hD
  refine W.widen (k := 4) (n := 129) (Nat.le_of_ble_eq_true rfl) (Nat.le_of_ble_eq_true rfl) ?_
  refine va_putF (D := (dC, dI)) (ci := 5) (v := .ref q4) (ty := (.array .long)) (C := "Minestrata$Fraction") (T := TX4) (N := 6) hx hb hts inX4 tyX4 tyX4_ok nmX4 hown hK hP hD hS 0 rfl rfl 5 (by decide) (hts _ q337) (fun _ h9 => h9) rfl hin rfl (by decide +kernel) rfl rfl (Nat.le_of_ble_eq_true rfl) dX4_init_33 (fun H locs hP hD hS => ?_)
  have hP : va_P (dC, dI) CL [(a0, .inr (5, [.ref q1, .ref q2, .int (0), .int (0), .ref q3, .ref q4])), (q2, .inl (g 1, 32, .inr (.inl (fun _ => 0)))), (q4, .inl (g 1, 32, .inr (.inl (fun _ => 0))))] _ := hP
  have hD : va_D A [(a0, .inr (5, [.ref q1, .ref q2, .int (0), .int (0), .ref q3, .ref q4])), (q2, .inl (g 1, 32, .inr (.inl (fun _ => 0)))), (q4, .inl (g 1, 32, .inr (.inl (fun _ => 0))))] := hD
  refine W.widen (k := 4) (n := 129) (Nat.le_of_ble_eq_true rfl) (Nat.le_of_ble_eq_true rfl) ?_
  exact W.vret hx hb hr (n_end hS hP hD [0, 1, 2] (by decide +kernel) (fun k => match k with | 0 => q2 | 1 => q4 | 2 => q1 | 3 => q3 | _ => 0) (fun _ => 0) rfl rfl rfl) hS.2.2 dX4_init_36 hlk

set_option maxHeartbeats 4000000 in
set_option maxRecDepth 100000 in
/-- Minestrata$Air.<init> -/
theorem m8 (l : Launch) (hst : l.stackTraces = false) (dC : Nat → ClassId) (dI : Nat → Nat → Nat) (g : Nat → Nat) (a0 : Nat) (sz : Nat) :
    Met l Y3 (Cond.code Y3 prog_2_method_1_code 1 (Option.none : Option Jvm.ClassFile.FieldType) :: AW) ({ frames := 2, cells := 96, slots := 1239, locals := 32 } : Room) (nP dC dI g [.ref a0] [(a0, .inr (2, [.null, .null, .null, .null, .null, .null, .int (0), .null, .null, .null, .null, .null, .null, .null, .int (0), .int (0)]))] sz) (nQ dC dI (fun f => none) (fun f r => [(a0, .inr (2, [.ref (f 0), .ref (f 3), .ref (f 10), .ref (f 11), .ref (f 12), .ref (f 13), .int (0), .ref (f 4), .ref (f 5), .ref (f 6), .ref (f 7), .ref (f 14), .ref (f 15), .ref (f 16), .int (0), .int (0)])), (f 0, .inr (9, [.int (0), .ref (f 1), .ref (f 2)])), (f 1, .inl (g 1, 32, .inr (.inl (fun _ => 0)))), (f 2, .inl (g 1, 32, .inr (.inl (fun _ => 0)))), (f 3, .inl (g 1, 32, .inr (.inl (fun _ => 0)))), (f 4, .inl (g 5, 32, .inr (.inr (.inr (.inr (fun i => if i < 32 then some (r i) else none)))))), (f 5, .inr (7, [.ref (f 17), .ref (f 18), .ref (f 19)])), (f 6, .inr (3, [.ref (f 20), .long (2)])), (f 7, .inr (5, [.ref (f 21), .ref (f 8), .int (0), .int (0), .ref (f 22), .ref (f 9)])), (f 8, .inl (g 1, 32, .inr (.inl (fun _ => 0)))), (f 9, .inl (g 1, 32, .inr (.inl (fun _ => 0))))]) (va_A [(a0, .inr (2, [.null, .null, .null, .null, .null, .null, .int (0), .null, .null, .null, .null, .null, .null, .null, .int (0), .int (0)]))] sz)) 96 1239 (va_A [(a0, .inr (2, [.null, .null, .null, .null, .null, .null, .int (0), .null, .null, .null, .null, .null, .null, .null, .int (0), .int (0)]))] sz) := by
  refine n_met (by decide +kernel) (Nat.le_of_ble_eq_true rfl) (fun f => none) (fun f r => [(a0, .inr (2, [.ref (f 0), .ref (f 3), .ref (f 10), .ref (f 11), .ref (f 12), .ref (f 13), .int (0), .ref (f 4), .ref (f 5), .ref (f 6), .ref (f 7), .ref (f 14), .ref (f 15), .ref (f 16), .int (0), .int (0)])), (f 0, .inr (9, [.int (0), .ref (f 1), .ref (f 2)])), (f 1, .inl (g 1, 32, .inr (.inl (fun _ => 0)))), (f 2, .inl (g 1, 32, .inr (.inl (fun _ => 0)))), (f 3, .inl (g 1, 32, .inr (.inl (fun _ => 0)))), (f 4, .inl (g 5, 32, .inr (.inr (.inr (.inr (fun i => if i < 32 then some (r i) else none)))))), (f 5, .inr (7, [.ref (f 17), .ref (f 18), .ref (f 19)])), (f 6, .inr (3, [.ref (f 20), .long (2)])), (f 7, .inr (5, [.ref (f 21), .ref (f 8), .int (0), .int (0), .ref (f 22), .ref (f 9)])), (f 8, .inl (g 1, 32, .inr (.inl (fun _ => 0)))), (f 9, .inl (g 1, 32, .inr (.inl (fun _ => 0))))]) ?_
  intro p e s m below meth c A ls ⟨hx, hb, hr, hml, hown, hts, hlk, hnm⟩ hE hP hD hA hl
  have hown : s.vm.findClass "Minestrata$Air" = some m.cls := hown
  have hin : meth.name = "<init>" := hnm
  have hK := hE.1
  have hS : va_S A s.heap s.heap [] := va_S.rf
  have hl : lv_has ls 1 [(0, .ref a0)] := hl
  refine lv_aload_n hx hb dX0_init_0 rfl (lv_at hl 0 rfl) ?_
  refine n_oinit hx hb hml hown hts q255 q118 q119 hl.1 dX0_init_1 (Nat.le_of_ble_eq_true rfl) (Nat.le_of_ble_eq_true rfl) ?_
  refine lv_aload_n hx hb dX0_init_4 rfl (lv_at hl 0 rfl) ?_
  refine va_new (ci := 9) (fs := [.int (0), .null, .null]) (C := "Minestrata$Radix") (T := TX8) (N := 3) hx hb hts inX8 tyX8 tyX8_ok hown (hts _ q256) (hts _ q257) (hts _ q75) hK hP hD hS hA rfl dfX8 (Nat.le_of_ble_eq_true rfl) (Nat.le_of_ble_eq_true rfl) dX0_init_5 (fun q1 H hP hD hS => ?_)
  have hP : va_P (dC, dI) CL [(a0, .inr (2, [.null, .null, .null, .null, .null, .null, .int (0), .null, .null, .null, .null, .null, .null, .null, .int (0), .int (0)])), (q1, .inr (9, [.int (0), .null, .null]))] _ := hP
  have hD : va_D A [(a0, .inr (2, [.null, .null, .null, .null, .null, .null, .int (0), .null, .null, .null, .null, .null, .null, .null, .int (0), .int (0)])), (q1, .inr (9, [.int (0), .null, .null]))] := hD
  refine W.widen (k := 1) (n := 3) (Nat.le_of_ble_eq_true rfl) (Nat.le_of_ble_eq_true rfl) ?_
  refine lv_dup hx hb dX0_init_8 rfl ?_
  have hX : nCx p s m _ c prog_2_method_1_code 1 "Minestrata$Air" dC dI g A [(a0, .inr (2, [.null, .null, .null, .null, .null, .null, .int (0), .null, .null, .null, .null, .null, .null, .null, .int (0), .int (0)])), (q1, .inr (9, [.int (0), .null, .null]))] _ _ := ⟨⟨hx, hb, hml, hown, hts⟩, hE, hS, hA, hP, hD⟩
  refine n_call (wr := [(a0, .inr (2, [.null, .null, .null, .null, .null, .null, .int (0), .null, .null, .null, .null, .null, .null, .null, .int (0), .int (0)]))]) hX (n_runIN (n := 0) (wc := [(q1, .inr (9, [.int (0), .null, .null]))]) (As := []) (rest := [.ref q1, .ref a0]) hX (m4 l hst dC dI g q1 _) [1] rfl (by decide +kernel) u258 q259 q75 q260 rfl (by decide +kernel) ⟨(Nat.le_of_ble_eq_true rfl), (Nat.le_of_ble_eq_true rfl)⟩ ⟨(Nat.le_of_ble_eq_true rfl), (Nat.le_of_ble_eq_true rfl)⟩ hl.1 rfl rfl (Nat.le_of_ble_eq_true rfl) dX0_init_9) [1] [0] rfl rfl (by decide +kernel) (by decide +kernel) (fun f2 r3 H locs hP hD hS => ?_)
  have hP : va_P (dC, dI) CL [(a0, .inr (2, [.null, .null, .null, .null, .null, .null, .int (0), .null, .null, .null, .null, .null, .null, .null, .int (0), .int (0)])), (q1, .inr (9, [.int (0), .ref (f2 0), .ref (f2 1)])), (f2 0, .inl (g 1, 32, .inr (.inl (fun _ => 0)))), (f2 1, .inl (g 1, 32, .inr (.inl (fun _ => 0))))] _ := hP
  have hD : va_D A [(a0, .inr (2, [.null, .null, .null, .null, .null, .null, .int (0), .null, .null, .null, .null, .null, .null, .null, .int (0), .int (0)])), (q1, .inr (9, [.int (0), .ref (f2 0), .ref (f2 1)])), (f2 0, .inl (g 1, 32, .inr (.inl (fun _ => 0)))), (f2 1, .inl (g 1, 32, .inr (.inl (fun _ => 0))))] := hD
  refine W.widen (k := 3) (n := 67) (Nat.le_of_ble_eq_true rfl) (Nat.le_of_ble_eq_true rfl) ?_
  refine W.eq (g2 := F0 m 12 ls [.ref q1, .ref a0]) rfl ?_
  refine va_putF (D := (dC, dI)) (ci := 2) (v := .ref q1) (ty := (.object "Minestrata$Radix")) (C := "Minestrata$Air") (T := TX0) (N := 16) hx hb hts inX0 tyX0 tyX0_ok nmX0 hown hK hP hD hS 0 rfl rfl 0 (by decide) (hts _ q351) (fun _ h9 => h9) rfl hin rfl (by decide +kernel) rfl rfl (Nat.le_of_ble_eq_true rfl) dX0_init_12 (fun H locs hP hD hS => ?_)
  have hP : va_P (dC, dI) CL [(a0, .inr (2, [.ref q1, .null, .null, .null, .null, .null, .int (0), .null, .null, .null, .null, .null, .null, .null, .int (0), .int (0)])), (q1, .inr (9, [.int (0), .ref (f2 0), .ref (f2 1)])), (f2 0, .inl (g 1, 32, .inr (.inl (fun _ => 0)))), (f2 1, .inl (g 1, 32, .inr (.inl (fun _ => 0))))] _ := hP
  have hD : va_D A [(a0, .inr (2, [.ref q1, .null, .null, .null, .null, .null, .int (0), .null, .null, .null, .null, .null, .null, .null, .int (0), .int (0)])), (q1, .inr (9, [.int (0), .ref (f2 0), .ref (f2 1)])), (f2 0, .inl (g 1, 32, .inr (.inl (fun _ => 0)))), (f2 1, .inl (g 1, 32, .inr (.inl (fun _ => 0))))] := hD
  refine lv_aload_n hx hb dX0_init_15 rfl (lv_at hl 0 rfl) ?_
  refine lv_bipush (v := (32)) hx hb dX0_init_16 (by decide +kernel) ?_
  refine n_newa hx hb (atype := .long) (ty := .long) q278 hts rfl hK hP hD hS hA 1 rfl (fun _ _ => rfl) (N' := 32) (a0 := (32, .inr (.inl (fun _ => 0)))) (fun _ => rfl) (by decide +kernel) (by decide +kernel) (Nat.le_of_ble_eq_true rfl) (Nat.le_of_ble_eq_true rfl) (Nat.le_of_ble_eq_true rfl) dX0_init_18 (fun q4 H hP hD hS => ?_)
  have hP : va_P (dC, dI) CL [(a0, .inr (2, [.ref q1, .null, .null, .null, .null, .null, .int (0), .null, .null, .null, .null, .null, .null, .null, .int (0), .int (0)])), (q1, .inr (9, [.int (0), .ref (f2 0), .ref (f2 1)])), (f2 0, .inl (g 1, 32, .inr (.inl (fun _ => 0)))), (f2 1, .inl (g 1, 32, .inr (.inl (fun _ => 0)))), (q4, .inl (g 1, 32, .inr (.inl (fun _ => 0))))] _ := hP
  have hD : va_D A [(a0, .inr (2, [.ref q1, .null, .null, .null, .null, .null, .int (0), .null, .null, .null, .null, .null, .null, .null, .int (0), .int (0)])), (q1, .inr (9, [.int (0), .ref (f2 0), .ref (f2 1)])), (f2 0, .inl (g 1, 32, .inr (.inl (fun _ => 0)))), (f2 1, .inl (g 1, 32, .inr (.inl (fun _ => 0)))), (q4, .inl (g 1, 32, .inr (.inl (fun _ => 0))))] := hD
  refine W.widen (k := 4) (n := 99) (Nat.le_of_ble_eq_true rfl) (Nat.le_of_ble_eq_true rfl) ?_
  refine va_putF (D := (dC, dI)) (ci := 2) (v := .ref q4) (ty := (.array .long)) (C := "Minestrata$Air") (T := TX0) (N := 16) hx hb hts inX0 tyX0 tyX0_ok nmX0 hown hK hP hD hS 0 rfl rfl 1 (by decide) (hts _ q353) (fun _ h9 => h9) rfl hin rfl (by decide +kernel) rfl rfl (Nat.le_of_ble_eq_true rfl) dX0_init_20 (fun H locs hP hD hS => ?_)
  have hP : va_P (dC, dI) CL [(a0, .inr (2, [.ref q1, .ref q4, .null, .null, .null, .null, .int (0), .null, .null, .null, .null, .null, .null, .null, .int (0), .int (0)])), (q1, .inr (9, [.int (0), .ref (f2 0), .ref (f2 1)])), (f2 0, .inl (g 1, 32, .inr (.inl (fun _ => 0)))), (f2 1, .inl (g 1, 32, .inr (.inl (fun _ => 0)))), (q4, .inl (g 1, 32, .inr (.inl (fun _ => 0))))] _ := hP
  have hD : va_D A [(a0, .inr (2, [.ref q1, .ref q4, .null, .null, .null, .null, .int (0), .null, .null, .null, .null, .null, .null, .null, .int (0), .int (0)])), (q1, .inr (9, [.int (0), .ref (f2 0), .ref (f2 1)])), (f2 0, .inl (g 1, 32, .inr (.inl (fun _ => 0)))), (f2 1, .inl (g 1, 32, .inr (.inl (fun _ => 0)))), (q4, .inl (g 1, 32, .inr (.inl (fun _ => 0))))] := hD
  refine lv_aload_n hx hb dX0_init_23 rfl (lv_at hl 0 rfl) ?_
  refine lv_bipush (v := (32)) hx hb dX0_init_24 (by decide +kernel) ?_
  refine lv_bipush (v := (14)) hx hb dX0_init_26 (by decide +kernel) ?_
  refine n_mna hx hb (ty := .long) hown hts q279 hE.2.2.1.1 (hts _ q278) hK hP hD hS hA 5 rfl (hK.2 1 _ rfl).2 (N' := 32) (K' := 14) (z := (14, .inr (.inl (fun _ => 0)))) (by decide +kernel) (by decide +kernel) (by decide +kernel) (by decide +kernel) (Nat.le_of_ble_eq_true rfl) (Nat.le_of_ble_eq_true rfl) (Nat.le_of_ble_eq_true rfl) rfl rfl (Nat.le_of_ble_eq_true rfl) (Nat.le_of_ble_eq_true rfl) (fun c9 => n_inner c9 14 _) dX0_init_28 (fun q5 r6 H hP hD hS => ?_)
  have hP : va_P (dC, dI) CL [(a0, .inr (2, [.ref q1, .ref q4, .null, .null, .null, .null, .int (0), .null, .null, .null, .null, .null, .null, .null, .int (0), .int (0)])), (q1, .inr (9, [.int (0), .ref (f2 0), .ref (f2 1)])), (f2 0, .inl (g 1, 32, .inr (.inl (fun _ => 0)))), (f2 1, .inl (g 1, 32, .inr (.inl (fun _ => 0)))), (q4, .inl (g 1, 32, .inr (.inl (fun _ => 0))))] _ := hP.sub [0, 1, 2, 3, 4] rfl
  have hD : va_D A [(a0, .inr (2, [.ref q1, .ref q4, .null, .null, .null, .null, .int (0), .null, .null, .null, .null, .null, .null, .null, .int (0), .int (0)])), (q1, .inr (9, [.int (0), .ref (f2 0), .ref (f2 1)])), (f2 0, .inl (g 1, 32, .inr (.inl (fun _ => 0)))), (f2 1, .inl (g 1, 32, .inr (.inl (fun _ => 0)))), (q4, .inl (g 1, 32, .inr (.inl (fun _ => 0))))] := hD.sub [0, 1, 2, 3, 4] (by decide +kernel) rfl
  refine W.widen (k := 37) (n := 579) (Nat.le_of_ble_eq_true rfl) (Nat.le_of_ble_eq_true rfl) ?_
  refine va_putF (D := (dC, dI)) (ci := 2) (v := .ref q5) (ty := (.array (.array .long))) (C := "Minestrata$Air") (T := TX0) (N := 16) hx hb hts inX0 tyX0 tyX0_ok nmX0 hown hK hP hD hS 0 rfl rfl 2 (by decide) (hts _ q355) (fun _ h9 => h9) rfl hin rfl (by decide +kernel) rfl rfl (Nat.le_of_ble_eq_true rfl) dX0_init_32 (fun H locs hP hD hS => ?_)
  have hP : va_P (dC, dI) CL [(a0, .inr (2, [.ref q1, .ref q4, .ref q5, .null, .null, .null, .int (0), .null, .null, .null, .null, .null, .null, .null, .int (0), .int (0)])), (q1, .inr (9, [.int (0), .ref (f2 0), .ref (f2 1)])), (f2 0, .inl (g 1, 32, .inr (.inl (fun _ => 0)))), (f2 1, .inl (g 1, 32, .inr (.inl (fun _ => 0)))), (q4, .inl (g 1, 32, .inr (.inl (fun _ => 0))))] _ := hP
  have hD : va_D A [(a0, .inr (2, [.ref q1, .ref q4, .ref q5, .null, .null, .null, .int (0), .null, .null, .null, .null, .null, .null, .null, .int (0), .int (0)])), (q1, .inr (9, [.int (0), .ref (f2 0), .ref (f2 1)])), (f2 0, .inl (g 1, 32, .inr (.inl (fun _ => 0)))), (f2 1, .inl (g 1, 32, .inr (.inl (fun _ => 0)))), (q4, .inl (g 1, 32, .inr (.inl (fun _ => 0))))] := hD
  refine lv_aload_n hx hb dX0_init_35 rfl (lv_at hl 0 rfl) ?_
  refine lv_bipush (v := (14)) hx hb dX0_init_36 (by decide +kernel) ?_
  refine n_newa hx hb (atype := .int) (ty := .int) q201 hts rfl hK hP hD hS hA 0 rfl (fun _ _ => rfl) (N' := 14) (a0 := (14, .inl (fun _ => 0))) (fun _ => rfl) (by decide +kernel) (by decide +kernel) (Nat.le_of_ble_eq_true rfl) (Nat.le_of_ble_eq_true rfl) (Nat.le_of_ble_eq_true rfl) dX0_init_38 (fun q7 H hP hD hS => ?_)
  have hP : va_P (dC, dI) CL [(a0, .inr (2, [.ref q1, .ref q4, .ref q5, .null, .null, .null, .int (0), .null, .null, .null, .null, .null, .null, .null, .int (0), .int (0)])), (q1, .inr (9, [.int (0), .ref (f2 0), .ref (f2 1)])), (f2 0, .inl (g 1, 32, .inr (.inl (fun _ => 0)))), (f2 1, .inl (g 1, 32, .inr (.inl (fun _ => 0)))), (q4, .inl (g 1, 32, .inr (.inl (fun _ => 0))))] _ := hP.sub [0, 1, 2, 3, 4] rfl
  have hD : va_D A [(a0, .inr (2, [.ref q1, .ref q4, .ref q5, .null, .null, .null, .int (0), .null, .null, .null, .null, .null, .null, .null, .int (0), .int (0)])), (q1, .inr (9, [.int (0), .ref (f2 0), .ref (f2 1)])), (f2 0, .inl (g 1, 32, .inr (.inl (fun _ => 0)))), (f2 1, .inl (g 1, 32, .inr (.inl (fun _ => 0)))), (q4, .inl (g 1, 32, .inr (.inl (fun _ => 0))))] := hD.sub [0, 1, 2, 3, 4] (by decide +kernel) rfl
  refine W.widen (k := 38) (n := 593) (Nat.le_of_ble_eq_true rfl) (Nat.le_of_ble_eq_true rfl) ?_
  refine va_putF (D := (dC, dI)) (ci := 2) (v := .ref q7) (ty := (.array .int)) (C := "Minestrata$Air") (T := TX0) (N := 16) hx hb hts inX0 tyX0 tyX0_ok nmX0 hown hK hP hD hS 0 rfl rfl 3 (by decide) (hts _ q357) (fun _ h9 => h9) rfl hin rfl (by decide +kernel) rfl rfl (Nat.le_of_ble_eq_true rfl) dX0_init_40 (fun H locs hP hD hS => ?_)
  have hP : va_P (dC, dI) CL [(a0, .inr (2, [.ref q1, .ref q4, .ref q5, .ref q7, .null, .null, .int (0), .null, .null, .null, .null, .null, .null, .null, .int (0), .int (0)])), (q1, .inr (9, [.int (0), .ref (f2 0), .ref (f2 1)])), (f2 0, .inl (g 1, 32, .inr (.inl (fun _ => 0)))), (f2 1, .inl (g 1, 32, .inr (.inl (fun _ => 0)))), (q4, .inl (g 1, 32, .inr (.inl (fun _ => 0))))] _ := hP
  have hD : va_D A [(a0, .inr (2, [.ref q1, .ref q4, .ref q5, .ref q7, .null, .null, .int (0), .null, .null, .null, .null, .null, .null, .null, .int (0), .int (0)])), (q1, .inr (9, [.int (0), .ref (f2 0), .ref (f2 1)])), (f2 0, .inl (g 1, 32, .inr (.inl (fun _ => 0)))), (f2 1, .inl (g 1, 32, .inr (.inl (fun _ => 0)))), (q4, .inl (g 1, 32, .inr (.inl (fun _ => 0))))] := hD
  refine lv_aload_n hx hb dX0_init_43 rfl (lv_at hl 0 rfl) ?_
  refine lv_bipush (v := (14)) hx hb dX0_init_44 (by decide +kernel) ?_
  refine n_newa hx hb (atype := .int) (ty := .int) q201 hts rfl hK hP hD hS hA 0 rfl (fun _ _ => rfl) (N' := 14) (a0 := (14, .inl (fun _ => 0))) (fun _ => rfl) (by decide +kernel) (by decide +kernel) (Nat.le_of_ble_eq_true rfl) (Nat.le_of_ble_eq_true rfl) (Nat.le_of_ble_eq_true rfl) dX0_init_46 (fun q8 H hP hD hS => ?_)
  have hP : va_P (dC, dI) CL [(a0, .inr (2, [.ref q1, .ref q4, .ref q5, .ref q7, .null, .null, .int (0), .null, .null, .null, .null, .null, .null, .null, .int (0), .int (0)])), (q1, .inr (9, [.int (0), .ref (f2 0), .ref (f2 1)])), (f2 0, .inl (g 1, 32, .inr (.inl (fun _ => 0)))), (f2 1, .inl (g 1, 32, .inr (.inl (fun _ => 0)))), (q4, .inl (g 1, 32, .inr (.inl (fun _ => 0))))] _ := hP.sub [0, 1, 2, 3, 4] rfl
  have hD : va_D A [(a0, .inr (2, [.ref q1, .ref q4, .ref q5, .ref q7, .null, .null, .int (0), .null, .null, .null, .null, .null, .null, .null, .int (0), .int (0)])), (q1, .inr (9, [.int (0), .ref (f2 0), .ref (f2 1)])), (f2 0, .inl (g 1, 32, .inr (.inl (fun _ => 0)))), (f2 1, .inl (g 1, 32, .inr (.inl (fun _ => 0)))), (q4, .inl (g 1, 32, .inr (.inl (fun _ => 0))))] := hD.sub [0, 1, 2, 3, 4] (by decide +kernel) rfl
  refine W.widen (k := 39) (n := 607) (Nat.le_of_ble_eq_true rfl) (Nat.le_of_ble_eq_true rfl) ?_
  refine va_putF (D := (dC, dI)) (ci := 2) (v := .ref q8) (ty := (.array .int)) (C := "Minestrata$Air") (T := TX0) (N := 16) hx hb hts inX0 tyX0 tyX0_ok nmX0 hown hK hP hD hS 0 rfl rfl 4 (by decide) (hts _ q360) (fun _ h9 => h9) rfl hin rfl (by decide +kernel) rfl rfl (Nat.le_of_ble_eq_true rfl) dX0_init_48 (fun H locs hP hD hS => ?_)
  have hP : va_P (dC, dI) CL [(a0, .inr (2, [.ref q1, .ref q4, .ref q5, .ref q7, .ref q8, .null, .int (0), .null, .null, .null, .null, .null, .null, .null, .int (0), .int (0)])), (q1, .inr (9, [.int (0), .ref (f2 0), .ref (f2 1)])), (f2 0, .inl (g 1, 32, .inr (.inl (fun _ => 0)))), (f2 1, .inl (g 1, 32, .inr (.inl (fun _ => 0)))), (q4, .inl (g 1, 32, .inr (.inl (fun _ => 0))))] _ := hP
  have hD : va_D A [(a0, .inr (2, [.ref q1, .ref q4, .ref q5, .ref q7, .ref q8, .null, .int (0), .null, .null, .null, .null, .null, .null, .null, .int (0), .int (0)])), (q1, .inr (9, [.int (0), .ref (f2 0), .ref (f2 1)])), (f2 0, .inl (g 1, 32, .inr (.inl (fun _ => 0)))), (f2 1, .inl (g 1, 32, .inr (.inl (fun _ => 0)))), (q4, .inl (g 1, 32, .inr (.inl (fun _ => 0))))] := hD
  refine lv_aload_n hx hb dX0_init_51 rfl (lv_at hl 0 rfl) ?_
  refine lv_bipush (v := (9)) hx hb dX0_init_52 (by decide +kernel) ?_
  refine n_newa hx hb (atype := .int) (ty := .int) q201 hts rfl hK hP hD hS hA 0 rfl (fun _ _ => rfl) (N' := 9) (a0 := (9, .inl (fun _ => 0))) (fun _ => rfl) (by decide +kernel) (by decide +kernel) (Nat.le_of_ble_eq_true rfl) (Nat.le_of_ble_eq_true rfl) (Nat.le_of_ble_eq_true rfl) dX0_init_54 (fun q9 H hP hD hS => ?_)
  have hP : va_P (dC, dI) CL [(a0, .inr (2, [.ref q1, .ref q4, .ref q5, .ref q7, .ref q8, .null, .int (0), .null, .null, .null, .null, .null, .null, .null, .int (0), .int (0)])), (q1, .inr (9, [.int (0), .ref (f2 0), .ref (f2 1)])), (f2 0, .inl (g 1, 32, .inr (.inl (fun _ => 0)))), (f2 1, .inl (g 1, 32, .inr (.inl (fun _ => 0)))), (q4, .inl (g 1, 32, .inr (.inl (fun _ => 0))))] _ := hP.sub [0, 1, 2, 3, 4] rfl
  have hD : va_D A [(a0, .inr (2, [.ref q1, .ref q4, .ref q5, .ref q7, .ref q8, .null, .int (0), .null, .null, .null, .null, .null, .null, .null, .int (0), .int (0)])), (q1, .inr (9, [.int (0), .ref (f2 0), .ref (f2 1)])), (f2 0, .inl (g 1, 32, .inr (.inl (fun _ => 0)))), (f2 1, .inl (g 1, 32, .inr (.inl (fun _ => 0)))), (q4, .inl (g 1, 32, .inr (.inl (fun _ => 0))))] := hD.sub [0, 1, 2, 3, 4] (by decide +kernel) rfl
  refine W.widen (k := 40) (n := 616) (Nat.le_of_ble_eq_true rfl) (Nat.le_of_ble_eq_true rfl) ?_
  refine va_putF (D := (dC, dI)) (ci := 2) (v := .ref q9) (ty := (.array .int)) (C := "Minestrata$Air") (T := TX0) (N := 16) hx hb hts inX0 tyX0 tyX0_ok nmX0 hown hK hP hD hS 0 rfl rfl 5 (by decide) (hts _ q362) (fun _ h9 => h9) rfl hin rfl (by decide +kernel) rfl rfl (Nat.le_of_ble_eq_true rfl) dX0_init_56 (fun H locs hP hD hS => ?_)
  have hP : va_P (dC, dI) CL [(a0, .inr (2, [.ref q1, .ref q4, .ref q5, .ref q7, .ref q8, .ref q9, .int (0), .null, .null, .null, .null, .null, .null, .null, .int (0), .int (0)])), (q1, .inr (9, [.int (0), .ref (f2 0), .ref (f2 1)])), (f2 0, .inl (g 1, 32, .inr (.inl (fun _ => 0)))), (f2 1, .inl (g 1, 32, .inr (.inl (fun _ => 0)))), (q4, .inl (g 1, 32, .inr (.inl (fun _ => 0))))] _ := hP
  have hD : va_D A [(a0, .inr (2, [.ref q1, .ref q4, .ref q5, .ref q7, .ref q8, .ref q9, .int (0), .null, .null, .null, .null, .null, .null, .null, .int (0), .int (0)])), (q1, .inr (9, [.int (0), .ref (f2 0), .ref (f2 1)])), (f2 0, .inl (g 1, 32, .inr (.inl (fun _ => 0)))), (f2 1, .inl (g 1, 32, .inr (.inl (fun _ => 0)))), (q4, .inl (g 1, 32, .inr (.inl (fun _ => 0))))] := hD
  refine lv_aload_n hx hb dX0_init_59 rfl (lv_at hl 0 rfl) ?_
  refine lv_bipush (v := (32)) hx hb dX0_init_60 (by decide +kernel) ?_
  refine lv_bipush (v := (9)) hx hb dX0_init_62 (by decide +kernel) ?_
  refine n_mna hx hb (ty := .long) hown hts q279 hE.2.2.1.1 (hts _ q278) hK hP hD hS hA 5 rfl (hK.2 1 _ rfl).2 (N' := 32) (K' := 9) (z := (9, .inr (.inl (fun _ => 0)))) (by decide +kernel) (by decide +kernel) (by decide +kernel) (by decide +kernel) (Nat.le_of_ble_eq_true rfl) (Nat.le_of_ble_eq_true rfl) (Nat.le_of_ble_eq_true rfl) rfl rfl (Nat.le_of_ble_eq_true rfl) (Nat.le_of_ble_eq_true rfl) (fun c9 => n_inner c9 9 _) dX0_init_64 (fun q10 r11 H hP hD hS => ?_)
  have hP : va_P (dC, dI) CL [(a0, .inr (2, [.ref q1, .ref q4, .ref q5, .ref q7, .ref q8, .ref q9, .int (0), .null, .null, .null, .null, .null, .null, .null, .int (0), .int (0)])), (q1, .inr (9, [.int (0), .ref (f2 0), .ref (f2 1)])), (f2 0, .inl (g 1, 32, .inr (.inl (fun _ => 0)))), (f2 1, .inl (g 1, 32, .inr (.inl (fun _ => 0)))), (q4, .inl (g 1, 32, .inr (.inl (fun _ => 0)))), (q10, .inl (g 5, 32, .inr (.inr (.inr (.inr (fun i => if i < 32 then some (r11 i) else none))))))] _ := hP
  have hD : va_D A [(a0, .inr (2, [.ref q1, .ref q4, .ref q5, .ref q7, .ref q8, .ref q9, .int (0), .null, .null, .null, .null, .null, .null, .null, .int (0), .int (0)])), (q1, .inr (9, [.int (0), .ref (f2 0), .ref (f2 1)])), (f2 0, .inl (g 1, 32, .inr (.inl (fun _ => 0)))), (f2 1, .inl (g 1, 32, .inr (.inl (fun _ => 0)))), (q4, .inl (g 1, 32, .inr (.inl (fun _ => 0)))), (q10, .inl (g 5, 32, .inr (.inr (.inr (.inr (fun i => if i < 32 then some (r11 i) else none))))))] := hD
  refine W.widen (k := 73) (n := 936) (Nat.le_of_ble_eq_true rfl) (Nat.le_of_ble_eq_true rfl) ?_
  refine va_putF (D := (dC, dI)) (ci := 2) (v := .ref q10) (ty := (.array (.array .long))) (C := "Minestrata$Air") (T := TX0) (N := 16) hx hb hts inX0 tyX0 tyX0_ok nmX0 hown hK hP hD hS 0 rfl rfl 7 (by decide) (hts _ q366) (fun _ h9 => h9) rfl hin rfl (by decide +kernel) rfl rfl (Nat.le_of_ble_eq_true rfl) dX0_init_68 (fun H locs hP hD hS => ?_)
  have hP : va_P (dC, dI) CL [(a0, .inr (2, [.ref q1, .ref q4, .ref q5, .ref q7, .ref q8, .ref q9, .int (0), .ref q10, .null, .null, .null, .null, .null, .null, .int (0), .int (0)])), (q1, .inr (9, [.int (0), .ref (f2 0), .ref (f2 1)])), (f2 0, .inl (g 1, 32, .inr (.inl (fun _ => 0)))), (f2 1, .inl (g 1, 32, .inr (.inl (fun _ => 0)))), (q4, .inl (g 1, 32, .inr (.inl (fun _ => 0)))), (q10, .inl (g 5, 32, .inr (.inr (.inr (.inr (fun i => if i < 32 then some (r11 i) else none))))))] _ := hP
  have hD : va_D A [(a0, .inr (2, [.ref q1, .ref q4, .ref q5, .ref q7, .ref q8, .ref q9, .int (0), .ref q10, .null, .null, .null, .null, .null, .null, .int (0), .int (0)])), (q1, .inr (9, [.int (0), .ref (f2 0), .ref (f2 1)])), (f2 0, .inl (g 1, 32, .inr (.inl (fun _ => 0)))), (f2 1, .inl (g 1, 32, .inr (.inl (fun _ => 0)))), (q4, .inl (g 1, 32, .inr (.inl (fun _ => 0)))), (q10, .inl (g 5, 32, .inr (.inr (.inr (.inr (fun i => if i < 32 then some (r11 i) else none))))))] := hD
  refine lv_aload_n hx hb dX0_init_71 rfl (lv_at hl 0 rfl) ?_
  refine va_new (ci := 7) (fs := [.null, .null, .null]) (C := "Minestrata$Groups") (T := TX6) (N := 3) hx hb hts inX6 tyX6 tyX6_ok hown (hts _ q281) (hts _ q282) (hts _ q76) hK hP hD hS hA rfl dfX6 (Nat.le_of_ble_eq_true rfl) (Nat.le_of_ble_eq_true rfl) dX0_init_72 (fun q12 H hP hD hS => ?_)
  have hP : va_P (dC, dI) CL [(a0, .inr (2, [.ref q1, .ref q4, .ref q5, .ref q7, .ref q8, .ref q9, .int (0), .ref q10, .null, .null, .null, .null, .null, .null, .int (0), .int (0)])), (q1, .inr (9, [.int (0), .ref (f2 0), .ref (f2 1)])), (f2 0, .inl (g 1, 32, .inr (.inl (fun _ => 0)))), (f2 1, .inl (g 1, 32, .inr (.inl (fun _ => 0)))), (q4, .inl (g 1, 32, .inr (.inl (fun _ => 0)))), (q10, .inl (g 5, 32, .inr (.inr (.inr (.inr (fun i => if i < 32 then some (r11 i) else none)))))), (q12, .inr (7, [.null, .null, .null]))] _ := hP
  have hD : va_D A [(a0, .inr (2, [.ref q1, .ref q4, .ref q5, .ref q7, .ref q8, .ref q9, .int (0), .ref q10, .null, .null, .null, .null, .null, .null, .int (0), .int (0)])), (q1, .inr (9, [.int (0), .ref (f2 0), .ref (f2 1)])), (f2 0, .inl (g 1, 32, .inr (.inl (fun _ => 0)))), (f2 1, .inl (g 1, 32, .inr (.inl (fun _ => 0)))), (q4, .inl (g 1, 32, .inr (.inl (fun _ => 0)))), (q10, .inl (g 5, 32, .inr (.inr (.inr (.inr (fun i => if i < 32 then some (r11 i) else none)))))), (q12, .inr (7, [.null, .null, .null]))] := hD
  refine W.widen (k := 74) (n := 939) (Nat.le_of_ble_eq_true rfl) (Nat.le_of_ble_eq_true rfl) ?_
  refine lv_dup hx hb dX0_init_75 rfl ?_
  have hX : nCx p s m _ c prog_2_method_1_code 1 "Minestrata$Air" dC dI g A [(a0, .inr (2, [.ref q1, .ref q4, .ref q5, .ref q7, .ref q8, .ref q9, .int (0), .ref q10, .null, .null, .null, .null, .null, .null, .int (0), .int (0)])), (q1, .inr (9, [.int (0), .ref (f2 0), .ref (f2 1)])), (f2 0, .inl (g 1, 32, .inr (.inl (fun _ => 0)))), (f2 1, .inl (g 1, 32, .inr (.inl (fun _ => 0)))), (q4, .inl (g 1, 32, .inr (.inl (fun _ => 0)))), (q10, .inl (g 5, 32, .inr (.inr (.inr (.inr (fun i => if i < 32 then some (r11 i) else none)))))), (q12, .inr (7, [.null, .null, .null]))] _ _ := ⟨⟨hx, hb, hml, hown, hts⟩, hE, hS, hA, hP, hD⟩
  refine n_call (wr := [(a0, .inr (2, [.ref q1, .ref q4, .ref q5, .ref q7, .ref q8, .ref q9, .int (0), .ref q10, .null, .null, .null, .null, .null, .null, .int (0), .int (0)])), (q1, .inr (9, [.int (0), .ref (f2 0), .ref (f2 1)])), (f2 0, .inl (g 1, 32, .inr (.inl (fun _ => 0)))), (f2 1, .inl (g 1, 32, .inr (.inl (fun _ => 0)))), (q4, .inl (g 1, 32, .inr (.inl (fun _ => 0)))), (q10, .inl (g 5, 32, .inr (.inr (.inr (.inr (fun i => if i < 32 then some (r11 i) else none))))))]) hX (n_runIN (n := 0) (wc := [(q12, .inr (7, [.null, .null, .null]))]) (As := []) (rest := [.ref q12, .ref a0]) hX (m5 l hst dC dI g q12 _) [6] rfl (by decide +kernel) u283 q284 q76 q285 rfl (by decide +kernel) ⟨(Nat.le_of_ble_eq_true rfl), (Nat.le_of_ble_eq_true rfl)⟩ ⟨(Nat.le_of_ble_eq_true rfl), (Nat.le_of_ble_eq_true rfl)⟩ hl.1 rfl rfl (Nat.le_of_ble_eq_true rfl) dX0_init_76) [6] [0, 1, 2, 3, 4, 5] rfl rfl (by decide +kernel) (by decide +kernel) (fun f13 r14 H locs hP hD hS => ?_)
  have hP : va_P (dC, dI) CL [(a0, .inr (2, [.ref q1, .ref q4, .ref q5, .ref q7, .ref q8, .ref q9, .int (0), .ref q10, .null, .null, .null, .null, .null, .null, .int (0), .int (0)])), (q1, .inr (9, [.int (0), .ref (f2 0), .ref (f2 1)])), (f2 0, .inl (g 1, 32, .inr (.inl (fun _ => 0)))), (f2 1, .inl (g 1, 32, .inr (.inl (fun _ => 0)))), (q4, .inl (g 1, 32, .inr (.inl (fun _ => 0)))), (q10, .inl (g 5, 32, .inr (.inr (.inr (.inr (fun i => if i < 32 then some (r11 i) else none)))))), (q12, .inr (7, [.ref (f13 0), .ref (f13 1), .ref (f13 2)]))] _ := hP
  have hD : va_D A [(a0, .inr (2, [.ref q1, .ref q4, .ref q5, .ref q7, .ref q8, .ref q9, .int (0), .ref q10, .null, .null, .null, .null, .null, .null, .int (0), .int (0)])), (q1, .inr (9, [.int (0), .ref (f2 0), .ref (f2 1)])), (f2 0, .inl (g 1, 32, .inr (.inl (fun _ => 0)))), (f2 1, .inl (g 1, 32, .inr (.inl (fun _ => 0)))), (q4, .inl (g 1, 32, .inr (.inl (fun _ => 0)))), (q10, .inl (g 5, 32, .inr (.inr (.inr (.inr (fun i => if i < 32 then some (r11 i) else none)))))), (q12, .inr (7, [.ref (f13 0), .ref (f13 1), .ref (f13 2)]))] := hD
  refine W.widen (k := 77) (n := 971) (Nat.le_of_ble_eq_true rfl) (Nat.le_of_ble_eq_true rfl) ?_
  refine W.eq (g2 := F0 m 79 ls [.ref q12, .ref a0]) rfl ?_
  refine va_putF (D := (dC, dI)) (ci := 2) (v := .ref q12) (ty := (.object "Minestrata$Groups")) (C := "Minestrata$Air") (T := TX0) (N := 16) hx hb hts inX0 tyX0 tyX0_ok nmX0 hown hK hP hD hS 0 rfl rfl 8 (by decide) (hts _ q367) (fun _ h9 => h9) rfl hin rfl (by decide +kernel) rfl rfl (Nat.le_of_ble_eq_true rfl) dX0_init_79 (fun H locs hP hD hS => ?_)
  have hP : va_P (dC, dI) CL [(a0, .inr (2, [.ref q1, .ref q4, .ref q5, .ref q7, .ref q8, .ref q9, .int (0), .ref q10, .ref q12, .null, .null, .null, .null, .null, .int (0), .int (0)])), (q1, .inr (9, [.int (0), .ref (f2 0), .ref (f2 1)])), (f2 0, .inl (g 1, 32, .inr (.inl (fun _ => 0)))), (f2 1, .inl (g 1, 32, .inr (.inl (fun _ => 0)))), (q4, .inl (g 1, 32, .inr (.inl (fun _ => 0)))), (q10, .inl (g 5, 32, .inr (.inr (.inr (.inr (fun i => if i < 32 then some (r11 i) else none)))))), (q12, .inr (7, [.ref (f13 0), .ref (f13 1), .ref (f13 2)]))] _ := hP
  have hD : va_D A [(a0, .inr (2, [.ref q1, .ref q4, .ref q5, .ref q7, .ref q8, .ref q9, .int (0), .ref q10, .ref q12, .null, .null, .null, .null, .null, .int (0), .int (0)])), (q1, .inr (9, [.int (0), .ref (f2 0), .ref (f2 1)])), (f2 0, .inl (g 1, 32, .inr (.inl (fun _ => 0)))), (f2 1, .inl (g 1, 32, .inr (.inl (fun _ => 0)))), (q4, .inl (g 1, 32, .inr (.inl (fun _ => 0)))), (q10, .inl (g 5, 32, .inr (.inr (.inr (.inr (fun i => if i < 32 then some (r11 i) else none)))))), (q12, .inr (7, [.ref (f13 0), .ref (f13 1), .ref (f13 2)]))] := hD
  refine lv_aload_n hx hb dX0_init_82 rfl (lv_at hl 0 rfl) ?_
  refine va_new (ci := 3) (fs := [.null, .long (0)]) (C := "Minestrata$Equations") (T := TX2) (N := 2) hx hb hts inX2 tyX2 tyX2_ok hown (hts _ q302) (hts _ q303) (hts _ q77) hK hP hD hS hA rfl dfX2 (Nat.le_of_ble_eq_true rfl) (Nat.le_of_ble_eq_true rfl) dX0_init_83 (fun q15 H hP hD hS => ?_)
  have hP : va_P (dC, dI) CL [(a0, .inr (2, [.ref q1, .ref q4, .ref q5, .ref q7, .ref q8, .ref q9, .int (0), .ref q10, .ref q12, .null, .null, .null, .null, .null, .int (0), .int (0)])), (q1, .inr (9, [.int (0), .ref (f2 0), .ref (f2 1)])), (f2 0, .inl (g 1, 32, .inr (.inl (fun _ => 0)))), (f2 1, .inl (g 1, 32, .inr (.inl (fun _ => 0)))), (q4, .inl (g 1, 32, .inr (.inl (fun _ => 0)))), (q10, .inl (g 5, 32, .inr (.inr (.inr (.inr (fun i => if i < 32 then some (r11 i) else none)))))), (q12, .inr (7, [.ref (f13 0), .ref (f13 1), .ref (f13 2)])), (q15, .inr (3, [.null, .long (0)]))] _ := hP
  have hD : va_D A [(a0, .inr (2, [.ref q1, .ref q4, .ref q5, .ref q7, .ref q8, .ref q9, .int (0), .ref q10, .ref q12, .null, .null, .null, .null, .null, .int (0), .int (0)])), (q1, .inr (9, [.int (0), .ref (f2 0), .ref (f2 1)])), (f2 0, .inl (g 1, 32, .inr (.inl (fun _ => 0)))), (f2 1, .inl (g 1, 32, .inr (.inl (fun _ => 0)))), (q4, .inl (g 1, 32, .inr (.inl (fun _ => 0)))), (q10, .inl (g 5, 32, .inr (.inr (.inr (.inr (fun i => if i < 32 then some (r11 i) else none)))))), (q12, .inr (7, [.ref (f13 0), .ref (f13 1), .ref (f13 2)])), (q15, .inr (3, [.null, .long (0)]))] := hD
  refine W.widen (k := 78) (n := 973) (Nat.le_of_ble_eq_true rfl) (Nat.le_of_ble_eq_true rfl) ?_
  refine lv_dup hx hb dX0_init_86 rfl ?_
  have hX : nCx p s m _ c prog_2_method_1_code 1 "Minestrata$Air" dC dI g A [(a0, .inr (2, [.ref q1, .ref q4, .ref q5, .ref q7, .ref q8, .ref q9, .int (0), .ref q10, .ref q12, .null, .null, .null, .null, .null, .int (0), .int (0)])), (q1, .inr (9, [.int (0), .ref (f2 0), .ref (f2 1)])), (f2 0, .inl (g 1, 32, .inr (.inl (fun _ => 0)))), (f2 1, .inl (g 1, 32, .inr (.inl (fun _ => 0)))), (q4, .inl (g 1, 32, .inr (.inl (fun _ => 0)))), (q10, .inl (g 5, 32, .inr (.inr (.inr (.inr (fun i => if i < 32 then some (r11 i) else none)))))), (q12, .inr (7, [.ref (f13 0), .ref (f13 1), .ref (f13 2)])), (q15, .inr (3, [.null, .long (0)]))] _ _ := ⟨⟨hx, hb, hml, hown, hts⟩, hE, hS, hA, hP, hD⟩
  refine n_call (wr := [(a0, .inr (2, [.ref q1, .ref q4, .ref q5, .ref q7, .ref q8, .ref q9, .int (0), .ref q10, .ref q12, .null, .null, .null, .null, .null, .int (0), .int (0)])), (q1, .inr (9, [.int (0), .ref (f2 0), .ref (f2 1)])), (f2 0, .inl (g 1, 32, .inr (.inl (fun _ => 0)))), (f2 1, .inl (g 1, 32, .inr (.inl (fun _ => 0)))), (q4, .inl (g 1, 32, .inr (.inl (fun _ => 0)))), (q10, .inl (g 5, 32, .inr (.inr (.inr (.inr (fun i => if i < 32 then some (r11 i) else none)))))), (q12, .inr (7, [.ref (f13 0), .ref (f13 1), .ref (f13 2)]))]) hX (n_runIN (n := 0) (wc := [(q15, .inr (3, [.null, .long (0)]))]) (As := []) (rest := [.ref q15, .ref a0]) hX (m6 l hst dC dI g q15 _) [7] rfl (by decide +kernel) u304 q305 q77 q306 rfl (by decide +kernel) ⟨(Nat.le_of_ble_eq_true rfl), (Nat.le_of_ble_eq_true rfl)⟩ ⟨(Nat.le_of_ble_eq_true rfl), (Nat.le_of_ble_eq_true rfl)⟩ hl.1 rfl rfl (Nat.le_of_ble_eq_true rfl) dX0_init_87) [7] [0, 1, 2, 3, 4, 5, 6] rfl rfl (by decide +kernel) (by decide +kernel) (fun f16 r17 H locs hP hD hS => ?_)
  have hP : va_P (dC, dI) CL [(a0, .inr (2, [.ref q1, .ref q4, .ref q5, .ref q7, .ref q8, .ref q9, .int (0), .ref q10, .ref q12, .null, .null, .null, .null, .null, .int (0), .int (0)])), (q1, .inr (9, [.int (0), .ref (f2 0), .ref (f2 1)])), (f2 0, .inl (g 1, 32, .inr (.inl (fun _ => 0)))), (f2 1, .inl (g 1, 32, .inr (.inl (fun _ => 0)))), (q4, .inl (g 1, 32, .inr (.inl (fun _ => 0)))), (q10, .inl (g 5, 32, .inr (.inr (.inr (.inr (fun i => if i < 32 then some (r11 i) else none)))))), (q12, .inr (7, [.ref (f13 0), .ref (f13 1), .ref (f13 2)])), (q15, .inr (3, [.ref (f16 0), .long (2)]))] _ := hP
  have hD : va_D A [(a0, .inr (2, [.ref q1, .ref q4, .ref q5, .ref q7, .ref q8, .ref q9, .int (0), .ref q10, .ref q12, .null, .null, .null, .null, .null, .int (0), .int (0)])), (q1, .inr (9, [.int (0), .ref (f2 0), .ref (f2 1)])), (f2 0, .inl (g 1, 32, .inr (.inl (fun _ => 0)))), (f2 1, .inl (g 1, 32, .inr (.inl (fun _ => 0)))), (q4, .inl (g 1, 32, .inr (.inl (fun _ => 0)))), (q10, .inl (g 5, 32, .inr (.inr (.inr (.inr (fun i => if i < 32 then some (r11 i) else none)))))), (q12, .inr (7, [.ref (f13 0), .ref (f13 1), .ref (f13 2)])), (q15, .inr (3, [.ref (f16 0), .long (2)]))] := hD
  refine W.widen (k := 88) (n := 1072) (Nat.le_of_ble_eq_true rfl) (Nat.le_of_ble_eq_true rfl) ?_
  refine W.eq (g2 := F0 m 90 ls [.ref q15, .ref a0]) rfl ?_
  refine va_putF (D := (dC, dI)) (ci := 2) (v := .ref q15) (ty := (.object "Minestrata$Equations")) (C := "Minestrata$Air") (T := TX0) (N := 16) hx hb hts inX0 tyX0 tyX0_ok nmX0 hown hK hP hD hS 0 rfl rfl 9 (by decide) (hts _ q368) (fun _ h9 => h9) rfl hin rfl (by decide +kernel) rfl rfl (Nat.le_of_ble_eq_true rfl) dX0_init_90 (fun H locs hP hD hS => ?_)
  have hP : va_P (dC, dI) CL [(a0, .inr (2, [.ref q1, .ref q4, .ref q5, .ref q7, .ref q8, .ref q9, .int (0), .ref q10, .ref q12, .ref q15, .null, .null, .null, .null, .int (0), .int (0)])), (q1, .inr (9, [.int (0), .ref (f2 0), .ref (f2 1)])), (f2 0, .inl (g 1, 32, .inr (.inl (fun _ => 0)))), (f2 1, .inl (g 1, 32, .inr (.inl (fun _ => 0)))), (q4, .inl (g 1, 32, .inr (.inl (fun _ => 0)))), (q10, .inl (g 5, 32, .inr (.inr (.inr (.inr (fun i => if i < 32 then some (r11 i) else none)))))), (q12, .inr (7, [.ref (f13 0), .ref (f13 1), .ref (f13 2)])), (q15, .inr (3, [.ref (f16 0), .long (2)]))] _ := hP
  have hD : va_D A [(a0, .inr (2, [.ref q1, .ref q4, .ref q5, .ref q7, .ref q8, .ref q9, .int (0), .ref q10, .ref q12, .ref q15, .null, .null, .null, .null, .int (0), .int (0)])), (q1, .inr (9, [.int (0), .ref (f2 0), .ref (f2 1)])), (f2 0, .inl (g 1, 32, .inr (.inl (fun _ => 0)))), (f2 1, .inl (g 1, 32, .inr (.inl (fun _ => 0)))), (q4, .inl (g 1, 32, .inr (.inl (fun _ => 0)))), (q10, .inl (g 5, 32, .inr (.inr (.inr (.inr (fun i => if i < 32 then some (r11 i) else none)))))), (q12, .inr (7, [.ref (f13 0), .ref (f13 1), .ref (f13 2)])), (q15, .inr (3, [.ref (f16 0), .long (2)]))] := hD
  refine lv_aload_n hx hb dX0_init_93 rfl (lv_at hl 0 rfl) ?_
  refine va_new (ci := 5) (fs := [.null, .null, .int (0), .int (0), .null, .null]) (C := "Minestrata$Fraction") (T := TX4) (N := 6) hx hb hts inX4 tyX4 tyX4_ok hown (hts _ q319) (hts _ q320) (hts _ q78) hK hP hD hS hA rfl dfX4 (Nat.le_of_ble_eq_true rfl) (Nat.le_of_ble_eq_true rfl) dX0_init_94 (fun q18 H hP hD hS => ?_)
  have hP : va_P (dC, dI) CL [(a0, .inr (2, [.ref q1, .ref q4, .ref q5, .ref q7, .ref q8, .ref q9, .int (0), .ref q10, .ref q12, .ref q15, .null, .null, .null, .null, .int (0), .int (0)])), (q1, .inr (9, [.int (0), .ref (f2 0), .ref (f2 1)])), (f2 0, .inl (g 1, 32, .inr (.inl (fun _ => 0)))), (f2 1, .inl (g 1, 32, .inr (.inl (fun _ => 0)))), (q4, .inl (g 1, 32, .inr (.inl (fun _ => 0)))), (q10, .inl (g 5, 32, .inr (.inr (.inr (.inr (fun i => if i < 32 then some (r11 i) else none)))))), (q12, .inr (7, [.ref (f13 0), .ref (f13 1), .ref (f13 2)])), (q15, .inr (3, [.ref (f16 0), .long (2)])), (q18, .inr (5, [.null, .null, .int (0), .int (0), .null, .null]))] _ := hP
  have hD : va_D A [(a0, .inr (2, [.ref q1, .ref q4, .ref q5, .ref q7, .ref q8, .ref q9, .int (0), .ref q10, .ref q12, .ref q15, .null, .null, .null, .null, .int (0), .int (0)])), (q1, .inr (9, [.int (0), .ref (f2 0), .ref (f2 1)])), (f2 0, .inl (g 1, 32, .inr (.inl (fun _ => 0)))), (f2 1, .inl (g 1, 32, .inr (.inl (fun _ => 0)))), (q4, .inl (g 1, 32, .inr (.inl (fun _ => 0)))), (q10, .inl (g 5, 32, .inr (.inr (.inr (.inr (fun i => if i < 32 then some (r11 i) else none)))))), (q12, .inr (7, [.ref (f13 0), .ref (f13 1), .ref (f13 2)])), (q15, .inr (3, [.ref (f16 0), .long (2)])), (q18, .inr (5, [.null, .null, .int (0), .int (0), .null, .null]))] := hD
  refine W.widen (k := 89) (n := 1078) (Nat.le_of_ble_eq_true rfl) (Nat.le_of_ble_eq_true rfl) ?_
  refine lv_dup hx hb dX0_init_97 rfl ?_
  have hX : nCx p s m _ c prog_2_method_1_code 1 "Minestrata$Air" dC dI g A [(a0, .inr (2, [.ref q1, .ref q4, .ref q5, .ref q7, .ref q8, .ref q9, .int (0), .ref q10, .ref q12, .ref q15, .null, .null, .null, .null, .int (0), .int (0)])), (q1, .inr (9, [.int (0), .ref (f2 0), .ref (f2 1)])), (f2 0, .inl (g 1, 32, .inr (.inl (fun _ => 0)))), (f2 1, .inl (g 1, 32, .inr (.inl (fun _ => 0)))), (q4, .inl (g 1, 32, .inr (.inl (fun _ => 0)))), (q10, .inl (g 5, 32, .inr (.inr (.inr (.inr (fun i => if i < 32 then some (r11 i) else none)))))), (q12, .inr (7, [.ref (f13 0), .ref (f13 1), .ref (f13 2)])), (q15, .inr (3, [.ref (f16 0), .long (2)])), (q18, .inr (5, [.null, .null, .int (0), .int (0), .null, .null]))] _ _ := ⟨⟨hx, hb, hml, hown, hts⟩, hE, hS, hA, hP, hD⟩
  refine n_call (wr := [(a0, .inr (2, [.ref q1, .ref q4, .ref q5, .ref q7, .ref q8, .ref q9, .int (0), .ref q10, .ref q12, .ref q15, .null, .null, .null, .null, .int (0), .int (0)])), (q1, .inr (9, [.int (0), .ref (f2 0), .ref (f2 1)])), (f2 0, .inl (g 1, 32, .inr (.inl (fun _ => 0)))), (f2 1, .inl (g 1, 32, .inr (.inl (fun _ => 0)))), (q4, .inl (g 1, 32, .inr (.inl (fun _ => 0)))), (q10, .inl (g 5, 32, .inr (.inr (.inr (.inr (fun i => if i < 32 then some (r11 i) else none)))))), (q12, .inr (7, [.ref (f13 0), .ref (f13 1), .ref (f13 2)])), (q15, .inr (3, [.ref (f16 0), .long (2)]))]) hX (n_runIN (n := 0) (wc := [(q18, .inr (5, [.null, .null, .int (0), .int (0), .null, .null]))]) (As := []) (rest := [.ref q18, .ref a0]) hX (m7 l hst dC dI g q18 _) [8] rfl (by decide +kernel) u321 q322 q78 q323 rfl (by decide +kernel) ⟨(Nat.le_of_ble_eq_true rfl), (Nat.le_of_ble_eq_true rfl)⟩ ⟨(Nat.le_of_ble_eq_true rfl), (Nat.le_of_ble_eq_true rfl)⟩ hl.1 rfl rfl (Nat.le_of_ble_eq_true rfl) dX0_init_98) [8] [0, 1, 2, 3, 4, 5, 6, 7] rfl rfl (by decide +kernel) (by decide +kernel) (fun f19 r20 H locs hP hD hS => ?_)
  have hP : va_P (dC, dI) CL [(a0, .inr (2, [.ref q1, .ref q4, .ref q5, .ref q7, .ref q8, .ref q9, .int (0), .ref q10, .ref q12, .ref q15, .null, .null, .null, .null, .int (0), .int (0)])), (q1, .inr (9, [.int (0), .ref (f2 0), .ref (f2 1)])), (f2 0, .inl (g 1, 32, .inr (.inl (fun _ => 0)))), (f2 1, .inl (g 1, 32, .inr (.inl (fun _ => 0)))), (q4, .inl (g 1, 32, .inr (.inl (fun _ => 0)))), (q10, .inl (g 5, 32, .inr (.inr (.inr (.inr (fun i => if i < 32 then some (r11 i) else none)))))), (q12, .inr (7, [.ref (f13 0), .ref (f13 1), .ref (f13 2)])), (q15, .inr (3, [.ref (f16 0), .long (2)])), (q18, .inr (5, [.ref (f19 2), .ref (f19 0), .int (0), .int (0), .ref (f19 3), .ref (f19 1)])), (f19 0, .inl (g 1, 32, .inr (.inl (fun _ => 0)))), (f19 1, .inl (g 1, 32, .inr (.inl (fun _ => 0))))] _ := hP
  have hD : va_D A [(a0, .inr (2, [.ref q1, .ref q4, .ref q5, .ref q7, .ref q8, .ref q9, .int (0), .ref q10, .ref q12, .ref q15, .null, .null, .null, .null, .int (0), .int (0)])), (q1, .inr (9, [.int (0), .ref (f2 0), .ref (f2 1)])), (f2 0, .inl (g 1, 32, .inr (.inl (fun _ => 0)))), (f2 1, .inl (g 1, 32, .inr (.inl (fun _ => 0)))), (q4, .inl (g 1, 32, .inr (.inl (fun _ => 0)))), (q10, .inl (g 5, 32, .inr (.inr (.inr (.inr (fun i => if i < 32 then some (r11 i) else none)))))), (q12, .inr (7, [.ref (f13 0), .ref (f13 1), .ref (f13 2)])), (q15, .inr (3, [.ref (f16 0), .long (2)])), (q18, .inr (5, [.ref (f19 2), .ref (f19 0), .int (0), .int (0), .ref (f19 3), .ref (f19 1)])), (f19 0, .inl (g 1, 32, .inr (.inl (fun _ => 0)))), (f19 1, .inl (g 1, 32, .inr (.inl (fun _ => 0))))] := hD
  refine W.widen (k := 93) (n := 1207) (Nat.le_of_ble_eq_true rfl) (Nat.le_of_ble_eq_true rfl) ?_
  refine W.eq (g2 := F0 m 101 ls [.ref q18, .ref a0]) rfl ?_
  refine va_putF (D := (dC, dI)) (ci := 2) (v := .ref q18) (ty := (.object "Minestrata$Fraction")) (C := "Minestrata$Air") (T := TX0) (N := 16) hx hb hts inX0 tyX0 tyX0_ok nmX0 hown hK hP hD hS 0 rfl rfl 10 (by decide) (hts _ q369) (fun _ h9 => h9) rfl hin rfl (by decide +kernel) rfl rfl (Nat.le_of_ble_eq_true rfl) dX0_init_101 (fun H locs hP hD hS => ?_)
  have hP : va_P (dC, dI) CL [(a0, .inr (2, [.ref q1, .ref q4, .ref q5, .ref q7, .ref q8, .ref q9, .int (0), .ref q10, .ref q12, .ref q15, .ref q18, .null, .null, .null, .int (0), .int (0)])), (q1, .inr (9, [.int (0), .ref (f2 0), .ref (f2 1)])), (f2 0, .inl (g 1, 32, .inr (.inl (fun _ => 0)))), (f2 1, .inl (g 1, 32, .inr (.inl (fun _ => 0)))), (q4, .inl (g 1, 32, .inr (.inl (fun _ => 0)))), (q10, .inl (g 5, 32, .inr (.inr (.inr (.inr (fun i => if i < 32 then some (r11 i) else none)))))), (q12, .inr (7, [.ref (f13 0), .ref (f13 1), .ref (f13 2)])), (q15, .inr (3, [.ref (f16 0), .long (2)])), (q18, .inr (5, [.ref (f19 2), .ref (f19 0), .int (0), .int (0), .ref (f19 3), .ref (f19 1)])), (f19 0, .inl (g 1, 32, .inr (.inl (fun _ => 0)))), (f19 1, .inl (g 1, 32, .inr (.inl (fun _ => 0))))] _ := hP
  have hD : va_D A [(a0, .inr (2, [.ref q1, .ref q4, .ref q5, .ref q7, .ref q8, .ref q9, .int (0), .ref q10, .ref q12, .ref q15, .ref q18, .null, .null, .null, .int (0), .int (0)])), (q1, .inr (9, [.int (0), .ref (f2 0), .ref (f2 1)])), (f2 0, .inl (g 1, 32, .inr (.inl (fun _ => 0)))), (f2 1, .inl (g 1, 32, .inr (.inl (fun _ => 0)))), (q4, .inl (g 1, 32, .inr (.inl (fun _ => 0)))), (q10, .inl (g 5, 32, .inr (.inr (.inr (.inr (fun i => if i < 32 then some (r11 i) else none)))))), (q12, .inr (7, [.ref (f13 0), .ref (f13 1), .ref (f13 2)])), (q15, .inr (3, [.ref (f16 0), .long (2)])), (q18, .inr (5, [.ref (f19 2), .ref (f19 0), .int (0), .int (0), .ref (f19 3), .ref (f19 1)])), (f19 0, .inl (g 1, 32, .inr (.inl (fun _ => 0)))), (f19 1, .inl (g 1, 32, .inr (.inl (fun _ => 0))))] := hD
  refine lv_aload_n hx hb dX0_init_104 rfl (lv_at hl 0 rfl) ?_
  refine lv_bipush (v := (9)) hx hb dX0_init_105 (by decide +kernel) ?_
  refine n_newa hx hb (atype := .int) (ty := .int) q201 hts rfl hK hP hD hS hA 0 rfl (fun _ _ => rfl) (N' := 9) (a0 := (9, .inl (fun _ => 0))) (fun _ => rfl) (by decide +kernel) (by decide +kernel) (Nat.le_of_ble_eq_true rfl) (Nat.le_of_ble_eq_true rfl) (Nat.le_of_ble_eq_true rfl) dX0_init_107 (fun q21 H hP hD hS => ?_)
  have hP : va_P (dC, dI) CL [(a0, .inr (2, [.ref q1, .ref q4, .ref q5, .ref q7, .ref q8, .ref q9, .int (0), .ref q10, .ref q12, .ref q15, .ref q18, .null, .null, .null, .int (0), .int (0)])), (q1, .inr (9, [.int (0), .ref (f2 0), .ref (f2 1)])), (f2 0, .inl (g 1, 32, .inr (.inl (fun _ => 0)))), (f2 1, .inl (g 1, 32, .inr (.inl (fun _ => 0)))), (q4, .inl (g 1, 32, .inr (.inl (fun _ => 0)))), (q10, .inl (g 5, 32, .inr (.inr (.inr (.inr (fun i => if i < 32 then some (r11 i) else none)))))), (q12, .inr (7, [.ref (f13 0), .ref (f13 1), .ref (f13 2)])), (q15, .inr (3, [.ref (f16 0), .long (2)])), (q18, .inr (5, [.ref (f19 2), .ref (f19 0), .int (0), .int (0), .ref (f19 3), .ref (f19 1)])), (f19 0, .inl (g 1, 32, .inr (.inl (fun _ => 0)))), (f19 1, .inl (g 1, 32, .inr (.inl (fun _ => 0))))] _ := hP.sub [0, 1, 2, 3, 4, 5, 6, 7, 8, 9, 10] rfl
  have hD : va_D A [(a0, .inr (2, [.ref q1, .ref q4, .ref q5, .ref q7, .ref q8, .ref q9, .int (0), .ref q10, .ref q12, .ref q15, .ref q18, .null, .null, .null, .int (0), .int (0)])), (q1, .inr (9, [.int (0), .ref (f2 0), .ref (f2 1)])), (f2 0, .inl (g 1, 32, .inr (.inl (fun _ => 0)))), (f2 1, .inl (g 1, 32, .inr (.inl (fun _ => 0)))), (q4, .inl (g 1, 32, .inr (.inl (fun _ => 0)))), (q10, .inl (g 5, 32, .inr (.inr (.inr (.inr (fun i => if i < 32 then some (r11 i) else none)))))), (q12, .inr (7, [.ref (f13 0), .ref (f13 1), .ref (f13 2)])), (q15, .inr (3, [.ref (f16 0), .long (2)])), (q18, .inr (5, [.ref (f19 2), .ref (f19 0), .int (0), .int (0), .ref (f19 3), .ref (f19 1)])), (f19 0, .inl (g 1, 32, .inr (.inl (fun _ => 0)))), (f19 1, .inl (g 1, 32, .inr (.inl (fun _ => 0))))] := hD.sub [0, 1, 2, 3, 4, 5, 6, 7, 8, 9, 10] (by decide +kernel) rfl
  refine W.widen (k := 94) (n := 1216) (Nat.le_of_ble_eq_true rfl) (Nat.le_of_ble_eq_true rfl) ?_
  refine va_putF (D := (dC, dI)) (ci := 2) (v := .ref q21) (ty := (.array .int)) (C := "Minestrata$Air") (T := TX0) (N := 16) hx hb hts inX0 tyX0 tyX0_ok nmX0 hown hK hP hD hS 0 rfl rfl 11 (by decide) (hts _ q370) (fun _ h9 => h9) rfl hin rfl (by decide +kernel) rfl rfl (Nat.le_of_ble_eq_true rfl) dX0_init_109 (fun H locs hP hD hS => ?_)
  have hP : va_P (dC, dI) CL [(a0, .inr (2, [.ref q1, .ref q4, .ref q5, .ref q7, .ref q8, .ref q9, .int (0), .ref q10, .ref q12, .ref q15, .ref q18, .ref q21, .null, .null, .int (0), .int (0)])), (q1, .inr (9, [.int (0), .ref (f2 0), .ref (f2 1)])), (f2 0, .inl (g 1, 32, .inr (.inl (fun _ => 0)))), (f2 1, .inl (g 1, 32, .inr (.inl (fun _ => 0)))), (q4, .inl (g 1, 32, .inr (.inl (fun _ => 0)))), (q10, .inl (g 5, 32, .inr (.inr (.inr (.inr (fun i => if i < 32 then some (r11 i) else none)))))), (q12, .inr (7, [.ref (f13 0), .ref (f13 1), .ref (f13 2)])), (q15, .inr (3, [.ref (f16 0), .long (2)])), (q18, .inr (5, [.ref (f19 2), .ref (f19 0), .int (0), .int (0), .ref (f19 3), .ref (f19 1)])), (f19 0, .inl (g 1, 32, .inr (.inl (fun _ => 0)))), (f19 1, .inl (g 1, 32, .inr (.inl (fun _ => 0))))] _ := hP
  have hD : va_D A [(a0, .inr (2, [.ref q1, .ref q4, .ref q5, .ref q7, .ref q8, .ref q9, .int (0), .ref q10, .ref q12, .ref q15, .ref q18, .ref q21, .null, .null, .int (0), .int (0)])), (q1, .inr (9, [.int (0), .ref (f2 0), .ref (f2 1)])), (f2 0, .inl (g 1, 32, .inr (.inl (fun _ => 0)))), (f2 1, .inl (g 1, 32, .inr (.inl (fun _ => 0)))), (q4, .inl (g 1, 32, .inr (.inl (fun _ => 0)))), (q10, .inl (g 5, 32, .inr (.inr (.inr (.inr (fun i => if i < 32 then some (r11 i) else none)))))), (q12, .inr (7, [.ref (f13 0), .ref (f13 1), .ref (f13 2)])), (q15, .inr (3, [.ref (f16 0), .long (2)])), (q18, .inr (5, [.ref (f19 2), .ref (f19 0), .int (0), .int (0), .ref (f19 3), .ref (f19 1)])), (f19 0, .inl (g 1, 32, .inr (.inl (fun _ => 0)))), (f19 1, .inl (g 1, 32, .inr (.inl (fun _ => 0))))] := hD
  refine lv_aload_n hx hb dX0_init_112 rfl (lv_at hl 0 rfl) ?_
  refine lv_bipush (v := (9)) hx hb dX0_init_113 (by decide +kernel) ?_
  refine n_newa hx hb (atype := .int) (ty := .int) q201 hts rfl hK hP hD hS hA 0 rfl (fun _ _ => rfl) (N' := 9) (a0 := (9, .inl (fun _ => 0))) (fun _ => rfl) (by decide +kernel) (by decide +kernel) (Nat.le_of_ble_eq_true rfl) (Nat.le_of_ble_eq_true rfl) (Nat.le_of_ble_eq_true rfl) dX0_init_115 (fun q22 H hP hD hS => ?_)
  have hP : va_P (dC, dI) CL [(a0, .inr (2, [.ref q1, .ref q4, .ref q5, .ref q7, .ref q8, .ref q9, .int (0), .ref q10, .ref q12, .ref q15, .ref q18, .ref q21, .null, .null, .int (0), .int (0)])), (q1, .inr (9, [.int (0), .ref (f2 0), .ref (f2 1)])), (f2 0, .inl (g 1, 32, .inr (.inl (fun _ => 0)))), (f2 1, .inl (g 1, 32, .inr (.inl (fun _ => 0)))), (q4, .inl (g 1, 32, .inr (.inl (fun _ => 0)))), (q10, .inl (g 5, 32, .inr (.inr (.inr (.inr (fun i => if i < 32 then some (r11 i) else none)))))), (q12, .inr (7, [.ref (f13 0), .ref (f13 1), .ref (f13 2)])), (q15, .inr (3, [.ref (f16 0), .long (2)])), (q18, .inr (5, [.ref (f19 2), .ref (f19 0), .int (0), .int (0), .ref (f19 3), .ref (f19 1)])), (f19 0, .inl (g 1, 32, .inr (.inl (fun _ => 0)))), (f19 1, .inl (g 1, 32, .inr (.inl (fun _ => 0))))] _ := hP.sub [0, 1, 2, 3, 4, 5, 6, 7, 8, 9, 10] rfl
  have hD : va_D A [(a0, .inr (2, [.ref q1, .ref q4, .ref q5, .ref q7, .ref q8, .ref q9, .int (0), .ref q10, .ref q12, .ref q15, .ref q18, .ref q21, .null, .null, .int (0), .int (0)])), (q1, .inr (9, [.int (0), .ref (f2 0), .ref (f2 1)])), (f2 0, .inl (g 1, 32, .inr (.inl (fun _ => 0)))), (f2 1, .inl (g 1, 32, .inr (.inl (fun _ => 0)))), (q4, .inl (g 1, 32, .inr (.inl (fun _ => 0)))), (q10, .inl (g 5, 32, .inr (.inr (.inr (.inr (fun i => if i < 32 then some (r11 i) else none)))))), (q12, .inr (7, [.ref (f13 0), .ref (f13 1), .ref (f13 2)])), (q15, .inr (3, [.ref (f16 0), .long (2)])), (q18, .inr (5, [.ref (f19 2), .ref (f19 0), .int (0), .int (0), .ref (f19 3), .ref (f19 1)])), (f19 0, .inl (g 1, 32, .inr (.inl (fun _ => 0)))), (f19 1, .inl (g 1, 32, .inr (.inl (fun _ => 0))))] := hD.sub [0, 1, 2, 3, 4, 5, 6, 7, 8, 9, 10] (by decide +kernel) rfl
  refine W.widen (k := 95) (n := 1225) (Nat.le_of_ble_eq_true rfl) (Nat.le_of_ble_eq_true rfl) ?_
  refine va_putF (D := (dC, dI)) (ci := 2) (v := .ref q22) (ty := (.array .int)) (C := "Minestrata$Air") (T := TX0) (N := 16) hx hb hts inX0 tyX0 tyX0_ok nmX0 hown hK hP hD hS 0 rfl rfl 12 (by decide) (hts _ q371) (fun _ h9 => h9) rfl hin rfl (by decide +kernel) rfl rfl (Nat.le_of_ble_eq_true rfl) dX0_init_117 (fun H locs hP hD hS => ?_)
  have hP : va_P (dC, dI) CL [(a0, .inr (2, [.ref q1, .ref q4, .ref q5, .ref q7, .ref q8, .ref q9, .int (0), .ref q10, .ref q12, .ref q15, .ref q18, .ref q21, .ref q22, .null, .int (0), .int (0)])), (q1, .inr (9, [.int (0), .ref (f2 0), .ref (f2 1)])), (f2 0, .inl (g 1, 32, .inr (.inl (fun _ => 0)))), (f2 1, .inl (g 1, 32, .inr (.inl (fun _ => 0)))), (q4, .inl (g 1, 32, .inr (.inl (fun _ => 0)))), (q10, .inl (g 5, 32, .inr (.inr (.inr (.inr (fun i => if i < 32 then some (r11 i) else none)))))), (q12, .inr (7, [.ref (f13 0), .ref (f13 1), .ref (f13 2)])), (q15, .inr (3, [.ref (f16 0), .long (2)])), (q18, .inr (5, [.ref (f19 2), .ref (f19 0), .int (0), .int (0), .ref (f19 3), .ref (f19 1)])), (f19 0, .inl (g 1, 32, .inr (.inl (fun _ => 0)))), (f19 1, .inl (g 1, 32, .inr (.inl (fun _ => 0))))] _ := hP
  have hD : va_D A [(a0, .inr (2, [.ref q1, .ref q4, .ref q5, .ref q7, .ref q8, .ref q9, .int (0), .ref q10, .ref q12, .ref q15, .ref q18, .ref q21, .ref q22, .null, .int (0), .int (0)])), (q1, .inr (9, [.int (0), .ref (f2 0), .ref (f2 1)])), (f2 0, .inl (g 1, 32, .inr (.inl (fun _ => 0)))), (f2 1, .inl (g 1, 32, .inr (.inl (fun _ => 0)))), (q4, .inl (g 1, 32, .inr (.inl (fun _ => 0)))), (q10, .inl (g 5, 32, .inr (.inr (.inr (.inr (fun i => if i < 32 then some (r11 i) else none)))))), (q12, .inr (7, [.ref (f13 0), .ref (f13 1), .ref (f13 2)])), (q15, .inr (3, [.ref (f16 0), .long (2)])), (q18, .inr (5, [.ref (f19 2), .ref (f19 0), .int (0), .int (0), .ref (f19 3), .ref (f19 1)])), (f19 0, .inl (g 1, 32, .inr (.inl (fun _ => 0)))), (f19 1, .inl (g 1, 32, .inr (.inl (fun _ => 0))))] := hD
  refine lv_aload_n hx hb dX0_init_120 rfl (lv_at hl 0 rfl) ?_
  refine lv_bipush (v := (14)) hx hb dX0_init_121 (by decide +kernel) ?_
  refine n_newa hx hb (atype := .long) (ty := .long) q278 hts rfl hK hP hD hS hA 1 rfl (fun _ _ => rfl) (N' := 14) (a0 := (14, .inr (.inl (fun _ => 0)))) (fun _ => rfl) (by decide +kernel) (by decide +kernel) (Nat.le_of_ble_eq_true rfl) (Nat.le_of_ble_eq_true rfl) (Nat.le_of_ble_eq_true rfl) dX0_init_123 (fun q23 H hP hD hS => ?_)
  have hP : va_P (dC, dI) CL [(a0, .inr (2, [.ref q1, .ref q4, .ref q5, .ref q7, .ref q8, .ref q9, .int (0), .ref q10, .ref q12, .ref q15, .ref q18, .ref q21, .ref q22, .null, .int (0), .int (0)])), (q1, .inr (9, [.int (0), .ref (f2 0), .ref (f2 1)])), (f2 0, .inl (g 1, 32, .inr (.inl (fun _ => 0)))), (f2 1, .inl (g 1, 32, .inr (.inl (fun _ => 0)))), (q4, .inl (g 1, 32, .inr (.inl (fun _ => 0)))), (q10, .inl (g 5, 32, .inr (.inr (.inr (.inr (fun i => if i < 32 then some (r11 i) else none)))))), (q12, .inr (7, [.ref (f13 0), .ref (f13 1), .ref (f13 2)])), (q15, .inr (3, [.ref (f16 0), .long (2)])), (q18, .inr (5, [.ref (f19 2), .ref (f19 0), .int (0), .int (0), .ref (f19 3), .ref (f19 1)])), (f19 0, .inl (g 1, 32, .inr (.inl (fun _ => 0)))), (f19 1, .inl (g 1, 32, .inr (.inl (fun _ => 0))))] _ := hP.sub [0, 1, 2, 3, 4, 5, 6, 7, 8, 9, 10] rfl
  have hD : va_D A [(a0, .inr (2, [.ref q1, .ref q4, .ref q5, .ref q7, .ref q8, .ref q9, .int (0), .ref q10, .ref q12, .ref q15, .ref q18, .ref q21, .ref q22, .null, .int (0), .int (0)])), (q1, .inr (9, [.int (0), .ref (f2 0), .ref (f2 1)])), (f2 0, .inl (g 1, 32, .inr (.inl (fun _ => 0)))), (f2 1, .inl (g 1, 32, .inr (.inl (fun _ => 0)))), (q4, .inl (g 1, 32, .inr (.inl (fun _ => 0)))), (q10, .inl (g 5, 32, .inr (.inr (.inr (.inr (fun i => if i < 32 then some (r11 i) else none)))))), (q12, .inr (7, [.ref (f13 0), .ref (f13 1), .ref (f13 2)])), (q15, .inr (3, [.ref (f16 0), .long (2)])), (q18, .inr (5, [.ref (f19 2), .ref (f19 0), .int (0), .int (0), .ref (f19 3), .ref (f19 1)])), (f19 0, .inl (g 1, 32, .inr (.inl (fun _ => 0)))), (f19 1, .inl (g 1, 32, .inr (.inl (fun _ => 0))))] := hD.sub [0, 1, 2, 3, 4, 5, 6, 7, 8, 9, 10] (by decide +kernel) rfl
  refine W.widen (k := 96) (n := 1239) (Nat.le_of_ble_eq_true rfl) (Nat.le_of_ble_eq_true rfl) ?_
  refine va_putF (D := (dC, dI)) (ci := 2) (v := .ref q23) (ty := (.array .long)) (C := "Minestrata$Air") (T := TX0) (N := 16) hx hb hts inX0 tyX0 tyX0_ok nmX0 hown hK hP hD hS 0 rfl rfl 13 (by decide) (hts _ q372) (fun _ h9 => h9) rfl hin rfl (by decide +kernel) rfl rfl (Nat.le_of_ble_eq_true rfl) dX0_init_125 (fun H locs hP hD hS => ?_)
  have hP : va_P (dC, dI) CL [(a0, .inr (2, [.ref q1, .ref q4, .ref q5, .ref q7, .ref q8, .ref q9, .int (0), .ref q10, .ref q12, .ref q15, .ref q18, .ref q21, .ref q22, .ref q23, .int (0), .int (0)])), (q1, .inr (9, [.int (0), .ref (f2 0), .ref (f2 1)])), (f2 0, .inl (g 1, 32, .inr (.inl (fun _ => 0)))), (f2 1, .inl (g 1, 32, .inr (.inl (fun _ => 0)))), (q4, .inl (g 1, 32, .inr (.inl (fun _ => 0)))), (q10, .inl (g 5, 32, .inr (.inr (.inr (.inr (fun i => if i < 32 then some (r11 i) else none)))))), (q12, .inr (7, [.ref (f13 0), .ref (f13 1), .ref (f13 2)])), (q15, .inr (3, [.ref (f16 0), .long (2)])), (q18, .inr (5, [.ref (f19 2), .ref (f19 0), .int (0), .int (0), .ref (f19 3), .ref (f19 1)])), (f19 0, .inl (g 1, 32, .inr (.inl (fun _ => 0)))), (f19 1, .inl (g 1, 32, .inr (.inl (fun _ => 0))))] _ := hP
  have hD : va_D A [(a0, .inr (2, [.ref q1, .ref q4, .ref q5, .ref q7, .ref q8, .ref q9, .int (0), .ref q10, .ref q12, .ref q15, .ref q18, .ref q21, .ref q22, .ref q23, .int (0), .int (0)])), (q1, .inr (9, [.int (0), .ref (f2 0), .ref (f2 1)])), (f2 0, .inl (g 1, 32, .inr (.inl (fun _ => 0)))), (f2 1, .inl (g 1, 32, .inr (.inl (fun _ => 0)))), (q4, .inl (g 1, 32, .inr (.inl (fun _ => 0)))), (q10, .inl (g 5, 32, .inr (.inr (.inr (.inr (fun i => if i < 32 then some (r11 i) else none)))))), (q12, .inr (7, [.ref (f13 0), .ref (f13 1), .ref (f13 2)])), (q15, .inr (3, [.ref (f16 0), .long (2)])), (q18, .inr (5, [.ref (f19 2), .ref (f19 0), .int (0), .int (0), .ref (f19 3), .ref (f19 1)])), (f19 0, .inl (g 1, 32, .inr (.inl (fun _ => 0)))), (f19 1, .inl (g 1, 32, .inr (.inl (fun _ => 0))))] := hD
  refine W.widen (k := 96) (n := 1239) (Nat.le_of_ble_eq_true rfl) (Nat.le_of_ble_eq_true rfl) ?_
  exact W.vret hx hb hr (n_end hS hP hD [0, 1, 2, 3, 4, 5, 6, 7, 8, 9, 10] (by decide +kernel) (fun k => match k with | 0 => q1 | 1 => f2 0 | 2 => f2 1 | 3 => q4 | 4 => q10 | 5 => q12 | 6 => q15 | 7 => q18 | 8 => f19 0 | 9 => f19 1 | 10 => q5 | 11 => q7 | 12 => q8 | 13 => q9 | 14 => q21 | 15 => q22 | 16 => q23 | 17 => f13 0 | 18 => f13 1 | 19 => f13 2 | 20 => f16 0 | 21 => f19 2 | 22 => f19 3 | _ => 0) r11 rfl rfl rfl) hS.2.2 dX0_init_128 hlk

set_option maxHeartbeats 4000000 in
set_option maxRecDepth 100000 in
/-- Minestrata$Equations.<init> -/
theorem m9 (l : Launch) (hst : l.stackTraces = false) (dC : Nat → ClassId) (dI : Nat → Nat → Nat) (g : Nat → Nat) (a0 : Nat) (sz : Nat) :
    Met l Y6 (Cond.code Y6 prog_4_method_1_code 1 (Option.none : Option Jvm.ClassFile.FieldType) :: AW) ({ frames := 1, cells := 10, slots := 99, locals := 12 } : Room) (nP dC dI g [.ref a0] [(a0, .inr (3, [.null, .long (0)]))] sz) (nQ dC dI (fun f => none) (fun f r => []) (va_A [(a0, .inr (3, [.null, .long (0)]))] sz)) 10 99 (va_A [(a0, .inr (3, [.null, .long (0)]))] sz) := by
  refine n_met (by decide +kernel) (Nat.le_of_ble_eq_true rfl) (fun f => none) (fun f r => []) ?_
  intro p e s m below meth c A ls ⟨hx, hb, hr, hml, hown, hts, hlk, hnm⟩ hE hP hD hA hl
  have hown : s.vm.findClass "Minestrata$Equations" = some m.cls := hown
  have hin : meth.name = "<init>" := hnm
  have hK := hE.1
  have hS : va_S A s.heap s.heap [] := va_S.rf
  have hl : lv_has ls 1 [(0, .ref a0)] := hl
  refine lv_aload_n hx hb dX2_init_0 rfl (lv_at hl 0 rfl) ?_
  refine n_oinit hx hb hml hown hts q307 q118 q119 hl.1 dX2_init_1 (Nat.le_of_ble_eq_true rfl) (Nat.le_of_ble_eq_true rfl) ?_
  refine lv_aload_n hx hb dX2_init_4 rfl (lv_at hl 0 rfl) ?_
  refine lv_bipush (v := (9)) hx hb dX2_init_5 (by decide +kernel) ?_
  refine lv_bipush (v := (10)) hx hb dX2_init_7 (by decide +kernel) ?_
  refine n_mna hx hb (ty := .long) hown hts q308 hE.2.2.1.1 (hts _ q278) hK hP hD hS hA 5 rfl (hK.2 1 _ rfl).2 (N' := 9) (K' := 10) (z := (10, .inr (.inl (fun _ => 0)))) (by decide +kernel) (by decide +kernel) (by decide +kernel) (by decide +kernel) (Nat.le_of_ble_eq_true rfl) (Nat.le_of_ble_eq_true rfl) (Nat.le_of_ble_eq_true rfl) rfl rfl (Nat.le_of_ble_eq_true rfl) (Nat.le_of_ble_eq_true rfl) (fun c9 => n_inner c9 10 _) dX2_init_9 (fun q1 r2 H hP hD hS => ?_)
  have hP : va_P (dC, dI) CL [(a0, .inr (3, [.null, .long (0)]))] _ := hP.sub [0] rfl
  have hD : va_D A [(a0, .inr (3, [.null, .long (0)]))] := hD.sub [0] (by decide +kernel) rfl
  refine W.widen (k := 10) (n := 99) (Nat.le_of_ble_eq_true rfl) (Nat.le_of_ble_eq_true rfl) ?_
  refine va_putF (D := (dC, dI)) (ci := 3) (v := .ref q1) (ty := (.array (.array .long))) (C := "Minestrata$Equations") (T := TX2) (N := 2) hx hb hts inX2 tyX2 tyX2_ok nmX2 hown hK hP hD hS 0 rfl rfl 0 (by decide) (hts _ q310) (fun _ h9 => h9) rfl hin rfl (by decide +kernel) rfl rfl (Nat.le_of_ble_eq_true rfl) dX2_init_13 (fun H locs hP hD hS => ?_)
  have hP : va_P (dC, dI) CL [(a0, .inr (3, [.ref q1, .long (0)]))] _ := hP
  have hD : va_D A [(a0, .inr (3, [.ref q1, .long (0)]))] := hD
  refine lv_aload_n hx hb dX2_init_16 rfl (lv_at hl 0 rfl) ?_
  refine lv_ldc2 (v := (2)) hx hb hown (hts _ q309) dX2_init_17 ?_
  refine va_put (D := (dC, dI)) (ci := 3) (v := .long (2)) (ty := .long) (C := "Minestrata$Equations") (T := TX2) (N := 2) hx hb hts inX2 tyX2 tyX2_ok nmX2 hown hK hP hD hS 0 rfl rfl 1 (by decide) (hts _ q313) (fun _ h9 => h9) rfl (by decide +kernel) rfl rfl (Nat.le_of_ble_eq_true rfl) dX2_init_20 (fun H locs hP hD hS => ?_)
  have hP : va_P (dC, dI) CL [(a0, .inr (3, [.ref q1, .long (2)]))] _ := hP
  have hD : va_D A [(a0, .inr (3, [.ref q1, .long (2)]))] := hD
  refine W.widen (k := 10) (n := 99) (Nat.le_of_ble_eq_true rfl) (Nat.le_of_ble_eq_true rfl) ?_
  exact W.vret hx hb hr (n_end hS hP hD [] (by decide +kernel) (fun _ => 0) (fun _ => 0) rfl rfl rfl) hS.2.2 dX2_init_23 hlk

