set_option maxHeartbeats 4000000 in
set_option maxRecDepth 100000 in
/-- Minestrata.isWithin -/
theorem m140 (l : Launch) (hst : l.stackTraces = false) (dC : Nat → ClassId) (dI : Nat → Nat → Nat) (g : Nat → Nat) (s3 : Int32) (e0 : ¬ (s3 < (-50))) (e1 : ¬ ((50) < s3)) (sz : Nat) :
    Met l Y21 (Cond.code Y21 prog_1_method_38_code 3 (Option.some Jvm.ClassFile.FieldType.boolean) :: AW) ({ frames := 0, cells := 0, slots := 0, locals := 0 } : Room) (nP dC dI g [.int s3, .int (-50), .int (50)] [] sz) (nQ dC dI (fun f => some (.int (1))) (fun f r => []) (va_A [] sz)) 0 0 (va_A [] sz) := by
  refine n_met (by decide +kernel) (Nat.le_of_ble_eq_true rfl) (fun f => some (.int (1))) (fun f r => []) ?_
  intro p e s m below meth c A ls ⟨hx, hb, hr, hml, hown, hts, hlk, hnm⟩ hE hP hD hA hl
  have hown : s.vm.findClass "Minestrata" = some m.cls := hown
  have hK := hE.1
  have hS : va_S A s.heap s.heap [] := va_S.rf
  have hl : lv_has ls 3 [(0, .int s3), (1, .int (-50)), (2, .int (50))] := hl
  refine lv_iload_n hx hb dX11_isWithin_0 rfl (lv_at hl 0 rfl) ?_
  refine lv_iload_n hx hb dX11_isWithin_1 rfl (lv_at hl 1 rfl) ?_
  refine lv_icmp_lt (tgt := 14) hx hb dX11_isWithin_2 (by decide +kernel) (fun h => absurd h e0) (fun _ => ?_)
  refine lv_iload_n hx hb dX11_isWithin_5 rfl (lv_at hl 0 rfl) ?_
  refine lv_iload_n hx hb dX11_isWithin_6 rfl (lv_at hl 2 rfl) ?_
  refine lv_icmp_gt (tgt := 14) hx hb dX11_isWithin_7 (by decide +kernel) (fun h => absurd h e1) (fun _ => ?_)
  refine lv_iconst (v := (1)) hx hb dX11_isWithin_10 (by decide +kernel) ?_
  refine lv_goto (tgt := 15) hx hb dX11_isWithin_11 (by decide +kernel) ?_
  refine W.widen (k := 0) (n := 0) (Nat.le_of_ble_eq_true rfl) (Nat.le_of_ble_eq_true rfl) ?_
  exact W.zret hx hb hr (by decide +kernel) (n_end hS hP hD [] (by decide +kernel) (fun _ => 0) (fun _ => 0) rfl rfl rfl) hS.2.2 dX11_isWithin_15 hlk

set_option maxHeartbeats 4000000 in
set_option maxRecDepth 100000 in
/-- Minestrata.isStepValue -/
theorem m141 (l : Launch) (hst : l.stackTraces = false) (dC : Nat → ClassId) (dI : Nat → Nat → Nat) (g : Nat → Nat) (s3 : Int32) (e0 : ¬ (s3 < (-50))) (e1 : ¬ ((50) < s3)) (sz : Nat) :
    Met l Y49 (Cond.code Y49 prog_1_method_44_code 2 (Option.some Jvm.ClassFile.FieldType.boolean) :: AW) ({ frames := 1, cells := 0, slots := 0, locals := 22 } : Room) (nP dC dI g [.int (102), .int s3] [] sz) (nQ dC dI (fun f => some (.int (1))) (fun f r => []) (va_A [] sz)) 0 0 (va_A [] sz) := by
  refine n_met (by decide +kernel) (Nat.le_of_ble_eq_true rfl) (fun f => some (.int (1))) (fun f r => []) ?_
  intro p e s m below meth c A ls ⟨hx, hb, hr, hml, hown, hts, hlk, hnm⟩ hE hP hD hA hl
  have hown : s.vm.findClass "Minestrata" = some m.cls := hown
  have hK := hE.1
  have hS : va_S A s.heap s.heap [] := va_S.rf
  have hl : lv_has ls 2 [(0, .int (102)), (1, .int s3)] := hl
  refine lv_iload_n hx hb dX11_isStepValue_0 rfl (lv_at hl 0 rfl) ?_
  refine lv_bipush (v := (100)) hx hb dX11_isStepValue_1 (by decide +kernel) ?_
  refine lv_icmp_eq (tgt := 12) hx hb dX11_isStepValue_3 (by decide +kernel) (fun h => absurd h (by decide +kernel)) (fun _ => ?_)
  refine lv_iload_n hx hb dX11_isStepValue_6 rfl (lv_at hl 0 rfl) ?_
  refine lv_bipush (v := (98)) hx hb dX11_isStepValue_7 (by decide +kernel) ?_
  refine lv_icmp_ne (tgt := 19) hx hb dX11_isStepValue_9 (by decide +kernel) (fun _ => ?_) (fun h => absurd h (by decide +kernel))
  refine lv_iload_n hx hb dX11_isStepValue_19 rfl (lv_at hl 0 rfl) ?_
  refine lv_bipush (v := (102)) hx hb dX11_isStepValue_20 (by decide +kernel) ?_
  refine lv_icmp_eq (tgt := 31) hx hb dX11_isStepValue_22 (by decide +kernel) (fun _ => ?_) (fun h => absurd (by decide +kernel) h)
  refine lv_iload_n hx hb dX11_isStepValue_31 rfl (lv_at hl 1 rfl) ?_
  refine lv_bipush (v := (-50)) hx hb dX11_isStepValue_32 (by decide +kernel) ?_
  refine lv_bipush (v := (50)) hx hb dX11_isStepValue_34 (by decide +kernel) ?_
  have hX : nCx p s m _ c prog_1_method_44_code 2 "Minestrata" dC dI g A [] _ _ := ⟨⟨hx, hb, hml, hown, hts⟩, hE, hS, hA, hP, hD⟩
  refine n_call (wr := []) hX (n_runS (n := 3) (wc := []) (As := [.int s3, .int (-50), .int (50)]) (rest := []) hX (m140 l hst dC dI g s3 e0 e1 _) [] rfl (by decide +kernel) q814 q815 q71 q816 (by decide +kernel) ⟨(Nat.le_of_ble_eq_true rfl), (Nat.le_of_ble_eq_true rfl)⟩ ⟨(Nat.le_of_ble_eq_true rfl), (Nat.le_of_ble_eq_true rfl)⟩ hl.1 rfl rfl (Nat.le_of_ble_eq_true rfl) dX11_isStepValue_36) [] [] rfl rfl (by decide +kernel) (by decide +kernel) (fun f1 r2 H locs hP hD hS => ?_)
  have hP : va_P (dC, dI) CL [] _ := hP
  have hD : va_D A [] := hD
  refine W.widen (k := 0) (n := 0) (Nat.le_of_ble_eq_true rfl) (Nat.le_of_ble_eq_true rfl) ?_
  refine W.eq (g2 := F0 m 39 ls [.int (1)]) rfl ?_
  refine W.widen (k := 0) (n := 0) (Nat.le_of_ble_eq_true rfl) (Nat.le_of_ble_eq_true rfl) ?_
  exact W.zret hx hb hr (by decide +kernel) (n_end hS hP hD [] (by decide +kernel) (fun _ => 0) (fun _ => 0) rfl rfl rfl) hS.2.2 dX11_isStepValue_39 hlk

set_option maxHeartbeats 4000000 in
set_option maxRecDepth 100000 in
/-- Minestrata.hasStepTarget -/
theorem m142 (l : Launch) (hst : l.stackTraces = false) (dC : Nat → ClassId) (dI : Nat → Nat → Nat) (g : Nat → Nat) (a0 a1 a2 a3 a4 a5 a6 a7 a8 a9 a10 a11 a12 a13 a14 a15 a16 a17 a18 a19 a20 a21 : Nat) (s2 : Int32) (sz : Nat) :
    Met l Y52 (Cond.code Y52 prog_1_method_45_code 3 (Option.some Jvm.ClassFile.FieldType.boolean) :: AW) ({ frames := 1, cells := 0, slots := 0, locals := 21 } : Room) (nP dC dI g [.ref a0, .int (102), .int s2] [(a0, .inr (12, [.ref a1, .ref a2, .ref a3, .ref a4, .ref a5, .ref a6, .ref a7, .ref a8, .null, .ref a9, .ref a10, .int (0), .int (100), .int (0), .int (0), .int (-1), .long (0), .int (1)])), (a1, .inr (8, [.int (0), .ref a11, .ref a12, .ref a13, .ref a14, .int (0), .ref a15, .ref a16, .ref a17, .ref a18, .ref a19, .ref a20, .ref a21]))] sz) (nQ dC dI (fun f => some (.int (0))) (fun f r => [(a0, .inr (12, [.ref a1, .ref a2, .ref a3, .ref a4, .ref a5, .ref a6, .ref a7, .ref a8, .null, .ref a9, .ref a10, .int (0), .int (100), .int (0), .int (0), .int (-1), .long (0), .int (1)])), (a1, .inr (8, [.int (0), .ref a11, .ref a12, .ref a13, .ref a14, .int (0), .ref a15, .ref a16, .ref a17, .ref a18, .ref a19, .ref a20, .ref a21]))]) (va_A [(a0, .inr (12, [.ref a1, .ref a2, .ref a3, .ref a4, .ref a5, .ref a6, .ref a7, .ref a8, .null, .ref a9, .ref a10, .int (0), .int (100), .int (0), .int (0), .int (-1), .long (0), .int (1)])), (a1, .inr (8, [.int (0), .ref a11, .ref a12, .ref a13, .ref a14, .int (0), .ref a15, .ref a16, .ref a17, .ref a18, .ref a19, .ref a20, .ref a21]))] sz)) 0 0 (va_A [(a0, .inr (12, [.ref a1, .ref a2, .ref a3, .ref a4, .ref a5, .ref a6, .ref a7, .ref a8, .null, .ref a9, .ref a10, .int (0), .int (100), .int (0), .int (0), .int (-1), .long (0), .int (1)])), (a1, .inr (8, [.int (0), .ref a11, .ref a12, .ref a13, .ref a14, .int (0), .ref a15, .ref a16, .ref a17, .ref a18, .ref a19, .ref a20, .ref a21]))] sz) := by
  refine n_met (by decide +kernel) (Nat.le_of_ble_eq_true rfl) (fun f => some (.int (0))) (fun f r => [(a0, .inr (12, [.ref a1, .ref a2, .ref a3, .ref a4, .ref a5, .ref a6, .ref a7, .ref a8, .null, .ref a9, .ref a10, .int (0), .int (100), .int (0), .int (0), .int (-1), .long (0), .int (1)])), (a1, .inr (8, [.int (0), .ref a11, .ref a12, .ref a13, .ref a14, .int (0), .ref a15, .ref a16, .ref a17, .ref a18, .ref a19, .ref a20, .ref a21]))]) ?_
  intro p e s m below meth c A ls ⟨hx, hb, hr, hml, hown, hts, hlk, hnm⟩ hE hP hD hA hl
  have hown : s.vm.findClass "Minestrata" = some m.cls := hown
  have hK := hE.1
  have hS : va_S A s.heap s.heap [] := va_S.rf
  have hl : lv_has ls 3 [(0, .ref a0), (1, .int (102)), (2, .int s2)] := hl
  refine lv_iload_n hx hb dX11_hasStepTarget_0 rfl (lv_at hl 1 rfl) ?_
  refine lv_bipush (v := (100)) hx hb dX11_hasStepTarget_1 (by decide +kernel) ?_
  refine lv_icmp_eq (tgt := 18) hx hb dX11_hasStepTarget_3 (by decide +kernel) (fun h => absurd h (by decide +kernel)) (fun _ => ?_)
  refine lv_iload_n hx hb dX11_hasStepTarget_6 rfl (lv_at hl 1 rfl) ?_
  refine lv_bipush (v := (98)) hx hb dX11_hasStepTarget_7 (by decide +kernel) ?_
  refine lv_icmp_eq (tgt := 18) hx hb dX11_hasStepTarget_9 (by decide +kernel) (fun h => absurd h (by decide +kernel)) (fun _ => ?_)
  refine lv_iload_n hx hb dX11_hasStepTarget_12 rfl (lv_at hl 1 rfl) ?_
  refine lv_bipush (v := (102)) hx hb dX11_hasStepTarget_13 (by decide +kernel) ?_
  refine lv_icmp_ne (tgt := 27) hx hb dX11_hasStepTarget_15 (by decide +kernel) (fun h => absurd (by decide +kernel) h) (fun _ => ?_)
  refine lv_aload_n hx hb dX11_hasStepTarget_18 rfl (lv_at hl 0 rfl) ?_
  refine va_get (D := (dC, dI)) (ci := 12) (v := .ref a1) (C := "Minestrata") (T := TX11) (N := 18) hx hb hts inX11 hown hK hP 0 rfl rfl 0 (by decide) (hts _ q504) (fun _ h9 => h9) rfl dX11_hasStepTarget_19 ?_
  refine lv_iload_n hx hb dX11_hasStepTarget_22 rfl (lv_at hl 2 rfl) ?_
  have hX : nCx p s m _ c prog_1_method_45_code 3 "Minestrata" dC dI g A [(a0, .inr (12, [.ref a1, .ref a2, .ref a3, .ref a4, .ref a5, .ref a6, .ref a7, .ref a8, .null, .ref a9, .ref a10, .int (0), .int (100), .int (0), .int (0), .int (-1), .long (0), .int (1)])), (a1, .inr (8, [.int (0), .ref a11, .ref a12, .ref a13, .ref a14, .int (0), .ref a15, .ref a16, .ref a17, .ref a18, .ref a19, .ref a20, .ref a21]))] _ _ := ⟨⟨hx, hb, hml, hown, hts⟩, hE, hS, hA, hP, hD⟩
  refine n_call (wr := [(a0, .inr (12, [.ref a1, .ref a2, .ref a3, .ref a4, .ref a5, .ref a6, .ref a7, .ref a8, .null, .ref a9, .ref a10, .int (0), .int (100), .int (0), .int (0), .int (-1), .long (0), .int (1)]))]) hX (n_runV (n := 1) (wc := [(a1, .inr (8, [.int (0), .ref a11, .ref a12, .ref a13, .ref a14, .int (0), .ref a15, .ref a16, .ref a17, .ref a18, .ref a19, .ref a20, .ref a21]))]) (As := [.int s2]) (rest := []) hX (m100 l hst dC dI g a1 a11 a12 a13 a14 a15 a16 a17 a18 a19 a20 a21 s2 _) [1] rfl (by decide +kernel) 1 (ci := 8) rfl (T := TX7) (N := 13) (C := "Minestrata$Net") rfl q1053 q1054 q1055 q72 q1056 (by decide +kernel) ⟨(Nat.le_of_ble_eq_true rfl), (Nat.le_of_ble_eq_true rfl)⟩ ⟨(Nat.le_of_ble_eq_true rfl), (Nat.le_of_ble_eq_true rfl)⟩ hl.1 rfl rfl (Nat.le_of_ble_eq_true rfl) dX11_hasStepTarget_23) [1] [0] rfl rfl (by decide +kernel) (by decide +kernel) (fun f1 r2 H locs hP hD hS => ?_)
  have hP : va_P (dC, dI) CL [(a0, .inr (12, [.ref a1, .ref a2, .ref a3, .ref a4, .ref a5, .ref a6, .ref a7, .ref a8, .null, .ref a9, .ref a10, .int (0), .int (100), .int (0), .int (0), .int (-1), .long (0), .int (1)])), (a1, .inr (8, [.int (0), .ref a11, .ref a12, .ref a13, .ref a14, .int (0), .ref a15, .ref a16, .ref a17, .ref a18, .ref a19, .ref a20, .ref a21]))] _ := hP
  have hD : va_D A [(a0, .inr (12, [.ref a1, .ref a2, .ref a3, .ref a4, .ref a5, .ref a6, .ref a7, .ref a8, .null, .ref a9, .ref a10, .int (0), .int (100), .int (0), .int (0), .int (-1), .long (0), .int (1)])), (a1, .inr (8, [.int (0), .ref a11, .ref a12, .ref a13, .ref a14, .int (0), .ref a15, .ref a16, .ref a17, .ref a18, .ref a19, .ref a20, .ref a21]))] := hD
  refine W.widen (k := 0) (n := 0) (Nat.le_of_ble_eq_true rfl) (Nat.le_of_ble_eq_true rfl) ?_
  refine W.eq (g2 := F0 m 26 ls [.int (0)]) rfl ?_
  refine W.widen (k := 0) (n := 0) (Nat.le_of_ble_eq_true rfl) (Nat.le_of_ble_eq_true rfl) ?_
  exact W.zret hx hb hr (by decide +kernel) (n_end hS hP hD [0, 1] (by decide +kernel) (fun _ => 0) (fun _ => 0) rfl rfl rfl) hS.2.2 dX11_hasStepTarget_26 hlk

set_option maxHeartbeats 4000000 in
set_option maxRecDepth 100000 in
/-- Minestrata.step -/
theorem m143 (l : Launch) (hst : l.stackTraces = false) (dC : Nat → ClassId) (dI : Nat → Nat → Nat) (g : Nat → Nat) (a0 a1 a2 a3 a4 a5 a6 a7 a8 a9 a10 a11 a12 a13 a14 a15 a16 a17 a18 a19 a20 a21 a22 a23 a24 a25 a26 a27 a28 a29 a30 : Nat) (s2 s3 : Int32) (e0 : ¬ (s3 < (-50))) (e1 : ¬ ((50) < s3)) (sz : Nat) :
    vx_Met l Y48 (Cond.code Y48 prog_1_method_9_code 5 (Option.some Jvm.ClassFile.FieldType.char) :: AW) ({ frames := 6, cells := 1, slots := 6, locals := 81 } : Room) (nP dC dI g [.ref a0, .int (102), .int s2, .int s3] [(a0, .inr (12, [.ref a1, .ref a2, .ref a3, .ref a4, .ref a5, .ref a6, .ref a7, .ref a8, .null, .ref a9, .ref a10, .int (0), .int (100), .int (0), .int (0), .int (-1), .long (0), .int (1)])), (a1, .inr (8, [.int (0), .ref a11, .ref a12, .ref a13, .ref a14, .int (0), .ref a15, .ref a16, .ref a17, .ref a18, .ref a19, .ref a20, .ref a21])), (a3, .inr (11, [.int (0), .ref a22, .ref a23, .ref a24, .ref a25, .ref a26, .ref a27, .ref a28, .ref a29, .ref a30]))] sz) (fun _ _ _ _ => False) (nX "java/lang/IndexOutOfBoundsException" (va_A [(a0, .inr (12, [.ref a1, .ref a2, .ref a3, .ref a4, .ref a5, .ref a6, .ref a7, .ref a8, .null, .ref a9, .ref a10, .int (0), .int (100), .int (0), .int (0), .int (-1), .long (0), .int (1)])), (a1, .inr (8, [.int (0), .ref a11, .ref a12, .ref a13, .ref a14, .int (0), .ref a15, .ref a16, .ref a17, .ref a18, .ref a19, .ref a20, .ref a21])), (a3, .inr (11, [.int (0), .ref a22, .ref a23, .ref a24, .ref a25, .ref a26, .ref a27, .ref a28, .ref a29, .ref a30]))] sz)) 1 6 (va_A [(a0, .inr (12, [.ref a1, .ref a2, .ref a3, .ref a4, .ref a5, .ref a6, .ref a7, .ref a8, .null, .ref a9, .ref a10, .int (0), .int (100), .int (0), .int (0), .int (-1), .long (0), .int (1)])), (a1, .inr (8, [.int (0), .ref a11, .ref a12, .ref a13, .ref a14, .int (0), .ref a15, .ref a16, .ref a17, .ref a18, .ref a19, .ref a20, .ref a21])), (a3, .inr (11, [.int (0), .ref a22, .ref a23, .ref a24, .ref a25, .ref a26, .ref a27, .ref a28, .ref a29, .ref a30]))] sz) := by
  refine n_metX (by decide +kernel) (Nat.le_of_ble_eq_true rfl) "java/lang/IndexOutOfBoundsException" ?_
  intro p e s m below meth c A ls ⟨hx, hb, hr, hml, hown, hts, hlk, hnm⟩ hout hE hP hD hA hl
  have hown : s.vm.findClass "Minestrata" = some m.cls := hown
  have hK := hE.1
  have hS : va_S A s.heap s.heap [] := va_S.rf
  have hl : lv_has ls 5 [(0, .ref a0), (1, .int (102)), (2, .int s2), (3, .int s3)] := hl
  have hlsz : ls.size = c.maxLocals := hl.1.trans hml.symm
  refine lv_iload_n hx hb dX11_step_0 rfl (lv_at hl 1 rfl) ?_
  refine lv_iload_n hx hb dX11_step_1 rfl (lv_at hl 3 rfl) ?_
  have hX : nCx p s m _ c prog_1_method_9_code 5 "Minestrata" dC dI g A [(a0, .inr (12, [.ref a1, .ref a2, .ref a3, .ref a4, .ref a5, .ref a6, .ref a7, .ref a8, .null, .ref a9, .ref a10, .int (0), .int (100), .int (0), .int (0), .int (-1), .long (0), .int (1)])), (a1, .inr (8, [.int (0), .ref a11, .ref a12, .ref a13, .ref a14, .int (0), .ref a15, .ref a16, .ref a17, .ref a18, .ref a19, .ref a20, .ref a21])), (a3, .inr (11, [.int (0), .ref a22, .ref a23, .ref a24, .ref a25, .ref a26, .ref a27, .ref a28, .ref a29, .ref a30]))] _ _ := ⟨⟨hx, hb, hml, hown, hts⟩, hE, hS, hA, hP, hD⟩
  refine n_call (wr := [(a0, .inr (12, [.ref a1, .ref a2, .ref a3, .ref a4, .ref a5, .ref a6, .ref a7, .ref a8, .null, .ref a9, .ref a10, .int (0), .int (100), .int (0), .int (0), .int (-1), .long (0), .int (1)])), (a1, .inr (8, [.int (0), .ref a11, .ref a12, .ref a13, .ref a14, .int (0), .ref a15, .ref a16, .ref a17, .ref a18, .ref a19, .ref a20, .ref a21])), (a3, .inr (11, [.int (0), .ref a22, .ref a23, .ref a24, .ref a25, .ref a26, .ref a27, .ref a28, .ref a29, .ref a30]))]) hX (n_runS (n := 2) (wc := []) (As := [.int (102), .int s3]) (rest := []) hX (m141 l hst dC dI g s3 e0 e1 _) [] rfl (by decide +kernel) q1046 q1047 q71 q1048 (by decide +kernel) ⟨(Nat.le_of_ble_eq_true rfl), (Nat.le_of_ble_eq_true rfl)⟩ ⟨(Nat.le_of_ble_eq_true rfl), (Nat.le_of_ble_eq_true rfl)⟩ hl.1 rfl rfl (Nat.le_of_ble_eq_true rfl) dX11_step_2) [] [0, 1, 2] rfl rfl (by decide +kernel) (by decide +kernel) (fun f1 r2 H locs hP hD hS => ?_)
  have hP : va_P (dC, dI) CL [(a0, .inr (12, [.ref a1, .ref a2, .ref a3, .ref a4, .ref a5, .ref a6, .ref a7, .ref a8, .null, .ref a9, .ref a10, .int (0), .int (100), .int (0), .int (0), .int (-1), .long (0), .int (1)])), (a1, .inr (8, [.int (0), .ref a11, .ref a12, .ref a13, .ref a14, .int (0), .ref a15, .ref a16, .ref a17, .ref a18, .ref a19, .ref a20, .ref a21])), (a3, .inr (11, [.int (0), .ref a22, .ref a23, .ref a24, .ref a25, .ref a26, .ref a27, .ref a28, .ref a29, .ref a30]))] _ := hP
  have hD : va_D A [(a0, .inr (12, [.ref a1, .ref a2, .ref a3, .ref a4, .ref a5, .ref a6, .ref a7, .ref a8, .null, .ref a9, .ref a10, .int (0), .int (100), .int (0), .int (0), .int (-1), .long (0), .int (1)])), (a1, .inr (8, [.int (0), .ref a11, .ref a12, .ref a13, .ref a14, .int (0), .ref a15, .ref a16, .ref a17, .ref a18, .ref a19, .ref a20, .ref a21])), (a3, .inr (11, [.int (0), .ref a22, .ref a23, .ref a24, .ref a25, .ref a26, .ref a27, .ref a28, .ref a29, .ref a30]))] := hD
  refine W.widen (k := 0) (n := 0) (Nat.le_of_ble_eq_true rfl) (Nat.le_of_ble_eq_true rfl) ?_
  refine W.eq (g2 := F0 m 5 ls [.int (1)]) rfl ?_
  refine lv_if_ne (tgt := 16) hx hb dX11_step_5 (by decide +kernel) (fun _ => ?_) (fun h => absurd h (by decide +kernel))
  refine lv_aload_n hx hb dX11_step_16 rfl (lv_at hl 0 rfl) ?_
  refine lv_iload_n hx hb dX11_step_17 rfl (lv_at hl 1 rfl) ?_
  refine lv_iload_n hx hb dX11_step_18 rfl (lv_at hl 2 rfl) ?_
  have hX : nCx p s m _ c prog_1_method_9_code 5 "Minestrata" dC dI g A [(a0, .inr (12, [.ref a1, .ref a2, .ref a3, .ref a4, .ref a5, .ref a6, .ref a7, .ref a8, .null, .ref a9, .ref a10, .int (0), .int (100), .int (0), .int (0), .int (-1), .long (0), .int (1)])), (a1, .inr (8, [.int (0), .ref a11, .ref a12, .ref a13, .ref a14, .int (0), .ref a15, .ref a16, .ref a17, .ref a18, .ref a19, .ref a20, .ref a21])), (a3, .inr (11, [.int (0), .ref a22, .ref a23, .ref a24, .ref a25, .ref a26, .ref a27, .ref a28, .ref a29, .ref a30]))] _ _ := ⟨⟨hx, hb, hml, hown, hts⟩, hE, hS, hA, hP, hD⟩
  refine n_call (wr := [(a3, .inr (11, [.int (0), .ref a22, .ref a23, .ref a24, .ref a25, .ref a26, .ref a27, .ref a28, .ref a29, .ref a30]))]) hX (n_runV (n := 2) (wc := [(a0, .inr (12, [.ref a1, .ref a2, .ref a3, .ref a4, .ref a5, .ref a6, .ref a7, .ref a8, .null, .ref a9, .ref a10, .int (0), .int (100), .int (0), .int (0), .int (-1), .long (0), .int (1)])), (a1, .inr (8, [.int (0), .ref a11, .ref a12, .ref a13, .ref a14, .int (0), .ref a15, .ref a16, .ref a17, .ref a18, .ref a19, .ref a20, .ref a21]))]) (As := [.int (102), .int s2]) (rest := []) hX (m142 l hst dC dI g a0 a1 a2 a3 a4 a5 a6 a7 a8 a9 a10 a11 a12 a13 a14 a15 a16 a17 a18 a19 a20 a21 s2 _) [0, 1] rfl (by decide +kernel) 0 (ci := 12) rfl (T := TX11) (N := 18) (C := "Minestrata") rfl q1049 q1051 q22 q71 q1052 (by decide +kernel) ⟨(Nat.le_of_ble_eq_true rfl), (Nat.le_of_ble_eq_true rfl)⟩ ⟨(Nat.le_of_ble_eq_true rfl), (Nat.le_of_ble_eq_true rfl)⟩ hl.1 rfl rfl (Nat.le_of_ble_eq_true rfl) dX11_step_19) [0, 1] [2] rfl rfl (by decide +kernel) (by decide +kernel) (fun f3 r4 H locs hP hD hS => ?_)
  have hP : va_P (dC, dI) CL [(a3, .inr (11, [.int (0), .ref a22, .ref a23, .ref a24, .ref a25, .ref a26, .ref a27, .ref a28, .ref a29, .ref a30])), (a0, .inr (12, [.ref a1, .ref a2, .ref a3, .ref a4, .ref a5, .ref a6, .ref a7, .ref a8, .null, .ref a9, .ref a10, .int (0), .int (100), .int (0), .int (0), .int (-1), .long (0), .int (1)])), (a1, .inr (8, [.int (0), .ref a11, .ref a12, .ref a13, .ref a14, .int (0), .ref a15, .ref a16, .ref a17, .ref a18, .ref a19, .ref a20, .ref a21]))] _ := hP
  have hD : va_D A [(a3, .inr (11, [.int (0), .ref a22, .ref a23, .ref a24, .ref a25, .ref a26, .ref a27, .ref a28, .ref a29, .ref a30])), (a0, .inr (12, [.ref a1, .ref a2, .ref a3, .ref a4, .ref a5, .ref a6, .ref a7, .ref a8, .null, .ref a9, .ref a10, .int (0), .int (100), .int (0), .int (0), .int (-1), .long (0), .int (1)])), (a1, .inr (8, [.int (0), .ref a11, .ref a12, .ref a13, .ref a14, .int (0), .ref a15, .ref a16, .ref a17, .ref a18, .ref a19, .ref a20, .ref a21]))] := hD
  refine W.widen (k := 0) (n := 0) (Nat.le_of_ble_eq_true rfl) (Nat.le_of_ble_eq_true rfl) ?_
  refine W.eq (g2 := F0 m 22 ls [.int (0)]) rfl ?_
  refine lv_if_ne (tgt := 33) hx hb dX11_step_22 (by decide +kernel) (fun h => absurd (by decide +kernel) h) (fun _ => ?_)
  exact n_throw hx hb hst hown hts hE hS (names := ["java/lang/RuntimeException", "java/lang/Exception"]) (by decide +kernel) (by decide +kernel) q948 q91 hat1p hat1a hat1 hat1g (hl.1.trans hml.symm) dX11_step_25 dX11_step_28 dX11_step_29 dX11_step_32 hout (Nat.le_of_ble_eq_true rfl) (Nat.le_of_ble_eq_true rfl) (Nat.le_of_ble_eq_true rfl) (Nat.le_of_ble_eq_true rfl) hlk (Nat.le_of_ble_eq_true rfl) (Nat.le_of_ble_eq_true rfl)

set_option maxHeartbeats 4000000 in
set_option maxRecDepth 100000 in
/-- MinestrataLaw.step -/
theorem m144 (l : Launch) (hst : l.stackTraces = false) (dC : Nat → ClassId) (dI : Nat → Nat → Nat) (g : Nat → Nat) (a0 a1 a2 a3 a4 a5 a6 a7 a8 a9 a10 a11 a12 a13 a14 a15 a16 a17 a18 a19 a20 a21 a22 a23 a24 a25 a26 a27 a28 a29 a30 a31 : Nat) (s2 s3 : Int32) (e0 : ¬ (s3 < (-50))) (e1 : ¬ ((50) < s3)) (sz : Nat) :
    Met l Y47 (Cond.codeWith Y47 method_10_code 6 (Option.some Jvm.ClassFile.FieldType.int) [((0 : Nat), (12 : Nat), (15 : Nat), (13 : Nat)), ((0 : Nat), (12 : Nat), (19 : Nat), (21 : Nat)), ((0 : Nat), (12 : Nat), (23 : Nat), (47 : Nat))] :: AW) ({ frames := 7, cells := 1, slots := 6, locals := 105 } : Room) (nP dC dI g [.ref a0, .int (102), .int s2, .int s3, .ref a1] [(a0, .inr (12, [.ref a2, .ref a3, .ref a4, .ref a5, .ref a6, .ref a7, .ref a8, .ref a9, .null, .ref a10, .ref a11, .int (0), .int (100), .int (0), .int (0), .int (-1), .long (0), .int (1)])), (a2, .inr (8, [.int (0), .ref a12, .ref a13, .ref a14, .ref a15, .int (0), .ref a16, .ref a17, .ref a18, .ref a19, .ref a20, .ref a21, .ref a22])), (a4, .inr (11, [.int (0), .ref a23, .ref a24, .ref a25, .ref a26, .ref a27, .ref a28, .ref a29, .ref a30, .ref a31]))] sz) (nQ dC dI (fun f => some (.int (2))) (fun f r => []) (va_A [(a0, .inr (12, [.ref a2, .ref a3, .ref a4, .ref a5, .ref a6, .ref a7, .ref a8, .ref a9, .null, .ref a10, .ref a11, .int (0), .int (100), .int (0), .int (0), .int (-1), .long (0), .int (1)])), (a2, .inr (8, [.int (0), .ref a12, .ref a13, .ref a14, .ref a15, .int (0), .ref a16, .ref a17, .ref a18, .ref a19, .ref a20, .ref a21, .ref a22])), (a4, .inr (11, [.int (0), .ref a23, .ref a24, .ref a25, .ref a26, .ref a27, .ref a28, .ref a29, .ref a30, .ref a31]))] sz)) 1 6 (va_A [(a0, .inr (12, [.ref a2, .ref a3, .ref a4, .ref a5, .ref a6, .ref a7, .ref a8, .ref a9, .null, .ref a10, .ref a11, .int (0), .int (100), .int (0), .int (0), .int (-1), .long (0), .int (1)])), (a2, .inr (8, [.int (0), .ref a12, .ref a13, .ref a14, .ref a15, .int (0), .ref a16, .ref a17, .ref a18, .ref a19, .ref a20, .ref a21, .ref a22])), (a4, .inr (11, [.int (0), .ref a23, .ref a24, .ref a25, .ref a26, .ref a27, .ref a28, .ref a29, .ref a30, .ref a31]))] sz) := by
  refine n_metW (by decide +kernel) q1040 (Nat.le_of_ble_eq_true rfl) (fun f => some (.int (2))) (fun f r => []) ?_
  intro p e s m below meth c A ls ⟨hx, hb, hr, hml, hown, hts, hlk, hnm⟩ htab hE hP hD hA hl
  have hown : s.vm.findClass "MinestrataLaw" = some m.cls := hown
  have hK := hE.1
  have hS : va_S A s.heap s.heap [] := va_S.rf
  have hl : lv_has ls 6 [(0, .ref a0), (1, .int (102)), (2, .int s2), (3, .int s3), (4, .ref a1)] := hl
  refine lv_aload hx hb dL_step_0 (lv_at hl 4 rfl) ?_
  refine lv_iconst (v := (0)) hx hb dL_step_2 (by decide +kernel) ?_
  refine lv_aload_n hx hb dL_step_3 rfl (lv_at hl 0 rfl) ?_
  refine lv_iload_n hx hb dL_step_4 rfl (lv_at hl 1 rfl) ?_
  refine lv_iload_n hx hb dL_step_5 rfl (lv_at hl 2 rfl) ?_
  refine lv_iload_n hx hb dL_step_6 rfl (lv_at hl 3 rfl) ?_
  have hX : nCx p s m _ c method_10_code 6 "MinestrataLaw" dC dI g A [(a0, .inr (12, [.ref a2, .ref a3, .ref a4, .ref a5, .ref a6, .ref a7, .ref a8, .ref a9, .null, .ref a10, .ref a11, .int (0), .int (100), .int (0), .int (0), .int (-1), .long (0), .int (1)])), (a2, .inr (8, [.int (0), .ref a12, .ref a13, .ref a14, .ref a15, .int (0), .ref a16, .ref a17, .ref a18, .ref a19, .ref a20, .ref a21, .ref a22])), (a4, .inr (11, [.int (0), .ref a23, .ref a24, .ref a25, .ref a26, .ref a27, .ref a28, .ref a29, .ref a30, .ref a31]))] _ _ := ⟨⟨hx, hb, hml, hown, hts⟩, hE, hS, hA, hP, hD⟩
  refine n_callX (E0 := "java/lang/IndexOutOfBoundsException") hX (n_runVX (n := 3) (wc := [(a0, .inr (12, [.ref a2, .ref a3, .ref a4, .ref a5, .ref a6, .ref a7, .ref a8, .ref a9, .null, .ref a10, .ref a11, .int (0), .int (100), .int (0), .int (0), .int (-1), .long (0), .int (1)])), (a2, .inr (8, [.int (0), .ref a12, .ref a13, .ref a14, .ref a15, .int (0), .ref a16, .ref a17, .ref a18, .ref a19, .ref a20, .ref a21, .ref a22])), (a4, .inr (11, [.int (0), .ref a23, .ref a24, .ref a25, .ref a26, .ref a27, .ref a28, .ref a29, .ref a30, .ref a31]))]) (As := [.int (102), .int s2, .int s3]) (rest := [.int (0), .ref a1]) hX (m143 l hst dC dI g a0 a2 a3 a4 a5 a6 a7 a8 a9 a10 a11 a12 a13 a14 a15 a16 a17 a18 a19 a20 a21 a22 a23 a24 a25 a26 a27 a28 a29 a30 a31 s2 s3 e0 e1 _) [0, 1, 2] rfl (by decide +kernel) 0 (ci := 12) rfl (T := TX11) (N := 18) (C := "Minestrata") rfl q1042 q1043 q1044 q71 q1045 (by decide +kernel) ⟨(Nat.le_of_ble_eq_true rfl), (Nat.le_of_ble_eq_true rfl)⟩ ⟨(Nat.le_of_ble_eq_true rfl), (Nat.le_of_ble_eq_true rfl)⟩ hl.1 rfl rfl (Nat.le_of_ble_eq_true rfl) dL_step_7) [0, 1, 2] rfl (fun ce q9 H locs hS hce hcv hcl => ?_)
  refine n_catch (E := "java/lang/IndexOutOfBoundsException") (name := "java/lang/IndexOutOfBoundsException") hE hts hown htab [⟨0, 12, 15, 13⟩] ⟨0, 12, 19, 21⟩ [⟨0, 12, 23, 47⟩] rfl (List.forall_mem_cons.mpr ⟨Or.inr ⟨by decide, "java/lang/IllegalArgumentException", hts _ q808, hE.2.2.2.1 ("java/lang/IndexOutOfBoundsException", "java/lang/IllegalArgumentException") (by decide +kernel)⟩, (fun z hz => nomatch hz)⟩) (by decide +kernel) (by decide) q907 x950 hce hcv hcl ?_
  refine W.widen (k := 1) (n := 6) (Nat.le_of_ble_eq_true rfl) (Nat.le_of_ble_eq_true rfl) ?_
  refine W.eq (g2 := F0 m 19 ls [.ref q9]) rfl ?_
  refine lv_astore (lv' := [(5, .ref q9), (0, .ref a0), (1, .int (102)), (2, .int s2), (3, .int s3), (4, .ref a1)]) hx hb dL_step_19 hl (by decide) rfl (fun ls hl => ?_)
  refine lv_iconst (v := (2)) hx hb dL_step_21 (by decide +kernel) ?_
  refine W.widen (k := 1) (n := 6) (Nat.le_of_ble_eq_true rfl) (Nat.le_of_ble_eq_true rfl) ?_
  exact W.iret hx hb hr (n_end0 hS (fun _ => 0) rfl rfl) hS.2.2 dL_step_22 hlk

set_option maxHeartbeats 4000000 in
set_option maxRecDepth 100000 in
/-- MinestrataModel.in -/
theorem m145 (l : Launch) (hst : l.stackTraces = false) (dC : Nat → ClassId) (dI : Nat → Nat → Nat) (g : Nat → Nat) (s3 : Int32) (e0 : ¬ (s3 < (-50))) (e1 : ¬ ((50) < s3)) (sz : Nat) :
    Met l Y22 (Cond.code Y22 prog_14_method_3_code 3 (Option.some Jvm.ClassFile.FieldType.boolean) :: AW) ({ frames := 0, cells := 0, slots := 0, locals := 0 } : Room) (nP dC dI g [.int s3, .int (-50), .int (50)] [] sz) (nQ dC dI (fun f => some (.int (1))) (fun f r => []) (va_A [] sz)) 0 0 (va_A [] sz) := by
  refine n_met (by decide +kernel) (Nat.le_of_ble_eq_true rfl) (fun f => some (.int (1))) (fun f r => []) ?_
  intro p e s m below meth c A ls ⟨hx, hb, hr, hml, hown, hts, hlk, hnm⟩ hE hP hD hA hl
  have hown : s.vm.findClass "MinestrataModel" = some m.cls := hown
  have hK := hE.1
  have hS : va_S A s.heap s.heap [] := va_S.rf
  have hl : lv_has ls 3 [(0, .int s3), (1, .int (-50)), (2, .int (50))] := hl
  refine lv_iload_n hx hb dX16_in_0 rfl (lv_at hl 0 rfl) ?_
  refine lv_iload_n hx hb dX16_in_1 rfl (lv_at hl 1 rfl) ?_
  refine lv_icmp_lt (tgt := 14) hx hb dX16_in_2 (by decide +kernel) (fun h => absurd h e0) (fun _ => ?_)
  refine lv_iload_n hx hb dX16_in_5 rfl (lv_at hl 0 rfl) ?_
  refine lv_iload_n hx hb dX16_in_6 rfl (lv_at hl 2 rfl) ?_
  refine lv_icmp_gt (tgt := 14) hx hb dX16_in_7 (by decide +kernel) (fun h => absurd h e1) (fun _ => ?_)
  refine lv_iconst (v := (1)) hx hb dX16_in_10 (by decide +kernel) ?_
  refine lv_goto (tgt := 15) hx hb dX16_in_11 (by decide +kernel) ?_
  refine W.widen (k := 0) (n := 0) (Nat.le_of_ble_eq_true rfl) (Nat.le_of_ble_eq_true rfl) ?_
  exact W.zret hx hb hr (by decide +kernel) (n_end hS hP hD [] (by decide +kernel) (fun _ => 0) (fun _ => 0) rfl rfl rfl) hS.2.2 dX16_in_15 hlk

set_option maxHeartbeats 4000000 in
set_option maxRecDepth 100000 in
/-- MinestrataModel.isValue -/
theorem m146 (l : Launch) (hst : l.stackTraces = false) (dC : Nat → ClassId) (dI : Nat → Nat → Nat) (g : Nat → Nat) (s3 : Int32) (e0 : ¬ (s3 < (-50))) (e1 : ¬ ((50) < s3)) (sz : Nat) :
    Met l Y51 (Cond.code Y51 prog_14_method_37_code 2 (Option.some Jvm.ClassFile.FieldType.boolean) :: AW) ({ frames := 1, cells := 0, slots := 0, locals := 22 } : Room) (nP dC dI g [.int (102), .int s3] [] sz) (nQ dC dI (fun f => some (.int (1))) (fun f r => []) (va_A [] sz)) 0 0 (va_A [] sz) := by
  refine n_met (by decide +kernel) (Nat.le_of_ble_eq_true rfl) (fun f => some (.int (1))) (fun f r => []) ?_
  intro p e s m below meth c A ls ⟨hx, hb, hr, hml, hown, hts, hlk, hnm⟩ hE hP hD hA hl
  have hown : s.vm.findClass "MinestrataModel" = some m.cls := hown
  have hK := hE.1
  have hS : va_S A s.heap s.heap [] := va_S.rf
  have hl : lv_has ls 2 [(0, .int (102)), (1, .int s3)] := hl
  refine lv_iload_n hx hb dX16_isValue_0 rfl (lv_at hl 0 rfl) ?_
  refine lv_tableIn (tgt := 103) (off := 102) hx hb dX16_isValue_1 (by decide +kernel) (by decide +kernel) rfl (by decide +kernel) ?_
  refine lv_iload_n hx hb dX16_isValue_103 rfl (lv_at hl 1 rfl) ?_
  refine lv_bipush (v := (-50)) hx hb dX16_isValue_104 (by decide +kernel) ?_
  refine lv_bipush (v := (50)) hx hb dX16_isValue_106 (by decide +kernel) ?_
  have hX : nCx p s m _ c prog_14_method_37_code 2 "MinestrataModel" dC dI g A [] _ _ := ⟨⟨hx, hb, hml, hown, hts⟩, hE, hS, hA, hP, hD⟩
  refine n_call (wr := []) hX (n_runS (n := 3) (wc := []) (As := [.int s3, .int (-50), .int (50)]) (rest := []) hX (m145 l hst dC dI g s3 e0 e1 _) [] rfl (by decide +kernel) q1503 q1504 q82 q1505 (by decide +kernel) ⟨(Nat.le_of_ble_eq_true rfl), (Nat.le_of_ble_eq_true rfl)⟩ ⟨(Nat.le_of_ble_eq_true rfl), (Nat.le_of_ble_eq_true rfl)⟩ hl.1 rfl rfl (Nat.le_of_ble_eq_true rfl) dX16_isValue_108) [] [] rfl rfl (by decide +kernel) (by decide +kernel) (fun f1 r2 H locs hP hD hS => ?_)
  have hP : va_P (dC, dI) CL [] _ := hP
  have hD : va_D A [] := hD
  refine W.widen (k := 0) (n := 0) (Nat.le_of_ble_eq_true rfl) (Nat.le_of_ble_eq_true rfl) ?_
  refine W.eq (g2 := F0 m 111 ls [.int (1)]) rfl ?_
  refine W.widen (k := 0) (n := 0) (Nat.le_of_ble_eq_true rfl) (Nat.le_of_ble_eq_true rfl) ?_
  exact W.zret hx hb hr (by decide +kernel) (n_end hS hP hD [] (by decide +kernel) (fun _ => 0) (fun _ => 0) rfl rfl rfl) hS.2.2 dX16_isValue_111 hlk

set_option maxHeartbeats 4000000 in
set_option maxRecDepth 100000 in
/-- MinestrataModel.isThere -/
theorem m147 (l : Launch) (hst : l.stackTraces = false) (dC : Nat → ClassId) (dI : Nat → Nat → Nat) (g : Nat → Nat) (a0 a1 a2 a3 a4 a5 a6 a7 a8 a9 a10 a11 a12 : Nat) (s2 : Int32) (sz : Nat) :
    Met l Y54 (Cond.code Y54 prog_14_method_38_code 3 (Option.some Jvm.ClassFile.FieldType.boolean) :: AW) ({ frames := 1, cells := 0, slots := 0, locals := 22 } : Room) (nP dC dI g [.ref a0, .int (102), .int s2] [(a0, .inr (15, [.int (0), .int (0), .int (100), .int (0), .int (0), .ref a1, .ref a2, .ref a3, .ref a4, .ref a5, .ref a6, .ref a7, .ref a8, .ref a9, .ref a10, .ref a11, .null, .int (-1), .ref a12, .long (0)])), (a8, .inr (1, [.int (0), .ref (g 21), .int (0)]))] sz) (nQ dC dI (fun f => some (.int (0))) (fun f r => [(a0, .inr (15, [.int (0), .int (0), .int (100), .int (0), .int (0), .ref a1, .ref a2, .ref a3, .ref a4, .ref a5, .ref a6, .ref a7, .ref a8, .ref a9, .ref a10, .ref a11, .null, .int (-1), .ref a12, .long (0)])), (a8, .inr (1, [.int (0), .ref (g 21), .int (0)]))]) (va_A [(a0, .inr (15, [.int (0), .int (0), .int (100), .int (0), .int (0), .ref a1, .ref a2, .ref a3, .ref a4, .ref a5, .ref a6, .ref a7, .ref a8, .ref a9, .ref a10, .ref a11, .null, .int (-1), .ref a12, .long (0)])), (a8, .inr (1, [.int (0), .ref (g 21), .int (0)]))] sz)) 0 0 (va_A [(a0, .inr (15, [.int (0), .int (0), .int (100), .int (0), .int (0), .ref a1, .ref a2, .ref a3, .ref a4, .ref a5, .ref a6, .ref a7, .ref a8, .ref a9, .ref a10, .ref a11, .null, .int (-1), .ref a12, .long (0)])), (a8, .inr (1, [.int (0), .ref (g 21), .int (0)]))] sz) := by
  refine n_met (by decide +kernel) (Nat.le_of_ble_eq_true rfl) (fun f => some (.int (0))) (fun f r => [(a0, .inr (15, [.int (0), .int (0), .int (100), .int (0), .int (0), .ref a1, .ref a2, .ref a3, .ref a4, .ref a5, .ref a6, .ref a7, .ref a8, .ref a9, .ref a10, .ref a11, .null, .int (-1), .ref a12, .long (0)])), (a8, .inr (1, [.int (0), .ref (g 21), .int (0)]))]) ?_
  intro p e s m below meth c A ls ⟨hx, hb, hr, hml, hown, hts, hlk, hnm⟩ hE hP hD hA hl
  have hown : s.vm.findClass "MinestrataModel" = some m.cls := hown
  have hK := hE.1
  have hS : va_S A s.heap s.heap [] := va_S.rf
  have hl : lv_has ls 3 [(0, .ref a0), (1, .int (102)), (2, .int s2)] := hl
  refine lv_iload_n hx hb dX16_isThere_0 rfl (lv_at hl 1 rfl) ?_
  refine lv_bipush (v := (100)) hx hb dX16_isThere_1 (by decide +kernel) ?_
  refine lv_icmp_eq (tgt := 18) hx hb dX16_isThere_3 (by decide +kernel) (fun h => absurd h (by decide +kernel)) (fun _ => ?_)
  refine lv_iload_n hx hb dX16_isThere_6 rfl (lv_at hl 1 rfl) ?_
  refine lv_bipush (v := (102)) hx hb dX16_isThere_7 (by decide +kernel) ?_
  refine lv_icmp_eq (tgt := 18) hx hb dX16_isThere_9 (by decide +kernel) (fun _ => ?_) (fun h => absurd (by decide +kernel) h)
  refine lv_iload_n hx hb dX16_isThere_18 rfl (lv_at hl 2 rfl) ?_
  refine lv_iconst (v := (0)) hx hb dX16_isThere_19 (by decide +kernel) ?_
  refine lv_aload_n hx hb dX16_isThere_20 rfl (lv_at hl 0 rfl) ?_
  refine va_get (D := (dC, dI)) (ci := 15) (v := .ref a8) (C := "MinestrataModel") (T := TX16) (N := 20) hx hb hts inX16 hown hK hP 0 rfl rfl 12 (by decide) (hts _ q1445) (fun _ h9 => h9) rfl dX16_isThere_21 ?_
  have hX : nCx p s m _ c prog_14_method_38_code 3 "MinestrataModel" dC dI g A [(a0, .inr (15, [.int (0), .int (0), .int (100), .int (0), .int (0), .ref a1, .ref a2, .ref a3, .ref a4, .ref a5, .ref a6, .ref a7, .ref a8, .ref a9, .ref a10, .ref a11, .null, .int (-1), .ref a12, .long (0)])), (a8, .inr (1, [.int (0), .ref (g 21), .int (0)]))] _ _ := ⟨⟨hx, hb, hml, hown, hts⟩, hE, hS, hA, hP, hD⟩
  refine n_call (wr := [(a0, .inr (15, [.int (0), .int (0), .int (100), .int (0), .int (0), .ref a1, .ref a2, .ref a3, .ref a4, .ref a5, .ref a6, .ref a7, .ref a8, .ref a9, .ref a10, .ref a11, .null, .int (-1), .ref a12, .long (0)]))]) hX (n_runV (n := 0) (wc := [(a8, .inr (1, [.int (0), .ref (g 21), .int (0)]))]) (As := []) (rest := [.int (0), .int s2]) hX (m60 l hst dC dI g a8 _) [1] rfl (by decide +kernel) 1 (ci := 1) rfl (T := TJx4a65c) (N := 3) (C := "java/util/ArrayList") rfl q1522 q1523 q1524 q85 q1525 (by decide +kernel) ⟨(Nat.le_of_ble_eq_true rfl), (Nat.le_of_ble_eq_true rfl)⟩ ⟨(Nat.le_of_ble_eq_true rfl), (Nat.le_of_ble_eq_true rfl)⟩ hl.1 rfl rfl (Nat.le_of_ble_eq_true rfl) dX16_isThere_24) [1] [0] rfl rfl (by decide +kernel) (by decide +kernel) (fun f1 r2 H locs hP hD hS => ?_)
  have hP : va_P (dC, dI) CL [(a0, .inr (15, [.int (0), .int (0), .int (100), .int (0), .int (0), .ref a1, .ref a2, .ref a3, .ref a4, .ref a5, .ref a6, .ref a7, .ref a8, .ref a9, .ref a10, .ref a11, .null, .int (-1), .ref a12, .long (0)])), (a8, .inr (1, [.int (0), .ref (g 21), .int (0)]))] _ := hP
  have hD : va_D A [(a0, .inr (15, [.int (0), .int (0), .int (100), .int (0), .int (0), .ref a1, .ref a2, .ref a3, .ref a4, .ref a5, .ref a6, .ref a7, .ref a8, .ref a9, .ref a10, .ref a11, .null, .int (-1), .ref a12, .long (0)])), (a8, .inr (1, [.int (0), .ref (g 21), .int (0)]))] := hD
  refine W.widen (k := 0) (n := 0) (Nat.le_of_ble_eq_true rfl) (Nat.le_of_ble_eq_true rfl) ?_
  refine W.eq (g2 := F0 m 27 ls [.int (0), .int (0), .int s2]) rfl ?_
  refine lv_iconst (v := (1)) hx hb dX16_isThere_27 (by decide +kernel) ?_
  refine lv_isub hx hb dX16_isThere_28 ?_
  refine nt_i (v := (-1)) (by decide +kernel) ?_
  have hX : nCx p s m _ c prog_14_method_38_code 3 "MinestrataModel" dC dI g A [(a0, .inr (15, [.int (0), .int (0), .int (100), .int (0), .int (0), .ref a1, .ref a2, .ref a3, .ref a4, .ref a5, .ref a6, .ref a7, .ref a8, .ref a9, .ref a10, .ref a11, .null, .int (-1), .ref a12, .long (0)])), (a8, .inr (1, [.int (0), .ref (g 21), .int (0)]))] _ _ := ⟨⟨hx, hb, hml, hown, hts⟩, hE, hS, hA, hP, hD⟩
  refine n_call (wr := [(a0, .inr (15, [.int (0), .int (0), .int (100), .int (0), .int (0), .ref a1, .ref a2, .ref a3, .ref a4, .ref a5, .ref a6, .ref a7, .ref a8, .ref a9, .ref a10, .ref a11, .null, .int (-1), .ref a12, .long (0)])), (a8, .inr (1, [.int (0), .ref (g 21), .int (0)]))]) hX (n_runS (n := 3) (wc := []) (As := [.int s2, .int (0), .int (-1)]) (rest := []) hX (m105 l hst dC dI g s2 _) [] rfl (by decide +kernel) q1503 q1504 q82 q1505 (by decide +kernel) ⟨(Nat.le_of_ble_eq_true rfl), (Nat.le_of_ble_eq_true rfl)⟩ ⟨(Nat.le_of_ble_eq_true rfl), (Nat.le_of_ble_eq_true rfl)⟩ hl.1 rfl rfl (Nat.le_of_ble_eq_true rfl) dX16_isThere_29) [] [0, 1] rfl rfl (by decide +kernel) (by decide +kernel) (fun f3 r4 H locs hP hD hS => ?_)
  have hP : va_P (dC, dI) CL [(a0, .inr (15, [.int (0), .int (0), .int (100), .int (0), .int (0), .ref a1, .ref a2, .ref a3, .ref a4, .ref a5, .ref a6, .ref a7, .ref a8, .ref a9, .ref a10, .ref a11, .null, .int (-1), .ref a12, .long (0)])), (a8, .inr (1, [.int (0), .ref (g 21), .int (0)]))] _ := hP
  have hD : va_D A [(a0, .inr (15, [.int (0), .int (0), .int (100), .int (0), .int (0), .ref a1, .ref a2, .ref a3, .ref a4, .ref a5, .ref a6, .ref a7, .ref a8, .ref a9, .ref a10, .ref a11, .null, .int (-1), .ref a12, .long (0)])), (a8, .inr (1, [.int (0), .ref (g 21), .int (0)]))] := hD
  refine W.widen (k := 0) (n := 0) (Nat.le_of_ble_eq_true rfl) (Nat.le_of_ble_eq_true rfl) ?_
  refine W.eq (g2 := F0 m 32 ls [.int (0)]) rfl ?_
  refine lv_goto (tgt := 60) hx hb dX16_isThere_32 (by decide +kernel) ?_
  refine W.widen (k := 0) (n := 0) (Nat.le_of_ble_eq_true rfl) (Nat.le_of_ble_eq_true rfl) ?_
  exact W.zret hx hb hr (by decide +kernel) (n_end hS hP hD [0, 1] (by decide +kernel) (fun _ => 0) (fun _ => 0) rfl rfl rfl) hS.2.2 dX16_isThere_60 hlk

set_option maxHeartbeats 4000000 in
set_option maxRecDepth 100000 in
/-- MinestrataModel.step -/
theorem m148 (l : Launch) (hst : l.stackTraces = false) (dC : Nat → ClassId) (dI : Nat → Nat → Nat) (g : Nat → Nat) (a0 a1 a2 a3 a4 a5 a6 a7 a8 a9 a10 a11 a12 : Nat) (s2 s3 : Int32) (e0 : ¬ (s3 < (-50))) (e1 : ¬ ((50) < s3)) (sz : Nat) :
    Met l Y50 (Cond.code Y50 prog_14_method_41_code 9 (Option.some Jvm.ClassFile.FieldType.char) :: AW) ({ frames := 2, cells := 0, slots := 0, locals := 44 } : Room) (nP dC dI g [.ref a0, .int (102), .int s2, .int s3] [(a0, .inr (15, [.int (0), .int (0), .int (100), .int (0), .int (0), .ref a1, .ref a2, .ref a3, .ref a4, .ref a5, .ref a6, .ref a7, .ref a8, .ref a9, .ref a10, .ref a11, .null, .int (-1), .ref a12, .long (0)])), (a8, .inr (1, [.int (0), .ref (g 21), .int (0)]))] sz) (nQ dC dI (fun f => some (.int (32))) (fun f r => [(a0, .inr (15, [.int (2), .int (0), .int (100), .int (0), .int (0), .ref a1, .ref a2, .ref a3, .ref a4, .ref a5, .ref a6, .ref a7, .ref a8, .ref a9, .ref a10, .ref a11, .null, .int (-1), .ref a12, .long (0)])), (a8, .inr (1, [.int (0), .ref (g 21), .int (0)]))]) (va_A [(a0, .inr (15, [.int (0), .int (0), .int (100), .int (0), .int (0), .ref a1, .ref a2, .ref a3, .ref a4, .ref a5, .ref a6, .ref a7, .ref a8, .ref a9, .ref a10, .ref a11, .null, .int (-1), .ref a12, .long (0)])), (a8, .inr (1, [.int (0), .ref (g 21), .int (0)]))] sz)) 0 0 (va_A [(a0, .inr (15, [.int (0), .int (0), .int (100), .int (0), .int (0), .ref a1, .ref a2, .ref a3, .ref a4, .ref a5, .ref a6, .ref a7, .ref a8, .ref a9, .ref a10, .ref a11, .null, .int (-1), .ref a12, .long (0)])), (a8, .inr (1, [.int (0), .ref (g 21), .int (0)]))] sz) := by
  refine n_met (by decide +kernel) (Nat.le_of_ble_eq_true rfl) (fun f => some (.int (32))) (fun f r => [(a0, .inr (15, [.int (2), .int (0), .int (100), .int (0), .int (0), .ref a1, .ref a2, .ref a3, .ref a4, .ref a5, .ref a6, .ref a7, .ref a8, .ref a9, .ref a10, .ref a11, .null, .int (-1), .ref a12, .long (0)])), (a8, .inr (1, [.int (0), .ref (g 21), .int (0)]))]) ?_
  intro p e s m below meth c A ls ⟨hx, hb, hr, hml, hown, hts, hlk, hnm⟩ hE hP hD hA hl
  have hown : s.vm.findClass "MinestrataModel" = some m.cls := hown
  have hK := hE.1
  have hS : va_S A s.heap s.heap [] := va_S.rf
  have hl : lv_has ls 9 [(0, .ref a0), (1, .int (102)), (2, .int s2), (3, .int s3)] := hl
  refine lv_aload_n hx hb dX16_step_0 rfl (lv_at hl 0 rfl) ?_
  refine lv_iload_n hx hb dX16_step_1 rfl (lv_at hl 1 rfl) ?_
  refine lv_iload_n hx hb dX16_step_2 rfl (lv_at hl 3 rfl) ?_
  have hX : nCx p s m _ c prog_14_method_41_code 9 "MinestrataModel" dC dI g A [(a0, .inr (15, [.int (0), .int (0), .int (100), .int (0), .int (0), .ref a1, .ref a2, .ref a3, .ref a4, .ref a5, .ref a6, .ref a7, .ref a8, .ref a9, .ref a10, .ref a11, .null, .int (-1), .ref a12, .long (0)])), (a8, .inr (1, [.int (0), .ref (g 21), .int (0)]))] _ _ := ⟨⟨hx, hb, hml, hown, hts⟩, hE, hS, hA, hP, hD⟩
  refine n_call (wr := [(a0, .inr (15, [.int (0), .int (0), .int (100), .int (0), .int (0), .ref a1, .ref a2, .ref a3, .ref a4, .ref a5, .ref a6, .ref a7, .ref a8, .ref a9, .ref a10, .ref a11, .null, .int (-1), .ref a12, .long (0)])), (a8, .inr (1, [.int (0), .ref (g 21), .int (0)]))]) hX (n_runS (n := 2) (wc := []) (As := [.int (102), .int s3]) (rest := [.ref a0]) hX (m146 l hst dC dI g s3 e0 e1 _) [] rfl (by decide +kernel) q2107 q2108 q82 q2109 (by decide +kernel) ⟨(Nat.le_of_ble_eq_true rfl), (Nat.le_of_ble_eq_true rfl)⟩ ⟨(Nat.le_of_ble_eq_true rfl), (Nat.le_of_ble_eq_true rfl)⟩ hl.1 rfl rfl (Nat.le_of_ble_eq_true rfl) dX16_step_3) [] [0, 1] rfl rfl (by decide +kernel) (by decide +kernel) (fun f1 r2 H locs hP hD hS => ?_)
  have hP : va_P (dC, dI) CL [(a0, .inr (15, [.int (0), .int (0), .int (100), .int (0), .int (0), .ref a1, .ref a2, .ref a3, .ref a4, .ref a5, .ref a6, .ref a7, .ref a8, .ref a9, .ref a10, .ref a11, .null, .int (-1), .ref a12, .long (0)])), (a8, .inr (1, [.int (0), .ref (g 21), .int (0)]))] _ := hP
  have hD : va_D A [(a0, .inr (15, [.int (0), .int (0), .int (100), .int (0), .int (0), .ref a1, .ref a2, .ref a3, .ref a4, .ref a5, .ref a6, .ref a7, .ref a8, .ref a9, .ref a10, .ref a11, .null, .int (-1), .ref a12, .long (0)])), (a8, .inr (1, [.int (0), .ref (g 21), .int (0)]))] := hD
  refine W.widen (k := 0) (n := 0) (Nat.le_of_ble_eq_true rfl) (Nat.le_of_ble_eq_true rfl) ?_
  refine W.eq (g2 := F0 m 6 ls [.int (1), .ref a0]) rfl ?_
  refine lv_if_ne (tgt := 13) hx hb dX16_step_6 (by decide +kernel) (fun _ => ?_) (fun h => absurd h (by decide +kernel))
  refine lv_aload_n hx hb dX16_step_13 rfl (lv_at hl 0 rfl) ?_
  refine lv_iload_n hx hb dX16_step_14 rfl (lv_at hl 1 rfl) ?_
  refine lv_iload_n hx hb dX16_step_15 rfl (lv_at hl 2 rfl) ?_
  have hX : nCx p s m _ c prog_14_method_41_code 9 "MinestrataModel" dC dI g A [(a0, .inr (15, [.int (0), .int (0), .int (100), .int (0), .int (0), .ref a1, .ref a2, .ref a3, .ref a4, .ref a5, .ref a6, .ref a7, .ref a8, .ref a9, .ref a10, .ref a11, .null, .int (-1), .ref a12, .long (0)])), (a8, .inr (1, [.int (0), .ref (g 21), .int (0)]))] _ _ := ⟨⟨hx, hb, hml, hown, hts⟩, hE, hS, hA, hP, hD⟩
  refine n_call (wr := []) hX (n_runV (n := 2) (wc := [(a0, .inr (15, [.int (0), .int (0), .int (100), .int (0), .int (0), .ref a1, .ref a2, .ref a3, .ref a4, .ref a5, .ref a6, .ref a7, .ref a8, .ref a9, .ref a10, .ref a11, .null, .int (-1), .ref a12, .long (0)])), (a8, .inr (1, [.int (0), .ref (g 21), .int (0)]))]) (As := [.int (102), .int s2]) (rest := [.ref a0]) hX (m147 l hst dC dI g a0 a1 a2 a3 a4 a5 a6 a7 a8 a9 a10 a11 a12 s2 _) [0, 1] rfl (by decide +kernel) 0 (ci := 15) rfl (T := TX16) (N := 20) (C := "MinestrataModel") rfl q2110 q2112 q63 q82 q2113 (by decide +kernel) ⟨(Nat.le_of_ble_eq_true rfl), (Nat.le_of_ble_eq_true rfl)⟩ ⟨(Nat.le_of_ble_eq_true rfl), (Nat.le_of_ble_eq_true rfl)⟩ hl.1 rfl rfl (Nat.le_of_ble_eq_true rfl) dX16_step_16) [0, 1] [] rfl rfl (by decide +kernel) (by decide +kernel) (fun f3 r4 H locs hP hD hS => ?_)
  have hP : va_P (dC, dI) CL [(a0, .inr (15, [.int (0), .int (0), .int (100), .int (0), .int (0), .ref a1, .ref a2, .ref a3, .ref a4, .ref a5, .ref a6, .ref a7, .ref a8, .ref a9, .ref a10, .ref a11, .null, .int (-1), .ref a12, .long (0)])), (a8, .inr (1, [.int (0), .ref (g 21), .int (0)]))] _ := hP
  have hD : va_D A [(a0, .inr (15, [.int (0), .int (0), .int (100), .int (0), .int (0), .ref a1, .ref a2, .ref a3, .ref a4, .ref a5, .ref a6, .ref a7, .ref a8, .ref a9, .ref a10, .ref a11, .null, .int (-1), .ref a12, .long (0)])), (a8, .inr (1, [.int (0), .ref (g 21), .int (0)]))] := hD
  refine W.widen (k := 0) (n := 0) (Nat.le_of_ble_eq_true rfl) (Nat.le_of_ble_eq_true rfl) ?_
  refine W.eq (g2 := F0 m 19 ls [.int (0), .ref a0]) rfl ?_
  refine lv_if_ne (tgt := 26) hx hb dX16_step_19 (by decide +kernel) (fun h => absurd (by decide +kernel) h) (fun _ => ?_)
  refine lv_iconst (v := (2)) hx hb dX16_step_22 (by decide +kernel) ?_
  refine lv_goto (tgt := 41) hx hb dX16_step_23 (by decide +kernel) ?_
  refine va_put (D := (dC, dI)) (ci := 15) (v := .int (2)) (ty := .int) (C := "MinestrataModel") (T := TX16) (N := 20) hx hb hts inX16 tyX16 tyX16_ok nmX16 hown hK hP hD hS 0 rfl rfl 0 (by decide) (hts _ q1427) (fun _ h9 => h9) rfl (by decide +kernel) rfl rfl (Nat.le_of_ble_eq_true rfl) dX16_step_41 (fun H locs hP hD hS => ?_)
  have hP : va_P (dC, dI) CL [(a0, .inr (15, [.int (2), .int (0), .int (100), .int (0), .int (0), .ref a1, .ref a2, .ref a3, .ref a4, .ref a5, .ref a6, .ref a7, .ref a8, .ref a9, .ref a10, .ref a11, .null, .int (-1), .ref a12, .long (0)])), (a8, .inr (1, [.int (0), .ref (g 21), .int (0)]))] _ := hP
  have hD : va_D A [(a0, .inr (15, [.int (2), .int (0), .int (100), .int (0), .int (0), .ref a1, .ref a2, .ref a3, .ref a4, .ref a5, .ref a6, .ref a7, .ref a8, .ref a9, .ref a10, .ref a11, .null, .int (-1), .ref a12, .long (0)])), (a8, .inr (1, [.int (0), .ref (g 21), .int (0)]))] := hD
  refine lv_aload_n hx hb dX16_step_44 rfl (lv_at hl 0 rfl) ?_
  refine va_get (D := (dC, dI)) (ci := 15) (v := .int (2)) (C := "MinestrataModel") (T := TX16) (N := 20) hx hb hts inX16 hown hK hP 0 rfl rfl 0 (by decide) (hts _ q1427) (fun _ h9 => h9) rfl dX16_step_45 ?_
  refine lv_if_le (tgt := 54) hx hb dX16_step_48 (by decide +kernel) (fun h => absurd h (by decide +kernel)) (fun _ => ?_)
  refine lv_bipush (v := (32)) hx hb dX16_step_51 (by decide +kernel) ?_
  refine W.widen (k := 0) (n := 0) (Nat.le_of_ble_eq_true rfl) (Nat.le_of_ble_eq_true rfl) ?_
  exact W.zret hx hb hr (by decide +kernel) (n_end hS hP hD [0, 1] (by decide +kernel) (fun _ => 0) (fun _ => 0) rfl rfl rfl) hS.2.2 dX16_step_53 hlk

set_option maxHeartbeats 4000000 in
set_option maxRecDepth 100000 in
/-- Minestrata.isStepValue -/
theorem m149 (l : Launch) (hst : l.stackTraces = false) (dC : Nat → ClassId) (dI : Nat → Nat → Nat) (g : Nat → Nat) (s3 : Int32) (e0 : s3 < (-50)) (sz : Nat) :
    Met l Y49 (Cond.code Y49 prog_1_method_44_code 2 (Option.some Jvm.ClassFile.FieldType.boolean) :: AW) ({ frames := 1, cells := 0, slots := 0, locals := 22 } : Room) (nP dC dI g [.int (110), .int s3] [] sz) (nQ dC dI (fun f => some (.int (0))) (fun f r => []) (va_A [] sz)) 0 0 (va_A [] sz) := by
  refine n_met (by decide +kernel) (Nat.le_of_ble_eq_true rfl) (fun f => some (.int (0))) (fun f r => []) ?_
  intro p e s m below meth c A ls ⟨hx, hb, hr, hml, hown, hts, hlk, hnm⟩ hE hP hD hA hl
  have hown : s.vm.findClass "Minestrata" = some m.cls := hown
  have hK := hE.1
  have hS : va_S A s.heap s.heap [] := va_S.rf
  have hl : lv_has ls 2 [(0, .int (110)), (1, .int s3)] := hl
  refine lv_iload_n hx hb dX11_isStepValue_0 rfl (lv_at hl 0 rfl) ?_
  refine lv_bipush (v := (100)) hx hb dX11_isStepValue_1 (by decide +kernel) ?_
  refine lv_icmp_eq (tgt := 12) hx hb dX11_isStepValue_3 (by decide +kernel) (fun h => absurd h (by decide +kernel)) (fun _ => ?_)
  refine lv_iload_n hx hb dX11_isStepValue_6 rfl (lv_at hl 0 rfl) ?_
  refine lv_bipush (v := (98)) hx hb dX11_isStepValue_7 (by decide +kernel) ?_
  refine lv_icmp_ne (tgt := 19) hx hb dX11_isStepValue_9 (by decide +kernel) (fun _ => ?_) (fun h => absurd h (by decide +kernel))
  refine lv_iload_n hx hb dX11_isStepValue_19 rfl (lv_at hl 0 rfl) ?_
  refine lv_bipush (v := (102)) hx hb dX11_isStepValue_20 (by decide +kernel) ?_
  refine lv_icmp_eq (tgt := 31) hx hb dX11_isStepValue_22 (by decide +kernel) (fun h => absurd h (by decide +kernel)) (fun _ => ?_)
  refine lv_iload_n hx hb dX11_isStepValue_25 rfl (lv_at hl 0 rfl) ?_
  refine lv_bipush (v := (110)) hx hb dX11_isStepValue_26 (by decide +kernel) ?_
  refine lv_icmp_ne (tgt := 40) hx hb dX11_isStepValue_28 (by decide +kernel) (fun h => absurd (by decide +kernel) h) (fun _ => ?_)
  refine lv_iload_n hx hb dX11_isStepValue_31 rfl (lv_at hl 1 rfl) ?_
  refine lv_bipush (v := (-50)) hx hb dX11_isStepValue_32 (by decide +kernel) ?_
  refine lv_bipush (v := (50)) hx hb dX11_isStepValue_34 (by decide +kernel) ?_
  have hX : nCx p s m _ c prog_1_method_44_code 2 "Minestrata" dC dI g A [] _ _ := ⟨⟨hx, hb, hml, hown, hts⟩, hE, hS, hA, hP, hD⟩
  refine n_call (wr := []) hX (n_runS (n := 3) (wc := []) (As := [.int s3, .int (-50), .int (50)]) (rest := []) hX (m126 l hst dC dI g s3 e0 _) [] rfl (by decide +kernel) q814 q815 q71 q816 (by decide +kernel) ⟨(Nat.le_of_ble_eq_true rfl), (Nat.le_of_ble_eq_true rfl)⟩ ⟨(Nat.le_of_ble_eq_true rfl), (Nat.le_of_ble_eq_true rfl)⟩ hl.1 rfl rfl (Nat.le_of_ble_eq_true rfl) dX11_isStepValue_36) [] [] rfl rfl (by decide +kernel) (by decide +kernel) (fun f1 r2 H locs hP hD hS => ?_)
  have hP : va_P (dC, dI) CL [] _ := hP
  have hD : va_D A [] := hD
  refine W.widen (k := 0) (n := 0) (Nat.le_of_ble_eq_true rfl) (Nat.le_of_ble_eq_true rfl) ?_
  refine W.eq (g2 := F0 m 39 ls [.int (0)]) rfl ?_
  refine W.widen (k := 0) (n := 0) (Nat.le_of_ble_eq_true rfl) (Nat.le_of_ble_eq_true rfl) ?_
  exact W.zret hx hb hr (by decide +kernel) (n_end hS hP hD [] (by decide +kernel) (fun _ => 0) (fun _ => 0) rfl rfl rfl) hS.2.2 dX11_isStepValue_39 hlk

set_option maxHeartbeats 4000000 in
set_option maxRecDepth 100000 in
/-- Minestrata.step -/
theorem m150 (l : Launch) (hst : l.stackTraces = false) (dC : Nat → ClassId) (dI : Nat → Nat → Nat) (g : Nat → Nat) (a0 a1 a2 a3 a4 a5 a6 a7 a8 a9 a10 a11 a12 a13 a14 a15 a16 a17 a18 a19 a20 a21 a22 a23 a24 a25 a26 a27 a28 a29 a30 : Nat) (s2 s3 : Int32) (e0 : s3 < (-50)) (sz : Nat) :
    vx_Met l Y48 (Cond.code Y48 prog_1_method_9_code 5 (Option.some Jvm.ClassFile.FieldType.char) :: AW) ({ frames := 6, cells := 1, slots := 6, locals := 81 } : Room) (nP dC dI g [.ref a0, .int (110), .int s2, .int s3] [(a0, .inr (12, [.ref a1, .ref a2, .ref a3, .ref a4, .ref a5, .ref a6, .ref a7, .ref a8, .null, .ref a9, .ref a10, .int (0), .int (100), .int (0), .int (0), .int (-1), .long (0), .int (1)])), (a1, .inr (8, [.int (0), .ref a11, .ref a12, .ref a13, .ref a14, .int (0), .ref a15, .ref a16, .ref a17, .ref a18, .ref a19, .ref a20, .ref a21])), (a3, .inr (11, [.int (0), .ref a22, .ref a23, .ref a24, .ref a25, .ref a26, .ref a27, .ref a28, .ref a29, .ref a30]))] sz) (fun _ _ _ _ => False) (nX "java/lang/IllegalArgumentException" (va_A [(a0, .inr (12, [.ref a1, .ref a2, .ref a3, .ref a4, .ref a5, .ref a6, .ref a7, .ref a8, .null, .ref a9, .ref a10, .int (0), .int (100), .int (0), .int (0), .int (-1), .long (0), .int (1)])), (a1, .inr (8, [.int (0), .ref a11, .ref a12, .ref a13, .ref a14, .int (0), .ref a15, .ref a16, .ref a17, .ref a18, .ref a19, .ref a20, .ref a21])), (a3, .inr (11, [.int (0), .ref a22, .ref a23, .ref a24, .ref a25, .ref a26, .ref a27, .ref a28, .ref a29, .ref a30]))] sz)) 1 6 (va_A [(a0, .inr (12, [.ref a1, .ref a2, .ref a3, .ref a4, .ref a5, .ref a6, .ref a7, .ref a8, .null, .ref a9, .ref a10, .int (0), .int (100), .int (0), .int (0), .int (-1), .long (0), .int (1)])), (a1, .inr (8, [.int (0), .ref a11, .ref a12, .ref a13, .ref a14, .int (0), .ref a15, .ref a16, .ref a17, .ref a18, .ref a19, .ref a20, .ref a21])), (a3, .inr (11, [.int (0), .ref a22, .ref a23, .ref a24, .ref a25, .ref a26, .ref a27, .ref a28, .ref a29, .ref a30]))] sz) := by
  refine n_metX (by decide +kernel) (Nat.le_of_ble_eq_true rfl) "java/lang/IllegalArgumentException" ?_
  intro p e s m below meth c A ls ⟨hx, hb, hr, hml, hown, hts, hlk, hnm⟩ hout hE hP hD hA hl
  have hown : s.vm.findClass "Minestrata" = some m.cls := hown
  have hK := hE.1
  have hS : va_S A s.heap s.heap [] := va_S.rf
  have hl : lv_has ls 5 [(0, .ref a0), (1, .int (110)), (2, .int s2), (3, .int s3)] := hl
  have hlsz : ls.size = c.maxLocals := hl.1.trans hml.symm
  refine lv_iload_n hx hb dX11_step_0 rfl (lv_at hl 1 rfl) ?_
  refine lv_iload_n hx hb dX11_step_1 rfl (lv_at hl 3 rfl) ?_
  have hX : nCx p s m _ c prog_1_method_9_code 5 "Minestrata" dC dI g A [(a0, .inr (12, [.ref a1, .ref a2, .ref a3, .ref a4, .ref a5, .ref a6, .ref a7, .ref a8, .null, .ref a9, .ref a10, .int (0), .int (100), .int (0), .int (0), .int (-1), .long (0), .int (1)])), (a1, .inr (8, [.int (0), .ref a11, .ref a12, .ref a13, .ref a14, .int (0), .ref a15, .ref a16, .ref a17, .ref a18, .ref a19, .ref a20, .ref a21])), (a3, .inr (11, [.int (0), .ref a22, .ref a23, .ref a24, .ref a25, .ref a26, .ref a27, .ref a28, .ref a29, .ref a30]))] _ _ := ⟨⟨hx, hb, hml, hown, hts⟩, hE, hS, hA, hP, hD⟩
  refine n_call (wr := [(a0, .inr (12, [.ref a1, .ref a2, .ref a3, .ref a4, .ref a5, .ref a6, .ref a7, .ref a8, .null, .ref a9, .ref a10, .int (0), .int (100), .int (0), .int (0), .int (-1), .long (0), .int (1)])), (a1, .inr (8, [.int (0), .ref a11, .ref a12, .ref a13, .ref a14, .int (0), .ref a15, .ref a16, .ref a17, .ref a18, .ref a19, .ref a20, .ref a21])), (a3, .inr (11, [.int (0), .ref a22, .ref a23, .ref a24, .ref a25, .ref a26, .ref a27, .ref a28, .ref a29, .ref a30]))]) hX (n_runS (n := 2) (wc := []) (As := [.int (110), .int s3]) (rest := []) hX (m149 l hst dC dI g s3 e0 _) [] rfl (by decide +kernel) q1046 q1047 q71 q1048 (by decide +kernel) ⟨(Nat.le_of_ble_eq_true rfl), (Nat.le_of_ble_eq_true rfl)⟩ ⟨(Nat.le_of_ble_eq_true rfl), (Nat.le_of_ble_eq_true rfl)⟩ hl.1 rfl rfl (Nat.le_of_ble_eq_true rfl) dX11_step_2) [] [0, 1, 2] rfl rfl (by decide +kernel) (by decide +kernel) (fun f1 r2 H locs hP hD hS => ?_)
  have hP : va_P (dC, dI) CL [(a0, .inr (12, [.ref a1, .ref a2, .ref a3, .ref a4, .ref a5, .ref a6, .ref a7, .ref a8, .null, .ref a9, .ref a10, .int (0), .int (100), .int (0), .int (0), .int (-1), .long (0), .int (1)])), (a1, .inr (8, [.int (0), .ref a11, .ref a12, .ref a13, .ref a14, .int (0), .ref a15, .ref a16, .ref a17, .ref a18, .ref a19, .ref a20, .ref a21])), (a3, .inr (11, [.int (0), .ref a22, .ref a23, .ref a24, .ref a25, .ref a26, .ref a27, .ref a28, .ref a29, .ref a30]))] _ := hP
  have hD : va_D A [(a0, .inr (12, [.ref a1, .ref a2, .ref a3, .ref a4, .ref a5, .ref a6, .ref a7, .ref a8, .null, .ref a9, .ref a10, .int (0), .int (100), .int (0), .int (0), .int (-1), .long (0), .int (1)])), (a1, .inr (8, [.int (0), .ref a11, .ref a12, .ref a13, .ref a14, .int (0), .ref a15, .ref a16, .ref a17, .ref a18, .ref a19, .ref a20, .ref a21])), (a3, .inr (11, [.int (0), .ref a22, .ref a23, .ref a24, .ref a25, .ref a26, .ref a27, .ref a28, .ref a29, .ref a30]))] := hD
  refine W.widen (k := 0) (n := 0) (Nat.le_of_ble_eq_true rfl) (Nat.le_of_ble_eq_true rfl) ?_
  refine W.eq (g2 := F0 m 5 ls [.int (0)]) rfl ?_
  refine lv_if_ne (tgt := 16) hx hb dX11_step_5 (by decide +kernel) (fun h => absurd (by decide +kernel) h) (fun _ => ?_)
  exact n_throw hx hb hst hown hts hE hS (names := ["java/lang/RuntimeException", "java/lang/Exception"]) (by decide +kernel) (by decide +kernel) q817 q89 hat0p hat0a hat0 hat0g (hl.1.trans hml.symm) dX11_step_8 dX11_step_11 dX11_step_12 dX11_step_15 hout (Nat.le_of_ble_eq_true rfl) (Nat.le_of_ble_eq_true rfl) (Nat.le_of_ble_eq_true rfl) (Nat.le_of_ble_eq_true rfl) hlk (Nat.le_of_ble_eq_true rfl) (Nat.le_of_ble_eq_true rfl)

set_option maxHeartbeats 4000000 in
set_option maxRecDepth 100000 in
/-- MinestrataLaw.step -/
theorem m151 (l : Launch) (hst : l.stackTraces = false) (dC : Nat → ClassId) (dI : Nat → Nat → Nat) (g : Nat → Nat) (a0 a1 a2 a3 a4 a5 a6 a7 a8 a9 a10 a11 a12 a13 a14 a15 a16 a17 a18 a19 a20 a21 a22 a23 a24 a25 a26 a27 a28 a29 a30 a31 : Nat) (s2 s3 : Int32) (e0 : s3 < (-50)) (sz : Nat) :
    Met l Y47 (Cond.codeWith Y47 method_10_code 6 (Option.some Jvm.ClassFile.FieldType.int) [((0 : Nat), (12 : Nat), (15 : Nat), (13 : Nat)), ((0 : Nat), (12 : Nat), (19 : Nat), (21 : Nat)), ((0 : Nat), (12 : Nat), (23 : Nat), (47 : Nat))] :: AW) ({ frames := 7, cells := 1, slots := 6, locals := 105 } : Room) (nP dC dI g [.ref a0, .int (110), .int s2, .int s3, .ref a1] [(a0, .inr (12, [.ref a2, .ref a3, .ref a4, .ref a5, .ref a6, .ref a7, .ref a8, .ref a9, .null, .ref a10, .ref a11, .int (0), .int (100), .int (0), .int (0), .int (-1), .long (0), .int (1)])), (a2, .inr (8, [.int (0), .ref a12, .ref a13, .ref a14, .ref a15, .int (0), .ref a16, .ref a17, .ref a18, .ref a19, .ref a20, .ref a21, .ref a22])), (a4, .inr (11, [.int (0), .ref a23, .ref a24, .ref a25, .ref a26, .ref a27, .ref a28, .ref a29, .ref a30, .ref a31]))] sz) (nQ dC dI (fun f => some (.int (1))) (fun f r => []) (va_A [(a0, .inr (12, [.ref a2, .ref a3, .ref a4, .ref a5, .ref a6, .ref a7, .ref a8, .ref a9, .null, .ref a10, .ref a11, .int (0), .int (100), .int (0), .int (0), .int (-1), .long (0), .int (1)])), (a2, .inr (8, [.int (0), .ref a12, .ref a13, .ref a14, .ref a15, .int (0), .ref a16, .ref a17, .ref a18, .ref a19, .ref a20, .ref a21, .ref a22])), (a4, .inr (11, [.int (0), .ref a23, .ref a24, .ref a25, .ref a26, .ref a27, .ref a28, .ref a29, .ref a30, .ref a31]))] sz)) 1 6 (va_A [(a0, .inr (12, [.ref a2, .ref a3, .ref a4, .ref a5, .ref a6, .ref a7, .ref a8, .ref a9, .null, .ref a10, .ref a11, .int (0), .int (100), .int (0), .int (0), .int (-1), .long (0), .int (1)])), (a2, .inr (8, [.int (0), .ref a12, .ref a13, .ref a14, .ref a15, .int (0), .ref a16, .ref a17, .ref a18, .ref a19, .ref a20, .ref a21, .ref a22])), (a4, .inr (11, [.int (0), .ref a23, .ref a24, .ref a25, .ref a26, .ref a27, .ref a28, .ref a29, .ref a30, .ref a31]))] sz) := by
  refine n_metW (by decide +kernel) q1040 (Nat.le_of_ble_eq_true rfl) (fun f => some (.int (1))) (fun f r => []) ?_
  intro p e s m below meth c A ls ⟨hx, hb, hr, hml, hown, hts, hlk, hnm⟩ htab hE hP hD hA hl
  have hown : s.vm.findClass "MinestrataLaw" = some m.cls := hown
  have hK := hE.1
  have hS : va_S A s.heap s.heap [] := va_S.rf
  have hl : lv_has ls 6 [(0, .ref a0), (1, .int (110)), (2, .int s2), (3, .int s3), (4, .ref a1)] := hl
  refine lv_aload hx hb dL_step_0 (lv_at hl 4 rfl) ?_
  refine lv_iconst (v := (0)) hx hb dL_step_2 (by decide +kernel) ?_
  refine lv_aload_n hx hb dL_step_3 rfl (lv_at hl 0 rfl) ?_
  refine lv_iload_n hx hb dL_step_4 rfl (lv_at hl 1 rfl) ?_
  refine lv_iload_n hx hb dL_step_5 rfl (lv_at hl 2 rfl) ?_
  refine lv_iload_n hx hb dL_step_6 rfl (lv_at hl 3 rfl) ?_
  have hX : nCx p s m _ c method_10_code 6 "MinestrataLaw" dC dI g A [(a0, .inr (12, [.ref a2, .ref a3, .ref a4, .ref a5, .ref a6, .ref a7, .ref a8, .ref a9, .null, .ref a10, .ref a11, .int (0), .int (100), .int (0), .int (0), .int (-1), .long (0), .int (1)])), (a2, .inr (8, [.int (0), .ref a12, .ref a13, .ref a14, .ref a15, .int (0), .ref a16, .ref a17, .ref a18, .ref a19, .ref a20, .ref a21, .ref a22])), (a4, .inr (11, [.int (0), .ref a23, .ref a24, .ref a25, .ref a26, .ref a27, .ref a28, .ref a29, .ref a30, .ref a31]))] _ _ := ⟨⟨hx, hb, hml, hown, hts⟩, hE, hS, hA, hP, hD⟩
  refine n_callX (E0 := "java/lang/IllegalArgumentException") hX (n_runVX (n := 3) (wc := [(a0, .inr (12, [.ref a2, .ref a3, .ref a4, .ref a5, .ref a6, .ref a7, .ref a8, .ref a9, .null, .ref a10, .ref a11, .int (0), .int (100), .int (0), .int (0), .int (-1), .long (0), .int (1)])), (a2, .inr (8, [.int (0), .ref a12, .ref a13, .ref a14, .ref a15, .int (0), .ref a16, .ref a17, .ref a18, .ref a19, .ref a20, .ref a21, .ref a22])), (a4, .inr (11, [.int (0), .ref a23, .ref a24, .ref a25, .ref a26, .ref a27, .ref a28, .ref a29, .ref a30, .ref a31]))]) (As := [.int (110), .int s2, .int s3]) (rest := [.int (0), .ref a1]) hX (m150 l hst dC dI g a0 a2 a3 a4 a5 a6 a7 a8 a9 a10 a11 a12 a13 a14 a15 a16 a17 a18 a19 a20 a21 a22 a23 a24 a25 a26 a27 a28 a29 a30 a31 s2 s3 e0 _) [0, 1, 2] rfl (by decide +kernel) 0 (ci := 12) rfl (T := TX11) (N := 18) (C := "Minestrata") rfl q1042 q1043 q1044 q71 q1045 (by decide +kernel) ⟨(Nat.le_of_ble_eq_true rfl), (Nat.le_of_ble_eq_true rfl)⟩ ⟨(Nat.le_of_ble_eq_true rfl), (Nat.le_of_ble_eq_true rfl)⟩ hl.1 rfl rfl (Nat.le_of_ble_eq_true rfl) dL_step_7) [0, 1, 2] rfl (fun ce q9 H locs hS hce hcv hcl => ?_)
  refine n_catch (E := "java/lang/IllegalArgumentException") (name := "java/lang/IllegalArgumentException") hE hts hown htab [] ⟨0, 12, 15, 13⟩ [⟨0, 12, 19, 21⟩, ⟨0, 12, 23, 47⟩] rfl (fun z hz => nomatch hz) (by decide +kernel) (by decide) q808 x819 hce hcv hcl ?_
  refine W.widen (k := 1) (n := 6) (Nat.le_of_ble_eq_true rfl) (Nat.le_of_ble_eq_true rfl) ?_
  refine W.eq (g2 := F0 m 15 ls [.ref q9]) rfl ?_
  refine lv_astore (lv' := [(5, .ref q9), (0, .ref a0), (1, .int (110)), (2, .int s2), (3, .int s3), (4, .ref a1)]) hx hb dL_step_15 hl (by decide) rfl (fun ls hl => ?_)
  refine lv_iconst (v := (1)) hx hb dL_step_17 (by decide +kernel) ?_
  refine W.widen (k := 1) (n := 6) (Nat.le_of_ble_eq_true rfl) (Nat.le_of_ble_eq_true rfl) ?_
  exact W.iret hx hb hr (n_end0 hS (fun _ => 0) rfl rfl) hS.2.2 dL_step_18 hlk

set_option maxHeartbeats 4000000 in
set_option maxRecDepth 100000 in
/-- MinestrataModel.isValue -/
theorem m152 (l : Launch) (hst : l.stackTraces = false) (dC : Nat → ClassId) (dI : Nat → Nat → Nat) (g : Nat → Nat) (s3 : Int32) (e0 : s3 < (-50)) (sz : Nat) :
    Met l Y51 (Cond.code Y51 prog_14_method_37_code 2 (Option.some Jvm.ClassFile.FieldType.boolean) :: AW) ({ frames := 1, cells := 0, slots := 0, locals := 22 } : Room) (nP dC dI g [.int (110), .int s3] [] sz) (nQ dC dI (fun f => some (.int (0))) (fun f r => []) (va_A [] sz)) 0 0 (va_A [] sz) := by
  refine n_met (by decide +kernel) (Nat.le_of_ble_eq_true rfl) (fun f => some (.int (0))) (fun f r => []) ?_
  intro p e s m below meth c A ls ⟨hx, hb, hr, hml, hown, hts, hlk, hnm⟩ hE hP hD hA hl
  have hown : s.vm.findClass "MinestrataModel" = some m.cls := hown
  have hK := hE.1
  have hS : va_S A s.heap s.heap [] := va_S.rf
  have hl : lv_has ls 2 [(0, .int (110)), (1, .int s3)] := hl
  refine lv_iload_n hx hb dX16_isValue_0 rfl (lv_at hl 0 rfl) ?_
  refine lv_tableIn (tgt := 103) (off := 102) hx hb dX16_isValue_1 (by decide +kernel) (by decide +kernel) rfl (by decide +kernel) ?_
  refine lv_iload_n hx hb dX16_isValue_103 rfl (lv_at hl 1 rfl) ?_
  refine lv_bipush (v := (-50)) hx hb dX16_isValue_104 (by decide +kernel) ?_
  refine lv_bipush (v := (50)) hx hb dX16_isValue_106 (by decide +kernel) ?_
  have hX : nCx p s m _ c prog_14_method_37_code 2 "MinestrataModel" dC dI g A [] _ _ := ⟨⟨hx, hb, hml, hown, hts⟩, hE, hS, hA, hP, hD⟩
  refine n_call (wr := []) hX (n_runS (n := 3) (wc := []) (As := [.int s3, .int (-50), .int (50)]) (rest := []) hX (m130 l hst dC dI g s3 e0 _) [] rfl (by decide +kernel) q1503 q1504 q82 q1505 (by decide +kernel) ⟨(Nat.le_of_ble_eq_true rfl), (Nat.le_of_ble_eq_true rfl)⟩ ⟨(Nat.le_of_ble_eq_true rfl), (Nat.le_of_ble_eq_true rfl)⟩ hl.1 rfl rfl (Nat.le_of_ble_eq_true rfl) dX16_isValue_108) [] [] rfl rfl (by decide +kernel) (by decide +kernel) (fun f1 r2 H locs hP hD hS => ?_)
  have hP : va_P (dC, dI) CL [] _ := hP
  have hD : va_D A [] := hD
  refine W.widen (k := 0) (n := 0) (Nat.le_of_ble_eq_true rfl) (Nat.le_of_ble_eq_true rfl) ?_
  refine W.eq (g2 := F0 m 111 ls [.int (0)]) rfl ?_
  refine W.widen (k := 0) (n := 0) (Nat.le_of_ble_eq_true rfl) (Nat.le_of_ble_eq_true rfl) ?_
  exact W.zret hx hb hr (by decide +kernel) (n_end hS hP hD [] (by decide +kernel) (fun _ => 0) (fun _ => 0) rfl rfl rfl) hS.2.2 dX16_isValue_111 hlk

set_option maxHeartbeats 4000000 in
set_option maxRecDepth 100000 in
/-- MinestrataModel.step -/
theorem m153 (l : Launch) (hst : l.stackTraces = false) (dC : Nat → ClassId) (dI : Nat → Nat → Nat) (g : Nat → Nat) (a0 a1 a2 a3 a4 a5 a6 a7 a8 a9 a10 a11 a12 : Nat) (s2 s3 : Int32) (e0 : s3 < (-50)) (sz : Nat) :
    Met l Y50 (Cond.code Y50 prog_14_method_41_code 9 (Option.some Jvm.ClassFile.FieldType.char) :: AW) ({ frames := 2, cells := 0, slots := 0, locals := 43 } : Room) (nP dC dI g [.ref a0, .int (110), .int s2, .int s3] [(a0, .inr (15, [.int (0), .int (0), .int (100), .int (0), .int (0), .ref a1, .ref a2, .ref a3, .ref a4, .ref a5, .ref a6, .ref a7, .ref a8, .ref a9, .ref a10, .ref a11, .null, .int (-1), .ref a12, .long (0)]))] sz) (nQ dC dI (fun f => some (.int (32))) (fun f r => [(a0, .inr (15, [.int (1), .int (0), .int (100), .int (0), .int (0), .ref a1, .ref a2, .ref a3, .ref a4, .ref a5, .ref a6, .ref a7, .ref a8, .ref a9, .ref a10, .ref a11, .null, .int (-1), .ref a12, .long (0)]))]) (va_A [(a0, .inr (15, [.int (0), .int (0), .int (100), .int (0), .int (0), .ref a1, .ref a2, .ref a3, .ref a4, .ref a5, .ref a6, .ref a7, .ref a8, .ref a9, .ref a10, .ref a11, .null, .int (-1), .ref a12, .long (0)]))] sz)) 0 0 (va_A [(a0, .inr (15, [.int (0), .int (0), .int (100), .int (0), .int (0), .ref a1, .ref a2, .ref a3, .ref a4, .ref a5, .ref a6, .ref a7, .ref a8, .ref a9, .ref a10, .ref a11, .null, .int (-1), .ref a12, .long (0)]))] sz) := by
  refine n_met (by decide +kernel) (Nat.le_of_ble_eq_true rfl) (fun f => some (.int (32))) (fun f r => [(a0, .inr (15, [.int (1), .int (0), .int (100), .int (0), .int (0), .ref a1, .ref a2, .ref a3, .ref a4, .ref a5, .ref a6, .ref a7, .ref a8, .ref a9, .ref a10, .ref a11, .null, .int (-1), .ref a12, .long (0)]))]) ?_
  intro p e s m below meth c A ls ⟨hx, hb, hr, hml, hown, hts, hlk, hnm⟩ hE hP hD hA hl
  have hown : s.vm.findClass "MinestrataModel" = some m.cls := hown
  have hK := hE.1
  have hS : va_S A s.heap s.heap [] := va_S.rf
  have hl : lv_has ls 9 [(0, .ref a0), (1, .int (110)), (2, .int s2), (3, .int s3)] := hl
  refine lv_aload_n hx hb dX16_step_0 rfl (lv_at hl 0 rfl) ?_
  refine lv_iload_n hx hb dX16_step_1 rfl (lv_at hl 1 rfl) ?_
  refine lv_iload_n hx hb dX16_step_2 rfl (lv_at hl 3 rfl) ?_
  have hX : nCx p s m _ c prog_14_method_41_code 9 "MinestrataModel" dC dI g A [(a0, .inr (15, [.int (0), .int (0), .int (100), .int (0), .int (0), .ref a1, .ref a2, .ref a3, .ref a4, .ref a5, .ref a6, .ref a7, .ref a8, .ref a9, .ref a10, .ref a11, .null, .int (-1), .ref a12, .long (0)]))] _ _ := ⟨⟨hx, hb, hml, hown, hts⟩, hE, hS, hA, hP, hD⟩
  refine n_call (wr := [(a0, .inr (15, [.int (0), .int (0), .int (100), .int (0), .int (0), .ref a1, .ref a2, .ref a3, .ref a4, .ref a5, .ref a6, .ref a7, .ref a8, .ref a9, .ref a10, .ref a11, .null, .int (-1), .ref a12, .long (0)]))]) hX (n_runS (n := 2) (wc := []) (As := [.int (110), .int s3]) (rest := [.ref a0]) hX (m152 l hst dC dI g s3 e0 _) [] rfl (by decide +kernel) q2107 q2108 q82 q2109 (by decide +kernel) ⟨(Nat.le_of_ble_eq_true rfl), (Nat.le_of_ble_eq_true rfl)⟩ ⟨(Nat.le_of_ble_eq_true rfl), (Nat.le_of_ble_eq_true rfl)⟩ hl.1 rfl rfl (Nat.le_of_ble_eq_true rfl) dX16_step_3) [] [0] rfl rfl (by decide +kernel) (by decide +kernel) (fun f1 r2 H locs hP hD hS => ?_)
  have hP : va_P (dC, dI) CL [(a0, .inr (15, [.int (0), .int (0), .int (100), .int (0), .int (0), .ref a1, .ref a2, .ref a3, .ref a4, .ref a5, .ref a6, .ref a7, .ref a8, .ref a9, .ref a10, .ref a11, .null, .int (-1), .ref a12, .long (0)]))] _ := hP
  have hD : va_D A [(a0, .inr (15, [.int (0), .int (0), .int (100), .int (0), .int (0), .ref a1, .ref a2, .ref a3, .ref a4, .ref a5, .ref a6, .ref a7, .ref a8, .ref a9, .ref a10, .ref a11, .null, .int (-1), .ref a12, .long (0)]))] := hD
  refine W.widen (k := 0) (n := 0) (Nat.le_of_ble_eq_true rfl) (Nat.le_of_ble_eq_true rfl) ?_
  refine W.eq (g2 := F0 m 6 ls [.int (0), .ref a0]) rfl ?_
  refine lv_if_ne (tgt := 13) hx hb dX16_step_6 (by decide +kernel) (fun h => absurd (by decide +kernel) h) (fun _ => ?_)
  refine lv_iconst (v := (1)) hx hb dX16_step_9 (by decide +kernel) ?_
  refine lv_goto (tgt := 41) hx hb dX16_step_10 (by decide +kernel) ?_
  refine va_put (D := (dC, dI)) (ci := 15) (v := .int (1)) (ty := .int) (C := "MinestrataModel") (T := TX16) (N := 20) hx hb hts inX16 tyX16 tyX16_ok nmX16 hown hK hP hD hS 0 rfl rfl 0 (by decide) (hts _ q1427) (fun _ h9 => h9) rfl (by decide +kernel) rfl rfl (Nat.le_of_ble_eq_true rfl) dX16_step_41 (fun H locs hP hD hS => ?_)
  have hP : va_P (dC, dI) CL [(a0, .inr (15, [.int (1), .int (0), .int (100), .int (0), .int (0), .ref a1, .ref a2, .ref a3, .ref a4, .ref a5, .ref a6, .ref a7, .ref a8, .ref a9, .ref a10, .ref a11, .null, .int (-1), .ref a12, .long (0)]))] _ := hP
  have hD : va_D A [(a0, .inr (15, [.int (1), .int (0), .int (100), .int (0), .int (0), .ref a1, .ref a2, .ref a3, .ref a4, .ref a5, .ref a6, .ref a7, .ref a8, .ref a9, .ref a10, .ref a11, .null, .int (-1), .ref a12, .long (0)]))] := hD
  refine lv_aload_n hx hb dX16_step_44 rfl (lv_at hl 0 rfl) ?_
  refine va_get (D := (dC, dI)) (ci := 15) (v := .int (1)) (C := "MinestrataModel") (T := TX16) (N := 20) hx hb hts inX16 hown hK hP 0 rfl rfl 0 (by decide) (hts _ q1427) (fun _ h9 => h9) rfl dX16_step_45 ?_
  refine lv_if_le (tgt := 54) hx hb dX16_step_48 (by decide +kernel) (fun h => absurd h (by decide +kernel)) (fun _ => ?_)
  refine lv_bipush (v := (32)) hx hb dX16_step_51 (by decide +kernel) ?_
  refine W.widen (k := 0) (n := 0) (Nat.le_of_ble_eq_true rfl) (Nat.le_of_ble_eq_true rfl) ?_
  exact W.zret hx hb hr (by decide +kernel) (n_end hS hP hD [0] (by decide +kernel) (fun _ => 0) (fun _ => 0) rfl rfl rfl) hS.2.2 dX16_step_53 hlk

set_option maxHeartbeats 4000000 in
set_option maxRecDepth 100000 in
/-- Minestrata.isStepValue -/
theorem m154 (l : Launch) (hst : l.stackTraces = false) (dC : Nat → ClassId) (dI : Nat → Nat → Nat) (g : Nat → Nat) (s3 : Int32) (e0 : ¬ (s3 < (-50))) (e1 : (50) < s3) (sz : Nat) :
    Met l Y49 (Cond.code Y49 prog_1_method_44_code 2 (Option.some Jvm.ClassFile.FieldType.boolean) :: AW) ({ frames := 1, cells := 0, slots := 0, locals := 22 } : Room) (nP dC dI g [.int (110), .int s3] [] sz) (nQ dC dI (fun f => some (.int (0))) (fun f r => []) (va_A [] sz)) 0 0 (va_A [] sz) := by
  refine n_met (by decide +kernel) (Nat.le_of_ble_eq_true rfl) (fun f => some (.int (0))) (fun f r => []) ?_
  intro p e s m below meth c A ls ⟨hx, hb, hr, hml, hown, hts, hlk, hnm⟩ hE hP hD hA hl
  have hown : s.vm.findClass "Minestrata" = some m.cls := hown
  have hK := hE.1
  have hS : va_S A s.heap s.heap [] := va_S.rf
  have hl : lv_has ls 2 [(0, .int (110)), (1, .int s3)] := hl
  refine lv_iload_n hx hb dX11_isStepValue_0 rfl (lv_at hl 0 rfl) ?_
  refine lv_bipush (v := (100)) hx hb dX11_isStepValue_1 (by decide +kernel) ?_
  refine lv_icmp_eq (tgt := 12) hx hb dX11_isStepValue_3 (by decide +kernel) (fun h => absurd h (by decide +kernel)) (fun _ => ?_)
  refine lv_iload_n hx hb dX11_isStepValue_6 rfl (lv_at hl 0 rfl) ?_
  refine lv_bipush (v := (98)) hx hb dX11_isStepValue_7 (by decide +kernel) ?_
  refine lv_icmp_ne (tgt := 19) hx hb dX11_isStepValue_9 (by decide +kernel) (fun _ => ?_) (fun h => absurd h (by decide +kernel))
  refine lv_iload_n hx hb dX11_isStepValue_19 rfl (lv_at hl 0 rfl) ?_
  refine lv_bipush (v := (102)) hx hb dX11_isStepValue_20 (by decide +kernel) ?_
  refine lv_icmp_eq (tgt := 31) hx hb dX11_isStepValue_22 (by decide +kernel) (fun h => absurd h (by decide +kernel)) (fun _ => ?_)
  refine lv_iload_n hx hb dX11_isStepValue_25 rfl (lv_at hl 0 rfl) ?_
  refine lv_bipush (v := (110)) hx hb dX11_isStepValue_26 (by decide +kernel) ?_
  refine lv_icmp_ne (tgt := 40) hx hb dX11_isStepValue_28 (by decide +kernel) (fun h => absurd (by decide +kernel) h) (fun _ => ?_)
  refine lv_iload_n hx hb dX11_isStepValue_31 rfl (lv_at hl 1 rfl) ?_
  refine lv_bipush (v := (-50)) hx hb dX11_isStepValue_32 (by decide +kernel) ?_
  refine lv_bipush (v := (50)) hx hb dX11_isStepValue_34 (by decide +kernel) ?_
  have hX : nCx p s m _ c prog_1_method_44_code 2 "Minestrata" dC dI g A [] _ _ := ⟨⟨hx, hb, hml, hown, hts⟩, hE, hS, hA, hP, hD⟩
  refine n_call (wr := []) hX (n_runS (n := 3) (wc := []) (As := [.int s3, .int (-50), .int (50)]) (rest := []) hX (m133 l hst dC dI g s3 e0 e1 _) [] rfl (by decide +kernel) q814 q815 q71 q816 (by decide +kernel) ⟨(Nat.le_of_ble_eq_true rfl), (Nat.le_of_ble_eq_true rfl)⟩ ⟨(Nat.le_of_ble_eq_true rfl), (Nat.le_of_ble_eq_true rfl)⟩ hl.1 rfl rfl (Nat.le_of_ble_eq_true rfl) dX11_isStepValue_36) [] [] rfl rfl (by decide +kernel) (by decide +kernel) (fun f1 r2 H locs hP hD hS => ?_)
  have hP : va_P (dC, dI) CL [] _ := hP
  have hD : va_D A [] := hD
  refine W.widen (k := 0) (n := 0) (Nat.le_of_ble_eq_true rfl) (Nat.le_of_ble_eq_true rfl) ?_
  refine W.eq (g2 := F0 m 39 ls [.int (0)]) rfl ?_
  refine W.widen (k := 0) (n := 0) (Nat.le_of_ble_eq_true rfl) (Nat.le_of_ble_eq_true rfl) ?_
  exact W.zret hx hb hr (by decide +kernel) (n_end hS hP hD [] (by decide +kernel) (fun _ => 0) (fun _ => 0) rfl rfl rfl) hS.2.2 dX11_isStepValue_39 hlk

set_option maxHeartbeats 4000000 in
set_option maxRecDepth 100000 in
/-- Minestrata.step -/
theorem m155 (l : Launch) (hst : l.stackTraces = false) (dC : Nat → ClassId) (dI : Nat → Nat → Nat) (g : Nat → Nat) (a0 a1 a2 a3 a4 a5 a6 a7 a8 a9 a10 a11 a12 a13 a14 a15 a16 a17 a18 a19 a20 a21 a22 a23 a24 a25 a26 a27 a28 a29 a30 : Nat) (s2 s3 : Int32) (e0 : ¬ (s3 < (-50))) (e1 : (50) < s3) (sz : Nat) :
    vx_Met l Y48 (Cond.code Y48 prog_1_method_9_code 5 (Option.some Jvm.ClassFile.FieldType.char) :: AW) ({ frames := 6, cells := 1, slots := 6, locals := 81 } : Room) (nP dC dI g [.ref a0, .int (110), .int s2, .int s3] [(a0, .inr (12, [.ref a1, .ref a2, .ref a3, .ref a4, .ref a5, .ref a6, .ref a7, .ref a8, .null, .ref a9, .ref a10, .int (0), .int (100), .int (0), .int (0), .int (-1), .long (0), .int (1)])), (a1, .inr (8, [.int (0), .ref a11, .ref a12, .ref a13, .ref a14, .int (0), .ref a15, .ref a16, .ref a17, .ref a18, .ref a19, .ref a20, .ref a21])), (a3, .inr (11, [.int (0), .ref a22, .ref a23, .ref a24, .ref a25, .ref a26, .ref a27, .ref a28, .ref a29, .ref a30]))] sz) (fun _ _ _ _ => False) (nX "java/lang/IllegalArgumentException" (va_A [(a0, .inr (12, [.ref a1, .ref a2, .ref a3, .ref a4, .ref a5, .ref a6, .ref a7, .ref a8, .null, .ref a9, .ref a10, .int (0), .int (100), .int (0), .int (0), .int (-1), .long (0), .int (1)])), (a1, .inr (8, [.int (0), .ref a11, .ref a12, .ref a13, .ref a14, .int (0), .ref a15, .ref a16, .ref a17, .ref a18, .ref a19, .ref a20, .ref a21])), (a3, .inr (11, [.int (0), .ref a22, .ref a23, .ref a24, .ref a25, .ref a26, .ref a27, .ref a28, .ref a29, .ref a30]))] sz)) 1 6 (va_A [(a0, .inr (12, [.ref a1, .ref a2, .ref a3, .ref a4, .ref a5, .ref a6, .ref a7, .ref a8, .null, .ref a9, .ref a10, .int (0), .int (100), .int (0), .int (0), .int (-1), .long (0), .int (1)])), (a1, .inr (8, [.int (0), .ref a11, .ref a12, .ref a13, .ref a14, .int (0), .ref a15, .ref a16, .ref a17, .ref a18, .ref a19, .ref a20, .ref a21])), (a3, .inr (11, [.int (0), .ref a22, .ref a23, .ref a24, .ref a25, .ref a26, .ref a27, .ref a28, .ref a29, .ref a30]))] sz) := by
  refine n_metX (by decide +kernel) (Nat.le_of_ble_eq_true rfl) "java/lang/IllegalArgumentException" ?_
  intro p e s m below meth c A ls ⟨hx, hb, hr, hml, hown, hts, hlk, hnm⟩ hout hE hP hD hA hl
  have hown : s.vm.findClass "Minestrata" = some m.cls := hown
  have hK := hE.1
  have hS : va_S A s.heap s.heap [] := va_S.rf
  have hl : lv_has ls 5 [(0, .ref a0), (1, .int (110)), (2, .int s2), (3, .int s3)] := hl
  have hlsz : ls.size = c.maxLocals := hl.1.trans hml.symm
  refine lv_iload_n hx hb dX11_step_0 rfl (lv_at hl 1 rfl) ?_
  refine lv_iload_n hx hb dX11_step_1 rfl (lv_at hl 3 rfl) ?_
  have hX : nCx p s m _ c prog_1_method_9_code 5 "Minestrata" dC dI g A [(a0, .inr (12, [.ref a1, .ref a2, .ref a3, .ref a4, .ref a5, .ref a6, .ref a7, .ref a8, .null, .ref a9, .ref a10, .int (0), .int (100), .int (0), .int (0), .int (-1), .long (0), .int (1)])), (a1, .inr (8, [.int (0), .ref a11, .ref a12, .ref a13, .ref a14, .int (0), .ref a15, .ref a16, .ref a17, .ref a18, .ref a19, .ref a20, .ref a21])), (a3, .inr (11, [.int (0), .ref a22, .ref a23, .ref a24, .ref a25, .ref a26, .ref a27, .ref a28, .ref a29, .ref a30]))] _ _ := ⟨⟨hx, hb, hml, hown, hts⟩, hE, hS, hA, hP, hD⟩
  refine n_call (wr := [(a0, .inr (12, [.ref a1, .ref a2, .ref a3, .ref a4, .ref a5, .ref a6, .ref a7, .ref a8, .null, .ref a9, .ref a10, .int (0), .int (100), .int (0), .int (0), .int (-1), .long (0), .int (1)])), (a1, .inr (8, [.int (0), .ref a11, .ref a12, .ref a13, .ref a14, .int (0), .ref a15, .ref a16, .ref a17, .ref a18, .ref a19, .ref a20, .ref a21])), (a3, .inr (11, [.int (0), .ref a22, .ref a23, .ref a24, .ref a25, .ref a26, .ref a27, .ref a28, .ref a29, .ref a30]))]) hX (n_runS (n := 2) (wc := []) (As := [.int (110), .int s3]) (rest := []) hX (m154 l hst dC dI g s3 e0 e1 _) [] rfl (by decide +kernel) q1046 q1047 q71 q1048 (by decide +kernel) ⟨(Nat.le_of_ble_eq_true rfl), (Nat.le_of_ble_eq_true rfl)⟩ ⟨(Nat.le_of_ble_eq_true rfl), (Nat.le_of_ble_eq_true rfl)⟩ hl.1 rfl rfl (Nat.le_of_ble_eq_true rfl) dX11_step_2) [] [0, 1, 2] rfl rfl (by decide +kernel) (by decide +kernel) (fun f1 r2 H locs hP hD hS => ?_)
  have hP : va_P (dC, dI) CL [(a0, .inr (12, [.ref a1, .ref a2, .ref a3, .ref a4, .ref a5, .ref a6, .ref a7, .ref a8, .null, .ref a9, .ref a10, .int (0), .int (100), .int (0), .int (0), .int (-1), .long (0), .int (1)])), (a1, .inr (8, [.int (0), .ref a11, .ref a12, .ref a13, .ref a14, .int (0), .ref a15, .ref a16, .ref a17, .ref a18, .ref a19, .ref a20, .ref a21])), (a3, .inr (11, [.int (0), .ref a22, .ref a23, .ref a24, .ref a25, .ref a26, .ref a27, .ref a28, .ref a29, .ref a30]))] _ := hP
  have hD : va_D A [(a0, .inr (12, [.ref a1, .ref a2, .ref a3, .ref a4, .ref a5, .ref a6, .ref a7, .ref a8, .null, .ref a9, .ref a10, .int (0), .int (100), .int (0), .int (0), .int (-1), .long (0), .int (1)])), (a1, .inr (8, [.int (0), .ref a11, .ref a12, .ref a13, .ref a14, .int (0), .ref a15, .ref a16, .ref a17, .ref a18, .ref a19, .ref a20, .ref a21])), (a3, .inr (11, [.int (0), .ref a22, .ref a23, .ref a24, .ref a25, .ref a26, .ref a27, .ref a28, .ref a29, .ref a30]))] := hD
  refine W.widen (k := 0) (n := 0) (Nat.le_of_ble_eq_true rfl) (Nat.le_of_ble_eq_true rfl) ?_
  refine W.eq (g2 := F0 m 5 ls [.int (0)]) rfl ?_
  refine lv_if_ne (tgt := 16) hx hb dX11_step_5 (by decide +kernel) (fun h => absurd (by decide +kernel) h) (fun _ => ?_)
  exact n_throw hx hb hst hown hts hE hS (names := ["java/lang/RuntimeException", "java/lang/Exception"]) (by decide +kernel) (by decide +kernel) q817 q89 hat0p hat0a hat0 hat0g (hl.1.trans hml.symm) dX11_step_8 dX11_step_11 dX11_step_12 dX11_step_15 hout (Nat.le_of_ble_eq_true rfl) (Nat.le_of_ble_eq_true rfl) (Nat.le_of_ble_eq_true rfl) (Nat.le_of_ble_eq_true rfl) hlk (Nat.le_of_ble_eq_true rfl) (Nat.le_of_ble_eq_true rfl)

set_option maxHeartbeats 4000000 in
set_option maxRecDepth 100000 in
/-- MinestrataLaw.step -/
theorem m156 (l : Launch) (hst : l.stackTraces = false) (dC : Nat → ClassId) (dI : Nat → Nat → Nat) (g : Nat → Nat) (a0 a1 a2 a3 a4 a5 a6 a7 a8 a9 a10 a11 a12 a13 a14 a15 a16 a17 a18 a19 a20 a21 a22 a23 a24 a25 a26 a27 a28 a29 a30 a31 : Nat) (s2 s3 : Int32) (e0 : ¬ (s3 < (-50))) (e1 : (50) < s3) (sz : Nat) :
    Met l Y47 (Cond.codeWith Y47 method_10_code 6 (Option.some Jvm.ClassFile.FieldType.int) [((0 : Nat), (12 : Nat), (15 : Nat), (13 : Nat)), ((0 : Nat), (12 : Nat), (19 : Nat), (21 : Nat)), ((0 : Nat), (12 : Nat), (23 : Nat), (47 : Nat))] :: AW) ({ frames := 7, cells := 1, slots := 6, locals := 105 } : Room) (nP dC dI g [.ref a0, .int (110), .int s2, .int s3, .ref a1] [(a0, .inr (12, [.ref a2, .ref a3, .ref a4, .ref a5, .ref a6, .ref a7, .ref a8, .ref a9, .null, .ref a10, .ref a11, .int (0), .int (100), .int (0), .int (0), .int (-1), .long (0), .int (1)])), (a2, .inr (8, [.int (0), .ref a12, .ref a13, .ref a14, .ref a15, .int (0), .ref a16, .ref a17, .ref a18, .ref a19, .ref a20, .ref a21, .ref a22])), (a4, .inr (11, [.int (0), .ref a23, .ref a24, .ref a25, .ref a26, .ref a27, .ref a28, .ref a29, .ref a30, .ref a31]))] sz) (nQ dC dI (fun f => some (.int (1))) (fun f r => []) (va_A [(a0, .inr (12, [.ref a2, .ref a3, .ref a4, .ref a5, .ref a6, .ref a7, .ref a8, .ref a9, .null, .ref a10, .ref a11, .int (0), .int (100), .int (0), .int (0), .int (-1), .long (0), .int (1)])), (a2, .inr (8, [.int (0), .ref a12, .ref a13, .ref a14, .ref a15, .int (0), .ref a16, .ref a17, .ref a18, .ref a19, .ref a20, .ref a21, .ref a22])), (a4, .inr (11, [.int (0), .ref a23, .ref a24, .ref a25, .ref a26, .ref a27, .ref a28, .ref a29, .ref a30, .ref a31]))] sz)) 1 6 (va_A [(a0, .inr (12, [.ref a2, .ref a3, .ref a4, .ref a5, .ref a6, .ref a7, .ref a8, .ref a9, .null, .ref a10, .ref a11, .int (0), .int (100), .int (0), .int (0), .int (-1), .long (0), .int (1)])), (a2, .inr (8, [.int (0), .ref a12, .ref a13, .ref a14, .ref a15, .int (0), .ref a16, .ref a17, .ref a18, .ref a19, .ref a20, .ref a21, .ref a22])), (a4, .inr (11, [.int (0), .ref a23, .ref a24, .ref a25, .ref a26, .ref a27, .ref a28, .ref a29, .ref a30, .ref a31]))] sz) := by
  refine n_metW (by decide +kernel) q1040 (Nat.le_of_ble_eq_true rfl) (fun f => some (.int (1))) (fun f r => []) ?_
  intro p e s m below meth c A ls ⟨hx, hb, hr, hml, hown, hts, hlk, hnm⟩ htab hE hP hD hA hl
  have hown : s.vm.findClass "MinestrataLaw" = some m.cls := hown
  have hK := hE.1
  have hS : va_S A s.heap s.heap [] := va_S.rf
  have hl : lv_has ls 6 [(0, .ref a0), (1, .int (110)), (2, .int s2), (3, .int s3), (4, .ref a1)] := hl
  refine lv_aload hx hb dL_step_0 (lv_at hl 4 rfl) ?_
  refine lv_iconst (v := (0)) hx hb dL_step_2 (by decide +kernel) ?_
  refine lv_aload_n hx hb dL_step_3 rfl (lv_at hl 0 rfl) ?_
  refine lv_iload_n hx hb dL_step_4 rfl (lv_at hl 1 rfl) ?_
  refine lv_iload_n hx hb dL_step_5 rfl (lv_at hl 2 rfl) ?_
  refine lv_iload_n hx hb dL_step_6 rfl (lv_at hl 3 rfl) ?_
  have hX : nCx p s m _ c method_10_code 6 "MinestrataLaw" dC dI g A [(a0, .inr (12, [.ref a2, .ref a3, .ref a4, .ref a5, .ref a6, .ref a7, .ref a8, .ref a9, .null, .ref a10, .ref a11, .int (0), .int (100), .int (0), .int (0), .int (-1), .long (0), .int (1)])), (a2, .inr (8, [.int (0), .ref a12, .ref a13, .ref a14, .ref a15, .int (0), .ref a16, .ref a17, .ref a18, .ref a19, .ref a20, .ref a21, .ref a22])), (a4, .inr (11, [.int (0), .ref a23, .ref a24, .ref a25, .ref a26, .ref a27, .ref a28, .ref a29, .ref a30, .ref a31]))] _ _ := ⟨⟨hx, hb, hml, hown, hts⟩, hE, hS, hA, hP, hD⟩
  refine n_callX (E0 := "java/lang/IllegalArgumentException") hX (n_runVX (n := 3) (wc := [(a0, .inr (12, [.ref a2, .ref a3, .ref a4, .ref a5, .ref a6, .ref a7, .ref a8, .ref a9, .null, .ref a10, .ref a11, .int (0), .int (100), .int (0), .int (0), .int (-1), .long (0), .int (1)])), (a2, .inr (8, [.int (0), .ref a12, .ref a13, .ref a14, .ref a15, .int (0), .ref a16, .ref a17, .ref a18, .ref a19, .ref a20, .ref a21, .ref a22])), (a4, .inr (11, [.int (0), .ref a23, .ref a24, .ref a25, .ref a26, .ref a27, .ref a28, .ref a29, .ref a30, .ref a31]))]) (As := [.int (110), .int s2, .int s3]) (rest := [.int (0), .ref a1]) hX (m155 l hst dC dI g a0 a2 a3 a4 a5 a6 a7 a8 a9 a10 a11 a12 a13 a14 a15 a16 a17 a18 a19 a20 a21 a22 a23 a24 a25 a26 a27 a28 a29 a30 a31 s2 s3 e0 e1 _) [0, 1, 2] rfl (by decide +kernel) 0 (ci := 12) rfl (T := TX11) (N := 18) (C := "Minestrata") rfl q1042 q1043 q1044 q71 q1045 (by decide +kernel) ⟨(Nat.le_of_ble_eq_true rfl), (Nat.le_of_ble_eq_true rfl)⟩ ⟨(Nat.le_of_ble_eq_true rfl), (Nat.le_of_ble_eq_true rfl)⟩ hl.1 rfl rfl (Nat.le_of_ble_eq_true rfl) dL_step_7) [0, 1, 2] rfl (fun ce q9 H locs hS hce hcv hcl => ?_)
  refine n_catch (E := "java/lang/IllegalArgumentException") (name := "java/lang/IllegalArgumentException") hE hts hown htab [] ⟨0, 12, 15, 13⟩ [⟨0, 12, 19, 21⟩, ⟨0, 12, 23, 47⟩] rfl (fun z hz => nomatch hz) (by decide +kernel) (by decide) q808 x819 hce hcv hcl ?_
  refine W.widen (k := 1) (n := 6) (Nat.le_of_ble_eq_true rfl) (Nat.le_of_ble_eq_true rfl) ?_
  refine W.eq (g2 := F0 m 15 ls [.ref q9]) rfl ?_
  refine lv_astore (lv' := [(5, .ref q9), (0, .ref a0), (1, .int (110)), (2, .int s2), (3, .int s3), (4, .ref a1)]) hx hb dL_step_15 hl (by decide) rfl (fun ls hl => ?_)
  refine lv_iconst (v := (1)) hx hb dL_step_17 (by decide +kernel) ?_
  refine W.widen (k := 1) (n := 6) (Nat.le_of_ble_eq_true rfl) (Nat.le_of_ble_eq_true rfl) ?_
  exact W.iret hx hb hr (n_end0 hS (fun _ => 0) rfl rfl) hS.2.2 dL_step_18 hlk

set_option maxHeartbeats 4000000 in
set_option maxRecDepth 100000 in
/-- MinestrataModel.isValue -/
theorem m157 (l : Launch) (hst : l.stackTraces = false) (dC : Nat → ClassId) (dI : Nat → Nat → Nat) (g : Nat → Nat) (s3 : Int32) (e0 : ¬ (s3 < (-50))) (e1 : (50) < s3) (sz : Nat) :
    Met l Y51 (Cond.code Y51 prog_14_method_37_code 2 (Option.some Jvm.ClassFile.FieldType.boolean) :: AW) ({ frames := 1, cells := 0, slots := 0, locals := 22 } : Room) (nP dC dI g [.int (110), .int s3] [] sz) (nQ dC dI (fun f => some (.int (0))) (fun f r => []) (va_A [] sz)) 0 0 (va_A [] sz) := by
  refine n_met (by decide +kernel) (Nat.le_of_ble_eq_true rfl) (fun f => some (.int (0))) (fun f r => []) ?_
  intro p e s m below meth c A ls ⟨hx, hb, hr, hml, hown, hts, hlk, hnm⟩ hE hP hD hA hl
  have hown : s.vm.findClass "MinestrataModel" = some m.cls := hown
  have hK := hE.1
  have hS : va_S A s.heap s.heap [] := va_S.rf
  have hl : lv_has ls 2 [(0, .int (110)), (1, .int s3)] := hl
  refine lv_iload_n hx hb dX16_isValue_0 rfl (lv_at hl 0 rfl) ?_
  refine lv_tableIn (tgt := 103) (off := 102) hx hb dX16_isValue_1 (by decide +kernel) (by decide +kernel) rfl (by decide +kernel) ?_
  refine lv_iload_n hx hb dX16_isValue_103 rfl (lv_at hl 1 rfl) ?_
  refine lv_bipush (v := (-50)) hx hb dX16_isValue_104 (by decide +kernel) ?_
  refine lv_bipush (v := (50)) hx hb dX16_isValue_106 (by decide +kernel) ?_
  have hX : nCx p s m _ c prog_14_method_37_code 2 "MinestrataModel" dC dI g A [] _ _ := ⟨⟨hx, hb, hml, hown, hts⟩, hE, hS, hA, hP, hD⟩
  refine n_call (wr := []) hX (n_runS (n := 3) (wc := []) (As := [.int s3, .int (-50), .int (50)]) (rest := []) hX (m137 l hst dC dI g s3 e0 e1 _) [] rfl (by decide +kernel) q1503 q1504 q82 q1505 (by decide +kernel) ⟨(Nat.le_of_ble_eq_true rfl), (Nat.le_of_ble_eq_true rfl)⟩ ⟨(Nat.le_of_ble_eq_true rfl), (Nat.le_of_ble_eq_true rfl)⟩ hl.1 rfl rfl (Nat.le_of_ble_eq_true rfl) dX16_isValue_108) [] [] rfl rfl (by decide +kernel) (by decide +kernel) (fun f1 r2 H locs hP hD hS => ?_)
  have hP : va_P (dC, dI) CL [] _ := hP
  have hD : va_D A [] := hD
  refine W.widen (k := 0) (n := 0) (Nat.le_of_ble_eq_true rfl) (Nat.le_of_ble_eq_true rfl) ?_
  refine W.eq (g2 := F0 m 111 ls [.int (0)]) rfl ?_
  refine W.widen (k := 0) (n := 0) (Nat.le_of_ble_eq_true rfl) (Nat.le_of_ble_eq_true rfl) ?_
  exact W.zret hx hb hr (by decide +kernel) (n_end hS hP hD [] (by decide +kernel) (fun _ => 0) (fun _ => 0) rfl rfl rfl) hS.2.2 dX16_isValue_111 hlk

set_option maxHeartbeats 4000000 in
set_option maxRecDepth 100000 in
/-- MinestrataModel.step -/
theorem m158 (l : Launch) (hst : l.stackTraces = false) (dC : Nat → ClassId) (dI : Nat → Nat → Nat) (g : Nat → Nat) (a0 a1 a2 a3 a4 a5 a6 a7 a8 a9 a10 a11 a12 : Nat) (s2 s3 : Int32) (e0 : ¬ (s3 < (-50))) (e1 : (50) < s3) (sz : Nat) :
    Met l Y50 (Cond.code Y50 prog_14_method_41_code 9 (Option.some Jvm.ClassFile.FieldType.char) :: AW) ({ frames := 2, cells := 0, slots := 0, locals := 43 } : Room) (nP dC dI g [.ref a0, .int (110), .int s2, .int s3] [(a0, .inr (15, [.int (0), .int (0), .int (100), .int (0), .int (0), .ref a1, .ref a2, .ref a3, .ref a4, .ref a5, .ref a6, .ref a7, .ref a8, .ref a9, .ref a10, .ref a11, .null, .int (-1), .ref a12, .long (0)]))] sz) (nQ dC dI (fun f => some (.int (32))) (fun f r => [(a0, .inr (15, [.int (1), .int (0), .int (100), .int (0), .int (0), .ref a1, .ref a2, .ref a3, .ref a4, .ref a5, .ref a6, .ref a7, .ref a8, .ref a9, .ref a10, .ref a11, .null, .int (-1), .ref a12, .long (0)]))]) (va_A [(a0, .inr (15, [.int (0), .int (0), .int (100), .int (0), .int (0), .ref a1, .ref a2, .ref a3, .ref a4, .ref a5, .ref a6, .ref a7, .ref a8, .ref a9, .ref a10, .ref a11, .null, .int (-1), .ref a12, .long (0)]))] sz)) 0 0 (va_A [(a0, .inr (15, [.int (0), .int (0), .int (100), .int (0), .int (0), .ref a1, .ref a2, .ref a3, .ref a4, .ref a5, .ref a6, .ref a7, .ref a8, .ref a9, .ref a10, .ref a11, .null, .int (-1), .ref a12, .long (0)]))] sz) := by
  refine n_met (by decide +kernel) (Nat.le_of_ble_eq_true rfl) (fun f => some (.int (32))) (fun f r => [(a0, .inr (15, [.int (1), .int (0), .int (100), .int (0), .int (0), .ref a1, .ref a2, .ref a3, .ref a4, .ref a5, .ref a6, .ref a7, .ref a8, .ref a9, .ref a10, .ref a11, .null, .int (-1), .ref a12, .long (0)]))]) ?_
  intro p e s m below meth c A ls ⟨hx, hb, hr, hml, hown, hts, hlk, hnm⟩ hE hP hD hA hl
  have hown : s.vm.findClass "MinestrataModel" = some m.cls := hown
  have hK := hE.1
  have hS : va_S A s.heap s.heap [] := va_S.rf
  have hl : lv_has ls 9 [(0, .ref a0), (1, .int (110)), (2, .int s2), (3, .int s3)] := hl
  refine lv_aload_n hx hb dX16_step_0 rfl (lv_at hl 0 rfl) ?_
  refine lv_iload_n hx hb dX16_step_1 rfl (lv_at hl 1 rfl) ?_
  refine lv_iload_n hx hb dX16_step_2 rfl (lv_at hl 3 rfl) ?_
  have hX : nCx p s m _ c prog_14_method_41_code 9 "MinestrataModel" dC dI g A [(a0, .inr (15, [.int (0), .int (0), .int (100), .int (0), .int (0), .ref a1, .ref a2, .ref a3, .ref a4, .ref a5, .ref a6, .ref a7, .ref a8, .ref a9, .ref a10, .ref a11, .null, .int (-1), .ref a12, .long (0)]))] _ _ := ⟨⟨hx, hb, hml, hown, hts⟩, hE, hS, hA, hP, hD⟩
  refine n_call (wr := [(a0, .inr (15, [.int (0), .int (0), .int (100), .int (0), .int (0), .ref a1, .ref a2, .ref a3, .ref a4, .ref a5, .ref a6, .ref a7, .ref a8, .ref a9, .ref a10, .ref a11, .null, .int (-1), .ref a12, .long (0)]))]) hX (n_runS (n := 2) (wc := []) (As := [.int (110), .int s3]) (rest := [.ref a0]) hX (m157 l hst dC dI g s3 e0 e1 _) [] rfl (by decide +kernel) q2107 q2108 q82 q2109 (by decide +kernel) ⟨(Nat.le_of_ble_eq_true rfl), (Nat.le_of_ble_eq_true rfl)⟩ ⟨(Nat.le_of_ble_eq_true rfl), (Nat.le_of_ble_eq_true rfl)⟩ hl.1 rfl rfl (Nat.le_of_ble_eq_true rfl) dX16_step_3) [] [0] rfl rfl (by decide +kernel) (by decide +kernel) (fun f1 r2 H locs hP hD hS => ?_)
  have hP : va_P (dC, dI) CL [(a0, .inr (15, [.int (0), .int (0), .int (100), .int (0), .int (0), .ref a1, .ref a2, .ref a3, .ref a4, .ref a5, .ref a6, .ref a7, .ref a8, .ref a9, .ref a10, .ref a11, .null, .int (-1), .ref a12, .long (0)]))] _ := hP
  have hD : va_D A [(a0, .inr (15, [.int (0), .int (0), .int (100), .int (0), .int (0), .ref a1, .ref a2, .ref a3, .ref a4, .ref a5, .ref a6, .ref a7, .ref a8, .ref a9, .ref a10, .ref a11, .null, .int (-1), .ref a12, .long (0)]))] := hD
  refine W.widen (k := 0) (n := 0) (Nat.le_of_ble_eq_true rfl) (Nat.le_of_ble_eq_true rfl) ?_
  refine W.eq (g2 := F0 m 6 ls [.int (0), .ref a0]) rfl ?_
  refine lv_if_ne (tgt := 13) hx hb dX16_step_6 (by decide +kernel) (fun h => absurd (by decide +kernel) h) (fun _ => ?_)
  refine lv_iconst (v := (1)) hx hb dX16_step_9 (by decide +kernel) ?_
  refine lv_goto (tgt := 41) hx hb dX16_step_10 (by decide +kernel) ?_
  refine va_put (D := (dC, dI)) (ci := 15) (v := .int (1)) (ty := .int) (C := "MinestrataModel") (T := TX16) (N := 20) hx hb hts inX16 tyX16 tyX16_ok nmX16 hown hK hP hD hS 0 rfl rfl 0 (by decide) (hts _ q1427) (fun _ h9 => h9) rfl (by decide +kernel) rfl rfl (Nat.le_of_ble_eq_true rfl) dX16_step_41 (fun H locs hP hD hS => ?_)
  have hP : va_P (dC, dI) CL [(a0, .inr (15, [.int (1), .int (0), .int (100), .int (0), .int (0), .ref a1, .ref a2, .ref a3, .ref a4, .ref a5, .ref a6, .ref a7, .ref a8, .ref a9, .ref a10, .ref a11, .null, .int (-1), .ref a12, .long (0)]))] _ := hP
  have hD : va_D A [(a0, .inr (15, [.int (1), .int (0), .int (100), .int (0), .int (0), .ref a1, .ref a2, .ref a3, .ref a4, .ref a5, .ref a6, .ref a7, .ref a8, .ref a9, .ref a10, .ref a11, .null, .int (-1), .ref a12, .long (0)]))] := hD
  refine lv_aload_n hx hb dX16_step_44 rfl (lv_at hl 0 rfl) ?_
  refine va_get (D := (dC, dI)) (ci := 15) (v := .int (1)) (C := "MinestrataModel") (T := TX16) (N := 20) hx hb hts inX16 hown hK hP 0 rfl rfl 0 (by decide) (hts _ q1427) (fun _ h9 => h9) rfl dX16_step_45 ?_
  refine lv_if_le (tgt := 54) hx hb dX16_step_48 (by decide +kernel) (fun h => absurd h (by decide +kernel)) (fun _ => ?_)
  refine lv_bipush (v := (32)) hx hb dX16_step_51 (by decide +kernel) ?_
  refine W.widen (k := 0) (n := 0) (Nat.le_of_ble_eq_true rfl) (Nat.le_of_ble_eq_true rfl) ?_
  exact W.zret hx hb hr (by decide +kernel) (n_end hS hP hD [0] (by decide +kernel) (fun _ => 0) (fun _ => 0) rfl rfl rfl) hS.2.2 dX16_step_53 hlk

set_option maxHeartbeats 4000000 in
set_option maxRecDepth 100000 in
/-- Minestrata.isStepValue -/
theorem m159 (l : Launch) (hst : l.stackTraces = false) (dC : Nat → ClassId) (dI : Nat → Nat → Nat) (g : Nat → Nat) (s3 : Int32) (e0 : ¬ (s3 < (-50))) (e1 : ¬ ((50) < s3)) (sz : Nat) :
    Met l Y49 (Cond.code Y49 prog_1_method_44_code 2 (Option.some Jvm.ClassFile.FieldType.boolean) :: AW) ({ frames := 1, cells := 0, slots := 0, locals := 22 } : Room) (nP dC dI g [.int (110), .int s3] [] sz) (nQ dC dI (fun f => some (.int (1))) (fun f r => []) (va_A [] sz)) 0 0 (va_A [] sz) := by
  refine n_met (by decide +kernel) (Nat.le_of_ble_eq_true rfl) (fun f => some (.int (1))) (fun f r => []) ?_
  intro p e s m below meth c A ls ⟨hx, hb, hr, hml, hown, hts, hlk, hnm⟩ hE hP hD hA hl
  have hown : s.vm.findClass "Minestrata" = some m.cls := hown
  have hK := hE.1
  have hS : va_S A s.heap s.heap [] := va_S.rf
  have hl : lv_has ls 2 [(0, .int (110)), (1, .int s3)] := hl
  refine lv_iload_n hx hb dX11_isStepValue_0 rfl (lv_at hl 0 rfl) ?_
  refine lv_bipush (v := (100)) hx hb dX11_isStepValue_1 (by decide +kernel) ?_
  refine lv_icmp_eq (tgt := 12) hx hb dX11_isStepValue_3 (by decide +kernel) (fun h => absurd h (by decide +kernel)) (fun _ => ?_)
  refine lv_iload_n hx hb dX11_isStepValue_6 rfl (lv_at hl 0 rfl) ?_
  refine lv_bipush (v := (98)) hx hb dX11_isStepValue_7 (by decide +kernel) ?_
  refine lv_icmp_ne (tgt := 19) hx hb dX11_isStepValue_9 (by decide +kernel) (fun _ => ?_) (fun h => absurd h (by decide +kernel))
  refine lv_iload_n hx hb dX11_isStepValue_19 rfl (lv_at hl 0 rfl) ?_
  refine lv_bipush (v := (102)) hx hb dX11_isStepValue_20 (by decide +kernel) ?_
  refine lv_icmp_eq (tgt := 31) hx hb dX11_isStepValue_22 (by decide +kernel) (fun h => absurd h (by decide +kernel)) (fun _ => ?_)
  refine lv_iload_n hx hb dX11_isStepValue_25 rfl (lv_at hl 0 rfl) ?_
  refine lv_bipush (v := (110)) hx hb dX11_isStepValue_26 (by decide +kernel) ?_
  refine lv_icmp_ne (tgt := 40) hx hb dX11_isStepValue_28 (by decide +kernel) (fun h => absurd (by decide +kernel) h) (fun _ => ?_)
  refine lv_iload_n hx hb dX11_isStepValue_31 rfl (lv_at hl 1 rfl) ?_
  refine lv_bipush (v := (-50)) hx hb dX11_isStepValue_32 (by decide +kernel) ?_
  refine lv_bipush (v := (50)) hx hb dX11_isStepValue_34 (by decide +kernel) ?_
  have hX : nCx p s m _ c prog_1_method_44_code 2 "Minestrata" dC dI g A [] _ _ := ⟨⟨hx, hb, hml, hown, hts⟩, hE, hS, hA, hP, hD⟩
  refine n_call (wr := []) hX (n_runS (n := 3) (wc := []) (As := [.int s3, .int (-50), .int (50)]) (rest := []) hX (m140 l hst dC dI g s3 e0 e1 _) [] rfl (by decide +kernel) q814 q815 q71 q816 (by decide +kernel) ⟨(Nat.le_of_ble_eq_true rfl), (Nat.le_of_ble_eq_true rfl)⟩ ⟨(Nat.le_of_ble_eq_true rfl), (Nat.le_of_ble_eq_true rfl)⟩ hl.1 rfl rfl (Nat.le_of_ble_eq_true rfl) dX11_isStepValue_36) [] [] rfl rfl (by decide +kernel) (by decide +kernel) (fun f1 r2 H locs hP hD hS => ?_)
  have hP : va_P (dC, dI) CL [] _ := hP
  have hD : va_D A [] := hD
  refine W.widen (k := 0) (n := 0) (Nat.le_of_ble_eq_true rfl) (Nat.le_of_ble_eq_true rfl) ?_
  refine W.eq (g2 := F0 m 39 ls [.int (1)]) rfl ?_
  refine W.widen (k := 0) (n := 0) (Nat.le_of_ble_eq_true rfl) (Nat.le_of_ble_eq_true rfl) ?_
  exact W.zret hx hb hr (by decide +kernel) (n_end hS hP hD [] (by decide +kernel) (fun _ => 0) (fun _ => 0) rfl rfl rfl) hS.2.2 dX11_isStepValue_39 hlk

set_option maxHeartbeats 4000000 in
set_option maxRecDepth 100000 in
/-- Minestrata$Net.hasJunction -/
theorem m160 (l : Launch) (hst : l.stackTraces = false) (dC : Nat → ClassId) (dI : Nat → Nat → Nat) (g : Nat → Nat) (a0 a1 a2 a3 a4 a5 a6 a7 a8 a9 a10 a11 : Nat) (s2 : Int32) (sz : Nat) :
    Met l Y26 (Cond.code Y26 prog_9_method_2_code 2 (Option.some Jvm.ClassFile.FieldType.boolean) :: AW) ({ frames := 0, cells := 0, slots := 0, locals := 0 } : Room) (nP dC dI g [.ref a0, .int s2] [(a0, .inr (8, [.int (0), .ref a1, .ref a2, .ref a3, .ref a4, .int (0), .ref a5, .ref a6, .ref a7, .ref a8, .ref a9, .ref a10, .ref a11]))] sz) (nQ dC dI (fun f => some (.int (0))) (fun f r => [(a0, .inr (8, [.int (0), .ref a1, .ref a2, .ref a3, .ref a4, .int (0), .ref a5, .ref a6, .ref a7, .ref a8, .ref a9, .ref a10, .ref a11]))]) (va_A [(a0, .inr (8, [.int (0), .ref a1, .ref a2, .ref a3, .ref a4, .int (0), .ref a5, .ref a6, .ref a7, .ref a8, .ref a9, .ref a10, .ref a11]))] sz)) 0 0 (va_A [(a0, .inr (8, [.int (0), .ref a1, .ref a2, .ref a3, .ref a4, .int (0), .ref a5, .ref a6, .ref a7, .ref a8, .ref a9, .ref a10, .ref a11]))] sz) := by
  refine n_met (by decide +kernel) (Nat.le_of_ble_eq_true rfl) (fun f => some (.int (0))) (fun f r => [(a0, .inr (8, [.int (0), .ref a1, .ref a2, .ref a3, .ref a4, .int (0), .ref a5, .ref a6, .ref a7, .ref a8, .ref a9, .ref a10, .ref a11]))]) ?_
  intro p e s m below meth c A ls ⟨hx, hb, hr, hml, hown, hts, hlk, hnm⟩ hE hP hD hA hl
  have hown : s.vm.findClass "Minestrata$Net" = some m.cls := hown
  have hK := hE.1
  have hS : va_S A s.heap s.heap [] := va_S.rf
  have hl : lv_has ls 2 [(0, .ref a0), (1, .int s2)] := hl
  refine lv_iload_n hx hb dX7_hasJunction_0 rfl (lv_at hl 1 rfl) ?_
  refine lv_if_lt (tgt := 16) hx hb dX7_hasJunction_1 (by decide +kernel) (fun h1 => ?_) (fun h1 => ?_)
  · skip
    refine lv_iconst (v := (0)) hx hb dX7_hasJunction_16 (by decide +kernel) ?_
    refine W.widen (k := 0) (n := 0) (Nat.le_of_ble_eq_true rfl) (Nat.le_of_ble_eq_true rfl) ?_
    exact W.zret hx hb hr (by decide +kernel) (n_end hS hP hD [0] (by decide +kernel) (fun _ => 0) (fun _ => 0) rfl rfl rfl) hS.2.2 dX7_hasJunction_17 hlk
  · skip
    refine lv_iload_n hx hb dX7_hasJunction_4 rfl (lv_at hl 1 rfl) ?_
    refine lv_aload_n hx hb dX7_hasJunction_5 rfl (lv_at hl 0 rfl) ?_
    refine va_get (D := (dC, dI)) (ci := 8) (v := .int (0)) (C := "Minestrata$Net") (T := TX7) (N := 13) hx hb hts inX7 hown hK hP 0 rfl rfl 0 (by decide) (hts _ q127) (fun _ h9 => h9) rfl dX7_hasJunction_6 ?_
    refine lv_icmp_ge (tgt := 16) hx hb dX7_hasJunction_9 (by decide +kernel) (fun _ => ?_) (fun h => absurd (show (0) ≤ s2 by have z0 := h1; simp only [n_lt, n_le, n_eq, show ((0) : Int32).toInt = 0 from rfl] at z0 ⊢; omega) h)
    refine lv_iconst (v := (0)) hx hb dX7_hasJunction_16 (by decide +kernel) ?_
    refine W.widen (k := 0) (n := 0) (Nat.le_of_ble_eq_true rfl) (Nat.le_of_ble_eq_true rfl) ?_
    exact W.zret hx hb hr (by decide +kernel) (n_end hS hP hD [0] (by decide +kernel) (fun _ => 0) (fun _ => 0) rfl rfl rfl) hS.2.2 dX7_hasJunction_17 hlk

set_option maxHeartbeats 4000000 in
set_option maxRecDepth 100000 in
/-- Minestrata.hasStepTarget -/
theorem m161 (l : Launch) (hst : l.stackTraces = false) (dC : Nat → ClassId) (dI : Nat → Nat → Nat) (g : Nat → Nat) (a0 a1 a2 a3 a4 a5 a6 a7 a8 a9 a10 a11 a12 a13 a14 a15 a16 a17 a18 a19 a20 a21 : Nat) (s2 : Int32) (sz : Nat) :
    Met l Y52 (Cond.code Y52 prog_1_method_45_code 3 (Option.some Jvm.ClassFile.FieldType.boolean) :: AW) ({ frames := 1, cells := 0, slots := 0, locals := 21 } : Room) (nP dC dI g [.ref a0, .int (110), .int s2] [(a0, .inr (12, [.ref a1, .ref a2, .ref a3, .ref a4, .ref a5, .ref a6, .ref a7, .ref a8, .null, .ref a9, .ref a10, .int (0), .int (100), .int (0), .int (0), .int (-1), .long (0), .int (1)])), (a1, .inr (8, [.int (0), .ref a11, .ref a12, .ref a13, .ref a14, .int (0), .ref a15, .ref a16, .ref a17, .ref a18, .ref a19, .ref a20, .ref a21]))] sz) (nQ dC dI (fun f => some (.int (0))) (fun f r => [(a0, .inr (12, [.ref a1, .ref a2, .ref a3, .ref a4, .ref a5, .ref a6, .ref a7, .ref a8, .null, .ref a9, .ref a10, .int (0), .int (100), .int (0), .int (0), .int (-1), .long (0), .int (1)])), (a1, .inr (8, [.int (0), .ref a11, .ref a12, .ref a13, .ref a14, .int (0), .ref a15, .ref a16, .ref a17, .ref a18, .ref a19, .ref a20, .ref a21]))]) (va_A [(a0, .inr (12, [.ref a1, .ref a2, .ref a3, .ref a4, .ref a5, .ref a6, .ref a7, .ref a8, .null, .ref a9, .ref a10, .int (0), .int (100), .int (0), .int (0), .int (-1), .long (0), .int (1)])), (a1, .inr (8, [.int (0), .ref a11, .ref a12, .ref a13, .ref a14, .int (0), .ref a15, .ref a16, .ref a17, .ref a18, .ref a19, .ref a20, .ref a21]))] sz)) 0 0 (va_A [(a0, .inr (12, [.ref a1, .ref a2, .ref a3, .ref a4, .ref a5, .ref a6, .ref a7, .ref a8, .null, .ref a9, .ref a10, .int (0), .int (100), .int (0), .int (0), .int (-1), .long (0), .int (1)])), (a1, .inr (8, [.int (0), .ref a11, .ref a12, .ref a13, .ref a14, .int (0), .ref a15, .ref a16, .ref a17, .ref a18, .ref a19, .ref a20, .ref a21]))] sz) := by
  refine n_met (by decide +kernel) (Nat.le_of_ble_eq_true rfl) (fun f => some (.int (0))) (fun f r => [(a0, .inr (12, [.ref a1, .ref a2, .ref a3, .ref a4, .ref a5, .ref a6, .ref a7, .ref a8, .null, .ref a9, .ref a10, .int (0), .int (100), .int (0), .int (0), .int (-1), .long (0), .int (1)])), (a1, .inr (8, [.int (0), .ref a11, .ref a12, .ref a13, .ref a14, .int (0), .ref a15, .ref a16, .ref a17, .ref a18, .ref a19, .ref a20, .ref a21]))]) ?_
  intro p e s m below meth c A ls ⟨hx, hb, hr, hml, hown, hts, hlk, hnm⟩ hE hP hD hA hl
  have hown : s.vm.findClass "Minestrata" = some m.cls := hown
  have hK := hE.1
  have hS : va_S A s.heap s.heap [] := va_S.rf
  have hl : lv_has ls 3 [(0, .ref a0), (1, .int (110)), (2, .int s2)] := hl
  refine lv_iload_n hx hb dX11_hasStepTarget_0 rfl (lv_at hl 1 rfl) ?_
  refine lv_bipush (v := (100)) hx hb dX11_hasStepTarget_1 (by decide +kernel) ?_
  refine lv_icmp_eq (tgt := 18) hx hb dX11_hasStepTarget_3 (by decide +kernel) (fun h => absurd h (by decide +kernel)) (fun _ => ?_)
  refine lv_iload_n hx hb dX11_hasStepTarget_6 rfl (lv_at hl 1 rfl) ?_
  refine lv_bipush (v := (98)) hx hb dX11_hasStepTarget_7 (by decide +kernel) ?_
  refine lv_icmp_eq (tgt := 18) hx hb dX11_hasStepTarget_9 (by decide +kernel) (fun h => absurd h (by decide +kernel)) (fun _ => ?_)
  refine lv_iload_n hx hb dX11_hasStepTarget_12 rfl (lv_at hl 1 rfl) ?_
  refine lv_bipush (v := (102)) hx hb dX11_hasStepTarget_13 (by decide +kernel) ?_
  refine lv_icmp_ne (tgt := 27) hx hb dX11_hasStepTarget_15 (by decide +kernel) (fun _ => ?_) (fun h => absurd h (by decide +kernel))
  refine lv_iload_n hx hb dX11_hasStepTarget_27 rfl (lv_at hl 1 rfl) ?_
  refine lv_bipush (v := (110)) hx hb dX11_hasStepTarget_28 (by decide +kernel) ?_
  refine lv_icmp_eq (tgt := 39) hx hb dX11_hasStepTarget_30 (by decide +kernel) (fun _ => ?_) (fun h => absurd (by decide +kernel) h)
  refine lv_aload_n hx hb dX11_hasStepTarget_39 rfl (lv_at hl 0 rfl) ?_
  refine va_get (D := (dC, dI)) (ci := 12) (v := .ref a1) (C := "Minestrata") (T := TX11) (N := 18) hx hb hts inX11 hown hK hP 0 rfl rfl 0 (by decide) (hts _ q504) (fun _ h9 => h9) rfl dX11_hasStepTarget_40 ?_
  refine lv_iload_n hx hb dX11_hasStepTarget_43 rfl (lv_at hl 2 rfl) ?_
  have hX : nCx p s m _ c prog_1_method_45_code 3 "Minestrata" dC dI g A [(a0, .inr (12, [.ref a1, .ref a2, .ref a3, .ref a4, .ref a5, .ref a6, .ref a7, .ref a8, .null, .ref a9, .ref a10, .int (0), .int (100), .int (0), .int (0), .int (-1), .long (0), .int (1)])), (a1, .inr (8, [.int (0), .ref a11, .ref a12, .ref a13, .ref a14, .int (0), .ref a15, .ref a16, .ref a17, .ref a18, .ref a19, .ref a20, .ref a21]))] _ _ := ⟨⟨hx, hb, hml, hown, hts⟩, hE, hS, hA, hP, hD⟩
  refine n_call (wr := [(a0, .inr (12, [.ref a1, .ref a2, .ref a3, .ref a4, .ref a5, .ref a6, .ref a7, .ref a8, .null, .ref a9, .ref a10, .int (0), .int (100), .int (0), .int (0), .int (-1), .long (0), .int (1)]))]) hX (n_runV (n := 1) (wc := [(a1, .inr (8, [.int (0), .ref a11, .ref a12, .ref a13, .ref a14, .int (0), .ref a15, .ref a16, .ref a17, .ref a18, .ref a19, .ref a20, .ref a21]))]) (As := [.int s2]) (rest := []) hX (m160 l hst dC dI g a1 a11 a12 a13 a14 a15 a16 a17 a18 a19 a20 a21 s2 _) [1] rfl (by decide +kernel) 1 (ci := 8) rfl (T := TX7) (N := 13) (C := "Minestrata$Net") rfl q944 q945 q946 q72 q947 (by decide +kernel) ⟨(Nat.le_of_ble_eq_true rfl), (Nat.le_of_ble_eq_true rfl)⟩ ⟨(Nat.le_of_ble_eq_true rfl), (Nat.le_of_ble_eq_true rfl)⟩ hl.1 rfl rfl (Nat.le_of_ble_eq_true rfl) dX11_hasStepTarget_44) [1] [0] rfl rfl (by decide +kernel) (by decide +kernel) (fun f1 r2 H locs hP hD hS => ?_)
  have hP : va_P (dC, dI) CL [(a0, .inr (12, [.ref a1, .ref a2, .ref a3, .ref a4, .ref a5, .ref a6, .ref a7, .ref a8, .null, .ref a9, .ref a10, .int (0), .int (100), .int (0), .int (0), .int (-1), .long (0), .int (1)])), (a1, .inr (8, [.int (0), .ref a11, .ref a12, .ref a13, .ref a14, .int (0), .ref a15, .ref a16, .ref a17, .ref a18, .ref a19, .ref a20, .ref a21]))] _ := hP
  have hD : va_D A [(a0, .inr (12, [.ref a1, .ref a2, .ref a3, .ref a4, .ref a5, .ref a6, .ref a7, .ref a8, .null, .ref a9, .ref a10, .int (0), .int (100), .int (0), .int (0), .int (-1), .long (0), .int (1)])), (a1, .inr (8, [.int (0), .ref a11, .ref a12, .ref a13, .ref a14, .int (0), .ref a15, .ref a16, .ref a17, .ref a18, .ref a19, .ref a20, .ref a21]))] := hD
  refine W.widen (k := 0) (n := 0) (Nat.le_of_ble_eq_true rfl) (Nat.le_of_ble_eq_true rfl) ?_
  refine W.eq (g2 := F0 m 47 ls [.int (0)]) rfl ?_
  refine W.widen (k := 0) (n := 0) (Nat.le_of_ble_eq_true rfl) (Nat.le_of_ble_eq_true rfl) ?_
  exact W.zret hx hb hr (by decide +kernel) (n_end hS hP hD [0, 1] (by decide +kernel) (fun _ => 0) (fun _ => 0) rfl rfl rfl) hS.2.2 dX11_hasStepTarget_47 hlk

set_option maxHeartbeats 4000000 in
set_option maxRecDepth 100000 in
/-- Minestrata.step -/
theorem m162 (l : Launch) (hst : l.stackTraces = false) (dC : Nat → ClassId) (dI : Nat → Nat → Nat) (g : Nat → Nat) (a0 a1 a2 a3 a4 a5 a6 a7 a8 a9 a10 a11 a12 a13 a14 a15 a16 a17 a18 a19 a20 a21 a22 a23 a24 a25 a26 a27 a28 a29 a30 : Nat) (s2 s3 : Int32) (e0 : ¬ (s3 < (-50))) (e1 : ¬ ((50) < s3)) (sz : Nat) :
    vx_Met l Y48 (Cond.code Y48 prog_1_method_9_code 5 (Option.some Jvm.ClassFile.FieldType.char) :: AW) ({ frames := 6, cells := 1, slots := 6, locals := 81 } : Room) (nP dC dI g [.ref a0, .int (110), .int s2, .int s3] [(a0, .inr (12, [.ref a1, .ref a2, .ref a3, .ref a4, .ref a5, .ref a6, .ref a7, .ref a8, .null, .ref a9, .ref a10, .int (0), .int (100), .int (0), .int (0), .int (-1), .long (0), .int (1)])), (a1, .inr (8, [.int (0), .ref a11, .ref a12, .ref a13, .ref a14, .int (0), .ref a15, .ref a16, .ref a17, .ref a18, .ref a19, .ref a20, .ref a21])), (a3, .inr (11, [.int (0), .ref a22, .ref a23, .ref a24, .ref a25, .ref a26, .ref a27, .ref a28, .ref a29, .ref a30]))] sz) (fun _ _ _ _ => False) (nX "java/lang/IndexOutOfBoundsException" (va_A [(a0, .inr (12, [.ref a1, .ref a2, .ref a3, .ref a4, .ref a5, .ref a6, .ref a7, .ref a8, .null, .ref a9, .ref a10, .int (0), .int (100), .int (0), .int (0), .int (-1), .long (0), .int (1)])), (a1, .inr (8, [.int (0), .ref a11, .ref a12, .ref a13, .ref a14, .int (0), .ref a15, .ref a16, .ref a17, .ref a18, .ref a19, .ref a20, .ref a21])), (a3, .inr (11, [.int (0), .ref a22, .ref a23, .ref a24, .ref a25, .ref a26, .ref a27, .ref a28, .ref a29, .ref a30]))] sz)) 1 6 (va_A [(a0, .inr (12, [.ref a1, .ref a2, .ref a3, .ref a4, .ref a5, .ref a6, .ref a7, .ref a8, .null, .ref a9, .ref a10, .int (0), .int (100), .int (0), .int (0), .int (-1), .long (0), .int (1)])), (a1, .inr (8, [.int (0), .ref a11, .ref a12, .ref a13, .ref a14, .int (0), .ref a15, .ref a16, .ref a17, .ref a18, .ref a19, .ref a20, .ref a21])), (a3, .inr (11, [.int (0), .ref a22, .ref a23, .ref a24, .ref a25, .ref a26, .ref a27, .ref a28, .ref a29, .ref a30]))] sz) := by
  refine n_metX (by decide +kernel) (Nat.le_of_ble_eq_true rfl) "java/lang/IndexOutOfBoundsException" ?_
  intro p e s m below meth c A ls ⟨hx, hb, hr, hml, hown, hts, hlk, hnm⟩ hout hE hP hD hA hl
  have hown : s.vm.findClass "Minestrata" = some m.cls := hown
  have hK := hE.1
  have hS : va_S A s.heap s.heap [] := va_S.rf
  have hl : lv_has ls 5 [(0, .ref a0), (1, .int (110)), (2, .int s2), (3, .int s3)] := hl
  have hlsz : ls.size = c.maxLocals := hl.1.trans hml.symm
  refine lv_iload_n hx hb dX11_step_0 rfl (lv_at hl 1 rfl) ?_
  refine lv_iload_n hx hb dX11_step_1 rfl (lv_at hl 3 rfl) ?_
  have hX : nCx p s m _ c prog_1_method_9_code 5 "Minestrata" dC dI g A [(a0, .inr (12, [.ref a1, .ref a2, .ref a3, .ref a4, .ref a5, .ref a6, .ref a7, .ref a8, .null, .ref a9, .ref a10, .int (0), .int (100), .int (0), .int (0), .int (-1), .long (0), .int (1)])), (a1, .inr (8, [.int (0), .ref a11, .ref a12, .ref a13, .ref a14, .int (0), .ref a15, .ref a16, .ref a17, .ref a18, .ref a19, .ref a20, .ref a21])), (a3, .inr (11, [.int (0), .ref a22, .ref a23, .ref a24, .ref a25, .ref a26, .ref a27, .ref a28, .ref a29, .ref a30]))] _ _ := ⟨⟨hx, hb, hml, hown, hts⟩, hE, hS, hA, hP, hD⟩
  refine n_call (wr := [(a0, .inr (12, [.ref a1, .ref a2, .ref a3, .ref a4, .ref a5, .ref a6, .ref a7, .ref a8, .null, .ref a9, .ref a10, .int (0), .int (100), .int (0), .int (0), .int (-1), .long (0), .int (1)])), (a1, .inr (8, [.int (0), .ref a11, .ref a12, .ref a13, .ref a14, .int (0), .ref a15, .ref a16, .ref a17, .ref a18, .ref a19, .ref a20, .ref a21])), (a3, .inr (11, [.int (0), .ref a22, .ref a23, .ref a24, .ref a25, .ref a26, .ref a27, .ref a28, .ref a29, .ref a30]))]) hX (n_runS (n := 2) (wc := []) (As := [.int (110), .int s3]) (rest := []) hX (m159 l hst dC dI g s3 e0 e1 _) [] rfl (by decide +kernel) q1046 q1047 q71 q1048 (by decide +kernel) ⟨(Nat.le_of_ble_eq_true rfl), (Nat.le_of_ble_eq_true rfl)⟩ ⟨(Nat.le_of_ble_eq_true rfl), (Nat.le_of_ble_eq_true rfl)⟩ hl.1 rfl rfl (Nat.le_of_ble_eq_true rfl) dX11_step_2) [] [0, 1, 2] rfl rfl (by decide +kernel) (by decide +kernel) (fun f1 r2 H locs hP hD hS => ?_)
  have hP : va_P (dC, dI) CL [(a0, .inr (12, [.ref a1, .ref a2, .ref a3, .ref a4, .ref a5, .ref a6, .ref a7, .ref a8, .null, .ref a9, .ref a10, .int (0), .int (100), .int (0), .int (0), .int (-1), .long (0), .int (1)])), (a1, .inr (8, [.int (0), .ref a11, .ref a12, .ref a13, .ref a14, .int (0), .ref a15, .ref a16, .ref a17, .ref a18, .ref a19, .ref a20, .ref a21])), (a3, .inr (11, [.int (0), .ref a22, .ref a23, .ref a24, .ref a25, .ref a26, .ref a27, .ref a28, .ref a29, .ref a30]))] _ := hP
  have hD : va_D A [(a0, .inr (12, [.ref a1, .ref a2, .ref a3, .ref a4, .ref a5, .ref a6, .ref a7, .ref a8, .null, .ref a9, .ref a10, .int (0), .int (100), .int (0), .int (0), .int (-1), .long (0), .int (1)])), (a1, .inr (8, [.int (0), .ref a11, .ref a12, .ref a13, .ref a14, .int (0), .ref a15, .ref a16, .ref a17, .ref a18, .ref a19, .ref a20, .ref a21])), (a3, .inr (11, [.int (0), .ref a22, .ref a23, .ref a24, .ref a25, .ref a26, .ref a27, .ref a28, .ref a29, .ref a30]))] := hD
  refine W.widen (k := 0) (n := 0) (Nat.le_of_ble_eq_true rfl) (Nat.le_of_ble_eq_true rfl) ?_
  refine W.eq (g2 := F0 m 5 ls [.int (1)]) rfl ?_
  refine lv_if_ne (tgt := 16) hx hb dX11_step_5 (by decide +kernel) (fun _ => ?_) (fun h => absurd h (by decide +kernel))
  refine lv_aload_n hx hb dX11_step_16 rfl (lv_at hl 0 rfl) ?_
  refine lv_iload_n hx hb dX11_step_17 rfl (lv_at hl 1 rfl) ?_
  refine lv_iload_n hx hb dX11_step_18 rfl (lv_at hl 2 rfl) ?_
  have hX : nCx p s m _ c prog_1_method_9_code 5 "Minestrata" dC dI g A [(a0, .inr (12, [.ref a1, .ref a2, .ref a3, .ref a4, .ref a5, .ref a6, .ref a7, .ref a8, .null, .ref a9, .ref a10, .int (0), .int (100), .int (0), .int (0), .int (-1), .long (0), .int (1)])), (a1, .inr (8, [.int (0), .ref a11, .ref a12, .ref a13, .ref a14, .int (0), .ref a15, .ref a16, .ref a17, .ref a18, .ref a19, .ref a20, .ref a21])), (a3, .inr (11, [.int (0), .ref a22, .ref a23, .ref a24, .ref a25, .ref a26, .ref a27, .ref a28, .ref a29, .ref a30]))] _ _ := ⟨⟨hx, hb, hml, hown, hts⟩, hE, hS, hA, hP, hD⟩
  refine n_call (wr := [(a3, .inr (11, [.int (0), .ref a22, .ref a23, .ref a24, .ref a25, .ref a26, .ref a27, .ref a28, .ref a29, .ref a30]))]) hX (n_runV (n := 2) (wc := [(a0, .inr (12, [.ref a1, .ref a2, .ref a3, .ref a4, .ref a5, .ref a6, .ref a7, .ref a8, .null, .ref a9, .ref a10, .int (0), .int (100), .int (0), .int (0), .int (-1), .long (0), .int (1)])), (a1, .inr (8, [.int (0), .ref a11, .ref a12, .ref a13, .ref a14, .int (0), .ref a15, .ref a16, .ref a17, .ref a18, .ref a19, .ref a20, .ref a21]))]) (As := [.int (110), .int s2]) (rest := []) hX (m161 l hst dC dI g a0 a1 a2 a3 a4 a5 a6 a7 a8 a9 a10 a11 a12 a13 a14 a15 a16 a17 a18 a19 a20 a21 s2 _) [0, 1] rfl (by decide +kernel) 0 (ci := 12) rfl (T := TX11) (N := 18) (C := "Minestrata") rfl q1049 q1051 q22 q71 q1052 (by decide +kernel) ⟨(Nat.le_of_ble_eq_true rfl), (Nat.le_of_ble_eq_true rfl)⟩ ⟨(Nat.le_of_ble_eq_true rfl), (Nat.le_of_ble_eq_true rfl)⟩ hl.1 rfl rfl (Nat.le_of_ble_eq_true rfl) dX11_step_19) [0, 1] [2] rfl rfl (by decide +kernel) (by decide +kernel) (fun f3 r4 H locs hP hD hS => ?_)
  have hP : va_P (dC, dI) CL [(a3, .inr (11, [.int (0), .ref a22, .ref a23, .ref a24, .ref a25, .ref a26, .ref a27, .ref a28, .ref a29, .ref a30])), (a0, .inr (12, [.ref a1, .ref a2, .ref a3, .ref a4, .ref a5, .ref a6, .ref a7, .ref a8, .null, .ref a9, .ref a10, .int (0), .int (100), .int (0), .int (0), .int (-1), .long (0), .int (1)])), (a1, .inr (8, [.int (0), .ref a11, .ref a12, .ref a13, .ref a14, .int (0), .ref a15, .ref a16, .ref a17, .ref a18, .ref a19, .ref a20, .ref a21]))] _ := hP
  have hD : va_D A [(a3, .inr (11, [.int (0), .ref a22, .ref a23, .ref a24, .ref a25, .ref a26, .ref a27, .ref a28, .ref a29, .ref a30])), (a0, .inr (12, [.ref a1, .ref a2, .ref a3, .ref a4, .ref a5, .ref a6, .ref a7, .ref a8, .null, .ref a9, .ref a10, .int (0), .int (100), .int (0), .int (0), .int (-1), .long (0), .int (1)])), (a1, .inr (8, [.int (0), .ref a11, .ref a12, .ref a13, .ref a14, .int (0), .ref a15, .ref a16, .ref a17, .ref a18, .ref a19, .ref a20, .ref a21]))] := hD
  refine W.widen (k := 0) (n := 0) (Nat.le_of_ble_eq_true rfl) (Nat.le_of_ble_eq_true rfl) ?_
  refine W.eq (g2 := F0 m 22 ls [.int (0)]) rfl ?_
  refine lv_if_ne (tgt := 33) hx hb dX11_step_22 (by decide +kernel) (fun h => absurd (by decide +kernel) h) (fun _ => ?_)
  exact n_throw hx hb hst hown hts hE hS (names := ["java/lang/RuntimeException", "java/lang/Exception"]) (by decide +kernel) (by decide +kernel) q948 q91 hat1p hat1a hat1 hat1g (hl.1.trans hml.symm) dX11_step_25 dX11_step_28 dX11_step_29 dX11_step_32 hout (Nat.le_of_ble_eq_true rfl) (Nat.le_of_ble_eq_true rfl) (Nat.le_of_ble_eq_true rfl) (Nat.le_of_ble_eq_true rfl) hlk (Nat.le_of_ble_eq_true rfl) (Nat.le_of_ble_eq_true rfl)

set_option maxHeartbeats 4000000 in
set_option maxRecDepth 100000 in
/-- MinestrataLaw.step -/
theorem m163 (l : Launch) (hst : l.stackTraces = false) (dC : Nat → ClassId) (dI : Nat → Nat → Nat) (g : Nat → Nat) (a0 a1 a2 a3 a4 a5 a6 a7 a8 a9 a10 a11 a12 a13 a14 a15 a16 a17 a18 a19 a20 a21 a22 a23 a24 a25 a26 a27 a28 a29 a30 a31 : Nat) (s2 s3 : Int32) (e0 : ¬ (s3 < (-50))) (e1 : ¬ ((50) < s3)) (sz : Nat) :
    Met l Y47 (Cond.codeWith Y47 method_10_code 6 (Option.some Jvm.ClassFile.FieldType.int) [((0 : Nat), (12 : Nat), (15 : Nat), (13 : Nat)), ((0 : Nat), (12 : Nat), (19 : Nat), (21 : Nat)), ((0 : Nat), (12 : Nat), (23 : Nat), (47 : Nat))] :: AW) ({ frames := 7, cells := 1, slots := 6, locals := 105 } : Room) (nP dC dI g [.ref a0, .int (110), .int s2, .int s3, .ref a1] [(a0, .inr (12, [.ref a2, .ref a3, .ref a4, .ref a5, .ref a6, .ref a7, .ref a8, .ref a9, .null, .ref a10, .ref a11, .int (0), .int (100), .int (0), .int (0), .int (-1), .long (0), .int (1)])), (a2, .inr (8, [.int (0), .ref a12, .ref a13, .ref a14, .ref a15, .int (0), .ref a16, .ref a17, .ref a18, .ref a19, .ref a20, .ref a21, .ref a22])), (a4, .inr (11, [.int (0), .ref a23, .ref a24, .ref a25, .ref a26, .ref a27, .ref a28, .ref a29, .ref a30, .ref a31]))] sz) (nQ dC dI (fun f => some (.int (2))) (fun f r => []) (va_A [(a0, .inr (12, [.ref a2, .ref a3, .ref a4, .ref a5, .ref a6, .ref a7, .ref a8, .ref a9, .null, .ref a10, .ref a11, .int (0), .int (100), .int (0), .int (0), .int (-1), .long (0), .int (1)])), (a2, .inr (8, [.int (0), .ref a12, .ref a13, .ref a14, .ref a15, .int (0), .ref a16, .ref a17, .ref a18, .ref a19, .ref a20, .ref a21, .ref a22])), (a4, .inr (11, [.int (0), .ref a23, .ref a24, .ref a25, .ref a26, .ref a27, .ref a28, .ref a29, .ref a30, .ref a31]))] sz)) 1 6 (va_A [(a0, .inr (12, [.ref a2, .ref a3, .ref a4, .ref a5, .ref a6, .ref a7, .ref a8, .ref a9, .null, .ref a10, .ref a11, .int (0), .int (100), .int (0), .int (0), .int (-1), .long (0), .int (1)])), (a2, .inr (8, [.int (0), .ref a12, .ref a13, .ref a14, .ref a15, .int (0), .ref a16, .ref a17, .ref a18, .ref a19, .ref a20, .ref a21, .ref a22])), (a4, .inr (11, [.int (0), .ref a23, .ref a24, .ref a25, .ref a26, .ref a27, .ref a28, .ref a29, .ref a30, .ref a31]))] sz) := by
  refine n_metW (by decide +kernel) q1040 (Nat.le_of_ble_eq_true rfl) (fun f => some (.int (2))) (fun f r => []) ?_
  intro p e s m below meth c A ls ⟨hx, hb, hr, hml, hown, hts, hlk, hnm⟩ htab hE hP hD hA hl
  have hown : s.vm.findClass "MinestrataLaw" = some m.cls := hown
  have hK := hE.1
  have hS : va_S A s.heap s.heap [] := va_S.rf
  have hl : lv_has ls 6 [(0, .ref a0), (1, .int (110)), (2, .int s2), (3, .int s3), (4, .ref a1)] := hl
  refine lv_aload hx hb dL_step_0 (lv_at hl 4 rfl) ?_
  refine lv_iconst (v := (0)) hx hb dL_step_2 (by decide +kernel) ?_
  refine lv_aload_n hx hb dL_step_3 rfl (lv_at hl 0 rfl) ?_
  refine lv_iload_n hx hb dL_step_4 rfl (lv_at hl 1 rfl) ?_
  refine lv_iload_n hx hb dL_step_5 rfl (lv_at hl 2 rfl) ?_
  refine lv_iload_n hx hb dL_step_6 rfl (lv_at hl 3 rfl) ?_
  have hX : nCx p s m _ c method_10_code 6 "MinestrataLaw" dC dI g A [(a0, .inr (12, [.ref a2, .ref a3, .ref a4, .ref a5, .ref a6, .ref a7, .ref a8, .ref a9, .null, .ref a10, .ref a11, .int (0), .int (100), .int (0), .int (0), .int (-1), .long (0), .int (1)])), (a2, .inr (8, [.int (0), .ref a12, .ref a13, .ref a14, .ref a15, .int (0), .ref a16, .ref a17, .ref a18, .ref a19, .ref a20, .ref a21, .ref a22])), (a4, .inr (11, [.int (0), .ref a23, .ref a24, .ref a25, .ref a26, .ref a27, .ref a28, .ref a29, .ref a30, .ref a31]))] _ _ := ⟨⟨hx, hb, hml, hown, hts⟩, hE, hS, hA, hP, hD⟩
  refine n_callX (E0 := "java/lang/IndexOutOfBoundsException") hX (n_runVX (n := 3) (wc := [(a0, .inr (12, [.ref a2, .ref a3, .ref a4, .ref a5, .ref a6, .ref a7, .ref a8, .ref a9, .null, .ref a10, .ref a11, .int (0), .int (100), .int (0), .int (0), .int (-1), .long (0), .int (1)])), (a2, .inr (8, [.int (0), .ref a12, .ref a13, .ref a14, .ref a15, .int (0), .ref a16, .ref a17, .ref a18, .ref a19, .ref a20, .ref a21, .ref a22])), (a4, .inr (11, [.int (0), .ref a23, .ref a24, .ref a25, .ref a26, .ref a27, .ref a28, .ref a29, .ref a30, .ref a31]))]) (As := [.int (110), .int s2, .int s3]) (rest := [.int (0), .ref a1]) hX (m162 l hst dC dI g a0 a2 a3 a4 a5 a6 a7 a8 a9 a10 a11 a12 a13 a14 a15 a16 a17 a18 a19 a20 a21 a22 a23 a24 a25 a26 a27 a28 a29 a30 a31 s2 s3 e0 e1 _) [0, 1, 2] rfl (by decide +kernel) 0 (ci := 12) rfl (T := TX11) (N := 18) (C := "Minestrata") rfl q1042 q1043 q1044 q71 q1045 (by decide +kernel) ⟨(Nat.le_of_ble_eq_true rfl), (Nat.le_of_ble_eq_true rfl)⟩ ⟨(Nat.le_of_ble_eq_true rfl), (Nat.le_of_ble_eq_true rfl)⟩ hl.1 rfl rfl (Nat.le_of_ble_eq_true rfl) dL_step_7) [0, 1, 2] rfl (fun ce q9 H locs hS hce hcv hcl => ?_)
  refine n_catch (E := "java/lang/IndexOutOfBoundsException") (name := "java/lang/IndexOutOfBoundsException") hE hts hown htab [⟨0, 12, 15, 13⟩] ⟨0, 12, 19, 21⟩ [⟨0, 12, 23, 47⟩] rfl (List.forall_mem_cons.mpr ⟨Or.inr ⟨by decide, "java/lang/IllegalArgumentException", hts _ q808, hE.2.2.2.1 ("java/lang/IndexOutOfBoundsException", "java/lang/IllegalArgumentException") (by decide +kernel)⟩, (fun z hz => nomatch hz)⟩) (by decide +kernel) (by decide) q907 x950 hce hcv hcl ?_
  refine W.widen (k := 1) (n := 6) (Nat.le_of_ble_eq_true rfl) (Nat.le_of_ble_eq_true rfl) ?_
  refine W.eq (g2 := F0 m 19 ls [.ref q9]) rfl ?_
  refine lv_astore (lv' := [(5, .ref q9), (0, .ref a0), (1, .int (110)), (2, .int s2), (3, .int s3), (4, .ref a1)]) hx hb dL_step_19 hl (by decide) rfl (fun ls hl => ?_)
  refine lv_iconst (v := (2)) hx hb dL_step_21 (by decide +kernel) ?_
  refine W.widen (k := 1) (n := 6) (Nat.le_of_ble_eq_true rfl) (Nat.le_of_ble_eq_true rfl) ?_
  exact W.iret hx hb hr (n_end0 hS (fun _ => 0) rfl rfl) hS.2.2 dL_step_22 hlk

set_option maxHeartbeats 4000000 in
set_option maxRecDepth 100000 in
/-- MinestrataModel.isValue -/
theorem m164 (l : Launch) (hst : l.stackTraces = false) (dC : Nat → ClassId) (dI : Nat → Nat → Nat) (g : Nat → Nat) (s3 : Int32) (e0 : ¬ (s3 < (-50))) (e1 : ¬ ((50) < s3)) (sz : Nat) :
    Met l Y51 (Cond.code Y51 prog_14_method_37_code 2 (Option.some Jvm.ClassFile.FieldType.boolean) :: AW) ({ frames := 1, cells := 0, slots := 0, locals := 22 } : Room) (nP dC dI g [.int (110), .int s3] [] sz) (nQ dC dI (fun f => some (.int (1))) (fun f r => []) (va_A [] sz)) 0 0 (va_A [] sz) := by
  refine n_met (by decide +kernel) (Nat.le_of_ble_eq_true rfl) (fun f => some (.int (1))) (fun f r => []) ?_
  intro p e s m below meth c A ls ⟨hx, hb, hr, hml, hown, hts, hlk, hnm⟩ hE hP hD hA hl
  have hown : s.vm.findClass "MinestrataModel" = some m.cls := hown
  have hK := hE.1
  have hS : va_S A s.heap s.heap [] := va_S.rf
  have hl : lv_has ls 2 [(0, .int (110)), (1, .int s3)] := hl
  refine lv_iload_n hx hb dX16_isValue_0 rfl (lv_at hl 0 rfl) ?_
  refine lv_tableIn (tgt := 103) (off := 102) hx hb dX16_isValue_1 (by decide +kernel) (by decide +kernel) rfl (by decide +kernel) ?_
  refine lv_iload_n hx hb dX16_isValue_103 rfl (lv_at hl 1 rfl) ?_
  refine lv_bipush (v := (-50)) hx hb dX16_isValue_104 (by decide +kernel) ?_
  refine lv_bipush (v := (50)) hx hb dX16_isValue_106 (by decide +kernel) ?_
  have hX : nCx p s m _ c prog_14_method_37_code 2 "MinestrataModel" dC dI g A [] _ _ := ⟨⟨hx, hb, hml, hown, hts⟩, hE, hS, hA, hP, hD⟩
  refine n_call (wr := []) hX (n_runS (n := 3) (wc := []) (As := [.int s3, .int (-50), .int (50)]) (rest := []) hX (m145 l hst dC dI g s3 e0 e1 _) [] rfl (by decide +kernel) q1503 q1504 q82 q1505 (by decide +kernel) ⟨(Nat.le_of_ble_eq_true rfl), (Nat.le_of_ble_eq_true rfl)⟩ ⟨(Nat.le_of_ble_eq_true rfl), (Nat.le_of_ble_eq_true rfl)⟩ hl.1 rfl rfl (Nat.le_of_ble_eq_true rfl) dX16_isValue_108) [] [] rfl rfl (by decide +kernel) (by decide +kernel) (fun f1 r2 H locs hP hD hS => ?_)
  have hP : va_P (dC, dI) CL [] _ := hP
  have hD : va_D A [] := hD
  refine W.widen (k := 0) (n := 0) (Nat.le_of_ble_eq_true rfl) (Nat.le_of_ble_eq_true rfl) ?_
  refine W.eq (g2 := F0 m 111 ls [.int (1)]) rfl ?_
  refine W.widen (k := 0) (n := 0) (Nat.le_of_ble_eq_true rfl) (Nat.le_of_ble_eq_true rfl) ?_
  exact W.zret hx hb hr (by decide +kernel) (n_end hS hP hD [] (by decide +kernel) (fun _ => 0) (fun _ => 0) rfl rfl rfl) hS.2.2 dX16_isValue_111 hlk

set_option maxHeartbeats 4000000 in
set_option maxRecDepth 100000 in
/-- MinestrataModel.isJunction -/
theorem m165 (l : Launch) (hst : l.stackTraces = false) (dC : Nat → ClassId) (dI : Nat → Nat → Nat) (g : Nat → Nat) (a0 a1 a2 a3 a4 a5 a6 a7 a8 a9 a10 a11 a12 : Nat) (s2 : Int32) (sz : Nat) :
    Met l Y28 (Cond.code Y28 prog_14_method_7_code 2 (Option.some Jvm.ClassFile.FieldType.boolean) :: AW) ({ frames := 1, cells := 0, slots := 0, locals := 22 } : Room) (nP dC dI g [.ref a0, .int s2] [(a0, .inr (15, [.int (0), .int (0), .int (100), .int (0), .int (0), .ref a1, .ref a2, .ref a3, .ref a4, .ref a5, .ref a6, .ref a7, .ref a8, .ref a9, .ref a10, .ref a11, .null, .int (-1), .ref a12, .long (0)]))] sz) (nQ dC dI (fun f => some (.int (0))) (fun f r => [(a0, .inr (15, [.int (0), .int (0), .int (100), .int (0), .int (0), .ref a1, .ref a2, .ref a3, .ref a4, .ref a5, .ref a6, .ref a7, .ref a8, .ref a9, .ref a10, .ref a11, .null, .int (-1), .ref a12, .long (0)]))]) (va_A [(a0, .inr (15, [.int (0), .int (0), .int (100), .int (0), .int (0), .ref a1, .ref a2, .ref a3, .ref a4, .ref a5, .ref a6, .ref a7, .ref a8, .ref a9, .ref a10, .ref a11, .null, .int (-1), .ref a12, .long (0)]))] sz)) 0 0 (va_A [(a0, .inr (15, [.int (0), .int (0), .int (100), .int (0), .int (0), .ref a1, .ref a2, .ref a3, .ref a4, .ref a5, .ref a6, .ref a7, .ref a8, .ref a9, .ref a10, .ref a11, .null, .int (-1), .ref a12, .long (0)]))] sz) := by
  refine n_met (by decide +kernel) (Nat.le_of_ble_eq_true rfl) (fun f => some (.int (0))) (fun f r => [(a0, .inr (15, [.int (0), .int (0), .int (100), .int (0), .int (0), .ref a1, .ref a2, .ref a3, .ref a4, .ref a5, .ref a6, .ref a7, .ref a8, .ref a9, .ref a10, .ref a11, .null, .int (-1), .ref a12, .long (0)]))]) ?_
  intro p e s m below meth c A ls ⟨hx, hb, hr, hml, hown, hts, hlk, hnm⟩ hE hP hD hA hl
  have hown : s.vm.findClass "MinestrataModel" = some m.cls := hown
  have hK := hE.1
  have hS : va_S A s.heap s.heap [] := va_S.rf
  have hl : lv_has ls 2 [(0, .ref a0), (1, .int s2)] := hl
  refine lv_iload_n hx hb dX16_isJunction_0 rfl (lv_at hl 1 rfl) ?_
  refine lv_iconst (v := (0)) hx hb dX16_isJunction_1 (by decide +kernel) ?_
  refine lv_aload_n hx hb dX16_isJunction_2 rfl (lv_at hl 0 rfl) ?_
  refine va_get (D := (dC, dI)) (ci := 15) (v := .int (0)) (C := "MinestrataModel") (T := TX16) (N := 20) hx hb hts inX16 hown hK hP 0 rfl rfl 1 (by decide) (hts _ q1429) (fun _ h9 => h9) rfl dX16_isJunction_3 ?_
  refine lv_iconst (v := (1)) hx hb dX16_isJunction_6 (by decide +kernel) ?_
  refine lv_isub hx hb dX16_isJunction_7 ?_
  refine nt_i (v := (-1)) (by decide +kernel) ?_
  have hX : nCx p s m _ c prog_14_method_7_code 2 "MinestrataModel" dC dI g A [(a0, .inr (15, [.int (0), .int (0), .int (100), .int (0), .int (0), .ref a1, .ref a2, .ref a3, .ref a4, .ref a5, .ref a6, .ref a7, .ref a8, .ref a9, .ref a10, .ref a11, .null, .int (-1), .ref a12, .long (0)]))] _ _ := ⟨⟨hx, hb, hml, hown, hts⟩, hE, hS, hA, hP, hD⟩
  refine n_call (wr := [(a0, .inr (15, [.int (0), .int (0), .int (100), .int (0), .int (0), .ref a1, .ref a2, .ref a3, .ref a4, .ref a5, .ref a6, .ref a7, .ref a8, .ref a9, .ref a10, .ref a11, .null, .int (-1), .ref a12, .long (0)]))]) hX (n_runS (n := 3) (wc := []) (As := [.int s2, .int (0), .int (-1)]) (rest := []) hX (m105 l hst dC dI g s2 _) [] rfl (by decide +kernel) q1503 q1504 q82 q1505 (by decide +kernel) ⟨(Nat.le_of_ble_eq_true rfl), (Nat.le_of_ble_eq_true rfl)⟩ ⟨(Nat.le_of_ble_eq_true rfl), (Nat.le_of_ble_eq_true rfl)⟩ hl.1 rfl rfl (Nat.le_of_ble_eq_true rfl) dX16_isJunction_8) [] [0] rfl rfl (by decide +kernel) (by decide +kernel) (fun f1 r2 H locs hP hD hS => ?_)
  have hP : va_P (dC, dI) CL [(a0, .inr (15, [.int (0), .int (0), .int (100), .int (0), .int (0), .ref a1, .ref a2, .ref a3, .ref a4, .ref a5, .ref a6, .ref a7, .ref a8, .ref a9, .ref a10, .ref a11, .null, .int (-1), .ref a12, .long (0)]))] _ := hP
  have hD : va_D A [(a0, .inr (15, [.int (0), .int (0), .int (100), .int (0), .int (0), .ref a1, .ref a2, .ref a3, .ref a4, .ref a5, .ref a6, .ref a7, .ref a8, .ref a9, .ref a10, .ref a11, .null, .int (-1), .ref a12, .long (0)]))] := hD
  refine W.widen (k := 0) (n := 0) (Nat.le_of_ble_eq_true rfl) (Nat.le_of_ble_eq_true rfl) ?_
  refine W.eq (g2 := F0 m 11 ls [.int (0)]) rfl ?_
  refine W.widen (k := 0) (n := 0) (Nat.le_of_ble_eq_true rfl) (Nat.le_of_ble_eq_true rfl) ?_
  exact W.zret hx hb hr (by decide +kernel) (n_end hS hP hD [0] (by decide +kernel) (fun _ => 0) (fun _ => 0) rfl rfl rfl) hS.2.2 dX16_isJunction_11 hlk

set_option maxHeartbeats 4000000 in
set_option maxRecDepth 100000 in
/-- MinestrataModel.isThere -/
theorem m166 (l : Launch) (hst : l.stackTraces = false) (dC : Nat → ClassId) (dI : Nat → Nat → Nat) (g : Nat → Nat) (a0 a1 a2 a3 a4 a5 a6 a7 a8 a9 a10 a11 a12 : Nat) (s2 : Int32) (sz : Nat) :
    Met l Y54 (Cond.code Y54 prog_14_method_38_code 3 (Option.some Jvm.ClassFile.FieldType.boolean) :: AW) ({ frames := 2, cells := 0, slots := 0, locals := 43 } : Room) (nP dC dI g [.ref a0, .int (110), .int s2] [(a0, .inr (15, [.int (0), .int (0), .int (100), .int (0), .int (0), .ref a1, .ref a2, .ref a3, .ref a4, .ref a5, .ref a6, .ref a7, .ref a8, .ref a9, .ref a10, .ref a11, .null, .int (-1), .ref a12, .long (0)]))] sz) (nQ dC dI (fun f => some (.int (0))) (fun f r => [(a0, .inr (15, [.int (0), .int (0), .int (100), .int (0), .int (0), .ref a1, .ref a2, .ref a3, .ref a4, .ref a5, .ref a6, .ref a7, .ref a8, .ref a9, .ref a10, .ref a11, .null, .int (-1), .ref a12, .long (0)]))]) (va_A [(a0, .inr (15, [.int (0), .int (0), .int (100), .int (0), .int (0), .ref a1, .ref a2, .ref a3, .ref a4, .ref a5, .ref a6, .ref a7, .ref a8, .ref a9, .ref a10, .ref a11, .null, .int (-1), .ref a12, .long (0)]))] sz)) 0 0 (va_A [(a0, .inr (15, [.int (0), .int (0), .int (100), .int (0), .int (0), .ref a1, .ref a2, .ref a3, .ref a4, .ref a5, .ref a6, .ref a7, .ref a8, .ref a9, .ref a10, .ref a11, .null, .int (-1), .ref a12, .long (0)]))] sz) := by
  refine n_met (by decide +kernel) (Nat.le_of_ble_eq_true rfl) (fun f => some (.int (0))) (fun f r => [(a0, .inr (15, [.int (0), .int (0), .int (100), .int (0), .int (0), .ref a1, .ref a2, .ref a3, .ref a4, .ref a5, .ref a6, .ref a7, .ref a8, .ref a9, .ref a10, .ref a11, .null, .int (-1), .ref a12, .long (0)]))]) ?_
  intro p e s m below meth c A ls ⟨hx, hb, hr, hml, hown, hts, hlk, hnm⟩ hE hP hD hA hl
  have hown : s.vm.findClass "MinestrataModel" = some m.cls := hown
  have hK := hE.1
  have hS : va_S A s.heap s.heap [] := va_S.rf
  have hl : lv_has ls 3 [(0, .ref a0), (1, .int (110)), (2, .int s2)] := hl
  refine lv_iload_n hx hb dX16_isThere_0 rfl (lv_at hl 1 rfl) ?_
  refine lv_bipush (v := (100)) hx hb dX16_isThere_1 (by decide +kernel) ?_
  refine lv_icmp_eq (tgt := 18) hx hb dX16_isThere_3 (by decide +kernel) (fun h => absurd h (by decide +kernel)) (fun _ => ?_)
  refine lv_iload_n hx hb dX16_isThere_6 rfl (lv_at hl 1 rfl) ?_
  refine lv_bipush (v := (102)) hx hb dX16_isThere_7 (by decide +kernel) ?_
  refine lv_icmp_eq (tgt := 18) hx hb dX16_isThere_9 (by decide +kernel) (fun h => absurd h (by decide +kernel)) (fun _ => ?_)
  refine lv_iload_n hx hb dX16_isThere_12 rfl (lv_at hl 1 rfl) ?_
  refine lv_bipush (v := (98)) hx hb dX16_isThere_13 (by decide +kernel) ?_
  refine lv_icmp_ne (tgt := 35) hx hb dX16_isThere_15 (by decide +kernel) (fun _ => ?_) (fun h => absurd h (by decide +kernel))
  refine lv_iload_n hx hb dX16_isThere_35 rfl (lv_at hl 1 rfl) ?_
  refine lv_bipush (v := (115)) hx hb dX16_isThere_36 (by decide +kernel) ?_
  refine lv_icmp_eq (tgt := 47) hx hb dX16_isThere_38 (by decide +kernel) (fun h => absurd h (by decide +kernel)) (fun _ => ?_)
  refine lv_iload_n hx hb dX16_isThere_41 rfl (lv_at hl 1 rfl) ?_
  refine lv_bipush (v := (110)) hx hb dX16_isThere_42 (by decide +kernel) ?_
  refine lv_icmp_ne (tgt := 55) hx hb dX16_isThere_44 (by decide +kernel) (fun h => absurd (by decide +kernel) h) (fun _ => ?_)
  refine lv_aload_n hx hb dX16_isThere_47 rfl (lv_at hl 0 rfl) ?_
  refine lv_iload_n hx hb dX16_isThere_48 rfl (lv_at hl 2 rfl) ?_
  have hX : nCx p s m _ c prog_14_method_38_code 3 "MinestrataModel" dC dI g A [(a0, .inr (15, [.int (0), .int (0), .int (100), .int (0), .int (0), .ref a1, .ref a2, .ref a3, .ref a4, .ref a5, .ref a6, .ref a7, .ref a8, .ref a9, .ref a10, .ref a11, .null, .int (-1), .ref a12, .long (0)]))] _ _ := ⟨⟨hx, hb, hml, hown, hts⟩, hE, hS, hA, hP, hD⟩
  refine n_call (wr := []) hX (n_runV (n := 1) (wc := [(a0, .inr (15, [.int (0), .int (0), .int (100), .int (0), .int (0), .ref a1, .ref a2, .ref a3, .ref a4, .ref a5, .ref a6, .ref a7, .ref a8, .ref a9, .ref a10, .ref a11, .null, .int (-1), .ref a12, .long (0)]))]) (As := [.int s2]) (rest := []) hX (m165 l hst dC dI g a0 a1 a2 a3 a4 a5 a6 a7 a8 a9 a10 a11 a12 s2 _) [0] rfl (by decide +kernel) 0 (ci := 15) rfl (T := TX16) (N := 20) (C := "MinestrataModel") rfl q1518 q1520 q41 q82 q1521 (by decide +kernel) ⟨(Nat.le_of_ble_eq_true rfl), (Nat.le_of_ble_eq_true rfl)⟩ ⟨(Nat.le_of_ble_eq_true rfl), (Nat.le_of_ble_eq_true rfl)⟩ hl.1 rfl rfl (Nat.le_of_ble_eq_true rfl) dX16_isThere_49) [0] [] rfl rfl (by decide +kernel) (by decide +kernel) (fun f1 r2 H locs hP hD hS => ?_)
  have hP : va_P (dC, dI) CL [(a0, .inr (15, [.int (0), .int (0), .int (100), .int (0), .int (0), .ref a1, .ref a2, .ref a3, .ref a4, .ref a5, .ref a6, .ref a7, .ref a8, .ref a9, .ref a10, .ref a11, .null, .int (-1), .ref a12, .long (0)]))] _ := hP
  have hD : va_D A [(a0, .inr (15, [.int (0), .int (0), .int (100), .int (0), .int (0), .ref a1, .ref a2, .ref a3, .ref a4, .ref a5, .ref a6, .ref a7, .ref a8, .ref a9, .ref a10, .ref a11, .null, .int (-1), .ref a12, .long (0)]))] := hD
  refine W.widen (k := 0) (n := 0) (Nat.le_of_ble_eq_true rfl) (Nat.le_of_ble_eq_true rfl) ?_
  refine W.eq (g2 := F0 m 52 ls [.int (0)]) rfl ?_
  refine lv_goto (tgt := 60) hx hb dX16_isThere_52 (by decide +kernel) ?_
  refine W.widen (k := 0) (n := 0) (Nat.le_of_ble_eq_true rfl) (Nat.le_of_ble_eq_true rfl) ?_
  exact W.zret hx hb hr (by decide +kernel) (n_end hS hP hD [0] (by decide +kernel) (fun _ => 0) (fun _ => 0) rfl rfl rfl) hS.2.2 dX16_isThere_60 hlk

set_option maxHeartbeats 4000000 in
set_option maxRecDepth 100000 in
/-- MinestrataModel.step -/
theorem m167 (l : Launch) (hst : l.stackTraces = false) (dC : Nat → ClassId) (dI : Nat → Nat → Nat) (g : Nat → Nat) (a0 a1 a2 a3 a4 a5 a6 a7 a8 a9 a10 a11 a12 : Nat) (s2 s3 : Int32) (e0 : ¬ (s3 < (-50))) (e1 : ¬ ((50) < s3)) (sz : Nat) :
    Met l Y50 (Cond.code Y50 prog_14_method_41_code 9 (Option.some Jvm.ClassFile.FieldType.char) :: AW) ({ frames := 3, cells := 0, slots := 0, locals := 65 } : Room) (nP dC dI g [.ref a0, .int (110), .int s2, .int s3] [(a0, .inr (15, [.int (0), .int (0), .int (100), .int (0), .int (0), .ref a1, .ref a2, .ref a3, .ref a4, .ref a5, .ref a6, .ref a7, .ref a8, .ref a9, .ref a10, .ref a11, .null, .int (-1), .ref a12, .long (0)]))] sz) (nQ dC dI (fun f => some (.int (32))) (fun f r => [(a0, .inr (15, [.int (2), .int (0), .int (100), .int (0), .int (0), .ref a1, .ref a2, .ref a3, .ref a4, .ref a5, .ref a6, .ref a7, .ref a8, .ref a9, .ref a10, .ref a11, .null, .int (-1), .ref a12, .long (0)]))]) (va_A [(a0, .inr (15, [.int (0), .int (0), .int (100), .int (0), .int (0), .ref a1, .ref a2, .ref a3, .ref a4, .ref a5, .ref a6, .ref a7, .ref a8, .ref a9, .ref a10, .ref a11, .null, .int (-1), .ref a12, .long (0)]))] sz)) 0 0 (va_A [(a0, .inr (15, [.int (0), .int (0), .int (100), .int (0), .int (0), .ref a1, .ref a2, .ref a3, .ref a4, .ref a5, .ref a6, .ref a7, .ref a8, .ref a9, .ref a10, .ref a11, .null, .int (-1), .ref a12, .long (0)]))] sz) := by
  refine n_met (by decide +kernel) (Nat.le_of_ble_eq_true rfl) (fun f => some (.int (32))) (fun f r => [(a0, .inr (15, [.int (2), .int (0), .int (100), .int (0), .int (0), .ref a1, .ref a2, .ref a3, .ref a4, .ref a5, .ref a6, .ref a7, .ref a8, .ref a9, .ref a10, .ref a11, .null, .int (-1), .ref a12, .long (0)]))]) ?_
  intro p e s m below meth c A ls ⟨hx, hb, hr, hml, hown, hts, hlk, hnm⟩ hE hP hD hA hl
  have hown : s.vm.findClass "MinestrataModel" = some m.cls := hown
  have hK := hE.1
  have hS : va_S A s.heap s.heap [] := va_S.rf
  have hl : lv_has ls 9 [(0, .ref a0), (1, .int (110)), (2, .int s2), (3, .int s3)] := hl
  refine lv_aload_n hx hb dX16_step_0 rfl (lv_at hl 0 rfl) ?_
  refine lv_iload_n hx hb dX16_step_1 rfl (lv_at hl 1 rfl) ?_
  refine lv_iload_n hx hb dX16_step_2 rfl (lv_at hl 3 rfl) ?_
  have hX : nCx p s m _ c prog_14_method_41_code 9 "MinestrataModel" dC dI g A [(a0, .inr (15, [.int (0), .int (0), .int (100), .int (0), .int (0), .ref a1, .ref a2, .ref a3, .ref a4, .ref a5, .ref a6, .ref a7, .ref a8, .ref a9, .ref a10, .ref a11, .null, .int (-1), .ref a12, .long (0)]))] _ _ := ⟨⟨hx, hb, hml, hown, hts⟩, hE, hS, hA, hP, hD⟩
  refine n_call (wr := [(a0, .inr (15, [.int (0), .int (0), .int (100), .int (0), .int (0), .ref a1, .ref a2, .ref a3, .ref a4, .ref a5, .ref a6, .ref a7, .ref a8, .ref a9, .ref a10, .ref a11, .null, .int (-1), .ref a12, .long (0)]))]) hX (n_runS (n := 2) (wc := []) (As := [.int (110), .int s3]) (rest := [.ref a0]) hX (m164 l hst dC dI g s3 e0 e1 _) [] rfl (by decide +kernel) q2107 q2108 q82 q2109 (by decide +kernel) ⟨(Nat.le_of_ble_eq_true rfl), (Nat.le_of_ble_eq_true rfl)⟩ ⟨(Nat.le_of_ble_eq_true rfl), (Nat.le_of_ble_eq_true rfl)⟩ hl.1 rfl rfl (Nat.le_of_ble_eq_true rfl) dX16_step_3) [] [0] rfl rfl (by decide +kernel) (by decide +kernel) (fun f1 r2 H locs hP hD hS => ?_)
  have hP : va_P (dC, dI) CL [(a0, .inr (15, [.int (0), .int (0), .int (100), .int (0), .int (0), .ref a1, .ref a2, .ref a3, .ref a4, .ref a5, .ref a6, .ref a7, .ref a8, .ref a9, .ref a10, .ref a11, .null, .int (-1), .ref a12, .long (0)]))] _ := hP
  have hD : va_D A [(a0, .inr (15, [.int (0), .int (0), .int (100), .int (0), .int (0), .ref a1, .ref a2, .ref a3, .ref a4, .ref a5, .ref a6, .ref a7, .ref a8, .ref a9, .ref a10, .ref a11, .null, .int (-1), .ref a12, .long (0)]))] := hD
  refine W.widen (k := 0) (n := 0) (Nat.le_of_ble_eq_true rfl) (Nat.le_of_ble_eq_true rfl) ?_
  refine W.eq (g2 := F0 m 6 ls [.int (1), .ref a0]) rfl ?_
  refine lv_if_ne (tgt := 13) hx hb dX16_step_6 (by decide +kernel) (fun _ => ?_) (fun h => absurd h (by decide +kernel))
  refine lv_aload_n hx hb dX16_step_13 rfl (lv_at hl 0 rfl) ?_
  refine lv_iload_n hx hb dX16_step_14 rfl (lv_at hl 1 rfl) ?_
  refine lv_iload_n hx hb dX16_step_15 rfl (lv_at hl 2 rfl) ?_
  have hX : nCx p s m _ c prog_14_method_41_code 9 "MinestrataModel" dC dI g A [(a0, .inr (15, [.int (0), .int (0), .int (100), .int (0), .int (0), .ref a1, .ref a2, .ref a3, .ref a4, .ref a5, .ref a6, .ref a7, .ref a8, .ref a9, .ref a10, .ref a11, .null, .int (-1), .ref a12, .long (0)]))] _ _ := ⟨⟨hx, hb, hml, hown, hts⟩, hE, hS, hA, hP, hD⟩
  refine n_call (wr := []) hX (n_runV (n := 2) (wc := [(a0, .inr (15, [.int (0), .int (0), .int (100), .int (0), .int (0), .ref a1, .ref a2, .ref a3, .ref a4, .ref a5, .ref a6, .ref a7, .ref a8, .ref a9, .ref a10, .ref a11, .null, .int (-1), .ref a12, .long (0)]))]) (As := [.int (110), .int s2]) (rest := [.ref a0]) hX (m166 l hst dC dI g a0 a1 a2 a3 a4 a5 a6 a7 a8 a9 a10 a11 a12 s2 _) [0] rfl (by decide +kernel) 0 (ci := 15) rfl (T := TX16) (N := 20) (C := "MinestrataModel") rfl q2110 q2112 q63 q82 q2113 (by decide +kernel) ⟨(Nat.le_of_ble_eq_true rfl), (Nat.le_of_ble_eq_true rfl)⟩ ⟨(Nat.le_of_ble_eq_true rfl), (Nat.le_of_ble_eq_true rfl)⟩ hl.1 rfl rfl (Nat.le_of_ble_eq_true rfl) dX16_step_16) [0] [] rfl rfl (by decide +kernel) (by decide +kernel) (fun f3 r4 H locs hP hD hS => ?_)
  have hP : va_P (dC, dI) CL [(a0, .inr (15, [.int (0), .int (0), .int (100), .int (0), .int (0), .ref a1, .ref a2, .ref a3, .ref a4, .ref a5, .ref a6, .ref a7, .ref a8, .ref a9, .ref a10, .ref a11, .null, .int (-1), .ref a12, .long (0)]))] _ := hP
  have hD : va_D A [(a0, .inr (15, [.int (0), .int (0), .int (100), .int (0), .int (0), .ref a1, .ref a2, .ref a3, .ref a4, .ref a5, .ref a6, .ref a7, .ref a8, .ref a9, .ref a10, .ref a11, .null, .int (-1), .ref a12, .long (0)]))] := hD
  refine W.widen (k := 0) (n := 0) (Nat.le_of_ble_eq_true rfl) (Nat.le_of_ble_eq_true rfl) ?_
  refine W.eq (g2 := F0 m 19 ls [.int (0), .ref a0]) rfl ?_
  refine lv_if_ne (tgt := 26) hx hb dX16_step_19 (by decide +kernel) (fun h => absurd (by decide +kernel) h) (fun _ => ?_)
  refine lv_iconst (v := (2)) hx hb dX16_step_22 (by decide +kernel) ?_
  refine lv_goto (tgt := 41) hx hb dX16_step_23 (by decide +kernel) ?_
  refine va_put (D := (dC, dI)) (ci := 15) (v := .int (2)) (ty := .int) (C := "MinestrataModel") (T := TX16) (N := 20) hx hb hts inX16 tyX16 tyX16_ok nmX16 hown hK hP hD hS 0 rfl rfl 0 (by decide) (hts _ q1427) (fun _ h9 => h9) rfl (by decide +kernel) rfl rfl (Nat.le_of_ble_eq_true rfl) dX16_step_41 (fun H locs hP hD hS => ?_)
  have hP : va_P (dC, dI) CL [(a0, .inr (15, [.int (2), .int (0), .int (100), .int (0), .int (0), .ref a1, .ref a2, .ref a3, .ref a4, .ref a5, .ref a6, .ref a7, .ref a8, .ref a9, .ref a10, .ref a11, .null, .int (-1), .ref a12, .long (0)]))] _ := hP
  have hD : va_D A [(a0, .inr (15, [.int (2), .int (0), .int (100), .int (0), .int (0), .ref a1, .ref a2, .ref a3, .ref a4, .ref a5, .ref a6, .ref a7, .ref a8, .ref a9, .ref a10, .ref a11, .null, .int (-1), .ref a12, .long (0)]))] := hD
  refine lv_aload_n hx hb dX16_step_44 rfl (lv_at hl 0 rfl) ?_
  refine va_get (D := (dC, dI)) (ci := 15) (v := .int (2)) (C := "MinestrataModel") (T := TX16) (N := 20) hx hb hts inX16 hown hK hP 0 rfl rfl 0 (by decide) (hts _ q1427) (fun _ h9 => h9) rfl dX16_step_45 ?_
  refine lv_if_le (tgt := 54) hx hb dX16_step_48 (by decide +kernel) (fun h => absurd h (by decide +kernel)) (fun _ => ?_)
  refine lv_bipush (v := (32)) hx hb dX16_step_51 (by decide +kernel) ?_
  refine W.widen (k := 0) (n := 0) (Nat.le_of_ble_eq_true rfl) (Nat.le_of_ble_eq_true rfl) ?_
  exact W.zret hx hb hr (by decide +kernel) (n_end hS hP hD [0] (by decide +kernel) (fun _ => 0) (fun _ => 0) rfl rfl rfl) hS.2.2 dX16_step_53 hlk

set_option maxHeartbeats 4000000 in
set_option maxRecDepth 100000 in
/-- Minestrata.isWithin -/
theorem m168 (l : Launch) (hst : l.stackTraces = false) (dC : Nat → ClassId) (dI : Nat → Nat → Nat) (g : Nat → Nat) (s3 : Int32) (e0 : s3 < (0)) (sz : Nat) :
    Met l Y21 (Cond.code Y21 prog_1_method_38_code 3 (Option.some Jvm.ClassFile.FieldType.boolean) :: AW) ({ frames := 0, cells := 0, slots := 0, locals := 0 } : Room) (nP dC dI g [.int s3, .int (0), .int (20)] [] sz) (nQ dC dI (fun f => some (.int (0))) (fun f r => []) (va_A [] sz)) 0 0 (va_A [] sz) := by
  refine n_met (by decide +kernel) (Nat.le_of_ble_eq_true rfl) (fun f => some (.int (0))) (fun f r => []) ?_
  intro p e s m below meth c A ls ⟨hx, hb, hr, hml, hown, hts, hlk, hnm⟩ hE hP hD hA hl
  have hown : s.vm.findClass "Minestrata" = some m.cls := hown
  have hK := hE.1
  have hS : va_S A s.heap s.heap [] := va_S.rf
  have hl : lv_has ls 3 [(0, .int s3), (1, .int (0)), (2, .int (20))] := hl
  refine lv_iload_n hx hb dX11_isWithin_0 rfl (lv_at hl 0 rfl) ?_
  refine lv_iload_n hx hb dX11_isWithin_1 rfl (lv_at hl 1 rfl) ?_
  refine lv_icmp_lt (tgt := 14) hx hb dX11_isWithin_2 (by decide +kernel) (fun _ => ?_) (fun h => absurd e0 h)
  refine lv_iconst (v := (0)) hx hb dX11_isWithin_14 (by decide +kernel) ?_
  refine W.widen (k := 0) (n := 0) (Nat.le_of_ble_eq_true rfl) (Nat.le_of_ble_eq_true rfl) ?_
  exact W.zret hx hb hr (by decide +kernel) (n_end hS hP hD [] (by decide +kernel) (fun _ => 0) (fun _ => 0) rfl rfl rfl) hS.2.2 dX11_isWithin_15 hlk

set_option maxHeartbeats 4000000 in
set_option maxRecDepth 100000 in
/-- Minestrata.isStepValue -/
theorem m169 (l : Launch) (hst : l.stackTraces = false) (dC : Nat → ClassId) (dI : Nat → Nat → Nat) (g : Nat → Nat) (s3 : Int32) (e0 : s3 < (0)) (sz : Nat) :
    Met l Y49 (Cond.code Y49 prog_1_method_44_code 2 (Option.some Jvm.ClassFile.FieldType.boolean) :: AW) ({ frames := 1, cells := 0, slots := 0, locals := 22 } : Room) (nP dC dI g [.int (115), .int s3] [] sz) (nQ dC dI (fun f => some (.int (0))) (fun f r => []) (va_A [] sz)) 0 0 (va_A [] sz) := by
  refine n_met (by decide +kernel) (Nat.le_of_ble_eq_true rfl) (fun f => some (.int (0))) (fun f r => []) ?_
  intro p e s m below meth c A ls ⟨hx, hb, hr, hml, hown, hts, hlk, hnm⟩ hE hP hD hA hl
  have hown : s.vm.findClass "Minestrata" = some m.cls := hown
  have hK := hE.1
  have hS : va_S A s.heap s.heap [] := va_S.rf
  have hl : lv_has ls 2 [(0, .int (115)), (1, .int s3)] := hl
  refine lv_iload_n hx hb dX11_isStepValue_0 rfl (lv_at hl 0 rfl) ?_
  refine lv_bipush (v := (100)) hx hb dX11_isStepValue_1 (by decide +kernel) ?_
  refine lv_icmp_eq (tgt := 12) hx hb dX11_isStepValue_3 (by decide +kernel) (fun h => absurd h (by decide +kernel)) (fun _ => ?_)
  refine lv_iload_n hx hb dX11_isStepValue_6 rfl (lv_at hl 0 rfl) ?_
  refine lv_bipush (v := (98)) hx hb dX11_isStepValue_7 (by decide +kernel) ?_
  refine lv_icmp_ne (tgt := 19) hx hb dX11_isStepValue_9 (by decide +kernel) (fun _ => ?_) (fun h => absurd h (by decide +kernel))
  refine lv_iload_n hx hb dX11_isStepValue_19 rfl (lv_at hl 0 rfl) ?_
  refine lv_bipush (v := (102)) hx hb dX11_isStepValue_20 (by decide +kernel) ?_
  refine lv_icmp_eq (tgt := 31) hx hb dX11_isStepValue_22 (by decide +kernel) (fun h => absurd h (by decide +kernel)) (fun _ => ?_)
  refine lv_iload_n hx hb dX11_isStepValue_25 rfl (lv_at hl 0 rfl) ?_
  refine lv_bipush (v := (110)) hx hb dX11_isStepValue_26 (by decide +kernel) ?_
  refine lv_icmp_ne (tgt := 40) hx hb dX11_isStepValue_28 (by decide +kernel) (fun _ => ?_) (fun h => absurd h (by decide +kernel))
  refine lv_iload_n hx hb dX11_isStepValue_40 rfl (lv_at hl 0 rfl) ?_
  refine lv_bipush (v := (115)) hx hb dX11_isStepValue_41 (by decide +kernel) ?_
  refine lv_icmp_ne (tgt := 54) hx hb dX11_isStepValue_43 (by decide +kernel) (fun h => absurd (by decide +kernel) h) (fun _ => ?_)
  refine lv_iload_n hx hb dX11_isStepValue_46 rfl (lv_at hl 1 rfl) ?_
  refine lv_iconst (v := (0)) hx hb dX11_isStepValue_47 (by decide +kernel) ?_
  refine lv_bipush (v := (20)) hx hb dX11_isStepValue_48 (by decide +kernel) ?_
  have hX : nCx p s m _ c prog_1_method_44_code 2 "Minestrata" dC dI g A [] _ _ := ⟨⟨hx, hb, hml, hown, hts⟩, hE, hS, hA, hP, hD⟩
  refine n_call (wr := []) hX (n_runS (n := 3) (wc := []) (As := [.int s3, .int (0), .int (20)]) (rest := []) hX (m168 l hst dC dI g s3 e0 _) [] rfl (by decide +kernel) q814 q815 q71 q816 (by decide +kernel) ⟨(Nat.le_of_ble_eq_true rfl), (Nat.le_of_ble_eq_true rfl)⟩ ⟨(Nat.le_of_ble_eq_true rfl), (Nat.le_of_ble_eq_true rfl)⟩ hl.1 rfl rfl (Nat.le_of_ble_eq_true rfl) dX11_isStepValue_50) [] [] rfl rfl (by decide +kernel) (by decide +kernel) (fun f1 r2 H locs hP hD hS => ?_)
  have hP : va_P (dC, dI) CL [] _ := hP
  have hD : va_D A [] := hD
  refine W.widen (k := 0) (n := 0) (Nat.le_of_ble_eq_true rfl) (Nat.le_of_ble_eq_true rfl) ?_
  refine W.eq (g2 := F0 m 53 ls [.int (0)]) rfl ?_
  refine W.widen (k := 0) (n := 0) (Nat.le_of_ble_eq_true rfl) (Nat.le_of_ble_eq_true rfl) ?_
  exact W.zret hx hb hr (by decide +kernel) (n_end hS hP hD [] (by decide +kernel) (fun _ => 0) (fun _ => 0) rfl rfl rfl) hS.2.2 dX11_isStepValue_53 hlk

set_option maxHeartbeats 4000000 in
set_option maxRecDepth 100000 in
/-- Minestrata.step -/
theorem m170 (l : Launch) (hst : l.stackTraces = false) (dC : Nat → ClassId) (dI : Nat → Nat → Nat) (g : Nat → Nat) (a0 a1 a2 a3 a4 a5 a6 a7 a8 a9 a10 a11 a12 a13 a14 a15 a16 a17 a18 a19 a20 a21 a22 a23 a24 a25 a26 a27 a28 a29 a30 : Nat) (s2 s3 : Int32) (e0 : s3 < (0)) (sz : Nat) :
    vx_Met l Y48 (Cond.code Y48 prog_1_method_9_code 5 (Option.some Jvm.ClassFile.FieldType.char) :: AW) ({ frames := 6, cells := 1, slots := 6, locals := 81 } : Room) (nP dC dI g [.ref a0, .int (115), .int s2, .int s3] [(a0, .inr (12, [.ref a1, .ref a2, .ref a3, .ref a4, .ref a5, .ref a6, .ref a7, .ref a8, .null, .ref a9, .ref a10, .int (0), .int (100), .int (0), .int (0), .int (-1), .long (0), .int (1)])), (a1, .inr (8, [.int (0), .ref a11, .ref a12, .ref a13, .ref a14, .int (0), .ref a15, .ref a16, .ref a17, .ref a18, .ref a19, .ref a20, .ref a21])), (a3, .inr (11, [.int (0), .ref a22, .ref a23, .ref a24, .ref a25, .ref a26, .ref a27, .ref a28, .ref a29, .ref a30]))] sz) (fun _ _ _ _ => False) (nX "java/lang/IllegalArgumentException" (va_A [(a0, .inr (12, [.ref a1, .ref a2, .ref a3, .ref a4, .ref a5, .ref a6, .ref a7, .ref a8, .null, .ref a9, .ref a10, .int (0), .int (100), .int (0), .int (0), .int (-1), .long (0), .int (1)])), (a1, .inr (8, [.int (0), .ref a11, .ref a12, .ref a13, .ref a14, .int (0), .ref a15, .ref a16, .ref a17, .ref a18, .ref a19, .ref a20, .ref a21])), (a3, .inr (11, [.int (0), .ref a22, .ref a23, .ref a24, .ref a25, .ref a26, .ref a27, .ref a28, .ref a29, .ref a30]))] sz)) 1 6 (va_A [(a0, .inr (12, [.ref a1, .ref a2, .ref a3, .ref a4, .ref a5, .ref a6, .ref a7, .ref a8, .null, .ref a9, .ref a10, .int (0), .int (100), .int (0), .int (0), .int (-1), .long (0), .int (1)])), (a1, .inr (8, [.int (0), .ref a11, .ref a12, .ref a13, .ref a14, .int (0), .ref a15, .ref a16, .ref a17, .ref a18, .ref a19, .ref a20, .ref a21])), (a3, .inr (11, [.int (0), .ref a22, .ref a23, .ref a24, .ref a25, .ref a26, .ref a27, .ref a28, .ref a29, .ref a30]))] sz) := by
  refine n_metX (by decide +kernel) (Nat.le_of_ble_eq_true rfl) "java/lang/IllegalArgumentException" ?_
  intro p e s m below meth c A ls ⟨hx, hb, hr, hml, hown, hts, hlk, hnm⟩ hout hE hP hD hA hl
  have hown : s.vm.findClass "Minestrata" = some m.cls := hown
  have hK := hE.1
  have hS : va_S A s.heap s.heap [] := va_S.rf
  have hl : lv_has ls 5 [(0, .ref a0), (1, .int (115)), (2, .int s2), (3, .int s3)] := hl
  have hlsz : ls.size = c.maxLocals := hl.1.trans hml.symm
  refine lv_iload_n hx hb dX11_step_0 rfl (lv_at hl 1 rfl) ?_
  refine lv_iload_n hx hb dX11_step_1 rfl (lv_at hl 3 rfl) ?_
  have hX : nCx p s m _ c prog_1_method_9_code 5 "Minestrata" dC dI g A [(a0, .inr (12, [.ref a1, .ref a2, .ref a3, .ref a4, .ref a5, .ref a6, .ref a7, .ref a8, .null, .ref a9, .ref a10, .int (0), .int (100), .int (0), .int (0), .int (-1), .long (0), .int (1)])), (a1, .inr (8, [.int (0), .ref a11, .ref a12, .ref a13, .ref a14, .int (0), .ref a15, .ref a16, .ref a17, .ref a18, .ref a19, .ref a20, .ref a21])), (a3, .inr (11, [.int (0), .ref a22, .ref a23, .ref a24, .ref a25, .ref a26, .ref a27, .ref a28, .ref a29, .ref a30]))] _ _ := ⟨⟨hx, hb, hml, hown, hts⟩, hE, hS, hA, hP, hD⟩
  refine n_call (wr := [(a0, .inr (12, [.ref a1, .ref a2, .ref a3, .ref a4, .ref a5, .ref a6, .ref a7, .ref a8, .null, .ref a9, .ref a10, .int (0), .int (100), .int (0), .int (0), .int (-1), .long (0), .int (1)])), (a1, .inr (8, [.int (0), .ref a11, .ref a12, .ref a13, .ref a14, .int (0), .ref a15, .ref a16, .ref a17, .ref a18, .ref a19, .ref a20, .ref a21])), (a3, .inr (11, [.int (0), .ref a22, .ref a23, .ref a24, .ref a25, .ref a26, .ref a27, .ref a28, .ref a29, .ref a30]))]) hX (n_runS (n := 2) (wc := []) (As := [.int (115), .int s3]) (rest := []) hX (m169 l hst dC dI g s3 e0 _) [] rfl (by decide +kernel) q1046 q1047 q71 q1048 (by decide +kernel) ⟨(Nat.le_of_ble_eq_true rfl), (Nat.le_of_ble_eq_true rfl)⟩ ⟨(Nat.le_of_ble_eq_true rfl), (Nat.le_of_ble_eq_true rfl)⟩ hl.1 rfl rfl (Nat.le_of_ble_eq_true rfl) dX11_step_2) [] [0, 1, 2] rfl rfl (by decide +kernel) (by decide +kernel) (fun f1 r2 H locs hP hD hS => ?_)
  have hP : va_P (dC, dI) CL [(a0, .inr (12, [.ref a1, .ref a2, .ref a3, .ref a4, .ref a5, .ref a6, .ref a7, .ref a8, .null, .ref a9, .ref a10, .int (0), .int (100), .int (0), .int (0), .int (-1), .long (0), .int (1)])), (a1, .inr (8, [.int (0), .ref a11, .ref a12, .ref a13, .ref a14, .int (0), .ref a15, .ref a16, .ref a17, .ref a18, .ref a19, .ref a20, .ref a21])), (a3, .inr (11, [.int (0), .ref a22, .ref a23, .ref a24, .ref a25, .ref a26, .ref a27, .ref a28, .ref a29, .ref a30]))] _ := hP
  have hD : va_D A [(a0, .inr (12, [.ref a1, .ref a2, .ref a3, .ref a4, .ref a5, .ref a6, .ref a7, .ref a8, .null, .ref a9, .ref a10, .int (0), .int (100), .int (0), .int (0), .int (-1), .long (0), .int (1)])), (a1, .inr (8, [.int (0), .ref a11, .ref a12, .ref a13, .ref a14, .int (0), .ref a15, .ref a16, .ref a17, .ref a18, .ref a19, .ref a20, .ref a21])), (a3, .inr (11, [.int (0), .ref a22, .ref a23, .ref a24, .ref a25, .ref a26, .ref a27, .ref a28, .ref a29, .ref a30]))] := hD
  refine W.widen (k := 0) (n := 0) (Nat.le_of_ble_eq_true rfl) (Nat.le_of_ble_eq_true rfl) ?_
  refine W.eq (g2 := F0 m 5 ls [.int (0)]) rfl ?_
  refine lv_if_ne (tgt := 16) hx hb dX11_step_5 (by decide +kernel) (fun h => absurd (by decide +kernel) h) (fun _ => ?_)
  exact n_throw hx hb hst hown hts hE hS (names := ["java/lang/RuntimeException", "java/lang/Exception"]) (by decide +kernel) (by decide +kernel) q817 q89 hat0p hat0a hat0 hat0g (hl.1.trans hml.symm) dX11_step_8 dX11_step_11 dX11_step_12 dX11_step_15 hout (Nat.le_of_ble_eq_true rfl) (Nat.le_of_ble_eq_true rfl) (Nat.le_of_ble_eq_true rfl) (Nat.le_of_ble_eq_true rfl) hlk (Nat.le_of_ble_eq_true rfl) (Nat.le_of_ble_eq_true rfl)

