set_option maxHeartbeats 4000000 in
set_option maxRecDepth 100000 in
/-- Minestrata$Net.hasRoad -/
theorem m289 (l : Launch) (hst : l.stackTraces = false) (dC : Nat → ClassId) (dI : Nat → Nat → Nat) (g : Nat → Nat) (a0 a1 a2 a3 a4 a5 a6 a7 a8 a9 a10 a11 : Nat) (s1 : Int32) (sz : Nat) :
    Met l Y53 (Cond.code Y53 prog_9_method_3_code 2 (Option.some Jvm.ClassFile.FieldType.boolean) :: AW) ({ frames := 0, cells := 0, slots := 0, locals := 0 } : Room) (nP dC dI g [.ref a0, .int s1] [(a0, .inr (8, [.int (0), .ref a1, .ref a2, .ref a3, .ref a4, .int (0), .ref a5, .ref a6, .ref a7, .ref a8, .ref a9, .ref a10, .ref a11]))] sz) (nQ dC dI (fun f => some (.int (0))) (fun f r => [(a0, .inr (8, [.int (0), .ref a1, .ref a2, .ref a3, .ref a4, .int (0), .ref a5, .ref a6, .ref a7, .ref a8, .ref a9, .ref a10, .ref a11]))]) (va_A [(a0, .inr (8, [.int (0), .ref a1, .ref a2, .ref a3, .ref a4, .int (0), .ref a5, .ref a6, .ref a7, .ref a8, .ref a9, .ref a10, .ref a11]))] sz)) 0 0 (va_A [(a0, .inr (8, [.int (0), .ref a1, .ref a2, .ref a3, .ref a4, .int (0), .ref a5, .ref a6, .ref a7, .ref a8, .ref a9, .ref a10, .ref a11]))] sz) := by
  refine n_met (by decide +kernel) (Nat.le_of_ble_eq_true rfl) (fun f => some (.int (0))) (fun f r => [(a0, .inr (8, [.int (0), .ref a1, .ref a2, .ref a3, .ref a4, .int (0), .ref a5, .ref a6, .ref a7, .ref a8, .ref a9, .ref a10, .ref a11]))]) ?_
  intro p e s m below meth c A ls ⟨hx, hb, hr, hml, hown, hts, hlk, hnm⟩ hE hP hD hA hl
  have hown : s.vm.findClass "Minestrata$Net" = some m.cls := hown
  have hK := hE.1
  have hS : va_S A s.heap s.heap [] := va_S.rf
  have hl : lv_has ls 2 [(0, .ref a0), (1, .int s1)] := hl
  refine lv_iload_n hx hb dX7_hasRoad_0 rfl (lv_at hl 1 rfl) ?_
  refine lv_if_lt (tgt := 16) hx hb dX7_hasRoad_1 (by decide +kernel) (fun h1 => ?_) (fun h1 => ?_)
  · skip
    refine lv_iconst (v := (0)) hx hb dX7_hasRoad_16 (by decide +kernel) ?_
    refine W.widen (k := 0) (n := 0) (Nat.le_of_ble_eq_true rfl) (Nat.le_of_ble_eq_true rfl) ?_
    exact W.zret hx hb hr (by decide +kernel) (n_end hS hP hD [0] (by decide +kernel) (fun _ => 0) (fun _ => 0) rfl rfl rfl) hS.2.2 dX7_hasRoad_17 hlk
  · skip
    refine lv_iload_n hx hb dX7_hasRoad_4 rfl (lv_at hl 1 rfl) ?_
    refine lv_aload_n hx hb dX7_hasRoad_5 rfl (lv_at hl 0 rfl) ?_
    refine va_get (D := (dC, dI)) (ci := 8) (v := .int (0)) (C := "Minestrata$Net") (T := TX7) (N := 13) hx hb hts inX7 hown hK hP 0 rfl rfl 5 (by decide) (hts _ q148) (fun _ h9 => h9) rfl dX7_hasRoad_6 ?_
    refine lv_icmp_ge (tgt := 16) hx hb dX7_hasRoad_9 (by decide +kernel) (fun _ => ?_) (fun h => absurd (show (0) ≤ s1 by have z0 := h1; simp only [n_lt, n_le, n_eq, show ((0) : Int32).toInt = 0 from rfl] at z0 ⊢; omega) h)
    refine lv_iconst (v := (0)) hx hb dX7_hasRoad_16 (by decide +kernel) ?_
    refine W.widen (k := 0) (n := 0) (Nat.le_of_ble_eq_true rfl) (Nat.le_of_ble_eq_true rfl) ?_
    exact W.zret hx hb hr (by decide +kernel) (n_end hS hP hD [0] (by decide +kernel) (fun _ => 0) (fun _ => 0) rfl rfl rfl) hS.2.2 dX7_hasRoad_17 hlk

set_option maxHeartbeats 4000000 in
set_option maxRecDepth 100000 in
/-- Minestrata.flow -/
theorem m290 (l : Launch) (hst : l.stackTraces = false) (dC : Nat → ClassId) (dI : Nat → Nat → Nat) (g : Nat → Nat) (a0 a1 a2 a3 a4 a5 a6 a7 a8 a9 a10 a11 a12 a13 a14 a15 a16 a17 a18 a19 a20 a21 : Nat) (s1 : Int32) (sz : Nat) :
    vx_Met l Y98 (Cond.code Y98 prog_1_method_12_code 2 (Option.some Jvm.ClassFile.FieldType.int) :: AW) ({ frames := 6, cells := 1, slots := 6, locals := 81 } : Room) (nP dC dI g [.ref a0, .int s1] [(a0, .inr (12, [.ref a1, .ref a2, .ref a3, .ref a4, .ref a5, .ref a6, .ref a7, .ref a8, .null, .ref a9, .ref a10, .int (0), .int (100), .int (0), .int (0), .int (-1), .long (0), .int (1)])), (a1, .inr (8, [.int (0), .ref a11, .ref a12, .ref a13, .ref a14, .int (0), .ref a15, .ref a16, .ref a17, .ref a18, .ref a19, .ref a20, .ref a21]))] sz) (fun _ _ _ _ => False) (nX "java/lang/IndexOutOfBoundsException" (va_A [(a0, .inr (12, [.ref a1, .ref a2, .ref a3, .ref a4, .ref a5, .ref a6, .ref a7, .ref a8, .null, .ref a9, .ref a10, .int (0), .int (100), .int (0), .int (0), .int (-1), .long (0), .int (1)])), (a1, .inr (8, [.int (0), .ref a11, .ref a12, .ref a13, .ref a14, .int (0), .ref a15, .ref a16, .ref a17, .ref a18, .ref a19, .ref a20, .ref a21]))] sz)) 1 6 (va_A [(a0, .inr (12, [.ref a1, .ref a2, .ref a3, .ref a4, .ref a5, .ref a6, .ref a7, .ref a8, .null, .ref a9, .ref a10, .int (0), .int (100), .int (0), .int (0), .int (-1), .long (0), .int (1)])), (a1, .inr (8, [.int (0), .ref a11, .ref a12, .ref a13, .ref a14, .int (0), .ref a15, .ref a16, .ref a17, .ref a18, .ref a19, .ref a20, .ref a21]))] sz) := by
  refine n_metX (by decide +kernel) (Nat.le_of_ble_eq_true rfl) "java/lang/IndexOutOfBoundsException" ?_
  intro p e s m below meth c A ls ⟨hx, hb, hr, hml, hown, hts, hlk, hnm⟩ hout hE hP hD hA hl
  have hown : s.vm.findClass "Minestrata" = some m.cls := hown
  have hK := hE.1
  have hS : va_S A s.heap s.heap [] := va_S.rf
  have hl : lv_has ls 2 [(0, .ref a0), (1, .int s1)] := hl
  have hlsz : ls.size = c.maxLocals := hl.1.trans hml.symm
  refine lv_aload_n hx hb dX11_flow_0 rfl (lv_at hl 0 rfl) ?_
  refine va_get (D := (dC, dI)) (ci := 12) (v := .ref a1) (C := "Minestrata") (T := TX11) (N := 18) hx hb hts inX11 hown hK hP 0 rfl rfl 0 (by decide) (hts _ q504) (fun _ h9 => h9) rfl dX11_flow_1 ?_
  refine lv_iload_n hx hb dX11_flow_4 rfl (lv_at hl 1 rfl) ?_
  have hX : nCx p s m _ c prog_1_method_12_code 2 "Minestrata" dC dI g A [(a0, .inr (12, [.ref a1, .ref a2, .ref a3, .ref a4, .ref a5, .ref a6, .ref a7, .ref a8, .null, .ref a9, .ref a10, .int (0), .int (100), .int (0), .int (0), .int (-1), .long (0), .int (1)])), (a1, .inr (8, [.int (0), .ref a11, .ref a12, .ref a13, .ref a14, .int (0), .ref a15, .ref a16, .ref a17, .ref a18, .ref a19, .ref a20, .ref a21]))] _ _ := ⟨⟨hx, hb, hml, hown, hts⟩, hE, hS, hA, hP, hD⟩
  refine n_call (wr := [(a0, .inr (12, [.ref a1, .ref a2, .ref a3, .ref a4, .ref a5, .ref a6, .ref a7, .ref a8, .null, .ref a9, .ref a10, .int (0), .int (100), .int (0), .int (0), .int (-1), .long (0), .int (1)]))]) hX (n_runV (n := 1) (wc := [(a1, .inr (8, [.int (0), .ref a11, .ref a12, .ref a13, .ref a14, .int (0), .ref a15, .ref a16, .ref a17, .ref a18, .ref a19, .ref a20, .ref a21]))]) (As := [.int s1]) (rest := []) hX (m289 l hst dC dI g a1 a11 a12 a13 a14 a15 a16 a17 a18 a19 a20 a21 s1 _) [1] rfl (by decide +kernel) 1 (ci := 8) rfl (T := TX7) (N := 13) (C := "Minestrata$Net") rfl q1053 q1054 q1055 q72 q1056 (by decide +kernel) ⟨(Nat.le_of_ble_eq_true rfl), (Nat.le_of_ble_eq_true rfl)⟩ ⟨(Nat.le_of_ble_eq_true rfl), (Nat.le_of_ble_eq_true rfl)⟩ hl.1 rfl rfl (Nat.le_of_ble_eq_true rfl) dX11_flow_5) [1] [0] rfl rfl (by decide +kernel) (by decide +kernel) (fun f1 r2 H locs hP hD hS => ?_)
  have hP : va_P (dC, dI) CL [(a0, .inr (12, [.ref a1, .ref a2, .ref a3, .ref a4, .ref a5, .ref a6, .ref a7, .ref a8, .null, .ref a9, .ref a10, .int (0), .int (100), .int (0), .int (0), .int (-1), .long (0), .int (1)])), (a1, .inr (8, [.int (0), .ref a11, .ref a12, .ref a13, .ref a14, .int (0), .ref a15, .ref a16, .ref a17, .ref a18, .ref a19, .ref a20, .ref a21]))] _ := hP
  have hD : va_D A [(a0, .inr (12, [.ref a1, .ref a2, .ref a3, .ref a4, .ref a5, .ref a6, .ref a7, .ref a8, .null, .ref a9, .ref a10, .int (0), .int (100), .int (0), .int (0), .int (-1), .long (0), .int (1)])), (a1, .inr (8, [.int (0), .ref a11, .ref a12, .ref a13, .ref a14, .int (0), .ref a15, .ref a16, .ref a17, .ref a18, .ref a19, .ref a20, .ref a21]))] := hD
  refine W.widen (k := 0) (n := 0) (Nat.le_of_ble_eq_true rfl) (Nat.le_of_ble_eq_true rfl) ?_
  refine W.eq (g2 := F0 m 8 ls [.int (0)]) rfl ?_
  refine lv_if_ne (tgt := 19) hx hb dX11_flow_8 (by decide +kernel) (fun h => absurd (by decide +kernel) h) (fun _ => ?_)
  exact n_throw hx hb hst hown hts hE hS (names := ["java/lang/RuntimeException", "java/lang/Exception"]) (by decide +kernel) (by decide +kernel) q948 q91 hat1p hat1a hat1 hat1g (hl.1.trans hml.symm) dX11_flow_11 dX11_flow_14 dX11_flow_15 dX11_flow_18 hout (Nat.le_of_ble_eq_true rfl) (Nat.le_of_ble_eq_true rfl) (Nat.le_of_ble_eq_true rfl) (Nat.le_of_ble_eq_true rfl) hlk (Nat.le_of_ble_eq_true rfl) (Nat.le_of_ble_eq_true rfl)

set_option maxHeartbeats 4000000 in
set_option maxRecDepth 100000 in
/-- MinestrataLaw.flow -/
theorem m291 (l : Launch) (hst : l.stackTraces = false) (dC : Nat → ClassId) (dI : Nat → Nat → Nat) (g : Nat → Nat) (a0 a1 a2 a3 a4 a5 a6 a7 a8 a9 a10 a11 a12 a13 a14 a15 a16 a17 a18 a19 a20 a21 a22 : Nat) (s1 : Int32) (sz : Nat) :
    Met l Y97 (Cond.codeWith Y97 method_12_code 4 (Option.some Jvm.ClassFile.FieldType.int) [((0 : Nat), (9 : Nat), (12 : Nat), (21 : Nat))] :: AW) ({ frames := 7, cells := 1, slots := 6, locals := 102 } : Room) (nP dC dI g [.ref a0, .int s1, .ref a1] [(a0, .inr (12, [.ref a2, .ref a3, .ref a4, .ref a5, .ref a6, .ref a7, .ref a8, .ref a9, .null, .ref a10, .ref a11, .int (0), .int (100), .int (0), .int (0), .int (-1), .long (0), .int (1)])), (a2, .inr (8, [.int (0), .ref a12, .ref a13, .ref a14, .ref a15, .int (0), .ref a16, .ref a17, .ref a18, .ref a19, .ref a20, .ref a21, .ref a22]))] sz) (nQ dC dI (fun f => some (.int (1))) (fun f r => []) (va_A [(a0, .inr (12, [.ref a2, .ref a3, .ref a4, .ref a5, .ref a6, .ref a7, .ref a8, .ref a9, .null, .ref a10, .ref a11, .int (0), .int (100), .int (0), .int (0), .int (-1), .long (0), .int (1)])), (a2, .inr (8, [.int (0), .ref a12, .ref a13, .ref a14, .ref a15, .int (0), .ref a16, .ref a17, .ref a18, .ref a19, .ref a20, .ref a21, .ref a22]))] sz)) 1 6 (va_A [(a0, .inr (12, [.ref a2, .ref a3, .ref a4, .ref a5, .ref a6, .ref a7, .ref a8, .ref a9, .null, .ref a10, .ref a11, .int (0), .int (100), .int (0), .int (0), .int (-1), .long (0), .int (1)])), (a2, .inr (8, [.int (0), .ref a12, .ref a13, .ref a14, .ref a15, .int (0), .ref a16, .ref a17, .ref a18, .ref a19, .ref a20, .ref a21, .ref a22]))] sz) := by
  refine n_metW (by decide +kernel) q1146 (Nat.le_of_ble_eq_true rfl) (fun f => some (.int (1))) (fun f r => []) ?_
  intro p e s m below meth c A ls ⟨hx, hb, hr, hml, hown, hts, hlk, hnm⟩ htab hE hP hD hA hl
  have hown : s.vm.findClass "MinestrataLaw" = some m.cls := hown
  have hK := hE.1
  have hS : va_S A s.heap s.heap [] := va_S.rf
  have hl : lv_has ls 4 [(0, .ref a0), (1, .int s1), (2, .ref a1)] := hl
  refine lv_aload_n hx hb dL_flow_0 rfl (lv_at hl 2 rfl) ?_
  refine lv_iconst (v := (0)) hx hb dL_flow_1 (by decide +kernel) ?_
  refine lv_aload_n hx hb dL_flow_2 rfl (lv_at hl 0 rfl) ?_
  refine lv_iload_n hx hb dL_flow_3 rfl (lv_at hl 1 rfl) ?_
  have hX : nCx p s m _ c method_12_code 4 "MinestrataLaw" dC dI g A [(a0, .inr (12, [.ref a2, .ref a3, .ref a4, .ref a5, .ref a6, .ref a7, .ref a8, .ref a9, .null, .ref a10, .ref a11, .int (0), .int (100), .int (0), .int (0), .int (-1), .long (0), .int (1)])), (a2, .inr (8, [.int (0), .ref a12, .ref a13, .ref a14, .ref a15, .int (0), .ref a16, .ref a17, .ref a18, .ref a19, .ref a20, .ref a21, .ref a22]))] _ _ := ⟨⟨hx, hb, hml, hown, hts⟩, hE, hS, hA, hP, hD⟩
  refine n_callX (E0 := "java/lang/IndexOutOfBoundsException") hX (n_runVX (n := 1) (wc := [(a0, .inr (12, [.ref a2, .ref a3, .ref a4, .ref a5, .ref a6, .ref a7, .ref a8, .ref a9, .null, .ref a10, .ref a11, .int (0), .int (100), .int (0), .int (0), .int (-1), .long (0), .int (1)])), (a2, .inr (8, [.int (0), .ref a12, .ref a13, .ref a14, .ref a15, .int (0), .ref a16, .ref a17, .ref a18, .ref a19, .ref a20, .ref a21, .ref a22]))]) (As := [.int s1]) (rest := [.int (0), .ref a1]) hX (m290 l hst dC dI g a0 a2 a3 a4 a5 a6 a7 a8 a9 a10 a11 a12 a13 a14 a15 a16 a17 a18 a19 a20 a21 a22 s1 _) [0, 1] rfl (by decide +kernel) 0 (ci := 12) rfl (T := TX11) (N := 18) (C := "Minestrata") rfl q1147 q1148 q1149 q71 q1150 (by decide +kernel) ⟨(Nat.le_of_ble_eq_true rfl), (Nat.le_of_ble_eq_true rfl)⟩ ⟨(Nat.le_of_ble_eq_true rfl), (Nat.le_of_ble_eq_true rfl)⟩ hl.1 rfl rfl (Nat.le_of_ble_eq_true rfl) dL_flow_4) [0, 1] rfl (fun ce q9 H locs hS hce hcv hcl => ?_)
  refine n_catch (E := "java/lang/IndexOutOfBoundsException") (name := "java/lang/IndexOutOfBoundsException") hE hts hown htab [] ⟨0, 9, 12, 21⟩ [] rfl (fun z hz => nomatch hz) (by decide +kernel) (by decide) q907 x950 hce hcv hcl ?_
  refine W.widen (k := 1) (n := 6) (Nat.le_of_ble_eq_true rfl) (Nat.le_of_ble_eq_true rfl) ?_
  refine W.eq (g2 := F0 m 12 ls [.ref q9]) rfl ?_
  refine lv_astore_n (lv' := [(3, .ref q9), (0, .ref a0), (1, .int s1), (2, .ref a1)]) hx hb dL_flow_12 rfl hl (by decide) rfl (fun ls hl => ?_)
  refine lv_iconst (v := (1)) hx hb dL_flow_13 (by decide +kernel) ?_
  refine W.widen (k := 1) (n := 6) (Nat.le_of_ble_eq_true rfl) (Nat.le_of_ble_eq_true rfl) ?_
  exact W.iret hx hb hr (n_end0 hS (fun _ => 0) rfl rfl) hS.2.2 dL_flow_14 hlk

set_option maxHeartbeats 4000000 in
set_option maxRecDepth 100000 in
/-- MinestrataModel.flow -/
theorem m292 (l : Launch) (hst : l.stackTraces = false) (dC : Nat → ClassId) (dI : Nat → Nat → Nat) (g : Nat → Nat) (a0 a1 a2 a3 a4 a5 a6 a7 a8 a9 a10 a11 a12 : Nat) (s1 : Int32) (sz : Nat) :
    Met l Y99 (Cond.code Y99 prog_14_method_15_code 2 (Option.some Jvm.ClassFile.FieldType.int) :: AW) ({ frames := 1, cells := 0, slots := 0, locals := 22 } : Room) (nP dC dI g [.ref a0, .int s1] [(a0, .inr (15, [.int (0), .int (0), .int (100), .int (0), .int (0), .ref a1, .ref a2, .ref a3, .ref a4, .ref a5, .ref a6, .ref a7, .ref a8, .ref a9, .ref a10, .ref a11, .null, .int (-1), .ref a12, .long (0)])), (a8, .inr (1, [.int (0), .ref (g 21), .int (0)]))] sz) (nQ dC dI (fun f => some (.int (0))) (fun f r => [(a0, .inr (15, [.int (1), .int (0), .int (100), .int (0), .int (0), .ref a1, .ref a2, .ref a3, .ref a4, .ref a5, .ref a6, .ref a7, .ref a8, .ref a9, .ref a10, .ref a11, .null, .int (-1), .ref a12, .long (0)])), (a8, .inr (1, [.int (0), .ref (g 21), .int (0)]))]) (va_A [(a0, .inr (15, [.int (0), .int (0), .int (100), .int (0), .int (0), .ref a1, .ref a2, .ref a3, .ref a4, .ref a5, .ref a6, .ref a7, .ref a8, .ref a9, .ref a10, .ref a11, .null, .int (-1), .ref a12, .long (0)])), (a8, .inr (1, [.int (0), .ref (g 21), .int (0)]))] sz)) 0 0 (va_A [(a0, .inr (15, [.int (0), .int (0), .int (100), .int (0), .int (0), .ref a1, .ref a2, .ref a3, .ref a4, .ref a5, .ref a6, .ref a7, .ref a8, .ref a9, .ref a10, .ref a11, .null, .int (-1), .ref a12, .long (0)])), (a8, .inr (1, [.int (0), .ref (g 21), .int (0)]))] sz) := by
  refine n_met (by decide +kernel) (Nat.le_of_ble_eq_true rfl) (fun f => some (.int (0))) (fun f r => [(a0, .inr (15, [.int (1), .int (0), .int (100), .int (0), .int (0), .ref a1, .ref a2, .ref a3, .ref a4, .ref a5, .ref a6, .ref a7, .ref a8, .ref a9, .ref a10, .ref a11, .null, .int (-1), .ref a12, .long (0)])), (a8, .inr (1, [.int (0), .ref (g 21), .int (0)]))]) ?_
  intro p e s m below meth c A ls ⟨hx, hb, hr, hml, hown, hts, hlk, hnm⟩ hE hP hD hA hl
  have hown : s.vm.findClass "MinestrataModel" = some m.cls := hown
  have hK := hE.1
  have hS : va_S A s.heap s.heap [] := va_S.rf
  have hl : lv_has ls 2 [(0, .ref a0), (1, .int s1)] := hl
  refine lv_iload_n hx hb dX16_flow_0 rfl (lv_at hl 1 rfl) ?_
  refine lv_iconst (v := (0)) hx hb dX16_flow_1 (by decide +kernel) ?_
  refine lv_aload_n hx hb dX16_flow_2 rfl (lv_at hl 0 rfl) ?_
  refine va_get (D := (dC, dI)) (ci := 15) (v := .ref a8) (C := "MinestrataModel") (T := TX16) (N := 20) hx hb hts inX16 hown hK hP 0 rfl rfl 12 (by decide) (hts _ q1445) (fun _ h9 => h9) rfl dX16_flow_3 ?_
  have hX : nCx p s m _ c prog_14_method_15_code 2 "MinestrataModel" dC dI g A [(a0, .inr (15, [.int (0), .int (0), .int (100), .int (0), .int (0), .ref a1, .ref a2, .ref a3, .ref a4, .ref a5, .ref a6, .ref a7, .ref a8, .ref a9, .ref a10, .ref a11, .null, .int (-1), .ref a12, .long (0)])), (a8, .inr (1, [.int (0), .ref (g 21), .int (0)]))] _ _ := ⟨⟨hx, hb, hml, hown, hts⟩, hE, hS, hA, hP, hD⟩
  refine n_call (wr := [(a0, .inr (15, [.int (0), .int (0), .int (100), .int (0), .int (0), .ref a1, .ref a2, .ref a3, .ref a4, .ref a5, .ref a6, .ref a7, .ref a8, .ref a9, .ref a10, .ref a11, .null, .int (-1), .ref a12, .long (0)]))]) hX (n_runV (n := 0) (wc := [(a8, .inr (1, [.int (0), .ref (g 21), .int (0)]))]) (As := []) (rest := [.int (0), .int s1]) hX (m60 l hst dC dI g a8 _) [1] rfl (by decide +kernel) 1 (ci := 1) rfl (T := TJx4a65c) (N := 3) (C := "java/util/ArrayList") rfl q1522 q1523 q1524 q85 q1525 (by decide +kernel) ⟨(Nat.le_of_ble_eq_true rfl), (Nat.le_of_ble_eq_true rfl)⟩ ⟨(Nat.le_of_ble_eq_true rfl), (Nat.le_of_ble_eq_true rfl)⟩ hl.1 rfl rfl (Nat.le_of_ble_eq_true rfl) dX16_flow_6) [1] [0] rfl rfl (by decide +kernel) (by decide +kernel) (fun f1 r2 H locs hP hD hS => ?_)
  have hP : va_P (dC, dI) CL [(a0, .inr (15, [.int (0), .int (0), .int (100), .int (0), .int (0), .ref a1, .ref a2, .ref a3, .ref a4, .ref a5, .ref a6, .ref a7, .ref a8, .ref a9, .ref a10, .ref a11, .null, .int (-1), .ref a12, .long (0)])), (a8, .inr (1, [.int (0), .ref (g 21), .int (0)]))] _ := hP
  have hD : va_D A [(a0, .inr (15, [.int (0), .int (0), .int (100), .int (0), .int (0), .ref a1, .ref a2, .ref a3, .ref a4, .ref a5, .ref a6, .ref a7, .ref a8, .ref a9, .ref a10, .ref a11, .null, .int (-1), .ref a12, .long (0)])), (a8, .inr (1, [.int (0), .ref (g 21), .int (0)]))] := hD
  refine W.widen (k := 0) (n := 0) (Nat.le_of_ble_eq_true rfl) (Nat.le_of_ble_eq_true rfl) ?_
  refine W.eq (g2 := F0 m 9 ls [.int (0), .int (0), .int s1]) rfl ?_
  refine lv_iconst (v := (1)) hx hb dX16_flow_9 (by decide +kernel) ?_
  refine lv_isub hx hb dX16_flow_10 ?_
  refine nt_i (v := (-1)) (by decide +kernel) ?_
  have hX : nCx p s m _ c prog_14_method_15_code 2 "MinestrataModel" dC dI g A [(a0, .inr (15, [.int (0), .int (0), .int (100), .int (0), .int (0), .ref a1, .ref a2, .ref a3, .ref a4, .ref a5, .ref a6, .ref a7, .ref a8, .ref a9, .ref a10, .ref a11, .null, .int (-1), .ref a12, .long (0)])), (a8, .inr (1, [.int (0), .ref (g 21), .int (0)]))] _ _ := ⟨⟨hx, hb, hml, hown, hts⟩, hE, hS, hA, hP, hD⟩
  refine n_call (wr := [(a0, .inr (15, [.int (0), .int (0), .int (100), .int (0), .int (0), .ref a1, .ref a2, .ref a3, .ref a4, .ref a5, .ref a6, .ref a7, .ref a8, .ref a9, .ref a10, .ref a11, .null, .int (-1), .ref a12, .long (0)])), (a8, .inr (1, [.int (0), .ref (g 21), .int (0)]))]) hX (n_runS (n := 3) (wc := []) (As := [.int s1, .int (0), .int (-1)]) (rest := []) hX (m48 l hst dC dI g s1 _) [] rfl (by decide +kernel) q1503 q1504 q82 q1505 (by decide +kernel) ⟨(Nat.le_of_ble_eq_true rfl), (Nat.le_of_ble_eq_true rfl)⟩ ⟨(Nat.le_of_ble_eq_true rfl), (Nat.le_of_ble_eq_true rfl)⟩ hl.1 rfl rfl (Nat.le_of_ble_eq_true rfl) dX16_flow_11) [] [0, 1] rfl rfl (by decide +kernel) (by decide +kernel) (fun f3 r4 H locs hP hD hS => ?_)
  have hP : va_P (dC, dI) CL [(a0, .inr (15, [.int (0), .int (0), .int (100), .int (0), .int (0), .ref a1, .ref a2, .ref a3, .ref a4, .ref a5, .ref a6, .ref a7, .ref a8, .ref a9, .ref a10, .ref a11, .null, .int (-1), .ref a12, .long (0)])), (a8, .inr (1, [.int (0), .ref (g 21), .int (0)]))] _ := hP
  have hD : va_D A [(a0, .inr (15, [.int (0), .int (0), .int (100), .int (0), .int (0), .ref a1, .ref a2, .ref a3, .ref a4, .ref a5, .ref a6, .ref a7, .ref a8, .ref a9, .ref a10, .ref a11, .null, .int (-1), .ref a12, .long (0)])), (a8, .inr (1, [.int (0), .ref (g 21), .int (0)]))] := hD
  refine W.widen (k := 0) (n := 0) (Nat.le_of_ble_eq_true rfl) (Nat.le_of_ble_eq_true rfl) ?_
  refine W.eq (g2 := F0 m 14 ls [.int (0)]) rfl ?_
  refine lv_if_eq (tgt := 58) hx hb dX16_flow_14 (by decide +kernel) (fun _ => ?_) (fun h => absurd (by decide +kernel) h)
  refine lv_aload_n hx hb dX16_flow_58 rfl (lv_at hl 0 rfl) ?_
  refine lv_iconst (v := (1)) hx hb dX16_flow_59 (by decide +kernel) ?_
  have hX : nCx p s m _ c prog_14_method_15_code 2 "MinestrataModel" dC dI g A [(a0, .inr (15, [.int (0), .int (0), .int (100), .int (0), .int (0), .ref a1, .ref a2, .ref a3, .ref a4, .ref a5, .ref a6, .ref a7, .ref a8, .ref a9, .ref a10, .ref a11, .null, .int (-1), .ref a12, .long (0)])), (a8, .inr (1, [.int (0), .ref (g 21), .int (0)]))] _ _ := ⟨⟨hx, hb, hml, hown, hts⟩, hE, hS, hA, hP, hD⟩
  refine n_call (wr := [(a8, .inr (1, [.int (0), .ref (g 21), .int (0)]))]) hX (n_runV (n := 1) (wc := [(a0, .inr (15, [.int (0), .int (0), .int (100), .int (0), .int (0), .ref a1, .ref a2, .ref a3, .ref a4, .ref a5, .ref a6, .ref a7, .ref a8, .ref a9, .ref a10, .ref a11, .null, .int (-1), .ref a12, .long (0)]))]) (As := [.int (1)]) (rest := []) hX (m31 l hst dC dI g a0 a1 a2 a3 a4 a5 a6 a7 a8 a9 a10 a11 a12 _) [0] rfl (by decide +kernel) 0 (ci := 15) rfl (T := TX16) (N := 20) (C := "MinestrataModel") rfl q1506 q1508 q39 q82 q1509 (by decide +kernel) ⟨(Nat.le_of_ble_eq_true rfl), (Nat.le_of_ble_eq_true rfl)⟩ ⟨(Nat.le_of_ble_eq_true rfl), (Nat.le_of_ble_eq_true rfl)⟩ hl.1 rfl rfl (Nat.le_of_ble_eq_true rfl) dX16_flow_60) [0] [1] rfl rfl (by decide +kernel) (by decide +kernel) (fun f5 r6 H locs hP hD hS => ?_)
  have hP : va_P (dC, dI) CL [(a8, .inr (1, [.int (0), .ref (g 21), .int (0)])), (a0, .inr (15, [.int (1), .int (0), .int (100), .int (0), .int (0), .ref a1, .ref a2, .ref a3, .ref a4, .ref a5, .ref a6, .ref a7, .ref a8, .ref a9, .ref a10, .ref a11, .null, .int (-1), .ref a12, .long (0)]))] _ := hP
  have hD : va_D A [(a8, .inr (1, [.int (0), .ref (g 21), .int (0)])), (a0, .inr (15, [.int (1), .int (0), .int (100), .int (0), .int (0), .ref a1, .ref a2, .ref a3, .ref a4, .ref a5, .ref a6, .ref a7, .ref a8, .ref a9, .ref a10, .ref a11, .null, .int (-1), .ref a12, .long (0)]))] := hD
  refine W.widen (k := 0) (n := 0) (Nat.le_of_ble_eq_true rfl) (Nat.le_of_ble_eq_true rfl) ?_
  refine W.eq (g2 := F0 m 63 ls [.int (0)]) rfl ?_
  refine W.widen (k := 0) (n := 0) (Nat.le_of_ble_eq_true rfl) (Nat.le_of_ble_eq_true rfl) ?_
  exact W.iret hx hb hr (n_end hS hP hD [1, 0] (by decide +kernel) (fun _ => 0) (fun _ => 0) rfl rfl rfl) hS.2.2 dX16_flow_63 hlk

set_option maxHeartbeats 4000000 in
set_option maxRecDepth 100000 in
/-- Minestrata.pressure -/
theorem m293 (l : Launch) (hst : l.stackTraces = false) (dC : Nat → ClassId) (dI : Nat → Nat → Nat) (g : Nat → Nat) (a0 a1 a2 a3 a4 a5 a6 a7 a8 a9 a10 a11 a12 a13 a14 a15 a16 a17 a18 a19 a20 a21 : Nat) (s1 : Int32) (sz : Nat) :
    vx_Met l Y101 (Cond.code Y101 prog_1_method_13_code 2 (Option.some Jvm.ClassFile.FieldType.int) :: AW) ({ frames := 6, cells := 1, slots := 6, locals := 81 } : Room) (nP dC dI g [.ref a0, .int s1] [(a0, .inr (12, [.ref a1, .ref a2, .ref a3, .ref a4, .ref a5, .ref a6, .ref a7, .ref a8, .null, .ref a9, .ref a10, .int (0), .int (100), .int (0), .int (0), .int (-1), .long (0), .int (1)])), (a1, .inr (8, [.int (0), .ref a11, .ref a12, .ref a13, .ref a14, .int (0), .ref a15, .ref a16, .ref a17, .ref a18, .ref a19, .ref a20, .ref a21]))] sz) (fun _ _ _ _ => False) (nX "java/lang/IndexOutOfBoundsException" (va_A [(a0, .inr (12, [.ref a1, .ref a2, .ref a3, .ref a4, .ref a5, .ref a6, .ref a7, .ref a8, .null, .ref a9, .ref a10, .int (0), .int (100), .int (0), .int (0), .int (-1), .long (0), .int (1)])), (a1, .inr (8, [.int (0), .ref a11, .ref a12, .ref a13, .ref a14, .int (0), .ref a15, .ref a16, .ref a17, .ref a18, .ref a19, .ref a20, .ref a21]))] sz)) 1 6 (va_A [(a0, .inr (12, [.ref a1, .ref a2, .ref a3, .ref a4, .ref a5, .ref a6, .ref a7, .ref a8, .null, .ref a9, .ref a10, .int (0), .int (100), .int (0), .int (0), .int (-1), .long (0), .int (1)])), (a1, .inr (8, [.int (0), .ref a11, .ref a12, .ref a13, .ref a14, .int (0), .ref a15, .ref a16, .ref a17, .ref a18, .ref a19, .ref a20, .ref a21]))] sz) := by
  refine n_metX (by decide +kernel) (Nat.le_of_ble_eq_true rfl) "java/lang/IndexOutOfBoundsException" ?_
  intro p e s m below meth c A ls ⟨hx, hb, hr, hml, hown, hts, hlk, hnm⟩ hout hE hP hD hA hl
  have hown : s.vm.findClass "Minestrata" = some m.cls := hown
  have hK := hE.1
  have hS : va_S A s.heap s.heap [] := va_S.rf
  have hl : lv_has ls 2 [(0, .ref a0), (1, .int s1)] := hl
  have hlsz : ls.size = c.maxLocals := hl.1.trans hml.symm
  refine lv_aload_n hx hb dX11_pressure_0 rfl (lv_at hl 0 rfl) ?_
  refine va_get (D := (dC, dI)) (ci := 12) (v := .ref a1) (C := "Minestrata") (T := TX11) (N := 18) hx hb hts inX11 hown hK hP 0 rfl rfl 0 (by decide) (hts _ q504) (fun _ h9 => h9) rfl dX11_pressure_1 ?_
  refine lv_iload_n hx hb dX11_pressure_4 rfl (lv_at hl 1 rfl) ?_
  have hX : nCx p s m _ c prog_1_method_13_code 2 "Minestrata" dC dI g A [(a0, .inr (12, [.ref a1, .ref a2, .ref a3, .ref a4, .ref a5, .ref a6, .ref a7, .ref a8, .null, .ref a9, .ref a10, .int (0), .int (100), .int (0), .int (0), .int (-1), .long (0), .int (1)])), (a1, .inr (8, [.int (0), .ref a11, .ref a12, .ref a13, .ref a14, .int (0), .ref a15, .ref a16, .ref a17, .ref a18, .ref a19, .ref a20, .ref a21]))] _ _ := ⟨⟨hx, hb, hml, hown, hts⟩, hE, hS, hA, hP, hD⟩
  refine n_call (wr := [(a0, .inr (12, [.ref a1, .ref a2, .ref a3, .ref a4, .ref a5, .ref a6, .ref a7, .ref a8, .null, .ref a9, .ref a10, .int (0), .int (100), .int (0), .int (0), .int (-1), .long (0), .int (1)]))]) hX (n_runV (n := 1) (wc := [(a1, .inr (8, [.int (0), .ref a11, .ref a12, .ref a13, .ref a14, .int (0), .ref a15, .ref a16, .ref a17, .ref a18, .ref a19, .ref a20, .ref a21]))]) (As := [.int s1]) (rest := []) hX (m45 l hst dC dI g a1 a11 a12 a13 a14 a15 a16 a17 a18 a19 a20 a21 s1 _) [1] rfl (by decide +kernel) 1 (ci := 8) rfl (T := TX7) (N := 13) (C := "Minestrata$Net") rfl q944 q945 q946 q72 q947 (by decide +kernel) ⟨(Nat.le_of_ble_eq_true rfl), (Nat.le_of_ble_eq_true rfl)⟩ ⟨(Nat.le_of_ble_eq_true rfl), (Nat.le_of_ble_eq_true rfl)⟩ hl.1 rfl rfl (Nat.le_of_ble_eq_true rfl) dX11_pressure_5) [1] [0] rfl rfl (by decide +kernel) (by decide +kernel) (fun f1 r2 H locs hP hD hS => ?_)
  have hP : va_P (dC, dI) CL [(a0, .inr (12, [.ref a1, .ref a2, .ref a3, .ref a4, .ref a5, .ref a6, .ref a7, .ref a8, .null, .ref a9, .ref a10, .int (0), .int (100), .int (0), .int (0), .int (-1), .long (0), .int (1)])), (a1, .inr (8, [.int (0), .ref a11, .ref a12, .ref a13, .ref a14, .int (0), .ref a15, .ref a16, .ref a17, .ref a18, .ref a19, .ref a20, .ref a21]))] _ := hP
  have hD : va_D A [(a0, .inr (12, [.ref a1, .ref a2, .ref a3, .ref a4, .ref a5, .ref a6, .ref a7, .ref a8, .null, .ref a9, .ref a10, .int (0), .int (100), .int (0), .int (0), .int (-1), .long (0), .int (1)])), (a1, .inr (8, [.int (0), .ref a11, .ref a12, .ref a13, .ref a14, .int (0), .ref a15, .ref a16, .ref a17, .ref a18, .ref a19, .ref a20, .ref a21]))] := hD
  refine W.widen (k := 0) (n := 0) (Nat.le_of_ble_eq_true rfl) (Nat.le_of_ble_eq_true rfl) ?_
  refine W.eq (g2 := F0 m 8 ls [.int (0)]) rfl ?_
  refine lv_if_ne (tgt := 19) hx hb dX11_pressure_8 (by decide +kernel) (fun h => absurd (by decide +kernel) h) (fun _ => ?_)
  exact n_throw hx hb hst hown hts hE hS (names := ["java/lang/RuntimeException", "java/lang/Exception"]) (by decide +kernel) (by decide +kernel) q948 q91 hat1p hat1a hat1 hat1g (hl.1.trans hml.symm) dX11_pressure_11 dX11_pressure_14 dX11_pressure_15 dX11_pressure_18 hout (Nat.le_of_ble_eq_true rfl) (Nat.le_of_ble_eq_true rfl) (Nat.le_of_ble_eq_true rfl) (Nat.le_of_ble_eq_true rfl) hlk (Nat.le_of_ble_eq_true rfl) (Nat.le_of_ble_eq_true rfl)

set_option maxHeartbeats 4000000 in
set_option maxRecDepth 100000 in
/-- MinestrataLaw.pressure -/
theorem m294 (l : Launch) (hst : l.stackTraces = false) (dC : Nat → ClassId) (dI : Nat → Nat → Nat) (g : Nat → Nat) (a0 a1 a2 a3 a4 a5 a6 a7 a8 a9 a10 a11 a12 a13 a14 a15 a16 a17 a18 a19 a20 a21 a22 : Nat) (s1 : Int32) (sz : Nat) :
    Met l Y100 (Cond.codeWith Y100 method_13_code 4 (Option.some Jvm.ClassFile.FieldType.int) [((0 : Nat), (9 : Nat), (12 : Nat), (21 : Nat))] :: AW) ({ frames := 7, cells := 1, slots := 6, locals := 102 } : Room) (nP dC dI g [.ref a0, .int s1, .ref a1] [(a0, .inr (12, [.ref a2, .ref a3, .ref a4, .ref a5, .ref a6, .ref a7, .ref a8, .ref a9, .null, .ref a10, .ref a11, .int (0), .int (100), .int (0), .int (0), .int (-1), .long (0), .int (1)])), (a2, .inr (8, [.int (0), .ref a12, .ref a13, .ref a14, .ref a15, .int (0), .ref a16, .ref a17, .ref a18, .ref a19, .ref a20, .ref a21, .ref a22]))] sz) (nQ dC dI (fun f => some (.int (1))) (fun f r => []) (va_A [(a0, .inr (12, [.ref a2, .ref a3, .ref a4, .ref a5, .ref a6, .ref a7, .ref a8, .ref a9, .null, .ref a10, .ref a11, .int (0), .int (100), .int (0), .int (0), .int (-1), .long (0), .int (1)])), (a2, .inr (8, [.int (0), .ref a12, .ref a13, .ref a14, .ref a15, .int (0), .ref a16, .ref a17, .ref a18, .ref a19, .ref a20, .ref a21, .ref a22]))] sz)) 1 6 (va_A [(a0, .inr (12, [.ref a2, .ref a3, .ref a4, .ref a5, .ref a6, .ref a7, .ref a8, .ref a9, .null, .ref a10, .ref a11, .int (0), .int (100), .int (0), .int (0), .int (-1), .long (0), .int (1)])), (a2, .inr (8, [.int (0), .ref a12, .ref a13, .ref a14, .ref a15, .int (0), .ref a16, .ref a17, .ref a18, .ref a19, .ref a20, .ref a21, .ref a22]))] sz) := by
  refine n_metW (by decide +kernel) q1153 (Nat.le_of_ble_eq_true rfl) (fun f => some (.int (1))) (fun f r => []) ?_
  intro p e s m below meth c A ls ⟨hx, hb, hr, hml, hown, hts, hlk, hnm⟩ htab hE hP hD hA hl
  have hown : s.vm.findClass "MinestrataLaw" = some m.cls := hown
  have hK := hE.1
  have hS : va_S A s.heap s.heap [] := va_S.rf
  have hl : lv_has ls 4 [(0, .ref a0), (1, .int s1), (2, .ref a1)] := hl
  refine lv_aload_n hx hb dL_pressure_0 rfl (lv_at hl 2 rfl) ?_
  refine lv_iconst (v := (0)) hx hb dL_pressure_1 (by decide +kernel) ?_
  refine lv_aload_n hx hb dL_pressure_2 rfl (lv_at hl 0 rfl) ?_
  refine lv_iload_n hx hb dL_pressure_3 rfl (lv_at hl 1 rfl) ?_
  have hX : nCx p s m _ c method_13_code 4 "MinestrataLaw" dC dI g A [(a0, .inr (12, [.ref a2, .ref a3, .ref a4, .ref a5, .ref a6, .ref a7, .ref a8, .ref a9, .null, .ref a10, .ref a11, .int (0), .int (100), .int (0), .int (0), .int (-1), .long (0), .int (1)])), (a2, .inr (8, [.int (0), .ref a12, .ref a13, .ref a14, .ref a15, .int (0), .ref a16, .ref a17, .ref a18, .ref a19, .ref a20, .ref a21, .ref a22]))] _ _ := ⟨⟨hx, hb, hml, hown, hts⟩, hE, hS, hA, hP, hD⟩
  refine n_callX (E0 := "java/lang/IndexOutOfBoundsException") hX (n_runVX (n := 1) (wc := [(a0, .inr (12, [.ref a2, .ref a3, .ref a4, .ref a5, .ref a6, .ref a7, .ref a8, .ref a9, .null, .ref a10, .ref a11, .int (0), .int (100), .int (0), .int (0), .int (-1), .long (0), .int (1)])), (a2, .inr (8, [.int (0), .ref a12, .ref a13, .ref a14, .ref a15, .int (0), .ref a16, .ref a17, .ref a18, .ref a19, .ref a20, .ref a21, .ref a22]))]) (As := [.int s1]) (rest := [.int (0), .ref a1]) hX (m293 l hst dC dI g a0 a2 a3 a4 a5 a6 a7 a8 a9 a10 a11 a12 a13 a14 a15 a16 a17 a18 a19 a20 a21 a22 s1 _) [0, 1] rfl (by decide +kernel) 0 (ci := 12) rfl (T := TX11) (N := 18) (C := "Minestrata") rfl q1154 q1155 q1156 q71 q1157 (by decide +kernel) ⟨(Nat.le_of_ble_eq_true rfl), (Nat.le_of_ble_eq_true rfl)⟩ ⟨(Nat.le_of_ble_eq_true rfl), (Nat.le_of_ble_eq_true rfl)⟩ hl.1 rfl rfl (Nat.le_of_ble_eq_true rfl) dL_pressure_4) [0, 1] rfl (fun ce q9 H locs hS hce hcv hcl => ?_)
  refine n_catch (E := "java/lang/IndexOutOfBoundsException") (name := "java/lang/IndexOutOfBoundsException") hE hts hown htab [] ⟨0, 9, 12, 21⟩ [] rfl (fun z hz => nomatch hz) (by decide +kernel) (by decide) q907 x950 hce hcv hcl ?_
  refine W.widen (k := 1) (n := 6) (Nat.le_of_ble_eq_true rfl) (Nat.le_of_ble_eq_true rfl) ?_
  refine W.eq (g2 := F0 m 12 ls [.ref q9]) rfl ?_
  refine lv_astore_n (lv' := [(3, .ref q9), (0, .ref a0), (1, .int s1), (2, .ref a1)]) hx hb dL_pressure_12 rfl hl (by decide) rfl (fun ls hl => ?_)
  refine lv_iconst (v := (1)) hx hb dL_pressure_13 (by decide +kernel) ?_
  refine W.widen (k := 1) (n := 6) (Nat.le_of_ble_eq_true rfl) (Nat.le_of_ble_eq_true rfl) ?_
  exact W.iret hx hb hr (n_end0 hS (fun _ => 0) rfl rfl) hS.2.2 dL_pressure_14 hlk

set_option maxHeartbeats 4000000 in
set_option maxRecDepth 100000 in
/-- MinestrataModel.pressure -/
theorem m295 (l : Launch) (hst : l.stackTraces = false) (dC : Nat → ClassId) (dI : Nat → Nat → Nat) (g : Nat → Nat) (a0 a1 a2 a3 a4 a5 a6 a7 a8 a9 a10 a11 a12 : Nat) (s1 : Int32) (sz : Nat) :
    Met l Y102 (Cond.code Y102 prog_14_method_16_code 2 (Option.some Jvm.ClassFile.FieldType.int) :: AW) ({ frames := 2, cells := 0, slots := 0, locals := 43 } : Room) (nP dC dI g [.ref a0, .int s1] [(a0, .inr (15, [.int (0), .int (0), .int (100), .int (0), .int (0), .ref a1, .ref a2, .ref a3, .ref a4, .ref a5, .ref a6, .ref a7, .ref a8, .ref a9, .ref a10, .ref a11, .null, .int (-1), .ref a12, .long (0)]))] sz) (nQ dC dI (fun f => some (.int (0))) (fun f r => [(a0, .inr (15, [.int (1), .int (0), .int (100), .int (0), .int (0), .ref a1, .ref a2, .ref a3, .ref a4, .ref a5, .ref a6, .ref a7, .ref a8, .ref a9, .ref a10, .ref a11, .null, .int (-1), .ref a12, .long (0)]))]) (va_A [(a0, .inr (15, [.int (0), .int (0), .int (100), .int (0), .int (0), .ref a1, .ref a2, .ref a3, .ref a4, .ref a5, .ref a6, .ref a7, .ref a8, .ref a9, .ref a10, .ref a11, .null, .int (-1), .ref a12, .long (0)]))] sz)) 0 0 (va_A [(a0, .inr (15, [.int (0), .int (0), .int (100), .int (0), .int (0), .ref a1, .ref a2, .ref a3, .ref a4, .ref a5, .ref a6, .ref a7, .ref a8, .ref a9, .ref a10, .ref a11, .null, .int (-1), .ref a12, .long (0)]))] sz) := by
  refine n_met (by decide +kernel) (Nat.le_of_ble_eq_true rfl) (fun f => some (.int (0))) (fun f r => [(a0, .inr (15, [.int (1), .int (0), .int (100), .int (0), .int (0), .ref a1, .ref a2, .ref a3, .ref a4, .ref a5, .ref a6, .ref a7, .ref a8, .ref a9, .ref a10, .ref a11, .null, .int (-1), .ref a12, .long (0)]))]) ?_
  intro p e s m below meth c A ls ⟨hx, hb, hr, hml, hown, hts, hlk, hnm⟩ hE hP hD hA hl
  have hown : s.vm.findClass "MinestrataModel" = some m.cls := hown
  have hK := hE.1
  have hS : va_S A s.heap s.heap [] := va_S.rf
  have hl : lv_has ls 2 [(0, .ref a0), (1, .int s1)] := hl
  refine lv_aload_n hx hb dX16_pressure_0 rfl (lv_at hl 0 rfl) ?_
  refine lv_iload_n hx hb dX16_pressure_1 rfl (lv_at hl 1 rfl) ?_
  have hX : nCx p s m _ c prog_14_method_16_code 2 "MinestrataModel" dC dI g A [(a0, .inr (15, [.int (0), .int (0), .int (100), .int (0), .int (0), .ref a1, .ref a2, .ref a3, .ref a4, .ref a5, .ref a6, .ref a7, .ref a8, .ref a9, .ref a10, .ref a11, .null, .int (-1), .ref a12, .long (0)]))] _ _ := ⟨⟨hx, hb, hml, hown, hts⟩, hE, hS, hA, hP, hD⟩
  refine n_call (wr := []) hX (n_runV (n := 1) (wc := [(a0, .inr (15, [.int (0), .int (0), .int (100), .int (0), .int (0), .ref a1, .ref a2, .ref a3, .ref a4, .ref a5, .ref a6, .ref a7, .ref a8, .ref a9, .ref a10, .ref a11, .null, .int (-1), .ref a12, .long (0)]))]) (As := [.int s1]) (rest := []) hX (m49 l hst dC dI g a0 a1 a2 a3 a4 a5 a6 a7 a8 a9 a10 a11 a12 s1 _) [0] rfl (by decide +kernel) 0 (ci := 15) rfl (T := TX16) (N := 20) (C := "MinestrataModel") rfl q1518 q1520 q41 q82 q1521 (by decide +kernel) ⟨(Nat.le_of_ble_eq_true rfl), (Nat.le_of_ble_eq_true rfl)⟩ ⟨(Nat.le_of_ble_eq_true rfl), (Nat.le_of_ble_eq_true rfl)⟩ hl.1 rfl rfl (Nat.le_of_ble_eq_true rfl) dX16_pressure_2) [0] [] rfl rfl (by decide +kernel) (by decide +kernel) (fun f1 r2 H locs hP hD hS => ?_)
  have hP : va_P (dC, dI) CL [(a0, .inr (15, [.int (0), .int (0), .int (100), .int (0), .int (0), .ref a1, .ref a2, .ref a3, .ref a4, .ref a5, .ref a6, .ref a7, .ref a8, .ref a9, .ref a10, .ref a11, .null, .int (-1), .ref a12, .long (0)]))] _ := hP
  have hD : va_D A [(a0, .inr (15, [.int (0), .int (0), .int (100), .int (0), .int (0), .ref a1, .ref a2, .ref a3, .ref a4, .ref a5, .ref a6, .ref a7, .ref a8, .ref a9, .ref a10, .ref a11, .null, .int (-1), .ref a12, .long (0)]))] := hD
  refine W.widen (k := 0) (n := 0) (Nat.le_of_ble_eq_true rfl) (Nat.le_of_ble_eq_true rfl) ?_
  refine W.eq (g2 := F0 m 5 ls [.int (0)]) rfl ?_
  refine lv_if_eq (tgt := 43) hx hb dX16_pressure_5 (by decide +kernel) (fun _ => ?_) (fun h => absurd (by decide +kernel) h)
  refine lv_aload_n hx hb dX16_pressure_43 rfl (lv_at hl 0 rfl) ?_
  refine lv_iconst (v := (1)) hx hb dX16_pressure_44 (by decide +kernel) ?_
  have hX : nCx p s m _ c prog_14_method_16_code 2 "MinestrataModel" dC dI g A [(a0, .inr (15, [.int (0), .int (0), .int (100), .int (0), .int (0), .ref a1, .ref a2, .ref a3, .ref a4, .ref a5, .ref a6, .ref a7, .ref a8, .ref a9, .ref a10, .ref a11, .null, .int (-1), .ref a12, .long (0)]))] _ _ := ⟨⟨hx, hb, hml, hown, hts⟩, hE, hS, hA, hP, hD⟩
  refine n_call (wr := []) hX (n_runV (n := 1) (wc := [(a0, .inr (15, [.int (0), .int (0), .int (100), .int (0), .int (0), .ref a1, .ref a2, .ref a3, .ref a4, .ref a5, .ref a6, .ref a7, .ref a8, .ref a9, .ref a10, .ref a11, .null, .int (-1), .ref a12, .long (0)]))]) (As := [.int (1)]) (rest := []) hX (m31 l hst dC dI g a0 a1 a2 a3 a4 a5 a6 a7 a8 a9 a10 a11 a12 _) [0] rfl (by decide +kernel) 0 (ci := 15) rfl (T := TX16) (N := 20) (C := "MinestrataModel") rfl q1506 q1508 q39 q82 q1509 (by decide +kernel) ⟨(Nat.le_of_ble_eq_true rfl), (Nat.le_of_ble_eq_true rfl)⟩ ⟨(Nat.le_of_ble_eq_true rfl), (Nat.le_of_ble_eq_true rfl)⟩ hl.1 rfl rfl (Nat.le_of_ble_eq_true rfl) dX16_pressure_45) [0] [] rfl rfl (by decide +kernel) (by decide +kernel) (fun f3 r4 H locs hP hD hS => ?_)
  have hP : va_P (dC, dI) CL [(a0, .inr (15, [.int (1), .int (0), .int (100), .int (0), .int (0), .ref a1, .ref a2, .ref a3, .ref a4, .ref a5, .ref a6, .ref a7, .ref a8, .ref a9, .ref a10, .ref a11, .null, .int (-1), .ref a12, .long (0)]))] _ := hP
  have hD : va_D A [(a0, .inr (15, [.int (1), .int (0), .int (100), .int (0), .int (0), .ref a1, .ref a2, .ref a3, .ref a4, .ref a5, .ref a6, .ref a7, .ref a8, .ref a9, .ref a10, .ref a11, .null, .int (-1), .ref a12, .long (0)]))] := hD
  refine W.widen (k := 0) (n := 0) (Nat.le_of_ble_eq_true rfl) (Nat.le_of_ble_eq_true rfl) ?_
  refine W.eq (g2 := F0 m 48 ls [.int (0)]) rfl ?_
  refine W.widen (k := 0) (n := 0) (Nat.le_of_ble_eq_true rfl) (Nat.le_of_ble_eq_true rfl) ?_
  exact W.iret hx hb hr (n_end hS hP hD [0] (by decide +kernel) (fun _ => 0) (fun _ => 0) rfl rfl rfl) hS.2.2 dX16_pressure_48 hlk

set_option maxHeartbeats 4000000 in
set_option maxRecDepth 100000 in
/-- Minestrata.gas -/
theorem m296 (l : Launch) (hst : l.stackTraces = false) (dC : Nat → ClassId) (dI : Nat → Nat → Nat) (g : Nat → Nat) (a0 a1 a2 a3 a4 a5 a6 a7 a8 a9 a10 a11 a12 a13 a14 a15 a16 a17 a18 a19 a20 a21 : Nat) (s1 : Int32) (sz : Nat) :
    vx_Met l Y104 (Cond.code Y104 prog_1_method_14_code 2 (Option.some Jvm.ClassFile.FieldType.int) :: AW) ({ frames := 6, cells := 1, slots := 6, locals := 81 } : Room) (nP dC dI g [.ref a0, .int s1] [(a0, .inr (12, [.ref a1, .ref a2, .ref a3, .ref a4, .ref a5, .ref a6, .ref a7, .ref a8, .null, .ref a9, .ref a10, .int (0), .int (100), .int (0), .int (0), .int (-1), .long (0), .int (1)])), (a1, .inr (8, [.int (0), .ref a11, .ref a12, .ref a13, .ref a14, .int (0), .ref a15, .ref a16, .ref a17, .ref a18, .ref a19, .ref a20, .ref a21]))] sz) (fun _ _ _ _ => False) (nX "java/lang/IndexOutOfBoundsException" (va_A [(a0, .inr (12, [.ref a1, .ref a2, .ref a3, .ref a4, .ref a5, .ref a6, .ref a7, .ref a8, .null, .ref a9, .ref a10, .int (0), .int (100), .int (0), .int (0), .int (-1), .long (0), .int (1)])), (a1, .inr (8, [.int (0), .ref a11, .ref a12, .ref a13, .ref a14, .int (0), .ref a15, .ref a16, .ref a17, .ref a18, .ref a19, .ref a20, .ref a21]))] sz)) 1 6 (va_A [(a0, .inr (12, [.ref a1, .ref a2, .ref a3, .ref a4, .ref a5, .ref a6, .ref a7, .ref a8, .null, .ref a9, .ref a10, .int (0), .int (100), .int (0), .int (0), .int (-1), .long (0), .int (1)])), (a1, .inr (8, [.int (0), .ref a11, .ref a12, .ref a13, .ref a14, .int (0), .ref a15, .ref a16, .ref a17, .ref a18, .ref a19, .ref a20, .ref a21]))] sz) := by
  refine n_metX (by decide +kernel) (Nat.le_of_ble_eq_true rfl) "java/lang/IndexOutOfBoundsException" ?_
  intro p e s m below meth c A ls ⟨hx, hb, hr, hml, hown, hts, hlk, hnm⟩ hout hE hP hD hA hl
  have hown : s.vm.findClass "Minestrata" = some m.cls := hown
  have hK := hE.1
  have hS : va_S A s.heap s.heap [] := va_S.rf
  have hl : lv_has ls 2 [(0, .ref a0), (1, .int s1)] := hl
  have hlsz : ls.size = c.maxLocals := hl.1.trans hml.symm
  refine lv_aload_n hx hb dX11_gas_0 rfl (lv_at hl 0 rfl) ?_
  refine va_get (D := (dC, dI)) (ci := 12) (v := .ref a1) (C := "Minestrata") (T := TX11) (N := 18) hx hb hts inX11 hown hK hP 0 rfl rfl 0 (by decide) (hts _ q504) (fun _ h9 => h9) rfl dX11_gas_1 ?_
  refine lv_iload_n hx hb dX11_gas_4 rfl (lv_at hl 1 rfl) ?_
  have hX : nCx p s m _ c prog_1_method_14_code 2 "Minestrata" dC dI g A [(a0, .inr (12, [.ref a1, .ref a2, .ref a3, .ref a4, .ref a5, .ref a6, .ref a7, .ref a8, .null, .ref a9, .ref a10, .int (0), .int (100), .int (0), .int (0), .int (-1), .long (0), .int (1)])), (a1, .inr (8, [.int (0), .ref a11, .ref a12, .ref a13, .ref a14, .int (0), .ref a15, .ref a16, .ref a17, .ref a18, .ref a19, .ref a20, .ref a21]))] _ _ := ⟨⟨hx, hb, hml, hown, hts⟩, hE, hS, hA, hP, hD⟩
  refine n_call (wr := [(a0, .inr (12, [.ref a1, .ref a2, .ref a3, .ref a4, .ref a5, .ref a6, .ref a7, .ref a8, .null, .ref a9, .ref a10, .int (0), .int (100), .int (0), .int (0), .int (-1), .long (0), .int (1)]))]) hX (n_runV (n := 1) (wc := [(a1, .inr (8, [.int (0), .ref a11, .ref a12, .ref a13, .ref a14, .int (0), .ref a15, .ref a16, .ref a17, .ref a18, .ref a19, .ref a20, .ref a21]))]) (As := [.int s1]) (rest := []) hX (m45 l hst dC dI g a1 a11 a12 a13 a14 a15 a16 a17 a18 a19 a20 a21 s1 _) [1] rfl (by decide +kernel) 1 (ci := 8) rfl (T := TX7) (N := 13) (C := "Minestrata$Net") rfl q944 q945 q946 q72 q947 (by decide +kernel) ⟨(Nat.le_of_ble_eq_true rfl), (Nat.le_of_ble_eq_true rfl)⟩ ⟨(Nat.le_of_ble_eq_true rfl), (Nat.le_of_ble_eq_true rfl)⟩ hl.1 rfl rfl (Nat.le_of_ble_eq_true rfl) dX11_gas_5) [1] [0] rfl rfl (by decide +kernel) (by decide +kernel) (fun f1 r2 H locs hP hD hS => ?_)
  have hP : va_P (dC, dI) CL [(a0, .inr (12, [.ref a1, .ref a2, .ref a3, .ref a4, .ref a5, .ref a6, .ref a7, .ref a8, .null, .ref a9, .ref a10, .int (0), .int (100), .int (0), .int (0), .int (-1), .long (0), .int (1)])), (a1, .inr (8, [.int (0), .ref a11, .ref a12, .ref a13, .ref a14, .int (0), .ref a15, .ref a16, .ref a17, .ref a18, .ref a19, .ref a20, .ref a21]))] _ := hP
  have hD : va_D A [(a0, .inr (12, [.ref a1, .ref a2, .ref a3, .ref a4, .ref a5, .ref a6, .ref a7, .ref a8, .null, .ref a9, .ref a10, .int (0), .int (100), .int (0), .int (0), .int (-1), .long (0), .int (1)])), (a1, .inr (8, [.int (0), .ref a11, .ref a12, .ref a13, .ref a14, .int (0), .ref a15, .ref a16, .ref a17, .ref a18, .ref a19, .ref a20, .ref a21]))] := hD
  refine W.widen (k := 0) (n := 0) (Nat.le_of_ble_eq_true rfl) (Nat.le_of_ble_eq_true rfl) ?_
  refine W.eq (g2 := F0 m 8 ls [.int (0)]) rfl ?_
  refine lv_if_ne (tgt := 19) hx hb dX11_gas_8 (by decide +kernel) (fun h => absurd (by decide +kernel) h) (fun _ => ?_)
  exact n_throw hx hb hst hown hts hE hS (names := ["java/lang/RuntimeException", "java/lang/Exception"]) (by decide +kernel) (by decide +kernel) q948 q91 hat1p hat1a hat1 hat1g (hl.1.trans hml.symm) dX11_gas_11 dX11_gas_14 dX11_gas_15 dX11_gas_18 hout (Nat.le_of_ble_eq_true rfl) (Nat.le_of_ble_eq_true rfl) (Nat.le_of_ble_eq_true rfl) (Nat.le_of_ble_eq_true rfl) hlk (Nat.le_of_ble_eq_true rfl) (Nat.le_of_ble_eq_true rfl)

set_option maxHeartbeats 4000000 in
set_option maxRecDepth 100000 in
/-- MinestrataLaw.gas -/
theorem m297 (l : Launch) (hst : l.stackTraces = false) (dC : Nat → ClassId) (dI : Nat → Nat → Nat) (g : Nat → Nat) (a0 a1 a2 a3 a4 a5 a6 a7 a8 a9 a10 a11 a12 a13 a14 a15 a16 a17 a18 a19 a20 a21 a22 : Nat) (s1 : Int32) (sz : Nat) :
    Met l Y103 (Cond.codeWith Y103 method_14_code 4 (Option.some Jvm.ClassFile.FieldType.int) [((0 : Nat), (9 : Nat), (12 : Nat), (21 : Nat))] :: AW) ({ frames := 7, cells := 1, slots := 6, locals := 102 } : Room) (nP dC dI g [.ref a0, .int s1, .ref a1] [(a0, .inr (12, [.ref a2, .ref a3, .ref a4, .ref a5, .ref a6, .ref a7, .ref a8, .ref a9, .null, .ref a10, .ref a11, .int (0), .int (100), .int (0), .int (0), .int (-1), .long (0), .int (1)])), (a2, .inr (8, [.int (0), .ref a12, .ref a13, .ref a14, .ref a15, .int (0), .ref a16, .ref a17, .ref a18, .ref a19, .ref a20, .ref a21, .ref a22]))] sz) (nQ dC dI (fun f => some (.int (1))) (fun f r => []) (va_A [(a0, .inr (12, [.ref a2, .ref a3, .ref a4, .ref a5, .ref a6, .ref a7, .ref a8, .ref a9, .null, .ref a10, .ref a11, .int (0), .int (100), .int (0), .int (0), .int (-1), .long (0), .int (1)])), (a2, .inr (8, [.int (0), .ref a12, .ref a13, .ref a14, .ref a15, .int (0), .ref a16, .ref a17, .ref a18, .ref a19, .ref a20, .ref a21, .ref a22]))] sz)) 1 6 (va_A [(a0, .inr (12, [.ref a2, .ref a3, .ref a4, .ref a5, .ref a6, .ref a7, .ref a8, .ref a9, .null, .ref a10, .ref a11, .int (0), .int (100), .int (0), .int (0), .int (-1), .long (0), .int (1)])), (a2, .inr (8, [.int (0), .ref a12, .ref a13, .ref a14, .ref a15, .int (0), .ref a16, .ref a17, .ref a18, .ref a19, .ref a20, .ref a21, .ref a22]))] sz) := by
  refine n_metW (by decide +kernel) q1160 (Nat.le_of_ble_eq_true rfl) (fun f => some (.int (1))) (fun f r => []) ?_
  intro p e s m below meth c A ls ⟨hx, hb, hr, hml, hown, hts, hlk, hnm⟩ htab hE hP hD hA hl
  have hown : s.vm.findClass "MinestrataLaw" = some m.cls := hown
  have hK := hE.1
  have hS : va_S A s.heap s.heap [] := va_S.rf
  have hl : lv_has ls 4 [(0, .ref a0), (1, .int s1), (2, .ref a1)] := hl
  refine lv_aload_n hx hb dL_gas_0 rfl (lv_at hl 2 rfl) ?_
  refine lv_iconst (v := (0)) hx hb dL_gas_1 (by decide +kernel) ?_
  refine lv_aload_n hx hb dL_gas_2 rfl (lv_at hl 0 rfl) ?_
  refine lv_iload_n hx hb dL_gas_3 rfl (lv_at hl 1 rfl) ?_
  have hX : nCx p s m _ c method_14_code 4 "MinestrataLaw" dC dI g A [(a0, .inr (12, [.ref a2, .ref a3, .ref a4, .ref a5, .ref a6, .ref a7, .ref a8, .ref a9, .null, .ref a10, .ref a11, .int (0), .int (100), .int (0), .int (0), .int (-1), .long (0), .int (1)])), (a2, .inr (8, [.int (0), .ref a12, .ref a13, .ref a14, .ref a15, .int (0), .ref a16, .ref a17, .ref a18, .ref a19, .ref a20, .ref a21, .ref a22]))] _ _ := ⟨⟨hx, hb, hml, hown, hts⟩, hE, hS, hA, hP, hD⟩
  refine n_callX (E0 := "java/lang/IndexOutOfBoundsException") hX (n_runVX (n := 1) (wc := [(a0, .inr (12, [.ref a2, .ref a3, .ref a4, .ref a5, .ref a6, .ref a7, .ref a8, .ref a9, .null, .ref a10, .ref a11, .int (0), .int (100), .int (0), .int (0), .int (-1), .long (0), .int (1)])), (a2, .inr (8, [.int (0), .ref a12, .ref a13, .ref a14, .ref a15, .int (0), .ref a16, .ref a17, .ref a18, .ref a19, .ref a20, .ref a21, .ref a22]))]) (As := [.int s1]) (rest := [.int (0), .ref a1]) hX (m296 l hst dC dI g a0 a2 a3 a4 a5 a6 a7 a8 a9 a10 a11 a12 a13 a14 a15 a16 a17 a18 a19 a20 a21 a22 s1 _) [0, 1] rfl (by decide +kernel) 0 (ci := 12) rfl (T := TX11) (N := 18) (C := "Minestrata") rfl q1161 q1162 q1163 q71 q1164 (by decide +kernel) ⟨(Nat.le_of_ble_eq_true rfl), (Nat.le_of_ble_eq_true rfl)⟩ ⟨(Nat.le_of_ble_eq_true rfl), (Nat.le_of_ble_eq_true rfl)⟩ hl.1 rfl rfl (Nat.le_of_ble_eq_true rfl) dL_gas_4) [0, 1] rfl (fun ce q9 H locs hS hce hcv hcl => ?_)
  refine n_catch (E := "java/lang/IndexOutOfBoundsException") (name := "java/lang/IndexOutOfBoundsException") hE hts hown htab [] ⟨0, 9, 12, 21⟩ [] rfl (fun z hz => nomatch hz) (by decide +kernel) (by decide) q907 x950 hce hcv hcl ?_
  refine W.widen (k := 1) (n := 6) (Nat.le_of_ble_eq_true rfl) (Nat.le_of_ble_eq_true rfl) ?_
  refine W.eq (g2 := F0 m 12 ls [.ref q9]) rfl ?_
  refine lv_astore_n (lv' := [(3, .ref q9), (0, .ref a0), (1, .int s1), (2, .ref a1)]) hx hb dL_gas_12 rfl hl (by decide) rfl (fun ls hl => ?_)
  refine lv_iconst (v := (1)) hx hb dL_gas_13 (by decide +kernel) ?_
  refine W.widen (k := 1) (n := 6) (Nat.le_of_ble_eq_true rfl) (Nat.le_of_ble_eq_true rfl) ?_
  exact W.iret hx hb hr (n_end0 hS (fun _ => 0) rfl rfl) hS.2.2 dL_gas_14 hlk

set_option maxHeartbeats 4000000 in
set_option maxRecDepth 100000 in
/-- MinestrataModel.gas -/
theorem m298 (l : Launch) (hst : l.stackTraces = false) (dC : Nat → ClassId) (dI : Nat → Nat → Nat) (g : Nat → Nat) (a0 a1 a2 a3 a4 a5 a6 a7 a8 a9 a10 a11 a12 : Nat) (s1 : Int32) (sz : Nat) :
    Met l Y105 (Cond.code Y105 prog_14_method_17_code 2 (Option.some Jvm.ClassFile.FieldType.int) :: AW) ({ frames := 2, cells := 0, slots := 0, locals := 43 } : Room) (nP dC dI g [.ref a0, .int s1] [(a0, .inr (15, [.int (0), .int (0), .int (100), .int (0), .int (0), .ref a1, .ref a2, .ref a3, .ref a4, .ref a5, .ref a6, .ref a7, .ref a8, .ref a9, .ref a10, .ref a11, .null, .int (-1), .ref a12, .long (0)]))] sz) (nQ dC dI (fun f => some (.int (0))) (fun f r => [(a0, .inr (15, [.int (1), .int (0), .int (100), .int (0), .int (0), .ref a1, .ref a2, .ref a3, .ref a4, .ref a5, .ref a6, .ref a7, .ref a8, .ref a9, .ref a10, .ref a11, .null, .int (-1), .ref a12, .long (0)]))]) (va_A [(a0, .inr (15, [.int (0), .int (0), .int (100), .int (0), .int (0), .ref a1, .ref a2, .ref a3, .ref a4, .ref a5, .ref a6, .ref a7, .ref a8, .ref a9, .ref a10, .ref a11, .null, .int (-1), .ref a12, .long (0)]))] sz)) 0 0 (va_A [(a0, .inr (15, [.int (0), .int (0), .int (100), .int (0), .int (0), .ref a1, .ref a2, .ref a3, .ref a4, .ref a5, .ref a6, .ref a7, .ref a8, .ref a9, .ref a10, .ref a11, .null, .int (-1), .ref a12, .long (0)]))] sz) := by
  refine n_met (by decide +kernel) (Nat.le_of_ble_eq_true rfl) (fun f => some (.int (0))) (fun f r => [(a0, .inr (15, [.int (1), .int (0), .int (100), .int (0), .int (0), .ref a1, .ref a2, .ref a3, .ref a4, .ref a5, .ref a6, .ref a7, .ref a8, .ref a9, .ref a10, .ref a11, .null, .int (-1), .ref a12, .long (0)]))]) ?_
  intro p e s m below meth c A ls ⟨hx, hb, hr, hml, hown, hts, hlk, hnm⟩ hE hP hD hA hl
  have hown : s.vm.findClass "MinestrataModel" = some m.cls := hown
  have hK := hE.1
  have hS : va_S A s.heap s.heap [] := va_S.rf
  have hl : lv_has ls 2 [(0, .ref a0), (1, .int s1)] := hl
  refine lv_aload_n hx hb dX16_gas_0 rfl (lv_at hl 0 rfl) ?_
  refine lv_iload_n hx hb dX16_gas_1 rfl (lv_at hl 1 rfl) ?_
  have hX : nCx p s m _ c prog_14_method_17_code 2 "MinestrataModel" dC dI g A [(a0, .inr (15, [.int (0), .int (0), .int (100), .int (0), .int (0), .ref a1, .ref a2, .ref a3, .ref a4, .ref a5, .ref a6, .ref a7, .ref a8, .ref a9, .ref a10, .ref a11, .null, .int (-1), .ref a12, .long (0)]))] _ _ := ⟨⟨hx, hb, hml, hown, hts⟩, hE, hS, hA, hP, hD⟩
  refine n_call (wr := []) hX (n_runV (n := 1) (wc := [(a0, .inr (15, [.int (0), .int (0), .int (100), .int (0), .int (0), .ref a1, .ref a2, .ref a3, .ref a4, .ref a5, .ref a6, .ref a7, .ref a8, .ref a9, .ref a10, .ref a11, .null, .int (-1), .ref a12, .long (0)]))]) (As := [.int s1]) (rest := []) hX (m49 l hst dC dI g a0 a1 a2 a3 a4 a5 a6 a7 a8 a9 a10 a11 a12 s1 _) [0] rfl (by decide +kernel) 0 (ci := 15) rfl (T := TX16) (N := 20) (C := "MinestrataModel") rfl q1518 q1520 q41 q82 q1521 (by decide +kernel) ⟨(Nat.le_of_ble_eq_true rfl), (Nat.le_of_ble_eq_true rfl)⟩ ⟨(Nat.le_of_ble_eq_true rfl), (Nat.le_of_ble_eq_true rfl)⟩ hl.1 rfl rfl (Nat.le_of_ble_eq_true rfl) dX16_gas_2) [0] [] rfl rfl (by decide +kernel) (by decide +kernel) (fun f1 r2 H locs hP hD hS => ?_)
  have hP : va_P (dC, dI) CL [(a0, .inr (15, [.int (0), .int (0), .int (100), .int (0), .int (0), .ref a1, .ref a2, .ref a3, .ref a4, .ref a5, .ref a6, .ref a7, .ref a8, .ref a9, .ref a10, .ref a11, .null, .int (-1), .ref a12, .long (0)]))] _ := hP
  have hD : va_D A [(a0, .inr (15, [.int (0), .int (0), .int (100), .int (0), .int (0), .ref a1, .ref a2, .ref a3, .ref a4, .ref a5, .ref a6, .ref a7, .ref a8, .ref a9, .ref a10, .ref a11, .null, .int (-1), .ref a12, .long (0)]))] := hD
  refine W.widen (k := 0) (n := 0) (Nat.le_of_ble_eq_true rfl) (Nat.le_of_ble_eq_true rfl) ?_
  refine W.eq (g2 := F0 m 5 ls [.int (0)]) rfl ?_
  refine lv_if_eq (tgt := 23) hx hb dX16_gas_5 (by decide +kernel) (fun _ => ?_) (fun h => absurd (by decide +kernel) h)
  refine lv_aload_n hx hb dX16_gas_23 rfl (lv_at hl 0 rfl) ?_
  refine lv_iconst (v := (1)) hx hb dX16_gas_24 (by decide +kernel) ?_
  have hX : nCx p s m _ c prog_14_method_17_code 2 "MinestrataModel" dC dI g A [(a0, .inr (15, [.int (0), .int (0), .int (100), .int (0), .int (0), .ref a1, .ref a2, .ref a3, .ref a4, .ref a5, .ref a6, .ref a7, .ref a8, .ref a9, .ref a10, .ref a11, .null, .int (-1), .ref a12, .long (0)]))] _ _ := ⟨⟨hx, hb, hml, hown, hts⟩, hE, hS, hA, hP, hD⟩
  refine n_call (wr := []) hX (n_runV (n := 1) (wc := [(a0, .inr (15, [.int (0), .int (0), .int (100), .int (0), .int (0), .ref a1, .ref a2, .ref a3, .ref a4, .ref a5, .ref a6, .ref a7, .ref a8, .ref a9, .ref a10, .ref a11, .null, .int (-1), .ref a12, .long (0)]))]) (As := [.int (1)]) (rest := []) hX (m31 l hst dC dI g a0 a1 a2 a3 a4 a5 a6 a7 a8 a9 a10 a11 a12 _) [0] rfl (by decide +kernel) 0 (ci := 15) rfl (T := TX16) (N := 20) (C := "MinestrataModel") rfl q1506 q1508 q39 q82 q1509 (by decide +kernel) ⟨(Nat.le_of_ble_eq_true rfl), (Nat.le_of_ble_eq_true rfl)⟩ ⟨(Nat.le_of_ble_eq_true rfl), (Nat.le_of_ble_eq_true rfl)⟩ hl.1 rfl rfl (Nat.le_of_ble_eq_true rfl) dX16_gas_25) [0] [] rfl rfl (by decide +kernel) (by decide +kernel) (fun f3 r4 H locs hP hD hS => ?_)
  have hP : va_P (dC, dI) CL [(a0, .inr (15, [.int (1), .int (0), .int (100), .int (0), .int (0), .ref a1, .ref a2, .ref a3, .ref a4, .ref a5, .ref a6, .ref a7, .ref a8, .ref a9, .ref a10, .ref a11, .null, .int (-1), .ref a12, .long (0)]))] _ := hP
  have hD : va_D A [(a0, .inr (15, [.int (1), .int (0), .int (100), .int (0), .int (0), .ref a1, .ref a2, .ref a3, .ref a4, .ref a5, .ref a6, .ref a7, .ref a8, .ref a9, .ref a10, .ref a11, .null, .int (-1), .ref a12, .long (0)]))] := hD
  refine W.widen (k := 0) (n := 0) (Nat.le_of_ble_eq_true rfl) (Nat.le_of_ble_eq_true rfl) ?_
  refine W.eq (g2 := F0 m 28 ls [.int (0)]) rfl ?_
  refine W.widen (k := 0) (n := 0) (Nat.le_of_ble_eq_true rfl) (Nat.le_of_ble_eq_true rfl) ?_
  exact W.iret hx hb hr (n_end hS hP hD [0] (by decide +kernel) (fun _ => 0) (fun _ => 0) rfl rfl rfl) hS.2.2 dX16_gas_28 hlk

set_option maxHeartbeats 4000000 in
set_option maxRecDepth 100000 in
/-- Minestrata.isFull -/
theorem m299 (l : Launch) (hst : l.stackTraces = false) (dC : Nat → ClassId) (dI : Nat → Nat → Nat) (g : Nat → Nat) (a0 a1 a2 a3 a4 a5 a6 a7 a8 a9 a10 a11 a12 a13 a14 a15 a16 a17 a18 a19 a20 a21 : Nat) (s1 : Int32) (sz : Nat) :
    vx_Met l Y107 (Cond.code Y107 prog_1_method_15_code 2 (Option.some Jvm.ClassFile.FieldType.boolean) :: AW) ({ frames := 6, cells := 1, slots := 6, locals := 81 } : Room) (nP dC dI g [.ref a0, .int s1] [(a0, .inr (12, [.ref a1, .ref a2, .ref a3, .ref a4, .ref a5, .ref a6, .ref a7, .ref a8, .null, .ref a9, .ref a10, .int (0), .int (100), .int (0), .int (0), .int (-1), .long (0), .int (1)])), (a1, .inr (8, [.int (0), .ref a11, .ref a12, .ref a13, .ref a14, .int (0), .ref a15, .ref a16, .ref a17, .ref a18, .ref a19, .ref a20, .ref a21]))] sz) (fun _ _ _ _ => False) (nX "java/lang/IndexOutOfBoundsException" (va_A [(a0, .inr (12, [.ref a1, .ref a2, .ref a3, .ref a4, .ref a5, .ref a6, .ref a7, .ref a8, .null, .ref a9, .ref a10, .int (0), .int (100), .int (0), .int (0), .int (-1), .long (0), .int (1)])), (a1, .inr (8, [.int (0), .ref a11, .ref a12, .ref a13, .ref a14, .int (0), .ref a15, .ref a16, .ref a17, .ref a18, .ref a19, .ref a20, .ref a21]))] sz)) 1 6 (va_A [(a0, .inr (12, [.ref a1, .ref a2, .ref a3, .ref a4, .ref a5, .ref a6, .ref a7, .ref a8, .null, .ref a9, .ref a10, .int (0), .int (100), .int (0), .int (0), .int (-1), .long (0), .int (1)])), (a1, .inr (8, [.int (0), .ref a11, .ref a12, .ref a13, .ref a14, .int (0), .ref a15, .ref a16, .ref a17, .ref a18, .ref a19, .ref a20, .ref a21]))] sz) := by
  refine n_metX (by decide +kernel) (Nat.le_of_ble_eq_true rfl) "java/lang/IndexOutOfBoundsException" ?_
  intro p e s m below meth c A ls ⟨hx, hb, hr, hml, hown, hts, hlk, hnm⟩ hout hE hP hD hA hl
  have hown : s.vm.findClass "Minestrata" = some m.cls := hown
  have hK := hE.1
  have hS : va_S A s.heap s.heap [] := va_S.rf
  have hl : lv_has ls 2 [(0, .ref a0), (1, .int s1)] := hl
  have hlsz : ls.size = c.maxLocals := hl.1.trans hml.symm
  refine lv_aload_n hx hb dX11_isFull_0 rfl (lv_at hl 0 rfl) ?_
  refine va_get (D := (dC, dI)) (ci := 12) (v := .ref a1) (C := "Minestrata") (T := TX11) (N := 18) hx hb hts inX11 hown hK hP 0 rfl rfl 0 (by decide) (hts _ q504) (fun _ h9 => h9) rfl dX11_isFull_1 ?_
  refine lv_iload_n hx hb dX11_isFull_4 rfl (lv_at hl 1 rfl) ?_
  have hX : nCx p s m _ c prog_1_method_15_code 2 "Minestrata" dC dI g A [(a0, .inr (12, [.ref a1, .ref a2, .ref a3, .ref a4, .ref a5, .ref a6, .ref a7, .ref a8, .null, .ref a9, .ref a10, .int (0), .int (100), .int (0), .int (0), .int (-1), .long (0), .int (1)])), (a1, .inr (8, [.int (0), .ref a11, .ref a12, .ref a13, .ref a14, .int (0), .ref a15, .ref a16, .ref a17, .ref a18, .ref a19, .ref a20, .ref a21]))] _ _ := ⟨⟨hx, hb, hml, hown, hts⟩, hE, hS, hA, hP, hD⟩
  refine n_call (wr := [(a0, .inr (12, [.ref a1, .ref a2, .ref a3, .ref a4, .ref a5, .ref a6, .ref a7, .ref a8, .null, .ref a9, .ref a10, .int (0), .int (100), .int (0), .int (0), .int (-1), .long (0), .int (1)]))]) hX (n_runV (n := 1) (wc := [(a1, .inr (8, [.int (0), .ref a11, .ref a12, .ref a13, .ref a14, .int (0), .ref a15, .ref a16, .ref a17, .ref a18, .ref a19, .ref a20, .ref a21]))]) (As := [.int s1]) (rest := []) hX (m45 l hst dC dI g a1 a11 a12 a13 a14 a15 a16 a17 a18 a19 a20 a21 s1 _) [1] rfl (by decide +kernel) 1 (ci := 8) rfl (T := TX7) (N := 13) (C := "Minestrata$Net") rfl q944 q945 q946 q72 q947 (by decide +kernel) ⟨(Nat.le_of_ble_eq_true rfl), (Nat.le_of_ble_eq_true rfl)⟩ ⟨(Nat.le_of_ble_eq_true rfl), (Nat.le_of_ble_eq_true rfl)⟩ hl.1 rfl rfl (Nat.le_of_ble_eq_true rfl) dX11_isFull_5) [1] [0] rfl rfl (by decide +kernel) (by decide +kernel) (fun f1 r2 H locs hP hD hS => ?_)
  have hP : va_P (dC, dI) CL [(a0, .inr (12, [.ref a1, .ref a2, .ref a3, .ref a4, .ref a5, .ref a6, .ref a7, .ref a8, .null, .ref a9, .ref a10, .int (0), .int (100), .int (0), .int (0), .int (-1), .long (0), .int (1)])), (a1, .inr (8, [.int (0), .ref a11, .ref a12, .ref a13, .ref a14, .int (0), .ref a15, .ref a16, .ref a17, .ref a18, .ref a19, .ref a20, .ref a21]))] _ := hP
  have hD : va_D A [(a0, .inr (12, [.ref a1, .ref a2, .ref a3, .ref a4, .ref a5, .ref a6, .ref a7, .ref a8, .null, .ref a9, .ref a10, .int (0), .int (100), .int (0), .int (0), .int (-1), .long (0), .int (1)])), (a1, .inr (8, [.int (0), .ref a11, .ref a12, .ref a13, .ref a14, .int (0), .ref a15, .ref a16, .ref a17, .ref a18, .ref a19, .ref a20, .ref a21]))] := hD
  refine W.widen (k := 0) (n := 0) (Nat.le_of_ble_eq_true rfl) (Nat.le_of_ble_eq_true rfl) ?_
  refine W.eq (g2 := F0 m 8 ls [.int (0)]) rfl ?_
  refine lv_if_ne (tgt := 19) hx hb dX11_isFull_8 (by decide +kernel) (fun h => absurd (by decide +kernel) h) (fun _ => ?_)
  exact n_throw hx hb hst hown hts hE hS (names := ["java/lang/RuntimeException", "java/lang/Exception"]) (by decide +kernel) (by decide +kernel) q948 q91 hat1p hat1a hat1 hat1g (hl.1.trans hml.symm) dX11_isFull_11 dX11_isFull_14 dX11_isFull_15 dX11_isFull_18 hout (Nat.le_of_ble_eq_true rfl) (Nat.le_of_ble_eq_true rfl) (Nat.le_of_ble_eq_true rfl) (Nat.le_of_ble_eq_true rfl) hlk (Nat.le_of_ble_eq_true rfl) (Nat.le_of_ble_eq_true rfl)

set_option maxHeartbeats 4000000 in
set_option maxRecDepth 100000 in
/-- MinestrataLaw.isFull -/
theorem m300 (l : Launch) (hst : l.stackTraces = false) (dC : Nat → ClassId) (dI : Nat → Nat → Nat) (g : Nat → Nat) (a0 a1 a2 a3 a4 a5 a6 a7 a8 a9 a10 a11 a12 a13 a14 a15 a16 a17 a18 a19 a20 a21 a22 : Nat) (s1 : Int32) (sz : Nat) :
    Met l Y106 (Cond.codeWith Y106 method_15_code 4 (Option.some Jvm.ClassFile.FieldType.int) [((0 : Nat), (16 : Nat), (19 : Nat), (21 : Nat))] :: AW) ({ frames := 7, cells := 1, slots := 6, locals := 102 } : Room) (nP dC dI g [.ref a0, .int s1, .ref a1] [(a0, .inr (12, [.ref a2, .ref a3, .ref a4, .ref a5, .ref a6, .ref a7, .ref a8, .ref a9, .null, .ref a10, .ref a11, .int (0), .int (100), .int (0), .int (0), .int (-1), .long (0), .int (1)])), (a2, .inr (8, [.int (0), .ref a12, .ref a13, .ref a14, .ref a15, .int (0), .ref a16, .ref a17, .ref a18, .ref a19, .ref a20, .ref a21, .ref a22]))] sz) (nQ dC dI (fun f => some (.int (1))) (fun f r => []) (va_A [(a0, .inr (12, [.ref a2, .ref a3, .ref a4, .ref a5, .ref a6, .ref a7, .ref a8, .ref a9, .null, .ref a10, .ref a11, .int (0), .int (100), .int (0), .int (0), .int (-1), .long (0), .int (1)])), (a2, .inr (8, [.int (0), .ref a12, .ref a13, .ref a14, .ref a15, .int (0), .ref a16, .ref a17, .ref a18, .ref a19, .ref a20, .ref a21, .ref a22]))] sz)) 1 6 (va_A [(a0, .inr (12, [.ref a2, .ref a3, .ref a4, .ref a5, .ref a6, .ref a7, .ref a8, .ref a9, .null, .ref a10, .ref a11, .int (0), .int (100), .int (0), .int (0), .int (-1), .long (0), .int (1)])), (a2, .inr (8, [.int (0), .ref a12, .ref a13, .ref a14, .ref a15, .int (0), .ref a16, .ref a17, .ref a18, .ref a19, .ref a20, .ref a21, .ref a22]))] sz) := by
  refine n_metW (by decide +kernel) q1167 (Nat.le_of_ble_eq_true rfl) (fun f => some (.int (1))) (fun f r => []) ?_
  intro p e s m below meth c A ls ⟨hx, hb, hr, hml, hown, hts, hlk, hnm⟩ htab hE hP hD hA hl
  have hown : s.vm.findClass "MinestrataLaw" = some m.cls := hown
  have hK := hE.1
  have hS : va_S A s.heap s.heap [] := va_S.rf
  have hl : lv_has ls 4 [(0, .ref a0), (1, .int s1), (2, .ref a1)] := hl
  refine lv_aload_n hx hb dL_isFull_0 rfl (lv_at hl 2 rfl) ?_
  refine lv_iconst (v := (0)) hx hb dL_isFull_1 (by decide +kernel) ?_
  refine lv_aload_n hx hb dL_isFull_2 rfl (lv_at hl 0 rfl) ?_
  refine lv_iload_n hx hb dL_isFull_3 rfl (lv_at hl 1 rfl) ?_
  have hX : nCx p s m _ c method_15_code 4 "MinestrataLaw" dC dI g A [(a0, .inr (12, [.ref a2, .ref a3, .ref a4, .ref a5, .ref a6, .ref a7, .ref a8, .ref a9, .null, .ref a10, .ref a11, .int (0), .int (100), .int (0), .int (0), .int (-1), .long (0), .int (1)])), (a2, .inr (8, [.int (0), .ref a12, .ref a13, .ref a14, .ref a15, .int (0), .ref a16, .ref a17, .ref a18, .ref a19, .ref a20, .ref a21, .ref a22]))] _ _ := ⟨⟨hx, hb, hml, hown, hts⟩, hE, hS, hA, hP, hD⟩
  refine n_callX (E0 := "java/lang/IndexOutOfBoundsException") hX (n_runVX (n := 1) (wc := [(a0, .inr (12, [.ref a2, .ref a3, .ref a4, .ref a5, .ref a6, .ref a7, .ref a8, .ref a9, .null, .ref a10, .ref a11, .int (0), .int (100), .int (0), .int (0), .int (-1), .long (0), .int (1)])), (a2, .inr (8, [.int (0), .ref a12, .ref a13, .ref a14, .ref a15, .int (0), .ref a16, .ref a17, .ref a18, .ref a19, .ref a20, .ref a21, .ref a22]))]) (As := [.int s1]) (rest := [.int (0), .ref a1]) hX (m299 l hst dC dI g a0 a2 a3 a4 a5 a6 a7 a8 a9 a10 a11 a12 a13 a14 a15 a16 a17 a18 a19 a20 a21 a22 s1 _) [0, 1] rfl (by decide +kernel) 0 (ci := 12) rfl (T := TX11) (N := 18) (C := "Minestrata") rfl q1168 q1169 q1170 q71 q1171 (by decide +kernel) ⟨(Nat.le_of_ble_eq_true rfl), (Nat.le_of_ble_eq_true rfl)⟩ ⟨(Nat.le_of_ble_eq_true rfl), (Nat.le_of_ble_eq_true rfl)⟩ hl.1 rfl rfl (Nat.le_of_ble_eq_true rfl) dL_isFull_4) [0, 1] rfl (fun ce q9 H locs hS hce hcv hcl => ?_)
  refine n_catch (E := "java/lang/IndexOutOfBoundsException") (name := "java/lang/IndexOutOfBoundsException") hE hts hown htab [] ⟨0, 16, 19, 21⟩ [] rfl (fun z hz => nomatch hz) (by decide +kernel) (by decide) q907 x950 hce hcv hcl ?_
  refine W.widen (k := 1) (n := 6) (Nat.le_of_ble_eq_true rfl) (Nat.le_of_ble_eq_true rfl) ?_
  refine W.eq (g2 := F0 m 19 ls [.ref q9]) rfl ?_
  refine lv_astore_n (lv' := [(3, .ref q9), (0, .ref a0), (1, .int s1), (2, .ref a1)]) hx hb dL_isFull_19 rfl hl (by decide) rfl (fun ls hl => ?_)
  refine lv_iconst (v := (1)) hx hb dL_isFull_20 (by decide +kernel) ?_
  refine W.widen (k := 1) (n := 6) (Nat.le_of_ble_eq_true rfl) (Nat.le_of_ble_eq_true rfl) ?_
  exact W.iret hx hb hr (n_end0 hS (fun _ => 0) rfl rfl) hS.2.2 dL_isFull_21 hlk

set_option maxHeartbeats 4000000 in
set_option maxRecDepth 100000 in
/-- MinestrataModel.isFull -/
theorem m301 (l : Launch) (hst : l.stackTraces = false) (dC : Nat → ClassId) (dI : Nat → Nat → Nat) (g : Nat → Nat) (a0 a1 a2 a3 a4 a5 a6 a7 a8 a9 a10 a11 a12 : Nat) (s1 : Int32) (sz : Nat) :
    Met l Y108 (Cond.code Y108 prog_14_method_18_code 2 (Option.some Jvm.ClassFile.FieldType.boolean) :: AW) ({ frames := 2, cells := 0, slots := 0, locals := 43 } : Room) (nP dC dI g [.ref a0, .int s1] [(a0, .inr (15, [.int (0), .int (0), .int (100), .int (0), .int (0), .ref a1, .ref a2, .ref a3, .ref a4, .ref a5, .ref a6, .ref a7, .ref a8, .ref a9, .ref a10, .ref a11, .null, .int (-1), .ref a12, .long (0)]))] sz) (nQ dC dI (fun f => some (.int (0))) (fun f r => [(a0, .inr (15, [.int (1), .int (0), .int (100), .int (0), .int (0), .ref a1, .ref a2, .ref a3, .ref a4, .ref a5, .ref a6, .ref a7, .ref a8, .ref a9, .ref a10, .ref a11, .null, .int (-1), .ref a12, .long (0)]))]) (va_A [(a0, .inr (15, [.int (0), .int (0), .int (100), .int (0), .int (0), .ref a1, .ref a2, .ref a3, .ref a4, .ref a5, .ref a6, .ref a7, .ref a8, .ref a9, .ref a10, .ref a11, .null, .int (-1), .ref a12, .long (0)]))] sz)) 0 0 (va_A [(a0, .inr (15, [.int (0), .int (0), .int (100), .int (0), .int (0), .ref a1, .ref a2, .ref a3, .ref a4, .ref a5, .ref a6, .ref a7, .ref a8, .ref a9, .ref a10, .ref a11, .null, .int (-1), .ref a12, .long (0)]))] sz) := by
  refine n_met (by decide +kernel) (Nat.le_of_ble_eq_true rfl) (fun f => some (.int (0))) (fun f r => [(a0, .inr (15, [.int (1), .int (0), .int (100), .int (0), .int (0), .ref a1, .ref a2, .ref a3, .ref a4, .ref a5, .ref a6, .ref a7, .ref a8, .ref a9, .ref a10, .ref a11, .null, .int (-1), .ref a12, .long (0)]))]) ?_
  intro p e s m below meth c A ls ⟨hx, hb, hr, hml, hown, hts, hlk, hnm⟩ hE hP hD hA hl
  have hown : s.vm.findClass "MinestrataModel" = some m.cls := hown
  have hK := hE.1
  have hS : va_S A s.heap s.heap [] := va_S.rf
  have hl : lv_has ls 2 [(0, .ref a0), (1, .int s1)] := hl
  refine lv_aload_n hx hb dX16_isFull_0 rfl (lv_at hl 0 rfl) ?_
  refine lv_aload_n hx hb dX16_isFull_1 rfl (lv_at hl 0 rfl) ?_
  refine lv_iload_n hx hb dX16_isFull_2 rfl (lv_at hl 1 rfl) ?_
  have hX : nCx p s m _ c prog_14_method_18_code 2 "MinestrataModel" dC dI g A [(a0, .inr (15, [.int (0), .int (0), .int (100), .int (0), .int (0), .ref a1, .ref a2, .ref a3, .ref a4, .ref a5, .ref a6, .ref a7, .ref a8, .ref a9, .ref a10, .ref a11, .null, .int (-1), .ref a12, .long (0)]))] _ _ := ⟨⟨hx, hb, hml, hown, hts⟩, hE, hS, hA, hP, hD⟩
  refine n_call (wr := []) hX (n_runV (n := 1) (wc := [(a0, .inr (15, [.int (0), .int (0), .int (100), .int (0), .int (0), .ref a1, .ref a2, .ref a3, .ref a4, .ref a5, .ref a6, .ref a7, .ref a8, .ref a9, .ref a10, .ref a11, .null, .int (-1), .ref a12, .long (0)]))]) (As := [.int s1]) (rest := [.ref a0]) hX (m49 l hst dC dI g a0 a1 a2 a3 a4 a5 a6 a7 a8 a9 a10 a11 a12 s1 _) [0] rfl (by decide +kernel) 0 (ci := 15) rfl (T := TX16) (N := 20) (C := "MinestrataModel") rfl q1518 q1520 q41 q82 q1521 (by decide +kernel) ⟨(Nat.le_of_ble_eq_true rfl), (Nat.le_of_ble_eq_true rfl)⟩ ⟨(Nat.le_of_ble_eq_true rfl), (Nat.le_of_ble_eq_true rfl)⟩ hl.1 rfl rfl (Nat.le_of_ble_eq_true rfl) dX16_isFull_3) [0] [] rfl rfl (by decide +kernel) (by decide +kernel) (fun f1 r2 H locs hP hD hS => ?_)
  have hP : va_P (dC, dI) CL [(a0, .inr (15, [.int (0), .int (0), .int (100), .int (0), .int (0), .ref a1, .ref a2, .ref a3, .ref a4, .ref a5, .ref a6, .ref a7, .ref a8, .ref a9, .ref a10, .ref a11, .null, .int (-1), .ref a12, .long (0)]))] _ := hP
  have hD : va_D A [(a0, .inr (15, [.int (0), .int (0), .int (100), .int (0), .int (0), .ref a1, .ref a2, .ref a3, .ref a4, .ref a5, .ref a6, .ref a7, .ref a8, .ref a9, .ref a10, .ref a11, .null, .int (-1), .ref a12, .long (0)]))] := hD
  refine W.widen (k := 0) (n := 0) (Nat.le_of_ble_eq_true rfl) (Nat.le_of_ble_eq_true rfl) ?_
  refine W.eq (g2 := F0 m 6 ls [.int (0), .ref a0]) rfl ?_
  refine lv_if_eq (tgt := 13) hx hb dX16_isFull_6 (by decide +kernel) (fun _ => ?_) (fun h => absurd (by decide +kernel) h)
  refine lv_iconst (v := (1)) hx hb dX16_isFull_13 (by decide +kernel) ?_
  refine va_put (D := (dC, dI)) (ci := 15) (v := .int (1)) (ty := .int) (C := "MinestrataModel") (T := TX16) (N := 20) hx hb hts inX16 tyX16 tyX16_ok nmX16 hown hK hP hD hS 0 rfl rfl 0 (by decide) (hts _ q1427) (fun _ h9 => h9) rfl (by decide +kernel) rfl rfl (Nat.le_of_ble_eq_true rfl) dX16_isFull_14 (fun H locs hP hD hS => ?_)
  have hP : va_P (dC, dI) CL [(a0, .inr (15, [.int (1), .int (0), .int (100), .int (0), .int (0), .ref a1, .ref a2, .ref a3, .ref a4, .ref a5, .ref a6, .ref a7, .ref a8, .ref a9, .ref a10, .ref a11, .null, .int (-1), .ref a12, .long (0)]))] _ := hP
  have hD : va_D A [(a0, .inr (15, [.int (1), .int (0), .int (100), .int (0), .int (0), .ref a1, .ref a2, .ref a3, .ref a4, .ref a5, .ref a6, .ref a7, .ref a8, .ref a9, .ref a10, .ref a11, .null, .int (-1), .ref a12, .long (0)]))] := hD
  refine lv_aload_n hx hb dX16_isFull_17 rfl (lv_at hl 0 rfl) ?_
  refine va_get (D := (dC, dI)) (ci := 15) (v := .int (1)) (C := "MinestrataModel") (T := TX16) (N := 20) hx hb hts inX16 hown hK hP 0 rfl rfl 0 (by decide) (hts _ q1427) (fun _ h9 => h9) rfl dX16_isFull_18 ?_
  refine lv_if_ne (tgt := 40) hx hb dX16_isFull_21 (by decide +kernel) (fun _ => ?_) (fun h => absurd h (by decide +kernel))
  refine lv_iconst (v := (0)) hx hb dX16_isFull_40 (by decide +kernel) ?_
  refine W.widen (k := 0) (n := 0) (Nat.le_of_ble_eq_true rfl) (Nat.le_of_ble_eq_true rfl) ?_
  exact W.zret hx hb hr (by decide +kernel) (n_end hS hP hD [0] (by decide +kernel) (fun _ => 0) (fun _ => 0) rfl rfl rfl) hS.2.2 dX16_isFull_41 hlk

set_option maxHeartbeats 4000000 in
set_option maxRecDepth 100000 in
/-- Minestrata.isGood -/
theorem m302 (l : Launch) (hst : l.stackTraces = false) (dC : Nat → ClassId) (dI : Nat → Nat → Nat) (g : Nat → Nat) (a0 a1 a2 a3 a4 a5 a6 a7 a8 a9 a10 a11 a12 a13 a14 a15 a16 a17 a18 a19 a20 a21 : Nat) (s1 : Int32) (sz : Nat) :
    vx_Met l Y110 (Cond.code Y110 prog_1_method_16_code 2 (Option.some Jvm.ClassFile.FieldType.boolean) :: AW) ({ frames := 6, cells := 1, slots := 6, locals := 81 } : Room) (nP dC dI g [.ref a0, .int s1] [(a0, .inr (12, [.ref a1, .ref a2, .ref a3, .ref a4, .ref a5, .ref a6, .ref a7, .ref a8, .null, .ref a9, .ref a10, .int (0), .int (100), .int (0), .int (0), .int (-1), .long (0), .int (1)])), (a1, .inr (8, [.int (0), .ref a11, .ref a12, .ref a13, .ref a14, .int (0), .ref a15, .ref a16, .ref a17, .ref a18, .ref a19, .ref a20, .ref a21]))] sz) (fun _ _ _ _ => False) (nX "java/lang/IndexOutOfBoundsException" (va_A [(a0, .inr (12, [.ref a1, .ref a2, .ref a3, .ref a4, .ref a5, .ref a6, .ref a7, .ref a8, .null, .ref a9, .ref a10, .int (0), .int (100), .int (0), .int (0), .int (-1), .long (0), .int (1)])), (a1, .inr (8, [.int (0), .ref a11, .ref a12, .ref a13, .ref a14, .int (0), .ref a15, .ref a16, .ref a17, .ref a18, .ref a19, .ref a20, .ref a21]))] sz)) 1 6 (va_A [(a0, .inr (12, [.ref a1, .ref a2, .ref a3, .ref a4, .ref a5, .ref a6, .ref a7, .ref a8, .null, .ref a9, .ref a10, .int (0), .int (100), .int (0), .int (0), .int (-1), .long (0), .int (1)])), (a1, .inr (8, [.int (0), .ref a11, .ref a12, .ref a13, .ref a14, .int (0), .ref a15, .ref a16, .ref a17, .ref a18, .ref a19, .ref a20, .ref a21]))] sz) := by
  refine n_metX (by decide +kernel) (Nat.le_of_ble_eq_true rfl) "java/lang/IndexOutOfBoundsException" ?_
  intro p e s m below meth c A ls ⟨hx, hb, hr, hml, hown, hts, hlk, hnm⟩ hout hE hP hD hA hl
  have hown : s.vm.findClass "Minestrata" = some m.cls := hown
  have hK := hE.1
  have hS : va_S A s.heap s.heap [] := va_S.rf
  have hl : lv_has ls 2 [(0, .ref a0), (1, .int s1)] := hl
  have hlsz : ls.size = c.maxLocals := hl.1.trans hml.symm
  refine lv_aload_n hx hb dX11_isGood_0 rfl (lv_at hl 0 rfl) ?_
  refine va_get (D := (dC, dI)) (ci := 12) (v := .ref a1) (C := "Minestrata") (T := TX11) (N := 18) hx hb hts inX11 hown hK hP 0 rfl rfl 0 (by decide) (hts _ q504) (fun _ h9 => h9) rfl dX11_isGood_1 ?_
  refine lv_iload_n hx hb dX11_isGood_4 rfl (lv_at hl 1 rfl) ?_
  have hX : nCx p s m _ c prog_1_method_16_code 2 "Minestrata" dC dI g A [(a0, .inr (12, [.ref a1, .ref a2, .ref a3, .ref a4, .ref a5, .ref a6, .ref a7, .ref a8, .null, .ref a9, .ref a10, .int (0), .int (100), .int (0), .int (0), .int (-1), .long (0), .int (1)])), (a1, .inr (8, [.int (0), .ref a11, .ref a12, .ref a13, .ref a14, .int (0), .ref a15, .ref a16, .ref a17, .ref a18, .ref a19, .ref a20, .ref a21]))] _ _ := ⟨⟨hx, hb, hml, hown, hts⟩, hE, hS, hA, hP, hD⟩
  refine n_call (wr := [(a0, .inr (12, [.ref a1, .ref a2, .ref a3, .ref a4, .ref a5, .ref a6, .ref a7, .ref a8, .null, .ref a9, .ref a10, .int (0), .int (100), .int (0), .int (0), .int (-1), .long (0), .int (1)]))]) hX (n_runV (n := 1) (wc := [(a1, .inr (8, [.int (0), .ref a11, .ref a12, .ref a13, .ref a14, .int (0), .ref a15, .ref a16, .ref a17, .ref a18, .ref a19, .ref a20, .ref a21]))]) (As := [.int s1]) (rest := []) hX (m45 l hst dC dI g a1 a11 a12 a13 a14 a15 a16 a17 a18 a19 a20 a21 s1 _) [1] rfl (by decide +kernel) 1 (ci := 8) rfl (T := TX7) (N := 13) (C := "Minestrata$Net") rfl q944 q945 q946 q72 q947 (by decide +kernel) ⟨(Nat.le_of_ble_eq_true rfl), (Nat.le_of_ble_eq_true rfl)⟩ ⟨(Nat.le_of_ble_eq_true rfl), (Nat.le_of_ble_eq_true rfl)⟩ hl.1 rfl rfl (Nat.le_of_ble_eq_true rfl) dX11_isGood_5) [1] [0] rfl rfl (by decide +kernel) (by decide +kernel) (fun f1 r2 H locs hP hD hS => ?_)
  have hP : va_P (dC, dI) CL [(a0, .inr (12, [.ref a1, .ref a2, .ref a3, .ref a4, .ref a5, .ref a6, .ref a7, .ref a8, .null, .ref a9, .ref a10, .int (0), .int (100), .int (0), .int (0), .int (-1), .long (0), .int (1)])), (a1, .inr (8, [.int (0), .ref a11, .ref a12, .ref a13, .ref a14, .int (0), .ref a15, .ref a16, .ref a17, .ref a18, .ref a19, .ref a20, .ref a21]))] _ := hP
  have hD : va_D A [(a0, .inr (12, [.ref a1, .ref a2, .ref a3, .ref a4, .ref a5, .ref a6, .ref a7, .ref a8, .null, .ref a9, .ref a10, .int (0), .int (100), .int (0), .int (0), .int (-1), .long (0), .int (1)])), (a1, .inr (8, [.int (0), .ref a11, .ref a12, .ref a13, .ref a14, .int (0), .ref a15, .ref a16, .ref a17, .ref a18, .ref a19, .ref a20, .ref a21]))] := hD
  refine W.widen (k := 0) (n := 0) (Nat.le_of_ble_eq_true rfl) (Nat.le_of_ble_eq_true rfl) ?_
  refine W.eq (g2 := F0 m 8 ls [.int (0)]) rfl ?_
  refine lv_if_ne (tgt := 19) hx hb dX11_isGood_8 (by decide +kernel) (fun h => absurd (by decide +kernel) h) (fun _ => ?_)
  exact n_throw hx hb hst hown hts hE hS (names := ["java/lang/RuntimeException", "java/lang/Exception"]) (by decide +kernel) (by decide +kernel) q948 q91 hat1p hat1a hat1 hat1g (hl.1.trans hml.symm) dX11_isGood_11 dX11_isGood_14 dX11_isGood_15 dX11_isGood_18 hout (Nat.le_of_ble_eq_true rfl) (Nat.le_of_ble_eq_true rfl) (Nat.le_of_ble_eq_true rfl) (Nat.le_of_ble_eq_true rfl) hlk (Nat.le_of_ble_eq_true rfl) (Nat.le_of_ble_eq_true rfl)

set_option maxHeartbeats 4000000 in
set_option maxRecDepth 100000 in
/-- MinestrataLaw.isGood -/
theorem m303 (l : Launch) (hst : l.stackTraces = false) (dC : Nat → ClassId) (dI : Nat → Nat → Nat) (g : Nat → Nat) (a0 a1 a2 a3 a4 a5 a6 a7 a8 a9 a10 a11 a12 a13 a14 a15 a16 a17 a18 a19 a20 a21 a22 : Nat) (s1 : Int32) (sz : Nat) :
    Met l Y109 (Cond.codeWith Y109 method_16_code 4 (Option.some Jvm.ClassFile.FieldType.int) [((0 : Nat), (16 : Nat), (19 : Nat), (21 : Nat))] :: AW) ({ frames := 7, cells := 1, slots := 6, locals := 102 } : Room) (nP dC dI g [.ref a0, .int s1, .ref a1] [(a0, .inr (12, [.ref a2, .ref a3, .ref a4, .ref a5, .ref a6, .ref a7, .ref a8, .ref a9, .null, .ref a10, .ref a11, .int (0), .int (100), .int (0), .int (0), .int (-1), .long (0), .int (1)])), (a2, .inr (8, [.int (0), .ref a12, .ref a13, .ref a14, .ref a15, .int (0), .ref a16, .ref a17, .ref a18, .ref a19, .ref a20, .ref a21, .ref a22]))] sz) (nQ dC dI (fun f => some (.int (1))) (fun f r => []) (va_A [(a0, .inr (12, [.ref a2, .ref a3, .ref a4, .ref a5, .ref a6, .ref a7, .ref a8, .ref a9, .null, .ref a10, .ref a11, .int (0), .int (100), .int (0), .int (0), .int (-1), .long (0), .int (1)])), (a2, .inr (8, [.int (0), .ref a12, .ref a13, .ref a14, .ref a15, .int (0), .ref a16, .ref a17, .ref a18, .ref a19, .ref a20, .ref a21, .ref a22]))] sz)) 1 6 (va_A [(a0, .inr (12, [.ref a2, .ref a3, .ref a4, .ref a5, .ref a6, .ref a7, .ref a8, .ref a9, .null, .ref a10, .ref a11, .int (0), .int (100), .int (0), .int (0), .int (-1), .long (0), .int (1)])), (a2, .inr (8, [.int (0), .ref a12, .ref a13, .ref a14, .ref a15, .int (0), .ref a16, .ref a17, .ref a18, .ref a19, .ref a20, .ref a21, .ref a22]))] sz) := by
  refine n_metW (by decide +kernel) q1174 (Nat.le_of_ble_eq_true rfl) (fun f => some (.int (1))) (fun f r => []) ?_
  intro p e s m below meth c A ls ⟨hx, hb, hr, hml, hown, hts, hlk, hnm⟩ htab hE hP hD hA hl
  have hown : s.vm.findClass "MinestrataLaw" = some m.cls := hown
  have hK := hE.1
  have hS : va_S A s.heap s.heap [] := va_S.rf
  have hl : lv_has ls 4 [(0, .ref a0), (1, .int s1), (2, .ref a1)] := hl
  refine lv_aload_n hx hb dL_isGood_0 rfl (lv_at hl 2 rfl) ?_
  refine lv_iconst (v := (0)) hx hb dL_isGood_1 (by decide +kernel) ?_
  refine lv_aload_n hx hb dL_isGood_2 rfl (lv_at hl 0 rfl) ?_
  refine lv_iload_n hx hb dL_isGood_3 rfl (lv_at hl 1 rfl) ?_
  have hX : nCx p s m _ c method_16_code 4 "MinestrataLaw" dC dI g A [(a0, .inr (12, [.ref a2, .ref a3, .ref a4, .ref a5, .ref a6, .ref a7, .ref a8, .ref a9, .null, .ref a10, .ref a11, .int (0), .int (100), .int (0), .int (0), .int (-1), .long (0), .int (1)])), (a2, .inr (8, [.int (0), .ref a12, .ref a13, .ref a14, .ref a15, .int (0), .ref a16, .ref a17, .ref a18, .ref a19, .ref a20, .ref a21, .ref a22]))] _ _ := ⟨⟨hx, hb, hml, hown, hts⟩, hE, hS, hA, hP, hD⟩
  refine n_callX (E0 := "java/lang/IndexOutOfBoundsException") hX (n_runVX (n := 1) (wc := [(a0, .inr (12, [.ref a2, .ref a3, .ref a4, .ref a5, .ref a6, .ref a7, .ref a8, .ref a9, .null, .ref a10, .ref a11, .int (0), .int (100), .int (0), .int (0), .int (-1), .long (0), .int (1)])), (a2, .inr (8, [.int (0), .ref a12, .ref a13, .ref a14, .ref a15, .int (0), .ref a16, .ref a17, .ref a18, .ref a19, .ref a20, .ref a21, .ref a22]))]) (As := [.int s1]) (rest := [.int (0), .ref a1]) hX (m302 l hst dC dI g a0 a2 a3 a4 a5 a6 a7 a8 a9 a10 a11 a12 a13 a14 a15 a16 a17 a18 a19 a20 a21 a22 s1 _) [0, 1] rfl (by decide +kernel) 0 (ci := 12) rfl (T := TX11) (N := 18) (C := "Minestrata") rfl q1175 q1176 q1177 q71 q1178 (by decide +kernel) ⟨(Nat.le_of_ble_eq_true rfl), (Nat.le_of_ble_eq_true rfl)⟩ ⟨(Nat.le_of_ble_eq_true rfl), (Nat.le_of_ble_eq_true rfl)⟩ hl.1 rfl rfl (Nat.le_of_ble_eq_true rfl) dL_isGood_4) [0, 1] rfl (fun ce q9 H locs hS hce hcv hcl => ?_)
  refine n_catch (E := "java/lang/IndexOutOfBoundsException") (name := "java/lang/IndexOutOfBoundsException") hE hts hown htab [] ⟨0, 16, 19, 21⟩ [] rfl (fun z hz => nomatch hz) (by decide +kernel) (by decide) q907 x950 hce hcv hcl ?_
  refine W.widen (k := 1) (n := 6) (Nat.le_of_ble_eq_true rfl) (Nat.le_of_ble_eq_true rfl) ?_
  refine W.eq (g2 := F0 m 19 ls [.ref q9]) rfl ?_
  refine lv_astore_n (lv' := [(3, .ref q9), (0, .ref a0), (1, .int s1), (2, .ref a1)]) hx hb dL_isGood_19 rfl hl (by decide) rfl (fun ls hl => ?_)
  refine lv_iconst (v := (1)) hx hb dL_isGood_20 (by decide +kernel) ?_
  refine W.widen (k := 1) (n := 6) (Nat.le_of_ble_eq_true rfl) (Nat.le_of_ble_eq_true rfl) ?_
  exact W.iret hx hb hr (n_end0 hS (fun _ => 0) rfl rfl) hS.2.2 dL_isGood_21 hlk

set_option maxHeartbeats 4000000 in
set_option maxRecDepth 100000 in
/-- MinestrataModel.isGood -/
theorem m304 (l : Launch) (hst : l.stackTraces = false) (dC : Nat → ClassId) (dI : Nat → Nat → Nat) (g : Nat → Nat) (a0 a1 a2 a3 a4 a5 a6 a7 a8 a9 a10 a11 a12 : Nat) (s1 : Int32) (sz : Nat) :
    Met l Y111 (Cond.code Y111 prog_14_method_19_code 2 (Option.some Jvm.ClassFile.FieldType.boolean) :: AW) ({ frames := 2, cells := 0, slots := 0, locals := 43 } : Room) (nP dC dI g [.ref a0, .int s1] [(a0, .inr (15, [.int (0), .int (0), .int (100), .int (0), .int (0), .ref a1, .ref a2, .ref a3, .ref a4, .ref a5, .ref a6, .ref a7, .ref a8, .ref a9, .ref a10, .ref a11, .null, .int (-1), .ref a12, .long (0)]))] sz) (nQ dC dI (fun f => some (.int (0))) (fun f r => [(a0, .inr (15, [.int (1), .int (0), .int (100), .int (0), .int (0), .ref a1, .ref a2, .ref a3, .ref a4, .ref a5, .ref a6, .ref a7, .ref a8, .ref a9, .ref a10, .ref a11, .null, .int (-1), .ref a12, .long (0)]))]) (va_A [(a0, .inr (15, [.int (0), .int (0), .int (100), .int (0), .int (0), .ref a1, .ref a2, .ref a3, .ref a4, .ref a5, .ref a6, .ref a7, .ref a8, .ref a9, .ref a10, .ref a11, .null, .int (-1), .ref a12, .long (0)]))] sz)) 0 0 (va_A [(a0, .inr (15, [.int (0), .int (0), .int (100), .int (0), .int (0), .ref a1, .ref a2, .ref a3, .ref a4, .ref a5, .ref a6, .ref a7, .ref a8, .ref a9, .ref a10, .ref a11, .null, .int (-1), .ref a12, .long (0)]))] sz) := by
  refine n_met (by decide +kernel) (Nat.le_of_ble_eq_true rfl) (fun f => some (.int (0))) (fun f r => [(a0, .inr (15, [.int (1), .int (0), .int (100), .int (0), .int (0), .ref a1, .ref a2, .ref a3, .ref a4, .ref a5, .ref a6, .ref a7, .ref a8, .ref a9, .ref a10, .ref a11, .null, .int (-1), .ref a12, .long (0)]))]) ?_
  intro p e s m below meth c A ls ⟨hx, hb, hr, hml, hown, hts, hlk, hnm⟩ hE hP hD hA hl
  have hown : s.vm.findClass "MinestrataModel" = some m.cls := hown
  have hK := hE.1
  have hS : va_S A s.heap s.heap [] := va_S.rf
  have hl : lv_has ls 2 [(0, .ref a0), (1, .int s1)] := hl
  refine lv_aload_n hx hb dX16_isGood_0 rfl (lv_at hl 0 rfl) ?_
  refine lv_aload_n hx hb dX16_isGood_1 rfl (lv_at hl 0 rfl) ?_
  refine lv_iload_n hx hb dX16_isGood_2 rfl (lv_at hl 1 rfl) ?_
  have hX : nCx p s m _ c prog_14_method_19_code 2 "MinestrataModel" dC dI g A [(a0, .inr (15, [.int (0), .int (0), .int (100), .int (0), .int (0), .ref a1, .ref a2, .ref a3, .ref a4, .ref a5, .ref a6, .ref a7, .ref a8, .ref a9, .ref a10, .ref a11, .null, .int (-1), .ref a12, .long (0)]))] _ _ := ⟨⟨hx, hb, hml, hown, hts⟩, hE, hS, hA, hP, hD⟩
  refine n_call (wr := []) hX (n_runV (n := 1) (wc := [(a0, .inr (15, [.int (0), .int (0), .int (100), .int (0), .int (0), .ref a1, .ref a2, .ref a3, .ref a4, .ref a5, .ref a6, .ref a7, .ref a8, .ref a9, .ref a10, .ref a11, .null, .int (-1), .ref a12, .long (0)]))]) (As := [.int s1]) (rest := [.ref a0]) hX (m49 l hst dC dI g a0 a1 a2 a3 a4 a5 a6 a7 a8 a9 a10 a11 a12 s1 _) [0] rfl (by decide +kernel) 0 (ci := 15) rfl (T := TX16) (N := 20) (C := "MinestrataModel") rfl q1518 q1520 q41 q82 q1521 (by decide +kernel) ⟨(Nat.le_of_ble_eq_true rfl), (Nat.le_of_ble_eq_true rfl)⟩ ⟨(Nat.le_of_ble_eq_true rfl), (Nat.le_of_ble_eq_true rfl)⟩ hl.1 rfl rfl (Nat.le_of_ble_eq_true rfl) dX16_isGood_3) [0] [] rfl rfl (by decide +kernel) (by decide +kernel) (fun f1 r2 H locs hP hD hS => ?_)
  have hP : va_P (dC, dI) CL [(a0, .inr (15, [.int (0), .int (0), .int (100), .int (0), .int (0), .ref a1, .ref a2, .ref a3, .ref a4, .ref a5, .ref a6, .ref a7, .ref a8, .ref a9, .ref a10, .ref a11, .null, .int (-1), .ref a12, .long (0)]))] _ := hP
  have hD : va_D A [(a0, .inr (15, [.int (0), .int (0), .int (100), .int (0), .int (0), .ref a1, .ref a2, .ref a3, .ref a4, .ref a5, .ref a6, .ref a7, .ref a8, .ref a9, .ref a10, .ref a11, .null, .int (-1), .ref a12, .long (0)]))] := hD
  refine W.widen (k := 0) (n := 0) (Nat.le_of_ble_eq_true rfl) (Nat.le_of_ble_eq_true rfl) ?_
  refine W.eq (g2 := F0 m 6 ls [.int (0), .ref a0]) rfl ?_
  refine lv_if_eq (tgt := 13) hx hb dX16_isGood_6 (by decide +kernel) (fun _ => ?_) (fun h => absurd (by decide +kernel) h)
  refine lv_iconst (v := (1)) hx hb dX16_isGood_13 (by decide +kernel) ?_
  refine va_put (D := (dC, dI)) (ci := 15) (v := .int (1)) (ty := .int) (C := "MinestrataModel") (T := TX16) (N := 20) hx hb hts inX16 tyX16 tyX16_ok nmX16 hown hK hP hD hS 0 rfl rfl 0 (by decide) (hts _ q1427) (fun _ h9 => h9) rfl (by decide +kernel) rfl rfl (Nat.le_of_ble_eq_true rfl) dX16_isGood_14 (fun H locs hP hD hS => ?_)
  have hP : va_P (dC, dI) CL [(a0, .inr (15, [.int (1), .int (0), .int (100), .int (0), .int (0), .ref a1, .ref a2, .ref a3, .ref a4, .ref a5, .ref a6, .ref a7, .ref a8, .ref a9, .ref a10, .ref a11, .null, .int (-1), .ref a12, .long (0)]))] _ := hP
  have hD : va_D A [(a0, .inr (15, [.int (1), .int (0), .int (100), .int (0), .int (0), .ref a1, .ref a2, .ref a3, .ref a4, .ref a5, .ref a6, .ref a7, .ref a8, .ref a9, .ref a10, .ref a11, .null, .int (-1), .ref a12, .long (0)]))] := hD
  refine lv_aload_n hx hb dX16_isGood_17 rfl (lv_at hl 0 rfl) ?_
  refine va_get (D := (dC, dI)) (ci := 15) (v := .int (1)) (C := "MinestrataModel") (T := TX16) (N := 20) hx hb hts inX16 hown hK hP 0 rfl rfl 0 (by decide) (hts _ q1427) (fun _ h9 => h9) rfl dX16_isGood_18 ?_
  refine lv_if_ne (tgt := 39) hx hb dX16_isGood_21 (by decide +kernel) (fun _ => ?_) (fun h => absurd h (by decide +kernel))
  refine lv_iconst (v := (0)) hx hb dX16_isGood_39 (by decide +kernel) ?_
  refine W.widen (k := 0) (n := 0) (Nat.le_of_ble_eq_true rfl) (Nat.le_of_ble_eq_true rfl) ?_
  exact W.zret hx hb hr (by decide +kernel) (n_end hS hP hD [0] (by decide +kernel) (fun _ => 0) (fun _ => 0) rfl rfl rfl) hS.2.2 dX16_isGood_40 hlk

set_option maxHeartbeats 4000000 in
set_option maxRecDepth 100000 in
/-- Minestrata.reading -/
theorem m305 (l : Launch) (hst : l.stackTraces = false) (dC : Nat → ClassId) (dI : Nat → Nat → Nat) (g : Nat → Nat) (a0 a1 a2 a3 a4 a5 a6 a7 a8 a9 a10 a11 a12 a13 a14 a15 a16 a17 a18 a19 a20 a21 : Nat) (s1 : Int32) (sz : Nat) :
    vx_Met l Y113 (Cond.code Y113 prog_1_method_17_code 2 (Option.some Jvm.ClassFile.FieldType.int) :: AW) ({ frames := 6, cells := 1, slots := 6, locals := 81 } : Room) (nP dC dI g [.ref a0, .int s1] [(a0, .inr (12, [.ref a1, .ref a2, .ref a3, .ref a4, .ref a5, .ref a6, .ref a7, .ref a8, .null, .ref a9, .ref a10, .int (0), .int (100), .int (0), .int (0), .int (-1), .long (0), .int (1)])), (a1, .inr (8, [.int (0), .ref a11, .ref a12, .ref a13, .ref a14, .int (0), .ref a15, .ref a16, .ref a17, .ref a18, .ref a19, .ref a20, .ref a21]))] sz) (fun _ _ _ _ => False) (nX "java/lang/IndexOutOfBoundsException" (va_A [(a0, .inr (12, [.ref a1, .ref a2, .ref a3, .ref a4, .ref a5, .ref a6, .ref a7, .ref a8, .null, .ref a9, .ref a10, .int (0), .int (100), .int (0), .int (0), .int (-1), .long (0), .int (1)])), (a1, .inr (8, [.int (0), .ref a11, .ref a12, .ref a13, .ref a14, .int (0), .ref a15, .ref a16, .ref a17, .ref a18, .ref a19, .ref a20, .ref a21]))] sz)) 1 6 (va_A [(a0, .inr (12, [.ref a1, .ref a2, .ref a3, .ref a4, .ref a5, .ref a6, .ref a7, .ref a8, .null, .ref a9, .ref a10, .int (0), .int (100), .int (0), .int (0), .int (-1), .long (0), .int (1)])), (a1, .inr (8, [.int (0), .ref a11, .ref a12, .ref a13, .ref a14, .int (0), .ref a15, .ref a16, .ref a17, .ref a18, .ref a19, .ref a20, .ref a21]))] sz) := by
  refine n_metX (by decide +kernel) (Nat.le_of_ble_eq_true rfl) "java/lang/IndexOutOfBoundsException" ?_
  intro p e s m below meth c A ls ⟨hx, hb, hr, hml, hown, hts, hlk, hnm⟩ hout hE hP hD hA hl
  have hown : s.vm.findClass "Minestrata" = some m.cls := hown
  have hK := hE.1
  have hS : va_S A s.heap s.heap [] := va_S.rf
  have hl : lv_has ls 2 [(0, .ref a0), (1, .int s1)] := hl
  have hlsz : ls.size = c.maxLocals := hl.1.trans hml.symm
  refine lv_aload_n hx hb dX11_reading_0 rfl (lv_at hl 0 rfl) ?_
  refine va_get (D := (dC, dI)) (ci := 12) (v := .ref a1) (C := "Minestrata") (T := TX11) (N := 18) hx hb hts inX11 hown hK hP 0 rfl rfl 0 (by decide) (hts _ q504) (fun _ h9 => h9) rfl dX11_reading_1 ?_
  refine lv_iload_n hx hb dX11_reading_4 rfl (lv_at hl 1 rfl) ?_
  have hX : nCx p s m _ c prog_1_method_17_code 2 "Minestrata" dC dI g A [(a0, .inr (12, [.ref a1, .ref a2, .ref a3, .ref a4, .ref a5, .ref a6, .ref a7, .ref a8, .null, .ref a9, .ref a10, .int (0), .int (100), .int (0), .int (0), .int (-1), .long (0), .int (1)])), (a1, .inr (8, [.int (0), .ref a11, .ref a12, .ref a13, .ref a14, .int (0), .ref a15, .ref a16, .ref a17, .ref a18, .ref a19, .ref a20, .ref a21]))] _ _ := ⟨⟨hx, hb, hml, hown, hts⟩, hE, hS, hA, hP, hD⟩
  refine n_call (wr := [(a0, .inr (12, [.ref a1, .ref a2, .ref a3, .ref a4, .ref a5, .ref a6, .ref a7, .ref a8, .null, .ref a9, .ref a10, .int (0), .int (100), .int (0), .int (0), .int (-1), .long (0), .int (1)]))]) hX (n_runV (n := 1) (wc := [(a1, .inr (8, [.int (0), .ref a11, .ref a12, .ref a13, .ref a14, .int (0), .ref a15, .ref a16, .ref a17, .ref a18, .ref a19, .ref a20, .ref a21]))]) (As := [.int s1]) (rest := []) hX (m45 l hst dC dI g a1 a11 a12 a13 a14 a15 a16 a17 a18 a19 a20 a21 s1 _) [1] rfl (by decide +kernel) 1 (ci := 8) rfl (T := TX7) (N := 13) (C := "Minestrata$Net") rfl q944 q945 q946 q72 q947 (by decide +kernel) ⟨(Nat.le_of_ble_eq_true rfl), (Nat.le_of_ble_eq_true rfl)⟩ ⟨(Nat.le_of_ble_eq_true rfl), (Nat.le_of_ble_eq_true rfl)⟩ hl.1 rfl rfl (Nat.le_of_ble_eq_true rfl) dX11_reading_5) [1] [0] rfl rfl (by decide +kernel) (by decide +kernel) (fun f1 r2 H locs hP hD hS => ?_)
  have hP : va_P (dC, dI) CL [(a0, .inr (12, [.ref a1, .ref a2, .ref a3, .ref a4, .ref a5, .ref a6, .ref a7, .ref a8, .null, .ref a9, .ref a10, .int (0), .int (100), .int (0), .int (0), .int (-1), .long (0), .int (1)])), (a1, .inr (8, [.int (0), .ref a11, .ref a12, .ref a13, .ref a14, .int (0), .ref a15, .ref a16, .ref a17, .ref a18, .ref a19, .ref a20, .ref a21]))] _ := hP
  have hD : va_D A [(a0, .inr (12, [.ref a1, .ref a2, .ref a3, .ref a4, .ref a5, .ref a6, .ref a7, .ref a8, .null, .ref a9, .ref a10, .int (0), .int (100), .int (0), .int (0), .int (-1), .long (0), .int (1)])), (a1, .inr (8, [.int (0), .ref a11, .ref a12, .ref a13, .ref a14, .int (0), .ref a15, .ref a16, .ref a17, .ref a18, .ref a19, .ref a20, .ref a21]))] := hD
  refine W.widen (k := 0) (n := 0) (Nat.le_of_ble_eq_true rfl) (Nat.le_of_ble_eq_true rfl) ?_
  refine W.eq (g2 := F0 m 8 ls [.int (0)]) rfl ?_
  refine lv_if_ne (tgt := 19) hx hb dX11_reading_8 (by decide +kernel) (fun h => absurd (by decide +kernel) h) (fun _ => ?_)
  exact n_throw hx hb hst hown hts hE hS (names := ["java/lang/RuntimeException", "java/lang/Exception"]) (by decide +kernel) (by decide +kernel) q948 q91 hat1p hat1a hat1 hat1g (hl.1.trans hml.symm) dX11_reading_11 dX11_reading_14 dX11_reading_15 dX11_reading_18 hout (Nat.le_of_ble_eq_true rfl) (Nat.le_of_ble_eq_true rfl) (Nat.le_of_ble_eq_true rfl) (Nat.le_of_ble_eq_true rfl) hlk (Nat.le_of_ble_eq_true rfl) (Nat.le_of_ble_eq_true rfl)

set_option maxHeartbeats 4000000 in
set_option maxRecDepth 100000 in
/-- MinestrataLaw.reading -/
theorem m306 (l : Launch) (hst : l.stackTraces = false) (dC : Nat → ClassId) (dI : Nat → Nat → Nat) (g : Nat → Nat) (a0 a1 a2 a3 a4 a5 a6 a7 a8 a9 a10 a11 a12 a13 a14 a15 a16 a17 a18 a19 a20 a21 a22 : Nat) (s1 : Int32) (sz : Nat) :
    Met l Y112 (Cond.codeWith Y112 method_17_code 4 (Option.some Jvm.ClassFile.FieldType.int) [((0 : Nat), (9 : Nat), (12 : Nat), (21 : Nat)), ((0 : Nat), (9 : Nat), (15 : Nat), (41 : Nat))] :: AW) ({ frames := 7, cells := 1, slots := 6, locals := 102 } : Room) (nP dC dI g [.ref a0, .int s1, .ref a1] [(a0, .inr (12, [.ref a2, .ref a3, .ref a4, .ref a5, .ref a6, .ref a7, .ref a8, .ref a9, .null, .ref a10, .ref a11, .int (0), .int (100), .int (0), .int (0), .int (-1), .long (0), .int (1)])), (a2, .inr (8, [.int (0), .ref a12, .ref a13, .ref a14, .ref a15, .int (0), .ref a16, .ref a17, .ref a18, .ref a19, .ref a20, .ref a21, .ref a22]))] sz) (nQ dC dI (fun f => some (.int (1))) (fun f r => []) (va_A [(a0, .inr (12, [.ref a2, .ref a3, .ref a4, .ref a5, .ref a6, .ref a7, .ref a8, .ref a9, .null, .ref a10, .ref a11, .int (0), .int (100), .int (0), .int (0), .int (-1), .long (0), .int (1)])), (a2, .inr (8, [.int (0), .ref a12, .ref a13, .ref a14, .ref a15, .int (0), .ref a16, .ref a17, .ref a18, .ref a19, .ref a20, .ref a21, .ref a22]))] sz)) 1 6 (va_A [(a0, .inr (12, [.ref a2, .ref a3, .ref a4, .ref a5, .ref a6, .ref a7, .ref a8, .ref a9, .null, .ref a10, .ref a11, .int (0), .int (100), .int (0), .int (0), .int (-1), .long (0), .int (1)])), (a2, .inr (8, [.int (0), .ref a12, .ref a13, .ref a14, .ref a15, .int (0), .ref a16, .ref a17, .ref a18, .ref a19, .ref a20, .ref a21, .ref a22]))] sz) := by
  refine n_metW (by decide +kernel) q1181 (Nat.le_of_ble_eq_true rfl) (fun f => some (.int (1))) (fun f r => []) ?_
  intro p e s m below meth c A ls ⟨hx, hb, hr, hml, hown, hts, hlk, hnm⟩ htab hE hP hD hA hl
  have hown : s.vm.findClass "MinestrataLaw" = some m.cls := hown
  have hK := hE.1
  have hS : va_S A s.heap s.heap [] := va_S.rf
  have hl : lv_has ls 4 [(0, .ref a0), (1, .int s1), (2, .ref a1)] := hl
  refine lv_aload_n hx hb dL_reading_0 rfl (lv_at hl 2 rfl) ?_
  refine lv_iconst (v := (0)) hx hb dL_reading_1 (by decide +kernel) ?_
  refine lv_aload_n hx hb dL_reading_2 rfl (lv_at hl 0 rfl) ?_
  refine lv_iload_n hx hb dL_reading_3 rfl (lv_at hl 1 rfl) ?_
  have hX : nCx p s m _ c method_17_code 4 "MinestrataLaw" dC dI g A [(a0, .inr (12, [.ref a2, .ref a3, .ref a4, .ref a5, .ref a6, .ref a7, .ref a8, .ref a9, .null, .ref a10, .ref a11, .int (0), .int (100), .int (0), .int (0), .int (-1), .long (0), .int (1)])), (a2, .inr (8, [.int (0), .ref a12, .ref a13, .ref a14, .ref a15, .int (0), .ref a16, .ref a17, .ref a18, .ref a19, .ref a20, .ref a21, .ref a22]))] _ _ := ⟨⟨hx, hb, hml, hown, hts⟩, hE, hS, hA, hP, hD⟩
  refine n_callX (E0 := "java/lang/IndexOutOfBoundsException") hX (n_runVX (n := 1) (wc := [(a0, .inr (12, [.ref a2, .ref a3, .ref a4, .ref a5, .ref a6, .ref a7, .ref a8, .ref a9, .null, .ref a10, .ref a11, .int (0), .int (100), .int (0), .int (0), .int (-1), .long (0), .int (1)])), (a2, .inr (8, [.int (0), .ref a12, .ref a13, .ref a14, .ref a15, .int (0), .ref a16, .ref a17, .ref a18, .ref a19, .ref a20, .ref a21, .ref a22]))]) (As := [.int s1]) (rest := [.int (0), .ref a1]) hX (m305 l hst dC dI g a0 a2 a3 a4 a5 a6 a7 a8 a9 a10 a11 a12 a13 a14 a15 a16 a17 a18 a19 a20 a21 a22 s1 _) [0, 1] rfl (by decide +kernel) 0 (ci := 12) rfl (T := TX11) (N := 18) (C := "Minestrata") rfl q1182 q1183 q1184 q71 q1185 (by decide +kernel) ⟨(Nat.le_of_ble_eq_true rfl), (Nat.le_of_ble_eq_true rfl)⟩ ⟨(Nat.le_of_ble_eq_true rfl), (Nat.le_of_ble_eq_true rfl)⟩ hl.1 rfl rfl (Nat.le_of_ble_eq_true rfl) dL_reading_4) [0, 1] rfl (fun ce q9 H locs hS hce hcv hcl => ?_)
  refine n_catch (E := "java/lang/IndexOutOfBoundsException") (name := "java/lang/IndexOutOfBoundsException") hE hts hown htab [] ⟨0, 9, 12, 21⟩ [⟨0, 9, 15, 41⟩] rfl (fun z hz => nomatch hz) (by decide +kernel) (by decide) q907 x950 hce hcv hcl ?_
  refine W.widen (k := 1) (n := 6) (Nat.le_of_ble_eq_true rfl) (Nat.le_of_ble_eq_true rfl) ?_
  refine W.eq (g2 := F0 m 12 ls [.ref q9]) rfl ?_
  refine lv_astore_n (lv' := [(3, .ref q9), (0, .ref a0), (1, .int s1), (2, .ref a1)]) hx hb dL_reading_12 rfl hl (by decide) rfl (fun ls hl => ?_)
  refine lv_iconst (v := (1)) hx hb dL_reading_13 (by decide +kernel) ?_
  refine W.widen (k := 1) (n := 6) (Nat.le_of_ble_eq_true rfl) (Nat.le_of_ble_eq_true rfl) ?_
  exact W.iret hx hb hr (n_end0 hS (fun _ => 0) rfl rfl) hS.2.2 dL_reading_14 hlk

set_option maxHeartbeats 4000000 in
set_option maxRecDepth 100000 in
/-- MinestrataModel.reading -/
theorem m307 (l : Launch) (hst : l.stackTraces = false) (dC : Nat → ClassId) (dI : Nat → Nat → Nat) (g : Nat → Nat) (a0 a1 a2 a3 a4 a5 a6 a7 a8 a9 a10 a11 a12 : Nat) (s1 : Int32) (sz : Nat) :
    Met l Y114 (Cond.code Y114 prog_14_method_23_code 2 (Option.some Jvm.ClassFile.FieldType.int) :: AW) ({ frames := 2, cells := 0, slots := 0, locals := 43 } : Room) (nP dC dI g [.ref a0, .int s1] [(a0, .inr (15, [.int (0), .int (0), .int (100), .int (0), .int (0), .ref a1, .ref a2, .ref a3, .ref a4, .ref a5, .ref a6, .ref a7, .ref a8, .ref a9, .ref a10, .ref a11, .null, .int (-1), .ref a12, .long (0)]))] sz) (nQ dC dI (fun f => some (.int (0))) (fun f r => [(a0, .inr (15, [.int (1), .int (0), .int (100), .int (0), .int (0), .ref a1, .ref a2, .ref a3, .ref a4, .ref a5, .ref a6, .ref a7, .ref a8, .ref a9, .ref a10, .ref a11, .null, .int (-1), .ref a12, .long (0)]))]) (va_A [(a0, .inr (15, [.int (0), .int (0), .int (100), .int (0), .int (0), .ref a1, .ref a2, .ref a3, .ref a4, .ref a5, .ref a6, .ref a7, .ref a8, .ref a9, .ref a10, .ref a11, .null, .int (-1), .ref a12, .long (0)]))] sz)) 0 0 (va_A [(a0, .inr (15, [.int (0), .int (0), .int (100), .int (0), .int (0), .ref a1, .ref a2, .ref a3, .ref a4, .ref a5, .ref a6, .ref a7, .ref a8, .ref a9, .ref a10, .ref a11, .null, .int (-1), .ref a12, .long (0)]))] sz) := by
  refine n_met (by decide +kernel) (Nat.le_of_ble_eq_true rfl) (fun f => some (.int (0))) (fun f r => [(a0, .inr (15, [.int (1), .int (0), .int (100), .int (0), .int (0), .ref a1, .ref a2, .ref a3, .ref a4, .ref a5, .ref a6, .ref a7, .ref a8, .ref a9, .ref a10, .ref a11, .null, .int (-1), .ref a12, .long (0)]))]) ?_
  intro p e s m below meth c A ls ⟨hx, hb, hr, hml, hown, hts, hlk, hnm⟩ hE hP hD hA hl
  have hown : s.vm.findClass "MinestrataModel" = some m.cls := hown
  have hK := hE.1
  have hS : va_S A s.heap s.heap [] := va_S.rf
  have hl : lv_has ls 2 [(0, .ref a0), (1, .int s1)] := hl
  refine lv_aload_n hx hb dX16_reading_0 rfl (lv_at hl 0 rfl) ?_
  refine lv_iload_n hx hb dX16_reading_1 rfl (lv_at hl 1 rfl) ?_
  have hX : nCx p s m _ c prog_14_method_23_code 2 "MinestrataModel" dC dI g A [(a0, .inr (15, [.int (0), .int (0), .int (100), .int (0), .int (0), .ref a1, .ref a2, .ref a3, .ref a4, .ref a5, .ref a6, .ref a7, .ref a8, .ref a9, .ref a10, .ref a11, .null, .int (-1), .ref a12, .long (0)]))] _ _ := ⟨⟨hx, hb, hml, hown, hts⟩, hE, hS, hA, hP, hD⟩
  refine n_call (wr := []) hX (n_runV (n := 1) (wc := [(a0, .inr (15, [.int (0), .int (0), .int (100), .int (0), .int (0), .ref a1, .ref a2, .ref a3, .ref a4, .ref a5, .ref a6, .ref a7, .ref a8, .ref a9, .ref a10, .ref a11, .null, .int (-1), .ref a12, .long (0)]))]) (As := [.int s1]) (rest := []) hX (m49 l hst dC dI g a0 a1 a2 a3 a4 a5 a6 a7 a8 a9 a10 a11 a12 s1 _) [0] rfl (by decide +kernel) 0 (ci := 15) rfl (T := TX16) (N := 20) (C := "MinestrataModel") rfl q1518 q1520 q41 q82 q1521 (by decide +kernel) ⟨(Nat.le_of_ble_eq_true rfl), (Nat.le_of_ble_eq_true rfl)⟩ ⟨(Nat.le_of_ble_eq_true rfl), (Nat.le_of_ble_eq_true rfl)⟩ hl.1 rfl rfl (Nat.le_of_ble_eq_true rfl) dX16_reading_2) [0] [] rfl rfl (by decide +kernel) (by decide +kernel) (fun f1 r2 H locs hP hD hS => ?_)
  have hP : va_P (dC, dI) CL [(a0, .inr (15, [.int (0), .int (0), .int (100), .int (0), .int (0), .ref a1, .ref a2, .ref a3, .ref a4, .ref a5, .ref a6, .ref a7, .ref a8, .ref a9, .ref a10, .ref a11, .null, .int (-1), .ref a12, .long (0)]))] _ := hP
  have hD : va_D A [(a0, .inr (15, [.int (0), .int (0), .int (100), .int (0), .int (0), .ref a1, .ref a2, .ref a3, .ref a4, .ref a5, .ref a6, .ref a7, .ref a8, .ref a9, .ref a10, .ref a11, .null, .int (-1), .ref a12, .long (0)]))] := hD
  refine W.widen (k := 0) (n := 0) (Nat.le_of_ble_eq_true rfl) (Nat.le_of_ble_eq_true rfl) ?_
  refine W.eq (g2 := F0 m 5 ls [.int (0)]) rfl ?_
  refine lv_if_ne (tgt := 16) hx hb dX16_reading_5 (by decide +kernel) (fun h => absurd (by decide +kernel) h) (fun _ => ?_)
  refine lv_aload_n hx hb dX16_reading_8 rfl (lv_at hl 0 rfl) ?_
  refine lv_iconst (v := (1)) hx hb dX16_reading_9 (by decide +kernel) ?_
  have hX : nCx p s m _ c prog_14_method_23_code 2 "MinestrataModel" dC dI g A [(a0, .inr (15, [.int (0), .int (0), .int (100), .int (0), .int (0), .ref a1, .ref a2, .ref a3, .ref a4, .ref a5, .ref a6, .ref a7, .ref a8, .ref a9, .ref a10, .ref a11, .null, .int (-1), .ref a12, .long (0)]))] _ _ := ⟨⟨hx, hb, hml, hown, hts⟩, hE, hS, hA, hP, hD⟩
  refine n_call (wr := []) hX (n_runV (n := 1) (wc := [(a0, .inr (15, [.int (0), .int (0), .int (100), .int (0), .int (0), .ref a1, .ref a2, .ref a3, .ref a4, .ref a5, .ref a6, .ref a7, .ref a8, .ref a9, .ref a10, .ref a11, .null, .int (-1), .ref a12, .long (0)]))]) (As := [.int (1)]) (rest := []) hX (m31 l hst dC dI g a0 a1 a2 a3 a4 a5 a6 a7 a8 a9 a10 a11 a12 _) [0] rfl (by decide +kernel) 0 (ci := 15) rfl (T := TX16) (N := 20) (C := "MinestrataModel") rfl q1506 q1508 q39 q82 q1509 (by decide +kernel) ⟨(Nat.le_of_ble_eq_true rfl), (Nat.le_of_ble_eq_true rfl)⟩ ⟨(Nat.le_of_ble_eq_true rfl), (Nat.le_of_ble_eq_true rfl)⟩ hl.1 rfl rfl (Nat.le_of_ble_eq_true rfl) dX16_reading_10) [0] [] rfl rfl (by decide +kernel) (by decide +kernel) (fun f3 r4 H locs hP hD hS => ?_)
  have hP : va_P (dC, dI) CL [(a0, .inr (15, [.int (1), .int (0), .int (100), .int (0), .int (0), .ref a1, .ref a2, .ref a3, .ref a4, .ref a5, .ref a6, .ref a7, .ref a8, .ref a9, .ref a10, .ref a11, .null, .int (-1), .ref a12, .long (0)]))] _ := hP
  have hD : va_D A [(a0, .inr (15, [.int (1), .int (0), .int (100), .int (0), .int (0), .ref a1, .ref a2, .ref a3, .ref a4, .ref a5, .ref a6, .ref a7, .ref a8, .ref a9, .ref a10, .ref a11, .null, .int (-1), .ref a12, .long (0)]))] := hD
  refine W.widen (k := 0) (n := 0) (Nat.le_of_ble_eq_true rfl) (Nat.le_of_ble_eq_true rfl) ?_
  refine W.eq (g2 := F0 m 13 ls [.int (0)]) rfl ?_
  refine lv_goto (tgt := 42) hx hb dX16_reading_13 (by decide +kernel) ?_
  refine W.widen (k := 0) (n := 0) (Nat.le_of_ble_eq_true rfl) (Nat.le_of_ble_eq_true rfl) ?_
  exact W.iret hx hb hr (n_end hS hP hD [0] (by decide +kernel) (fun _ => 0) (fun _ => 0) rfl rfl rfl) hS.2.2 dX16_reading_42 hlk

set_option maxHeartbeats 4000000 in
set_option maxRecDepth 100000 in
/-- Minestrata.hasPower -/
theorem m308 (l : Launch) (hst : l.stackTraces = false) (dC : Nat → ClassId) (dI : Nat → Nat → Nat) (g : Nat → Nat) (a0 a1 a2 a3 a4 a5 a6 a7 a8 a9 a10 a11 a12 a13 a14 a15 a16 a17 a18 a19 a20 a21 : Nat) (s1 : Int32) (sz : Nat) :
    vx_Met l Y116 (Cond.code Y116 prog_1_method_18_code 2 (Option.some Jvm.ClassFile.FieldType.boolean) :: AW) ({ frames := 6, cells := 1, slots := 6, locals := 81 } : Room) (nP dC dI g [.ref a0, .int s1] [(a0, .inr (12, [.ref a1, .ref a2, .ref a3, .ref a4, .ref a5, .ref a6, .ref a7, .ref a8, .null, .ref a9, .ref a10, .int (0), .int (100), .int (0), .int (0), .int (-1), .long (0), .int (1)])), (a1, .inr (8, [.int (0), .ref a11, .ref a12, .ref a13, .ref a14, .int (0), .ref a15, .ref a16, .ref a17, .ref a18, .ref a19, .ref a20, .ref a21]))] sz) (fun _ _ _ _ => False) (nX "java/lang/IndexOutOfBoundsException" (va_A [(a0, .inr (12, [.ref a1, .ref a2, .ref a3, .ref a4, .ref a5, .ref a6, .ref a7, .ref a8, .null, .ref a9, .ref a10, .int (0), .int (100), .int (0), .int (0), .int (-1), .long (0), .int (1)])), (a1, .inr (8, [.int (0), .ref a11, .ref a12, .ref a13, .ref a14, .int (0), .ref a15, .ref a16, .ref a17, .ref a18, .ref a19, .ref a20, .ref a21]))] sz)) 1 6 (va_A [(a0, .inr (12, [.ref a1, .ref a2, .ref a3, .ref a4, .ref a5, .ref a6, .ref a7, .ref a8, .null, .ref a9, .ref a10, .int (0), .int (100), .int (0), .int (0), .int (-1), .long (0), .int (1)])), (a1, .inr (8, [.int (0), .ref a11, .ref a12, .ref a13, .ref a14, .int (0), .ref a15, .ref a16, .ref a17, .ref a18, .ref a19, .ref a20, .ref a21]))] sz) := by
  refine n_metX (by decide +kernel) (Nat.le_of_ble_eq_true rfl) "java/lang/IndexOutOfBoundsException" ?_
  intro p e s m below meth c A ls ⟨hx, hb, hr, hml, hown, hts, hlk, hnm⟩ hout hE hP hD hA hl
  have hown : s.vm.findClass "Minestrata" = some m.cls := hown
  have hK := hE.1
  have hS : va_S A s.heap s.heap [] := va_S.rf
  have hl : lv_has ls 2 [(0, .ref a0), (1, .int s1)] := hl
  have hlsz : ls.size = c.maxLocals := hl.1.trans hml.symm
  refine lv_aload_n hx hb dX11_hasPower_0 rfl (lv_at hl 0 rfl) ?_
  refine va_get (D := (dC, dI)) (ci := 12) (v := .ref a1) (C := "Minestrata") (T := TX11) (N := 18) hx hb hts inX11 hown hK hP 0 rfl rfl 0 (by decide) (hts _ q504) (fun _ h9 => h9) rfl dX11_hasPower_1 ?_
  refine lv_iload_n hx hb dX11_hasPower_4 rfl (lv_at hl 1 rfl) ?_
  have hX : nCx p s m _ c prog_1_method_18_code 2 "Minestrata" dC dI g A [(a0, .inr (12, [.ref a1, .ref a2, .ref a3, .ref a4, .ref a5, .ref a6, .ref a7, .ref a8, .null, .ref a9, .ref a10, .int (0), .int (100), .int (0), .int (0), .int (-1), .long (0), .int (1)])), (a1, .inr (8, [.int (0), .ref a11, .ref a12, .ref a13, .ref a14, .int (0), .ref a15, .ref a16, .ref a17, .ref a18, .ref a19, .ref a20, .ref a21]))] _ _ := ⟨⟨hx, hb, hml, hown, hts⟩, hE, hS, hA, hP, hD⟩
  refine n_call (wr := [(a0, .inr (12, [.ref a1, .ref a2, .ref a3, .ref a4, .ref a5, .ref a6, .ref a7, .ref a8, .null, .ref a9, .ref a10, .int (0), .int (100), .int (0), .int (0), .int (-1), .long (0), .int (1)]))]) hX (n_runV (n := 1) (wc := [(a1, .inr (8, [.int (0), .ref a11, .ref a12, .ref a13, .ref a14, .int (0), .ref a15, .ref a16, .ref a17, .ref a18, .ref a19, .ref a20, .ref a21]))]) (As := [.int s1]) (rest := []) hX (m45 l hst dC dI g a1 a11 a12 a13 a14 a15 a16 a17 a18 a19 a20 a21 s1 _) [1] rfl (by decide +kernel) 1 (ci := 8) rfl (T := TX7) (N := 13) (C := "Minestrata$Net") rfl q944 q945 q946 q72 q947 (by decide +kernel) ⟨(Nat.le_of_ble_eq_true rfl), (Nat.le_of_ble_eq_true rfl)⟩ ⟨(Nat.le_of_ble_eq_true rfl), (Nat.le_of_ble_eq_true rfl)⟩ hl.1 rfl rfl (Nat.le_of_ble_eq_true rfl) dX11_hasPower_5) [1] [0] rfl rfl (by decide +kernel) (by decide +kernel) (fun f1 r2 H locs hP hD hS => ?_)
  have hP : va_P (dC, dI) CL [(a0, .inr (12, [.ref a1, .ref a2, .ref a3, .ref a4, .ref a5, .ref a6, .ref a7, .ref a8, .null, .ref a9, .ref a10, .int (0), .int (100), .int (0), .int (0), .int (-1), .long (0), .int (1)])), (a1, .inr (8, [.int (0), .ref a11, .ref a12, .ref a13, .ref a14, .int (0), .ref a15, .ref a16, .ref a17, .ref a18, .ref a19, .ref a20, .ref a21]))] _ := hP
  have hD : va_D A [(a0, .inr (12, [.ref a1, .ref a2, .ref a3, .ref a4, .ref a5, .ref a6, .ref a7, .ref a8, .null, .ref a9, .ref a10, .int (0), .int (100), .int (0), .int (0), .int (-1), .long (0), .int (1)])), (a1, .inr (8, [.int (0), .ref a11, .ref a12, .ref a13, .ref a14, .int (0), .ref a15, .ref a16, .ref a17, .ref a18, .ref a19, .ref a20, .ref a21]))] := hD
  refine W.widen (k := 0) (n := 0) (Nat.le_of_ble_eq_true rfl) (Nat.le_of_ble_eq_true rfl) ?_
  refine W.eq (g2 := F0 m 8 ls [.int (0)]) rfl ?_
  refine lv_if_ne (tgt := 19) hx hb dX11_hasPower_8 (by decide +kernel) (fun h => absurd (by decide +kernel) h) (fun _ => ?_)
  exact n_throw hx hb hst hown hts hE hS (names := ["java/lang/RuntimeException", "java/lang/Exception"]) (by decide +kernel) (by decide +kernel) q948 q91 hat1p hat1a hat1 hat1g (hl.1.trans hml.symm) dX11_hasPower_11 dX11_hasPower_14 dX11_hasPower_15 dX11_hasPower_18 hout (Nat.le_of_ble_eq_true rfl) (Nat.le_of_ble_eq_true rfl) (Nat.le_of_ble_eq_true rfl) (Nat.le_of_ble_eq_true rfl) hlk (Nat.le_of_ble_eq_true rfl) (Nat.le_of_ble_eq_true rfl)

set_option maxHeartbeats 4000000 in
set_option maxRecDepth 100000 in
/-- MinestrataLaw.hasPower -/
theorem m309 (l : Launch) (hst : l.stackTraces = false) (dC : Nat → ClassId) (dI : Nat → Nat → Nat) (g : Nat → Nat) (a0 a1 a2 a3 a4 a5 a6 a7 a8 a9 a10 a11 a12 a13 a14 a15 a16 a17 a18 a19 a20 a21 a22 : Nat) (s1 : Int32) (sz : Nat) :
    Met l Y115 (Cond.codeWith Y115 method_18_code 4 (Option.some Jvm.ClassFile.FieldType.int) [((0 : Nat), (16 : Nat), (19 : Nat), (21 : Nat))] :: AW) ({ frames := 7, cells := 1, slots := 6, locals := 102 } : Room) (nP dC dI g [.ref a0, .int s1, .ref a1] [(a0, .inr (12, [.ref a2, .ref a3, .ref a4, .ref a5, .ref a6, .ref a7, .ref a8, .ref a9, .null, .ref a10, .ref a11, .int (0), .int (100), .int (0), .int (0), .int (-1), .long (0), .int (1)])), (a2, .inr (8, [.int (0), .ref a12, .ref a13, .ref a14, .ref a15, .int (0), .ref a16, .ref a17, .ref a18, .ref a19, .ref a20, .ref a21, .ref a22]))] sz) (nQ dC dI (fun f => some (.int (1))) (fun f r => []) (va_A [(a0, .inr (12, [.ref a2, .ref a3, .ref a4, .ref a5, .ref a6, .ref a7, .ref a8, .ref a9, .null, .ref a10, .ref a11, .int (0), .int (100), .int (0), .int (0), .int (-1), .long (0), .int (1)])), (a2, .inr (8, [.int (0), .ref a12, .ref a13, .ref a14, .ref a15, .int (0), .ref a16, .ref a17, .ref a18, .ref a19, .ref a20, .ref a21, .ref a22]))] sz)) 1 6 (va_A [(a0, .inr (12, [.ref a2, .ref a3, .ref a4, .ref a5, .ref a6, .ref a7, .ref a8, .ref a9, .null, .ref a10, .ref a11, .int (0), .int (100), .int (0), .int (0), .int (-1), .long (0), .int (1)])), (a2, .inr (8, [.int (0), .ref a12, .ref a13, .ref a14, .ref a15, .int (0), .ref a16, .ref a17, .ref a18, .ref a19, .ref a20, .ref a21, .ref a22]))] sz) := by
  refine n_metW (by decide +kernel) q1188 (Nat.le_of_ble_eq_true rfl) (fun f => some (.int (1))) (fun f r => []) ?_
  intro p e s m below meth c A ls ⟨hx, hb, hr, hml, hown, hts, hlk, hnm⟩ htab hE hP hD hA hl
  have hown : s.vm.findClass "MinestrataLaw" = some m.cls := hown
  have hK := hE.1
  have hS : va_S A s.heap s.heap [] := va_S.rf
  have hl : lv_has ls 4 [(0, .ref a0), (1, .int s1), (2, .ref a1)] := hl
  refine lv_aload_n hx hb dL_hasPower_0 rfl (lv_at hl 2 rfl) ?_
  refine lv_iconst (v := (0)) hx hb dL_hasPower_1 (by decide +kernel) ?_
  refine lv_aload_n hx hb dL_hasPower_2 rfl (lv_at hl 0 rfl) ?_
  refine lv_iload_n hx hb dL_hasPower_3 rfl (lv_at hl 1 rfl) ?_
  have hX : nCx p s m _ c method_18_code 4 "MinestrataLaw" dC dI g A [(a0, .inr (12, [.ref a2, .ref a3, .ref a4, .ref a5, .ref a6, .ref a7, .ref a8, .ref a9, .null, .ref a10, .ref a11, .int (0), .int (100), .int (0), .int (0), .int (-1), .long (0), .int (1)])), (a2, .inr (8, [.int (0), .ref a12, .ref a13, .ref a14, .ref a15, .int (0), .ref a16, .ref a17, .ref a18, .ref a19, .ref a20, .ref a21, .ref a22]))] _ _ := ⟨⟨hx, hb, hml, hown, hts⟩, hE, hS, hA, hP, hD⟩
  refine n_callX (E0 := "java/lang/IndexOutOfBoundsException") hX (n_runVX (n := 1) (wc := [(a0, .inr (12, [.ref a2, .ref a3, .ref a4, .ref a5, .ref a6, .ref a7, .ref a8, .ref a9, .null, .ref a10, .ref a11, .int (0), .int (100), .int (0), .int (0), .int (-1), .long (0), .int (1)])), (a2, .inr (8, [.int (0), .ref a12, .ref a13, .ref a14, .ref a15, .int (0), .ref a16, .ref a17, .ref a18, .ref a19, .ref a20, .ref a21, .ref a22]))]) (As := [.int s1]) (rest := [.int (0), .ref a1]) hX (m308 l hst dC dI g a0 a2 a3 a4 a5 a6 a7 a8 a9 a10 a11 a12 a13 a14 a15 a16 a17 a18 a19 a20 a21 a22 s1 _) [0, 1] rfl (by decide +kernel) 0 (ci := 12) rfl (T := TX11) (N := 18) (C := "Minestrata") rfl q1189 q1190 q1191 q71 q1192 (by decide +kernel) ⟨(Nat.le_of_ble_eq_true rfl), (Nat.le_of_ble_eq_true rfl)⟩ ⟨(Nat.le_of_ble_eq_true rfl), (Nat.le_of_ble_eq_true rfl)⟩ hl.1 rfl rfl (Nat.le_of_ble_eq_true rfl) dL_hasPower_4) [0, 1] rfl (fun ce q9 H locs hS hce hcv hcl => ?_)
  refine n_catch (E := "java/lang/IndexOutOfBoundsException") (name := "java/lang/IndexOutOfBoundsException") hE hts hown htab [] ⟨0, 16, 19, 21⟩ [] rfl (fun z hz => nomatch hz) (by decide +kernel) (by decide) q907 x950 hce hcv hcl ?_
  refine W.widen (k := 1) (n := 6) (Nat.le_of_ble_eq_true rfl) (Nat.le_of_ble_eq_true rfl) ?_
  refine W.eq (g2 := F0 m 19 ls [.ref q9]) rfl ?_
  refine lv_astore_n (lv' := [(3, .ref q9), (0, .ref a0), (1, .int s1), (2, .ref a1)]) hx hb dL_hasPower_19 rfl hl (by decide) rfl (fun ls hl => ?_)
  refine lv_iconst (v := (1)) hx hb dL_hasPower_20 (by decide +kernel) ?_
  refine W.widen (k := 1) (n := 6) (Nat.le_of_ble_eq_true rfl) (Nat.le_of_ble_eq_true rfl) ?_
  exact W.iret hx hb hr (n_end0 hS (fun _ => 0) rfl rfl) hS.2.2 dL_hasPower_21 hlk

set_option maxHeartbeats 4000000 in
set_option maxRecDepth 100000 in
/-- MinestrataModel.hasPower -/
theorem m310 (l : Launch) (hst : l.stackTraces = false) (dC : Nat → ClassId) (dI : Nat → Nat → Nat) (g : Nat → Nat) (a0 a1 a2 a3 a4 a5 a6 a7 a8 a9 a10 a11 a12 : Nat) (s1 : Int32) (sz : Nat) :
    Met l Y117 (Cond.code Y117 prog_14_method_24_code 2 (Option.some Jvm.ClassFile.FieldType.boolean) :: AW) ({ frames := 2, cells := 0, slots := 0, locals := 43 } : Room) (nP dC dI g [.ref a0, .int s1] [(a0, .inr (15, [.int (0), .int (0), .int (100), .int (0), .int (0), .ref a1, .ref a2, .ref a3, .ref a4, .ref a5, .ref a6, .ref a7, .ref a8, .ref a9, .ref a10, .ref a11, .null, .int (-1), .ref a12, .long (0)]))] sz) (nQ dC dI (fun f => some (.int (0))) (fun f r => [(a0, .inr (15, [.int (1), .int (0), .int (100), .int (0), .int (0), .ref a1, .ref a2, .ref a3, .ref a4, .ref a5, .ref a6, .ref a7, .ref a8, .ref a9, .ref a10, .ref a11, .null, .int (-1), .ref a12, .long (0)]))]) (va_A [(a0, .inr (15, [.int (0), .int (0), .int (100), .int (0), .int (0), .ref a1, .ref a2, .ref a3, .ref a4, .ref a5, .ref a6, .ref a7, .ref a8, .ref a9, .ref a10, .ref a11, .null, .int (-1), .ref a12, .long (0)]))] sz)) 0 0 (va_A [(a0, .inr (15, [.int (0), .int (0), .int (100), .int (0), .int (0), .ref a1, .ref a2, .ref a3, .ref a4, .ref a5, .ref a6, .ref a7, .ref a8, .ref a9, .ref a10, .ref a11, .null, .int (-1), .ref a12, .long (0)]))] sz) := by
  refine n_met (by decide +kernel) (Nat.le_of_ble_eq_true rfl) (fun f => some (.int (0))) (fun f r => [(a0, .inr (15, [.int (1), .int (0), .int (100), .int (0), .int (0), .ref a1, .ref a2, .ref a3, .ref a4, .ref a5, .ref a6, .ref a7, .ref a8, .ref a9, .ref a10, .ref a11, .null, .int (-1), .ref a12, .long (0)]))]) ?_
  intro p e s m below meth c A ls ⟨hx, hb, hr, hml, hown, hts, hlk, hnm⟩ hE hP hD hA hl
  have hown : s.vm.findClass "MinestrataModel" = some m.cls := hown
  have hK := hE.1
  have hS : va_S A s.heap s.heap [] := va_S.rf
  have hl : lv_has ls 2 [(0, .ref a0), (1, .int s1)] := hl
  refine lv_aload_n hx hb dX16_hasPower_0 rfl (lv_at hl 0 rfl) ?_
  refine lv_aload_n hx hb dX16_hasPower_1 rfl (lv_at hl 0 rfl) ?_
  refine lv_iload_n hx hb dX16_hasPower_2 rfl (lv_at hl 1 rfl) ?_
  have hX : nCx p s m _ c prog_14_method_24_code 2 "MinestrataModel" dC dI g A [(a0, .inr (15, [.int (0), .int (0), .int (100), .int (0), .int (0), .ref a1, .ref a2, .ref a3, .ref a4, .ref a5, .ref a6, .ref a7, .ref a8, .ref a9, .ref a10, .ref a11, .null, .int (-1), .ref a12, .long (0)]))] _ _ := ⟨⟨hx, hb, hml, hown, hts⟩, hE, hS, hA, hP, hD⟩
  refine n_call (wr := []) hX (n_runV (n := 1) (wc := [(a0, .inr (15, [.int (0), .int (0), .int (100), .int (0), .int (0), .ref a1, .ref a2, .ref a3, .ref a4, .ref a5, .ref a6, .ref a7, .ref a8, .ref a9, .ref a10, .ref a11, .null, .int (-1), .ref a12, .long (0)]))]) (As := [.int s1]) (rest := [.ref a0]) hX (m49 l hst dC dI g a0 a1 a2 a3 a4 a5 a6 a7 a8 a9 a10 a11 a12 s1 _) [0] rfl (by decide +kernel) 0 (ci := 15) rfl (T := TX16) (N := 20) (C := "MinestrataModel") rfl q1518 q1520 q41 q82 q1521 (by decide +kernel) ⟨(Nat.le_of_ble_eq_true rfl), (Nat.le_of_ble_eq_true rfl)⟩ ⟨(Nat.le_of_ble_eq_true rfl), (Nat.le_of_ble_eq_true rfl)⟩ hl.1 rfl rfl (Nat.le_of_ble_eq_true rfl) dX16_hasPower_3) [0] [] rfl rfl (by decide +kernel) (by decide +kernel) (fun f1 r2 H locs hP hD hS => ?_)
  have hP : va_P (dC, dI) CL [(a0, .inr (15, [.int (0), .int (0), .int (100), .int (0), .int (0), .ref a1, .ref a2, .ref a3, .ref a4, .ref a5, .ref a6, .ref a7, .ref a8, .ref a9, .ref a10, .ref a11, .null, .int (-1), .ref a12, .long (0)]))] _ := hP
  have hD : va_D A [(a0, .inr (15, [.int (0), .int (0), .int (100), .int (0), .int (0), .ref a1, .ref a2, .ref a3, .ref a4, .ref a5, .ref a6, .ref a7, .ref a8, .ref a9, .ref a10, .ref a11, .null, .int (-1), .ref a12, .long (0)]))] := hD
  refine W.widen (k := 0) (n := 0) (Nat.le_of_ble_eq_true rfl) (Nat.le_of_ble_eq_true rfl) ?_
  refine W.eq (g2 := F0 m 6 ls [.int (0), .ref a0]) rfl ?_
  refine lv_if_eq (tgt := 13) hx hb dX16_hasPower_6 (by decide +kernel) (fun _ => ?_) (fun h => absurd (by decide +kernel) h)
  refine lv_iconst (v := (1)) hx hb dX16_hasPower_13 (by decide +kernel) ?_
  refine va_put (D := (dC, dI)) (ci := 15) (v := .int (1)) (ty := .int) (C := "MinestrataModel") (T := TX16) (N := 20) hx hb hts inX16 tyX16 tyX16_ok nmX16 hown hK hP hD hS 0 rfl rfl 0 (by decide) (hts _ q1427) (fun _ h9 => h9) rfl (by decide +kernel) rfl rfl (Nat.le_of_ble_eq_true rfl) dX16_hasPower_14 (fun H locs hP hD hS => ?_)
  have hP : va_P (dC, dI) CL [(a0, .inr (15, [.int (1), .int (0), .int (100), .int (0), .int (0), .ref a1, .ref a2, .ref a3, .ref a4, .ref a5, .ref a6, .ref a7, .ref a8, .ref a9, .ref a10, .ref a11, .null, .int (-1), .ref a12, .long (0)]))] _ := hP
  have hD : va_D A [(a0, .inr (15, [.int (1), .int (0), .int (100), .int (0), .int (0), .ref a1, .ref a2, .ref a3, .ref a4, .ref a5, .ref a6, .ref a7, .ref a8, .ref a9, .ref a10, .ref a11, .null, .int (-1), .ref a12, .long (0)]))] := hD
  refine lv_aload_n hx hb dX16_hasPower_17 rfl (lv_at hl 0 rfl) ?_
  refine va_get (D := (dC, dI)) (ci := 15) (v := .int (1)) (C := "MinestrataModel") (T := TX16) (N := 20) hx hb hts inX16 hown hK hP 0 rfl rfl 0 (by decide) (hts _ q1427) (fun _ h9 => h9) rfl dX16_hasPower_18 ?_
  refine lv_if_ne (tgt := 37) hx hb dX16_hasPower_21 (by decide +kernel) (fun _ => ?_) (fun h => absurd h (by decide +kernel))
  refine lv_iconst (v := (0)) hx hb dX16_hasPower_37 (by decide +kernel) ?_
  refine W.widen (k := 0) (n := 0) (Nat.le_of_ble_eq_true rfl) (Nat.le_of_ble_eq_true rfl) ?_
  exact W.zret hx hb hr (by decide +kernel) (n_end hS hP hD [0] (by decide +kernel) (fun _ => 0) (fun _ => 0) rfl rfl rfl) hS.2.2 dX16_hasPower_38 hlk

set_option maxHeartbeats 4000000 in
set_option maxRecDepth 100000 in
/-- Minestrata.come -/
theorem m311 (l : Launch) (hst : l.stackTraces = false) (dC : Nat → ClassId) (dI : Nat → Nat → Nat) (g : Nat → Nat) (a0 a1 a2 a3 a4 a5 a6 a7 a8 a9 a10 a11 a12 a13 a14 a15 a16 a17 a18 a19 a20 a21 : Nat) (s1 : Int32) (sz : Nat) :
    vx_Met l Y119 (Cond.code Y119 prog_1_method_19_code 2 (Option.some Jvm.ClassFile.FieldType.int) :: AW) ({ frames := 6, cells := 1, slots := 6, locals := 81 } : Room) (nP dC dI g [.ref a0, .int s1] [(a0, .inr (12, [.ref a1, .ref a2, .ref a3, .ref a4, .ref a5, .ref a6, .ref a7, .ref a8, .null, .ref a9, .ref a10, .int (0), .int (100), .int (0), .int (0), .int (-1), .long (0), .int (1)])), (a1, .inr (8, [.int (0), .ref a11, .ref a12, .ref a13, .ref a14, .int (0), .ref a15, .ref a16, .ref a17, .ref a18, .ref a19, .ref a20, .ref a21]))] sz) (fun _ _ _ _ => False) (nX "java/lang/IndexOutOfBoundsException" (va_A [(a0, .inr (12, [.ref a1, .ref a2, .ref a3, .ref a4, .ref a5, .ref a6, .ref a7, .ref a8, .null, .ref a9, .ref a10, .int (0), .int (100), .int (0), .int (0), .int (-1), .long (0), .int (1)])), (a1, .inr (8, [.int (0), .ref a11, .ref a12, .ref a13, .ref a14, .int (0), .ref a15, .ref a16, .ref a17, .ref a18, .ref a19, .ref a20, .ref a21]))] sz)) 1 6 (va_A [(a0, .inr (12, [.ref a1, .ref a2, .ref a3, .ref a4, .ref a5, .ref a6, .ref a7, .ref a8, .null, .ref a9, .ref a10, .int (0), .int (100), .int (0), .int (0), .int (-1), .long (0), .int (1)])), (a1, .inr (8, [.int (0), .ref a11, .ref a12, .ref a13, .ref a14, .int (0), .ref a15, .ref a16, .ref a17, .ref a18, .ref a19, .ref a20, .ref a21]))] sz) := by
  refine n_metX (by decide +kernel) (Nat.le_of_ble_eq_true rfl) "java/lang/IndexOutOfBoundsException" ?_
  intro p e s m below meth c A ls ⟨hx, hb, hr, hml, hown, hts, hlk, hnm⟩ hout hE hP hD hA hl
  have hown : s.vm.findClass "Minestrata" = some m.cls := hown
  have hK := hE.1
  have hS : va_S A s.heap s.heap [] := va_S.rf
  have hl : lv_has ls 2 [(0, .ref a0), (1, .int s1)] := hl
  have hlsz : ls.size = c.maxLocals := hl.1.trans hml.symm
  refine lv_aload_n hx hb dX11_come_0 rfl (lv_at hl 0 rfl) ?_
  refine va_get (D := (dC, dI)) (ci := 12) (v := .ref a1) (C := "Minestrata") (T := TX11) (N := 18) hx hb hts inX11 hown hK hP 0 rfl rfl 0 (by decide) (hts _ q504) (fun _ h9 => h9) rfl dX11_come_1 ?_
  refine lv_iload_n hx hb dX11_come_4 rfl (lv_at hl 1 rfl) ?_
  have hX : nCx p s m _ c prog_1_method_19_code 2 "Minestrata" dC dI g A [(a0, .inr (12, [.ref a1, .ref a2, .ref a3, .ref a4, .ref a5, .ref a6, .ref a7, .ref a8, .null, .ref a9, .ref a10, .int (0), .int (100), .int (0), .int (0), .int (-1), .long (0), .int (1)])), (a1, .inr (8, [.int (0), .ref a11, .ref a12, .ref a13, .ref a14, .int (0), .ref a15, .ref a16, .ref a17, .ref a18, .ref a19, .ref a20, .ref a21]))] _ _ := ⟨⟨hx, hb, hml, hown, hts⟩, hE, hS, hA, hP, hD⟩
  refine n_call (wr := [(a0, .inr (12, [.ref a1, .ref a2, .ref a3, .ref a4, .ref a5, .ref a6, .ref a7, .ref a8, .null, .ref a9, .ref a10, .int (0), .int (100), .int (0), .int (0), .int (-1), .long (0), .int (1)]))]) hX (n_runV (n := 1) (wc := [(a1, .inr (8, [.int (0), .ref a11, .ref a12, .ref a13, .ref a14, .int (0), .ref a15, .ref a16, .ref a17, .ref a18, .ref a19, .ref a20, .ref a21]))]) (As := [.int s1]) (rest := []) hX (m45 l hst dC dI g a1 a11 a12 a13 a14 a15 a16 a17 a18 a19 a20 a21 s1 _) [1] rfl (by decide +kernel) 1 (ci := 8) rfl (T := TX7) (N := 13) (C := "Minestrata$Net") rfl q944 q945 q946 q72 q947 (by decide +kernel) ⟨(Nat.le_of_ble_eq_true rfl), (Nat.le_of_ble_eq_true rfl)⟩ ⟨(Nat.le_of_ble_eq_true rfl), (Nat.le_of_ble_eq_true rfl)⟩ hl.1 rfl rfl (Nat.le_of_ble_eq_true rfl) dX11_come_5) [1] [0] rfl rfl (by decide +kernel) (by decide +kernel) (fun f1 r2 H locs hP hD hS => ?_)
  have hP : va_P (dC, dI) CL [(a0, .inr (12, [.ref a1, .ref a2, .ref a3, .ref a4, .ref a5, .ref a6, .ref a7, .ref a8, .null, .ref a9, .ref a10, .int (0), .int (100), .int (0), .int (0), .int (-1), .long (0), .int (1)])), (a1, .inr (8, [.int (0), .ref a11, .ref a12, .ref a13, .ref a14, .int (0), .ref a15, .ref a16, .ref a17, .ref a18, .ref a19, .ref a20, .ref a21]))] _ := hP
  have hD : va_D A [(a0, .inr (12, [.ref a1, .ref a2, .ref a3, .ref a4, .ref a5, .ref a6, .ref a7, .ref a8, .null, .ref a9, .ref a10, .int (0), .int (100), .int (0), .int (0), .int (-1), .long (0), .int (1)])), (a1, .inr (8, [.int (0), .ref a11, .ref a12, .ref a13, .ref a14, .int (0), .ref a15, .ref a16, .ref a17, .ref a18, .ref a19, .ref a20, .ref a21]))] := hD
  refine W.widen (k := 0) (n := 0) (Nat.le_of_ble_eq_true rfl) (Nat.le_of_ble_eq_true rfl) ?_
  refine W.eq (g2 := F0 m 8 ls [.int (0)]) rfl ?_
  refine lv_if_ne (tgt := 19) hx hb dX11_come_8 (by decide +kernel) (fun h => absurd (by decide +kernel) h) (fun _ => ?_)
  exact n_throw hx hb hst hown hts hE hS (names := ["java/lang/RuntimeException", "java/lang/Exception"]) (by decide +kernel) (by decide +kernel) q948 q91 hat1p hat1a hat1 hat1g (hl.1.trans hml.symm) dX11_come_11 dX11_come_14 dX11_come_15 dX11_come_18 hout (Nat.le_of_ble_eq_true rfl) (Nat.le_of_ble_eq_true rfl) (Nat.le_of_ble_eq_true rfl) (Nat.le_of_ble_eq_true rfl) hlk (Nat.le_of_ble_eq_true rfl) (Nat.le_of_ble_eq_true rfl)

set_option maxHeartbeats 4000000 in
set_option maxRecDepth 100000 in
/-- MinestrataLaw.come -/
theorem m312 (l : Launch) (hst : l.stackTraces = false) (dC : Nat → ClassId) (dI : Nat → Nat → Nat) (g : Nat → Nat) (a0 a1 a2 a3 a4 a5 a6 a7 a8 a9 a10 a11 a12 a13 a14 a15 a16 a17 a18 a19 a20 a21 a22 : Nat) (s1 : Int32) (sz : Nat) :
    Met l Y118 (Cond.codeWith Y118 method_19_code 4 (Option.some Jvm.ClassFile.FieldType.int) [((0 : Nat), (9 : Nat), (12 : Nat), (21 : Nat)), ((0 : Nat), (9 : Nat), (15 : Nat), (47 : Nat)), ((0 : Nat), (9 : Nat), (18 : Nat), (15 : Nat))] :: AW) ({ frames := 7, cells := 1, slots := 6, locals := 102 } : Room) (nP dC dI g [.ref a0, .int s1, .ref a1] [(a0, .inr (12, [.ref a2, .ref a3, .ref a4, .ref a5, .ref a6, .ref a7, .ref a8, .ref a9, .null, .ref a10, .ref a11, .int (0), .int (100), .int (0), .int (0), .int (-1), .long (0), .int (1)])), (a2, .inr (8, [.int (0), .ref a12, .ref a13, .ref a14, .ref a15, .int (0), .ref a16, .ref a17, .ref a18, .ref a19, .ref a20, .ref a21, .ref a22]))] sz) (nQ dC dI (fun f => some (.int (1))) (fun f r => []) (va_A [(a0, .inr (12, [.ref a2, .ref a3, .ref a4, .ref a5, .ref a6, .ref a7, .ref a8, .ref a9, .null, .ref a10, .ref a11, .int (0), .int (100), .int (0), .int (0), .int (-1), .long (0), .int (1)])), (a2, .inr (8, [.int (0), .ref a12, .ref a13, .ref a14, .ref a15, .int (0), .ref a16, .ref a17, .ref a18, .ref a19, .ref a20, .ref a21, .ref a22]))] sz)) 1 6 (va_A [(a0, .inr (12, [.ref a2, .ref a3, .ref a4, .ref a5, .ref a6, .ref a7, .ref a8, .ref a9, .null, .ref a10, .ref a11, .int (0), .int (100), .int (0), .int (0), .int (-1), .long (0), .int (1)])), (a2, .inr (8, [.int (0), .ref a12, .ref a13, .ref a14, .ref a15, .int (0), .ref a16, .ref a17, .ref a18, .ref a19, .ref a20, .ref a21, .ref a22]))] sz) := by
  refine n_metW (by decide +kernel) q1195 (Nat.le_of_ble_eq_true rfl) (fun f => some (.int (1))) (fun f r => []) ?_
  intro p e s m below meth c A ls ⟨hx, hb, hr, hml, hown, hts, hlk, hnm⟩ htab hE hP hD hA hl
  have hown : s.vm.findClass "MinestrataLaw" = some m.cls := hown
  have hK := hE.1
  have hS : va_S A s.heap s.heap [] := va_S.rf
  have hl : lv_has ls 4 [(0, .ref a0), (1, .int s1), (2, .ref a1)] := hl
  refine lv_aload_n hx hb dL_come_0 rfl (lv_at hl 2 rfl) ?_
  refine lv_iconst (v := (0)) hx hb dL_come_1 (by decide +kernel) ?_
  refine lv_aload_n hx hb dL_come_2 rfl (lv_at hl 0 rfl) ?_
  refine lv_iload_n hx hb dL_come_3 rfl (lv_at hl 1 rfl) ?_
  have hX : nCx p s m _ c method_19_code 4 "MinestrataLaw" dC dI g A [(a0, .inr (12, [.ref a2, .ref a3, .ref a4, .ref a5, .ref a6, .ref a7, .ref a8, .ref a9, .null, .ref a10, .ref a11, .int (0), .int (100), .int (0), .int (0), .int (-1), .long (0), .int (1)])), (a2, .inr (8, [.int (0), .ref a12, .ref a13, .ref a14, .ref a15, .int (0), .ref a16, .ref a17, .ref a18, .ref a19, .ref a20, .ref a21, .ref a22]))] _ _ := ⟨⟨hx, hb, hml, hown, hts⟩, hE, hS, hA, hP, hD⟩
  refine n_callX (E0 := "java/lang/IndexOutOfBoundsException") hX (n_runVX (n := 1) (wc := [(a0, .inr (12, [.ref a2, .ref a3, .ref a4, .ref a5, .ref a6, .ref a7, .ref a8, .ref a9, .null, .ref a10, .ref a11, .int (0), .int (100), .int (0), .int (0), .int (-1), .long (0), .int (1)])), (a2, .inr (8, [.int (0), .ref a12, .ref a13, .ref a14, .ref a15, .int (0), .ref a16, .ref a17, .ref a18, .ref a19, .ref a20, .ref a21, .ref a22]))]) (As := [.int s1]) (rest := [.int (0), .ref a1]) hX (m311 l hst dC dI g a0 a2 a3 a4 a5 a6 a7 a8 a9 a10 a11 a12 a13 a14 a15 a16 a17 a18 a19 a20 a21 a22 s1 _) [0, 1] rfl (by decide +kernel) 0 (ci := 12) rfl (T := TX11) (N := 18) (C := "Minestrata") rfl q1196 q1197 q1198 q71 q1199 (by decide +kernel) ⟨(Nat.le_of_ble_eq_true rfl), (Nat.le_of_ble_eq_true rfl)⟩ ⟨(Nat.le_of_ble_eq_true rfl), (Nat.le_of_ble_eq_true rfl)⟩ hl.1 rfl rfl (Nat.le_of_ble_eq_true rfl) dL_come_4) [0, 1] rfl (fun ce q9 H locs hS hce hcv hcl => ?_)
  refine n_catch (E := "java/lang/IndexOutOfBoundsException") (name := "java/lang/IndexOutOfBoundsException") hE hts hown htab [] ⟨0, 9, 12, 21⟩ [⟨0, 9, 15, 47⟩, ⟨0, 9, 18, 15⟩] rfl (fun z hz => nomatch hz) (by decide +kernel) (by decide) q907 x950 hce hcv hcl ?_
  refine W.widen (k := 1) (n := 6) (Nat.le_of_ble_eq_true rfl) (Nat.le_of_ble_eq_true rfl) ?_
  refine W.eq (g2 := F0 m 12 ls [.ref q9]) rfl ?_
  refine lv_astore_n (lv' := [(3, .ref q9), (0, .ref a0), (1, .int s1), (2, .ref a1)]) hx hb dL_come_12 rfl hl (by decide) rfl (fun ls hl => ?_)
  refine lv_iconst (v := (1)) hx hb dL_come_13 (by decide +kernel) ?_
  refine W.widen (k := 1) (n := 6) (Nat.le_of_ble_eq_true rfl) (Nat.le_of_ble_eq_true rfl) ?_
  exact W.iret hx hb hr (n_end0 hS (fun _ => 0) rfl rfl) hS.2.2 dL_come_14 hlk

set_option maxHeartbeats 4000000 in
set_option maxRecDepth 100000 in
/-- MinestrataModel.come -/
theorem m313 (l : Launch) (hst : l.stackTraces = false) (dC : Nat → ClassId) (dI : Nat → Nat → Nat) (g : Nat → Nat) (a0 a1 a2 a3 a4 a5 a6 a7 a8 a9 a10 a11 a12 : Nat) (s1 : Int32) (sz : Nat) :
    Met l Y120 (Cond.code Y120 prog_14_method_30_code 2 (Option.some Jvm.ClassFile.FieldType.int) :: AW) ({ frames := 2, cells := 0, slots := 0, locals := 43 } : Room) (nP dC dI g [.ref a0, .int s1] [(a0, .inr (15, [.int (0), .int (0), .int (100), .int (0), .int (0), .ref a1, .ref a2, .ref a3, .ref a4, .ref a5, .ref a6, .ref a7, .ref a8, .ref a9, .ref a10, .ref a11, .null, .int (-1), .ref a12, .long (0)]))] sz) (nQ dC dI (fun f => some (.int (0))) (fun f r => [(a0, .inr (15, [.int (1), .int (0), .int (100), .int (0), .int (0), .ref a1, .ref a2, .ref a3, .ref a4, .ref a5, .ref a6, .ref a7, .ref a8, .ref a9, .ref a10, .ref a11, .null, .int (-1), .ref a12, .long (0)]))]) (va_A [(a0, .inr (15, [.int (0), .int (0), .int (100), .int (0), .int (0), .ref a1, .ref a2, .ref a3, .ref a4, .ref a5, .ref a6, .ref a7, .ref a8, .ref a9, .ref a10, .ref a11, .null, .int (-1), .ref a12, .long (0)]))] sz)) 0 0 (va_A [(a0, .inr (15, [.int (0), .int (0), .int (100), .int (0), .int (0), .ref a1, .ref a2, .ref a3, .ref a4, .ref a5, .ref a6, .ref a7, .ref a8, .ref a9, .ref a10, .ref a11, .null, .int (-1), .ref a12, .long (0)]))] sz) := by
  refine n_met (by decide +kernel) (Nat.le_of_ble_eq_true rfl) (fun f => some (.int (0))) (fun f r => [(a0, .inr (15, [.int (1), .int (0), .int (100), .int (0), .int (0), .ref a1, .ref a2, .ref a3, .ref a4, .ref a5, .ref a6, .ref a7, .ref a8, .ref a9, .ref a10, .ref a11, .null, .int (-1), .ref a12, .long (0)]))]) ?_
  intro p e s m below meth c A ls ⟨hx, hb, hr, hml, hown, hts, hlk, hnm⟩ hE hP hD hA hl
  have hown : s.vm.findClass "MinestrataModel" = some m.cls := hown
  have hK := hE.1
  have hS : va_S A s.heap s.heap [] := va_S.rf
  have hl : lv_has ls 2 [(0, .ref a0), (1, .int s1)] := hl
  refine lv_aload_n hx hb dX16_come_0 rfl (lv_at hl 0 rfl) ?_
  refine lv_iload_n hx hb dX16_come_1 rfl (lv_at hl 1 rfl) ?_
  have hX : nCx p s m _ c prog_14_method_30_code 2 "MinestrataModel" dC dI g A [(a0, .inr (15, [.int (0), .int (0), .int (100), .int (0), .int (0), .ref a1, .ref a2, .ref a3, .ref a4, .ref a5, .ref a6, .ref a7, .ref a8, .ref a9, .ref a10, .ref a11, .null, .int (-1), .ref a12, .long (0)]))] _ _ := ⟨⟨hx, hb, hml, hown, hts⟩, hE, hS, hA, hP, hD⟩
  refine n_call (wr := []) hX (n_runV (n := 1) (wc := [(a0, .inr (15, [.int (0), .int (0), .int (100), .int (0), .int (0), .ref a1, .ref a2, .ref a3, .ref a4, .ref a5, .ref a6, .ref a7, .ref a8, .ref a9, .ref a10, .ref a11, .null, .int (-1), .ref a12, .long (0)]))]) (As := [.int s1]) (rest := []) hX (m49 l hst dC dI g a0 a1 a2 a3 a4 a5 a6 a7 a8 a9 a10 a11 a12 s1 _) [0] rfl (by decide +kernel) 0 (ci := 15) rfl (T := TX16) (N := 20) (C := "MinestrataModel") rfl q1518 q1520 q41 q82 q1521 (by decide +kernel) ⟨(Nat.le_of_ble_eq_true rfl), (Nat.le_of_ble_eq_true rfl)⟩ ⟨(Nat.le_of_ble_eq_true rfl), (Nat.le_of_ble_eq_true rfl)⟩ hl.1 rfl rfl (Nat.le_of_ble_eq_true rfl) dX16_come_2) [0] [] rfl rfl (by decide +kernel) (by decide +kernel) (fun f1 r2 H locs hP hD hS => ?_)
  have hP : va_P (dC, dI) CL [(a0, .inr (15, [.int (0), .int (0), .int (100), .int (0), .int (0), .ref a1, .ref a2, .ref a3, .ref a4, .ref a5, .ref a6, .ref a7, .ref a8, .ref a9, .ref a10, .ref a11, .null, .int (-1), .ref a12, .long (0)]))] _ := hP
  have hD : va_D A [(a0, .inr (15, [.int (0), .int (0), .int (100), .int (0), .int (0), .ref a1, .ref a2, .ref a3, .ref a4, .ref a5, .ref a6, .ref a7, .ref a8, .ref a9, .ref a10, .ref a11, .null, .int (-1), .ref a12, .long (0)]))] := hD
  refine W.widen (k := 0) (n := 0) (Nat.le_of_ble_eq_true rfl) (Nat.le_of_ble_eq_true rfl) ?_
  refine W.eq (g2 := F0 m 5 ls [.int (0)]) rfl ?_
  refine lv_if_ne (tgt := 14) hx hb dX16_come_5 (by decide +kernel) (fun h => absurd (by decide +kernel) h) (fun _ => ?_)
  refine lv_aload_n hx hb dX16_come_8 rfl (lv_at hl 0 rfl) ?_
  refine lv_iconst (v := (1)) hx hb dX16_come_9 (by decide +kernel) ?_
  have hX : nCx p s m _ c prog_14_method_30_code 2 "MinestrataModel" dC dI g A [(a0, .inr (15, [.int (0), .int (0), .int (100), .int (0), .int (0), .ref a1, .ref a2, .ref a3, .ref a4, .ref a5, .ref a6, .ref a7, .ref a8, .ref a9, .ref a10, .ref a11, .null, .int (-1), .ref a12, .long (0)]))] _ _ := ⟨⟨hx, hb, hml, hown, hts⟩, hE, hS, hA, hP, hD⟩
  refine n_call (wr := []) hX (n_runV (n := 1) (wc := [(a0, .inr (15, [.int (0), .int (0), .int (100), .int (0), .int (0), .ref a1, .ref a2, .ref a3, .ref a4, .ref a5, .ref a6, .ref a7, .ref a8, .ref a9, .ref a10, .ref a11, .null, .int (-1), .ref a12, .long (0)]))]) (As := [.int (1)]) (rest := []) hX (m31 l hst dC dI g a0 a1 a2 a3 a4 a5 a6 a7 a8 a9 a10 a11 a12 _) [0] rfl (by decide +kernel) 0 (ci := 15) rfl (T := TX16) (N := 20) (C := "MinestrataModel") rfl q1506 q1508 q39 q82 q1509 (by decide +kernel) ⟨(Nat.le_of_ble_eq_true rfl), (Nat.le_of_ble_eq_true rfl)⟩ ⟨(Nat.le_of_ble_eq_true rfl), (Nat.le_of_ble_eq_true rfl)⟩ hl.1 rfl rfl (Nat.le_of_ble_eq_true rfl) dX16_come_10) [0] [] rfl rfl (by decide +kernel) (by decide +kernel) (fun f3 r4 H locs hP hD hS => ?_)
  have hP : va_P (dC, dI) CL [(a0, .inr (15, [.int (1), .int (0), .int (100), .int (0), .int (0), .ref a1, .ref a2, .ref a3, .ref a4, .ref a5, .ref a6, .ref a7, .ref a8, .ref a9, .ref a10, .ref a11, .null, .int (-1), .ref a12, .long (0)]))] _ := hP
  have hD : va_D A [(a0, .inr (15, [.int (1), .int (0), .int (100), .int (0), .int (0), .ref a1, .ref a2, .ref a3, .ref a4, .ref a5, .ref a6, .ref a7, .ref a8, .ref a9, .ref a10, .ref a11, .null, .int (-1), .ref a12, .long (0)]))] := hD
  refine W.widen (k := 0) (n := 0) (Nat.le_of_ble_eq_true rfl) (Nat.le_of_ble_eq_true rfl) ?_
  refine W.eq (g2 := F0 m 13 ls [.int (0)]) rfl ?_
  refine W.widen (k := 0) (n := 0) (Nat.le_of_ble_eq_true rfl) (Nat.le_of_ble_eq_true rfl) ?_
  exact W.iret hx hb hr (n_end hS hP hD [0] (by decide +kernel) (fun _ => 0) (fun _ => 0) rfl rfl rfl) hS.2.2 dX16_come_13 hlk

set_option maxHeartbeats 4000000 in
set_option maxRecDepth 100000 in
/-- Minestrata.hasPerson -/
theorem m314 (l : Launch) (hst : l.stackTraces = false) (dC : Nat → ClassId) (dI : Nat → Nat → Nat) (g : Nat → Nat) (a0 a1 a2 a3 a4 a5 a6 a7 a8 a9 a10 : Nat) (s1 : Int32) (sz : Nat) :
    Met l Y123 (Cond.code Y123 prog_1_method_39_code 2 (Option.some Jvm.ClassFile.FieldType.boolean) :: AW) ({ frames := 0, cells := 0, slots := 0, locals := 0 } : Room) (nP dC dI g [.ref a0, .int s1] [(a0, .inr (12, [.ref a1, .ref a2, .ref a3, .ref a4, .ref a5, .ref a6, .ref a7, .ref a8, .null, .ref a9, .ref a10, .int (0), .int (100), .int (0), .int (0), .int (-1), .long (0), .int (1)]))] sz) (nQ dC dI (fun f => some (.int (0))) (fun f r => [(a0, .inr (12, [.ref a1, .ref a2, .ref a3, .ref a4, .ref a5, .ref a6, .ref a7, .ref a8, .null, .ref a9, .ref a10, .int (0), .int (100), .int (0), .int (0), .int (-1), .long (0), .int (1)]))]) (va_A [(a0, .inr (12, [.ref a1, .ref a2, .ref a3, .ref a4, .ref a5, .ref a6, .ref a7, .ref a8, .null, .ref a9, .ref a10, .int (0), .int (100), .int (0), .int (0), .int (-1), .long (0), .int (1)]))] sz)) 0 0 (va_A [(a0, .inr (12, [.ref a1, .ref a2, .ref a3, .ref a4, .ref a5, .ref a6, .ref a7, .ref a8, .null, .ref a9, .ref a10, .int (0), .int (100), .int (0), .int (0), .int (-1), .long (0), .int (1)]))] sz) := by
  refine n_met (by decide +kernel) (Nat.le_of_ble_eq_true rfl) (fun f => some (.int (0))) (fun f r => [(a0, .inr (12, [.ref a1, .ref a2, .ref a3, .ref a4, .ref a5, .ref a6, .ref a7, .ref a8, .null, .ref a9, .ref a10, .int (0), .int (100), .int (0), .int (0), .int (-1), .long (0), .int (1)]))]) ?_
  intro p e s m below meth c A ls ⟨hx, hb, hr, hml, hown, hts, hlk, hnm⟩ hE hP hD hA hl
  have hown : s.vm.findClass "Minestrata" = some m.cls := hown
  have hK := hE.1
  have hS : va_S A s.heap s.heap [] := va_S.rf
  have hl : lv_has ls 2 [(0, .ref a0), (1, .int s1)] := hl
  refine lv_iload_n hx hb dX11_hasPerson_0 rfl (lv_at hl 1 rfl) ?_
  refine lv_if_lt (tgt := 16) hx hb dX11_hasPerson_1 (by decide +kernel) (fun h1 => ?_) (fun h1 => ?_)
  · skip
    refine lv_iconst (v := (0)) hx hb dX11_hasPerson_16 (by decide +kernel) ?_
    refine W.widen (k := 0) (n := 0) (Nat.le_of_ble_eq_true rfl) (Nat.le_of_ble_eq_true rfl) ?_
    exact W.zret hx hb hr (by decide +kernel) (n_end hS hP hD [0] (by decide +kernel) (fun _ => 0) (fun _ => 0) rfl rfl rfl) hS.2.2 dX11_hasPerson_17 hlk
  · skip
    refine lv_iload_n hx hb dX11_hasPerson_4 rfl (lv_at hl 1 rfl) ?_
    refine lv_aload_n hx hb dX11_hasPerson_5 rfl (lv_at hl 0 rfl) ?_
    refine va_get (D := (dC, dI)) (ci := 12) (v := .int (0)) (C := "Minestrata") (T := TX11) (N := 18) hx hb hts inX11 hown hK hP 0 rfl rfl 11 (by decide) (hts _ q515) (fun _ h9 => h9) rfl dX11_hasPerson_6 ?_
    refine lv_icmp_ge (tgt := 16) hx hb dX11_hasPerson_9 (by decide +kernel) (fun _ => ?_) (fun h => absurd (show (0) ≤ s1 by have z0 := h1; simp only [n_lt, n_le, n_eq, show ((0) : Int32).toInt = 0 from rfl] at z0 ⊢; omega) h)
    refine lv_iconst (v := (0)) hx hb dX11_hasPerson_16 (by decide +kernel) ?_
    refine W.widen (k := 0) (n := 0) (Nat.le_of_ble_eq_true rfl) (Nat.le_of_ble_eq_true rfl) ?_
    exact W.zret hx hb hr (by decide +kernel) (n_end hS hP hD [0] (by decide +kernel) (fun _ => 0) (fun _ => 0) rfl rfl rfl) hS.2.2 dX11_hasPerson_17 hlk

set_option maxHeartbeats 4000000 in
set_option maxRecDepth 100000 in
/-- Minestrata.walk -/
theorem m315 (l : Launch) (hst : l.stackTraces = false) (dC : Nat → ClassId) (dI : Nat → Nat → Nat) (g : Nat → Nat) (a0 a1 a2 a3 a4 a5 a6 a7 a8 a9 a10 : Nat) (s1 s2 : Int32) (sz : Nat) :
    vx_Met l Y122 (Cond.code Y122 prog_1_method_20_code 4 (Option.some Jvm.ClassFile.FieldType.boolean) :: AW) ({ frames := 6, cells := 1, slots := 6, locals := 81 } : Room) (nP dC dI g [.ref a0, .int s1, .int s2] [(a0, .inr (12, [.ref a1, .ref a2, .ref a3, .ref a4, .ref a5, .ref a6, .ref a7, .ref a8, .null, .ref a9, .ref a10, .int (0), .int (100), .int (0), .int (0), .int (-1), .long (0), .int (1)]))] sz) (fun _ _ _ _ => False) (nX "java/lang/IndexOutOfBoundsException" (va_A [(a0, .inr (12, [.ref a1, .ref a2, .ref a3, .ref a4, .ref a5, .ref a6, .ref a7, .ref a8, .null, .ref a9, .ref a10, .int (0), .int (100), .int (0), .int (0), .int (-1), .long (0), .int (1)]))] sz)) 1 6 (va_A [(a0, .inr (12, [.ref a1, .ref a2, .ref a3, .ref a4, .ref a5, .ref a6, .ref a7, .ref a8, .null, .ref a9, .ref a10, .int (0), .int (100), .int (0), .int (0), .int (-1), .long (0), .int (1)]))] sz) := by
  refine n_metX (by decide +kernel) (Nat.le_of_ble_eq_true rfl) "java/lang/IndexOutOfBoundsException" ?_
  intro p e s m below meth c A ls ⟨hx, hb, hr, hml, hown, hts, hlk, hnm⟩ hout hE hP hD hA hl
  have hown : s.vm.findClass "Minestrata" = some m.cls := hown
  have hK := hE.1
  have hS : va_S A s.heap s.heap [] := va_S.rf
  have hl : lv_has ls 4 [(0, .ref a0), (1, .int s1), (2, .int s2)] := hl
  have hlsz : ls.size = c.maxLocals := hl.1.trans hml.symm
  refine lv_aload_n hx hb dX11_walk_0 rfl (lv_at hl 0 rfl) ?_
  refine lv_iload_n hx hb dX11_walk_1 rfl (lv_at hl 1 rfl) ?_
  have hX : nCx p s m _ c prog_1_method_20_code 4 "Minestrata" dC dI g A [(a0, .inr (12, [.ref a1, .ref a2, .ref a3, .ref a4, .ref a5, .ref a6, .ref a7, .ref a8, .null, .ref a9, .ref a10, .int (0), .int (100), .int (0), .int (0), .int (-1), .long (0), .int (1)]))] _ _ := ⟨⟨hx, hb, hml, hown, hts⟩, hE, hS, hA, hP, hD⟩
  refine n_call (wr := []) hX (n_runV (n := 1) (wc := [(a0, .inr (12, [.ref a1, .ref a2, .ref a3, .ref a4, .ref a5, .ref a6, .ref a7, .ref a8, .null, .ref a9, .ref a10, .int (0), .int (100), .int (0), .int (0), .int (-1), .long (0), .int (1)]))]) (As := [.int s1]) (rest := []) hX (m314 l hst dC dI g a0 a1 a2 a3 a4 a5 a6 a7 a8 a9 a10 s1 _) [0] rfl (by decide +kernel) 0 (ci := 12) rfl (T := TX11) (N := 18) (C := "Minestrata") rfl q1207 q1209 q31 q71 q1210 (by decide +kernel) ⟨(Nat.le_of_ble_eq_true rfl), (Nat.le_of_ble_eq_true rfl)⟩ ⟨(Nat.le_of_ble_eq_true rfl), (Nat.le_of_ble_eq_true rfl)⟩ hl.1 rfl rfl (Nat.le_of_ble_eq_true rfl) dX11_walk_2) [0] [] rfl rfl (by decide +kernel) (by decide +kernel) (fun f1 r2 H locs hP hD hS => ?_)
  have hP : va_P (dC, dI) CL [(a0, .inr (12, [.ref a1, .ref a2, .ref a3, .ref a4, .ref a5, .ref a6, .ref a7, .ref a8, .null, .ref a9, .ref a10, .int (0), .int (100), .int (0), .int (0), .int (-1), .long (0), .int (1)]))] _ := hP
  have hD : va_D A [(a0, .inr (12, [.ref a1, .ref a2, .ref a3, .ref a4, .ref a5, .ref a6, .ref a7, .ref a8, .null, .ref a9, .ref a10, .int (0), .int (100), .int (0), .int (0), .int (-1), .long (0), .int (1)]))] := hD
  refine W.widen (k := 0) (n := 0) (Nat.le_of_ble_eq_true rfl) (Nat.le_of_ble_eq_true rfl) ?_
  refine W.eq (g2 := F0 m 5 ls [.int (0)]) rfl ?_
  refine lv_if_eq (tgt := 19) hx hb dX11_walk_5 (by decide +kernel) (fun _ => ?_) (fun h => absurd (by decide +kernel) h)
  exact n_throw hx hb hst hown hts hE hS (names := ["java/lang/RuntimeException", "java/lang/Exception"]) (by decide +kernel) (by decide +kernel) q948 q91 hat1p hat1a hat1 hat1g (hl.1.trans hml.symm) dX11_walk_19 dX11_walk_22 dX11_walk_23 dX11_walk_26 hout (Nat.le_of_ble_eq_true rfl) (Nat.le_of_ble_eq_true rfl) (Nat.le_of_ble_eq_true rfl) (Nat.le_of_ble_eq_true rfl) hlk (Nat.le_of_ble_eq_true rfl) (Nat.le_of_ble_eq_true rfl)

set_option maxHeartbeats 4000000 in
set_option maxRecDepth 100000 in
/-- MinestrataLaw.walk -/
theorem m316 (l : Launch) (hst : l.stackTraces = false) (dC : Nat → ClassId) (dI : Nat → Nat → Nat) (g : Nat → Nat) (a0 a1 a2 a3 a4 a5 a6 a7 a8 a9 a10 a11 : Nat) (s1 s2 : Int32) (sz : Nat) :
    Met l Y121 (Cond.codeWith Y121 method_20_code 5 (Option.some Jvm.ClassFile.FieldType.int) [((0 : Nat), (17 : Nat), (20 : Nat), (21 : Nat)), ((0 : Nat), (17 : Nat), (24 : Nat), (47 : Nat))] :: AW) ({ frames := 7, cells := 1, slots := 6, locals := 104 } : Room) (nP dC dI g [.ref a0, .int s1, .int s2, .ref a1] [(a0, .inr (12, [.ref a2, .ref a3, .ref a4, .ref a5, .ref a6, .ref a7, .ref a8, .ref a9, .null, .ref a10, .ref a11, .int (0), .int (100), .int (0), .int (0), .int (-1), .long (0), .int (1)]))] sz) (nQ dC dI (fun f => some (.int (1))) (fun f r => []) (va_A [(a0, .inr (12, [.ref a2, .ref a3, .ref a4, .ref a5, .ref a6, .ref a7, .ref a8, .ref a9, .null, .ref a10, .ref a11, .int (0), .int (100), .int (0), .int (0), .int (-1), .long (0), .int (1)]))] sz)) 1 6 (va_A [(a0, .inr (12, [.ref a2, .ref a3, .ref a4, .ref a5, .ref a6, .ref a7, .ref a8, .ref a9, .null, .ref a10, .ref a11, .int (0), .int (100), .int (0), .int (0), .int (-1), .long (0), .int (1)]))] sz) := by
  refine n_metW (by decide +kernel) q1202 (Nat.le_of_ble_eq_true rfl) (fun f => some (.int (1))) (fun f r => []) ?_
  intro p e s m below meth c A ls ⟨hx, hb, hr, hml, hown, hts, hlk, hnm⟩ htab hE hP hD hA hl
  have hown : s.vm.findClass "MinestrataLaw" = some m.cls := hown
  have hK := hE.1
  have hS : va_S A s.heap s.heap [] := va_S.rf
  have hl : lv_has ls 5 [(0, .ref a0), (1, .int s1), (2, .int s2), (3, .ref a1)] := hl
  refine lv_aload_n hx hb dL_walk_0 rfl (lv_at hl 3 rfl) ?_
  refine lv_iconst (v := (0)) hx hb dL_walk_1 (by decide +kernel) ?_
  refine lv_aload_n hx hb dL_walk_2 rfl (lv_at hl 0 rfl) ?_
  refine lv_iload_n hx hb dL_walk_3 rfl (lv_at hl 1 rfl) ?_
  refine lv_iload_n hx hb dL_walk_4 rfl (lv_at hl 2 rfl) ?_
  have hX : nCx p s m _ c method_20_code 5 "MinestrataLaw" dC dI g A [(a0, .inr (12, [.ref a2, .ref a3, .ref a4, .ref a5, .ref a6, .ref a7, .ref a8, .ref a9, .null, .ref a10, .ref a11, .int (0), .int (100), .int (0), .int (0), .int (-1), .long (0), .int (1)]))] _ _ := ⟨⟨hx, hb, hml, hown, hts⟩, hE, hS, hA, hP, hD⟩
  refine n_callX (E0 := "java/lang/IndexOutOfBoundsException") hX (n_runVX (n := 2) (wc := [(a0, .inr (12, [.ref a2, .ref a3, .ref a4, .ref a5, .ref a6, .ref a7, .ref a8, .ref a9, .null, .ref a10, .ref a11, .int (0), .int (100), .int (0), .int (0), .int (-1), .long (0), .int (1)]))]) (As := [.int s1, .int s2]) (rest := [.int (0), .ref a1]) hX (m315 l hst dC dI g a0 a2 a3 a4 a5 a6 a7 a8 a9 a10 a11 s1 s2 _) [0] rfl (by decide +kernel) 0 (ci := 12) rfl (T := TX11) (N := 18) (C := "Minestrata") rfl q1203 q1204 q1205 q71 q1206 (by decide +kernel) ⟨(Nat.le_of_ble_eq_true rfl), (Nat.le_of_ble_eq_true rfl)⟩ ⟨(Nat.le_of_ble_eq_true rfl), (Nat.le_of_ble_eq_true rfl)⟩ hl.1 rfl rfl (Nat.le_of_ble_eq_true rfl) dL_walk_5) [0] rfl (fun ce q9 H locs hS hce hcv hcl => ?_)
  refine n_catch (E := "java/lang/IndexOutOfBoundsException") (name := "java/lang/IndexOutOfBoundsException") hE hts hown htab [] ⟨0, 17, 20, 21⟩ [⟨0, 17, 24, 47⟩] rfl (fun z hz => nomatch hz) (by decide +kernel) (by decide) q907 x950 hce hcv hcl ?_
  refine W.widen (k := 1) (n := 6) (Nat.le_of_ble_eq_true rfl) (Nat.le_of_ble_eq_true rfl) ?_
  refine W.eq (g2 := F0 m 20 ls [.ref q9]) rfl ?_
  refine lv_astore (lv' := [(4, .ref q9), (0, .ref a0), (1, .int s1), (2, .int s2), (3, .ref a1)]) hx hb dL_walk_20 hl (by decide) rfl (fun ls hl => ?_)
  refine lv_iconst (v := (1)) hx hb dL_walk_22 (by decide +kernel) ?_
  refine W.widen (k := 1) (n := 6) (Nat.le_of_ble_eq_true rfl) (Nat.le_of_ble_eq_true rfl) ?_
  exact W.iret hx hb hr (n_end0 hS (fun _ => 0) rfl rfl) hS.2.2 dL_walk_23 hlk

set_option maxHeartbeats 4000000 in
set_option maxRecDepth 100000 in
/-- MinestrataModel.isPerson -/
theorem m317 (l : Launch) (hst : l.stackTraces = false) (dC : Nat → ClassId) (dI : Nat → Nat → Nat) (g : Nat → Nat) (a0 a1 a2 a3 a4 a5 a6 a7 a8 a9 a10 a11 a12 : Nat) (s1 : Int32) (sz : Nat) :
    Met l Y125 (Cond.code Y125 prog_14_method_31_code 2 (Option.some Jvm.ClassFile.FieldType.boolean) :: AW) ({ frames := 1, cells := 0, slots := 0, locals := 22 } : Room) (nP dC dI g [.ref a0, .int s1] [(a0, .inr (15, [.int (0), .int (0), .int (100), .int (0), .int (0), .ref a1, .ref a2, .ref a3, .ref a4, .ref a5, .ref a6, .ref a7, .ref a8, .ref a9, .ref a10, .ref a11, .null, .int (-1), .ref a12, .long (0)])), (a11, .inr (1, [.int (0), .ref (g 21), .int (0)]))] sz) (nQ dC dI (fun f => some (.int (0))) (fun f r => [(a0, .inr (15, [.int (0), .int (0), .int (100), .int (0), .int (0), .ref a1, .ref a2, .ref a3, .ref a4, .ref a5, .ref a6, .ref a7, .ref a8, .ref a9, .ref a10, .ref a11, .null, .int (-1), .ref a12, .long (0)])), (a11, .inr (1, [.int (0), .ref (g 21), .int (0)]))]) (va_A [(a0, .inr (15, [.int (0), .int (0), .int (100), .int (0), .int (0), .ref a1, .ref a2, .ref a3, .ref a4, .ref a5, .ref a6, .ref a7, .ref a8, .ref a9, .ref a10, .ref a11, .null, .int (-1), .ref a12, .long (0)])), (a11, .inr (1, [.int (0), .ref (g 21), .int (0)]))] sz)) 0 0 (va_A [(a0, .inr (15, [.int (0), .int (0), .int (100), .int (0), .int (0), .ref a1, .ref a2, .ref a3, .ref a4, .ref a5, .ref a6, .ref a7, .ref a8, .ref a9, .ref a10, .ref a11, .null, .int (-1), .ref a12, .long (0)])), (a11, .inr (1, [.int (0), .ref (g 21), .int (0)]))] sz) := by
  refine n_met (by decide +kernel) (Nat.le_of_ble_eq_true rfl) (fun f => some (.int (0))) (fun f r => [(a0, .inr (15, [.int (0), .int (0), .int (100), .int (0), .int (0), .ref a1, .ref a2, .ref a3, .ref a4, .ref a5, .ref a6, .ref a7, .ref a8, .ref a9, .ref a10, .ref a11, .null, .int (-1), .ref a12, .long (0)])), (a11, .inr (1, [.int (0), .ref (g 21), .int (0)]))]) ?_
  intro p e s m below meth c A ls ⟨hx, hb, hr, hml, hown, hts, hlk, hnm⟩ hE hP hD hA hl
  have hown : s.vm.findClass "MinestrataModel" = some m.cls := hown
  have hK := hE.1
  have hS : va_S A s.heap s.heap [] := va_S.rf
  have hl : lv_has ls 2 [(0, .ref a0), (1, .int s1)] := hl
  refine lv_iload_n hx hb dX16_isPerson_0 rfl (lv_at hl 1 rfl) ?_
  refine lv_iconst (v := (0)) hx hb dX16_isPerson_1 (by decide +kernel) ?_
  refine lv_aload_n hx hb dX16_isPerson_2 rfl (lv_at hl 0 rfl) ?_
  refine va_get (D := (dC, dI)) (ci := 15) (v := .ref a11) (C := "MinestrataModel") (T := TX16) (N := 20) hx hb hts inX16 hown hK hP 0 rfl rfl 15 (by decide) (hts _ q1449) (fun _ h9 => h9) rfl dX16_isPerson_3 ?_
  have hX : nCx p s m _ c prog_14_method_31_code 2 "MinestrataModel" dC dI g A [(a0, .inr (15, [.int (0), .int (0), .int (100), .int (0), .int (0), .ref a1, .ref a2, .ref a3, .ref a4, .ref a5, .ref a6, .ref a7, .ref a8, .ref a9, .ref a10, .ref a11, .null, .int (-1), .ref a12, .long (0)])), (a11, .inr (1, [.int (0), .ref (g 21), .int (0)]))] _ _ := ⟨⟨hx, hb, hml, hown, hts⟩, hE, hS, hA, hP, hD⟩
  refine n_call (wr := [(a0, .inr (15, [.int (0), .int (0), .int (100), .int (0), .int (0), .ref a1, .ref a2, .ref a3, .ref a4, .ref a5, .ref a6, .ref a7, .ref a8, .ref a9, .ref a10, .ref a11, .null, .int (-1), .ref a12, .long (0)]))]) hX (n_runV (n := 0) (wc := [(a11, .inr (1, [.int (0), .ref (g 21), .int (0)]))]) (As := []) (rest := [.int (0), .int s1]) hX (m60 l hst dC dI g a11 _) [1] rfl (by decide +kernel) 1 (ci := 1) rfl (T := TJx4a65c) (N := 3) (C := "java/util/ArrayList") rfl q1522 q1523 q1524 q85 q1525 (by decide +kernel) ⟨(Nat.le_of_ble_eq_true rfl), (Nat.le_of_ble_eq_true rfl)⟩ ⟨(Nat.le_of_ble_eq_true rfl), (Nat.le_of_ble_eq_true rfl)⟩ hl.1 rfl rfl (Nat.le_of_ble_eq_true rfl) dX16_isPerson_6) [1] [0] rfl rfl (by decide +kernel) (by decide +kernel) (fun f1 r2 H locs hP hD hS => ?_)
  have hP : va_P (dC, dI) CL [(a0, .inr (15, [.int (0), .int (0), .int (100), .int (0), .int (0), .ref a1, .ref a2, .ref a3, .ref a4, .ref a5, .ref a6, .ref a7, .ref a8, .ref a9, .ref a10, .ref a11, .null, .int (-1), .ref a12, .long (0)])), (a11, .inr (1, [.int (0), .ref (g 21), .int (0)]))] _ := hP
  have hD : va_D A [(a0, .inr (15, [.int (0), .int (0), .int (100), .int (0), .int (0), .ref a1, .ref a2, .ref a3, .ref a4, .ref a5, .ref a6, .ref a7, .ref a8, .ref a9, .ref a10, .ref a11, .null, .int (-1), .ref a12, .long (0)])), (a11, .inr (1, [.int (0), .ref (g 21), .int (0)]))] := hD
  refine W.widen (k := 0) (n := 0) (Nat.le_of_ble_eq_true rfl) (Nat.le_of_ble_eq_true rfl) ?_
  refine W.eq (g2 := F0 m 9 ls [.int (0), .int (0), .int s1]) rfl ?_
  refine lv_iconst (v := (1)) hx hb dX16_isPerson_9 (by decide +kernel) ?_
  refine lv_isub hx hb dX16_isPerson_10 ?_
  refine nt_i (v := (-1)) (by decide +kernel) ?_
  have hX : nCx p s m _ c prog_14_method_31_code 2 "MinestrataModel" dC dI g A [(a0, .inr (15, [.int (0), .int (0), .int (100), .int (0), .int (0), .ref a1, .ref a2, .ref a3, .ref a4, .ref a5, .ref a6, .ref a7, .ref a8, .ref a9, .ref a10, .ref a11, .null, .int (-1), .ref a12, .long (0)])), (a11, .inr (1, [.int (0), .ref (g 21), .int (0)]))] _ _ := ⟨⟨hx, hb, hml, hown, hts⟩, hE, hS, hA, hP, hD⟩
  refine n_call (wr := [(a0, .inr (15, [.int (0), .int (0), .int (100), .int (0), .int (0), .ref a1, .ref a2, .ref a3, .ref a4, .ref a5, .ref a6, .ref a7, .ref a8, .ref a9, .ref a10, .ref a11, .null, .int (-1), .ref a12, .long (0)])), (a11, .inr (1, [.int (0), .ref (g 21), .int (0)]))]) hX (n_runS (n := 3) (wc := []) (As := [.int s1, .int (0), .int (-1)]) (rest := []) hX (m48 l hst dC dI g s1 _) [] rfl (by decide +kernel) q1503 q1504 q82 q1505 (by decide +kernel) ⟨(Nat.le_of_ble_eq_true rfl), (Nat.le_of_ble_eq_true rfl)⟩ ⟨(Nat.le_of_ble_eq_true rfl), (Nat.le_of_ble_eq_true rfl)⟩ hl.1 rfl rfl (Nat.le_of_ble_eq_true rfl) dX16_isPerson_11) [] [0, 1] rfl rfl (by decide +kernel) (by decide +kernel) (fun f3 r4 H locs hP hD hS => ?_)
  have hP : va_P (dC, dI) CL [(a0, .inr (15, [.int (0), .int (0), .int (100), .int (0), .int (0), .ref a1, .ref a2, .ref a3, .ref a4, .ref a5, .ref a6, .ref a7, .ref a8, .ref a9, .ref a10, .ref a11, .null, .int (-1), .ref a12, .long (0)])), (a11, .inr (1, [.int (0), .ref (g 21), .int (0)]))] _ := hP
  have hD : va_D A [(a0, .inr (15, [.int (0), .int (0), .int (100), .int (0), .int (0), .ref a1, .ref a2, .ref a3, .ref a4, .ref a5, .ref a6, .ref a7, .ref a8, .ref a9, .ref a10, .ref a11, .null, .int (-1), .ref a12, .long (0)])), (a11, .inr (1, [.int (0), .ref (g 21), .int (0)]))] := hD
  refine W.widen (k := 0) (n := 0) (Nat.le_of_ble_eq_true rfl) (Nat.le_of_ble_eq_true rfl) ?_
  refine W.eq (g2 := F0 m 14 ls [.int (0)]) rfl ?_
  refine W.widen (k := 0) (n := 0) (Nat.le_of_ble_eq_true rfl) (Nat.le_of_ble_eq_true rfl) ?_
  exact W.zret hx hb hr (by decide +kernel) (n_end hS hP hD [0, 1] (by decide +kernel) (fun _ => 0) (fun _ => 0) rfl rfl rfl) hS.2.2 dX16_isPerson_14 hlk

