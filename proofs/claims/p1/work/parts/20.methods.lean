set_option maxHeartbeats 4000000 in
set_option maxRecDepth 100000 in
/-- MinestrataModel.walk -/
theorem m318 (l : Launch) (hst : l.stackTraces = false) (dC : Nat → ClassId) (dI : Nat → Nat → Nat) (g : Nat → Nat) (a0 a1 a2 a3 a4 a5 a6 a7 a8 a9 a10 a11 a12 : Nat) (s1 s2 : Int32) (sz : Nat) :
    Met l Y124 (Cond.code Y124 prog_14_method_32_code 5 (Option.some Jvm.ClassFile.FieldType.boolean) :: AW) ({ frames := 2, cells := 0, slots := 0, locals := 43 } : Room) (nP dC dI g [.ref a0, .int s1, .int s2] [(a0, .inr (15, [.int (0), .int (0), .int (100), .int (0), .int (0), .ref a1, .ref a2, .ref a3, .ref a4, .ref a5, .ref a6, .ref a7, .ref a8, .ref a9, .ref a10, .ref a11, .null, .int (-1), .ref a12, .long (0)])), (a11, .inr (1, [.int (0), .ref (g 21), .int (0)]))] sz) (nQ dC dI (fun f => some (.int (0))) (fun f r => [(a0, .inr (15, [.int (1), .int (0), .int (100), .int (0), .int (0), .ref a1, .ref a2, .ref a3, .ref a4, .ref a5, .ref a6, .ref a7, .ref a8, .ref a9, .ref a10, .ref a11, .null, .int (-1), .ref a12, .long (0)])), (a11, .inr (1, [.int (0), .ref (g 21), .int (0)]))]) (va_A [(a0, .inr (15, [.int (0), .int (0), .int (100), .int (0), .int (0), .ref a1, .ref a2, .ref a3, .ref a4, .ref a5, .ref a6, .ref a7, .ref a8, .ref a9, .ref a10, .ref a11, .null, .int (-1), .ref a12, .long (0)])), (a11, .inr (1, [.int (0), .ref (g 21), .int (0)]))] sz)) 0 0 (va_A [(a0, .inr (15, [.int (0), .int (0), .int (100), .int (0), .int (0), .ref a1, .ref a2, .ref a3, .ref a4, .ref a5, .ref a6, .ref a7, .ref a8, .ref a9, .ref a10, .ref a11, .null, .int (-1), .ref a12, .long (0)])), (a11, .inr (1, [.int (0), .ref (g 21), .int (0)]))] sz) := by
  refine n_met (by decide +kernel) (Nat.le_of_ble_eq_true rfl) (fun f => some (.int (0))) (fun f r => [(a0, .inr (15, [.int (1), .int (0), .int (100), .int (0), .int (0), .ref a1, .ref a2, .ref a3, .ref a4, .ref a5, .ref a6, .ref a7, .ref a8, .ref a9, .ref a10, .ref a11, .null, .int (-1), .ref a12, .long (0)])), (a11, .inr (1, [.int (0), .ref (g 21), .int (0)]))]) ?_
  intro p e s m below meth c A ls ⟨hx, hb, hr, hml, hown, hts, hlk, hnm⟩ hE hP hD hA hl
  have hown : s.vm.findClass "MinestrataModel" = some m.cls := hown
  have hK := hE.1
  have hS : va_S A s.heap s.heap [] := va_S.rf
  have hl : lv_has ls 5 [(0, .ref a0), (1, .int s1), (2, .int s2)] := hl
  refine lv_aload_n hx hb dX16_walk_0 rfl (lv_at hl 0 rfl) ?_
  refine lv_aload_n hx hb dX16_walk_1 rfl (lv_at hl 0 rfl) ?_
  refine lv_iload_n hx hb dX16_walk_2 rfl (lv_at hl 1 rfl) ?_
  have hX : nCx p s m _ c prog_14_method_32_code 5 "MinestrataModel" dC dI g A [(a0, .inr (15, [.int (0), .int (0), .int (100), .int (0), .int (0), .ref a1, .ref a2, .ref a3, .ref a4, .ref a5, .ref a6, .ref a7, .ref a8, .ref a9, .ref a10, .ref a11, .null, .int (-1), .ref a12, .long (0)])), (a11, .inr (1, [.int (0), .ref (g 21), .int (0)]))] _ _ := ⟨⟨hx, hb, hml, hown, hts⟩, hE, hS, hA, hP, hD⟩
  refine n_call (wr := []) hX (n_runV (n := 1) (wc := [(a0, .inr (15, [.int (0), .int (0), .int (100), .int (0), .int (0), .ref a1, .ref a2, .ref a3, .ref a4, .ref a5, .ref a6, .ref a7, .ref a8, .ref a9, .ref a10, .ref a11, .null, .int (-1), .ref a12, .long (0)])), (a11, .inr (1, [.int (0), .ref (g 21), .int (0)]))]) (As := [.int s1]) (rest := [.ref a0]) hX (m317 l hst dC dI g a0 a1 a2 a3 a4 a5 a6 a7 a8 a9 a10 a11 a12 s1 _) [0, 1] rfl (by decide +kernel) 0 (ci := 15) rfl (T := TX16) (N := 20) (C := "MinestrataModel") rfl q2078 q2080 q62 q82 q2081 (by decide +kernel) ⟨(Nat.le_of_ble_eq_true rfl), (Nat.le_of_ble_eq_true rfl)⟩ ⟨(Nat.le_of_ble_eq_true rfl), (Nat.le_of_ble_eq_true rfl)⟩ hl.1 rfl rfl (Nat.le_of_ble_eq_true rfl) dX16_walk_3) [0, 1] [] rfl rfl (by decide +kernel) (by decide +kernel) (fun f1 r2 H locs hP hD hS => ?_)
  have hP : va_P (dC, dI) CL [(a0, .inr (15, [.int (0), .int (0), .int (100), .int (0), .int (0), .ref a1, .ref a2, .ref a3, .ref a4, .ref a5, .ref a6, .ref a7, .ref a8, .ref a9, .ref a10, .ref a11, .null, .int (-1), .ref a12, .long (0)])), (a11, .inr (1, [.int (0), .ref (g 21), .int (0)]))] _ := hP
  have hD : va_D A [(a0, .inr (15, [.int (0), .int (0), .int (100), .int (0), .int (0), .ref a1, .ref a2, .ref a3, .ref a4, .ref a5, .ref a6, .ref a7, .ref a8, .ref a9, .ref a10, .ref a11, .null, .int (-1), .ref a12, .long (0)])), (a11, .inr (1, [.int (0), .ref (g 21), .int (0)]))] := hD
  refine W.widen (k := 0) (n := 0) (Nat.le_of_ble_eq_true rfl) (Nat.le_of_ble_eq_true rfl) ?_
  refine W.eq (g2 := F0 m 6 ls [.int (0), .ref a0]) rfl ?_
  refine lv_if_eq (tgt := 30) hx hb dX16_walk_6 (by decide +kernel) (fun _ => ?_) (fun h => absurd (by decide +kernel) h)
  refine lv_iconst (v := (1)) hx hb dX16_walk_30 (by decide +kernel) ?_
  refine va_put (D := (dC, dI)) (ci := 15) (v := .int (1)) (ty := .int) (C := "MinestrataModel") (T := TX16) (N := 20) hx hb hts inX16 tyX16 tyX16_ok nmX16 hown hK hP hD hS 0 rfl rfl 0 (by decide) (hts _ q1427) (fun _ h9 => h9) rfl (by decide +kernel) rfl rfl (Nat.le_of_ble_eq_true rfl) dX16_walk_31 (fun H locs hP hD hS => ?_)
  have hP : va_P (dC, dI) CL [(a0, .inr (15, [.int (1), .int (0), .int (100), .int (0), .int (0), .ref a1, .ref a2, .ref a3, .ref a4, .ref a5, .ref a6, .ref a7, .ref a8, .ref a9, .ref a10, .ref a11, .null, .int (-1), .ref a12, .long (0)])), (a11, .inr (1, [.int (0), .ref (g 21), .int (0)]))] _ := hP
  have hD : va_D A [(a0, .inr (15, [.int (1), .int (0), .int (100), .int (0), .int (0), .ref a1, .ref a2, .ref a3, .ref a4, .ref a5, .ref a6, .ref a7, .ref a8, .ref a9, .ref a10, .ref a11, .null, .int (-1), .ref a12, .long (0)])), (a11, .inr (1, [.int (0), .ref (g 21), .int (0)]))] := hD
  refine lv_aload_n hx hb dX16_walk_34 rfl (lv_at hl 0 rfl) ?_
  refine va_get (D := (dC, dI)) (ci := 15) (v := .int (1)) (C := "MinestrataModel") (T := TX16) (N := 20) hx hb hts inX16 hown hK hP 0 rfl rfl 0 (by decide) (hts _ q1427) (fun _ h9 => h9) rfl dX16_walk_35 ?_
  refine lv_if_le (tgt := 43) hx hb dX16_walk_38 (by decide +kernel) (fun h => absurd h (by decide +kernel)) (fun _ => ?_)
  refine lv_iconst (v := (0)) hx hb dX16_walk_41 (by decide +kernel) ?_
  refine W.widen (k := 0) (n := 0) (Nat.le_of_ble_eq_true rfl) (Nat.le_of_ble_eq_true rfl) ?_
  exact W.zret hx hb hr (by decide +kernel) (n_end hS hP hD [0, 1] (by decide +kernel) (fun _ => 0) (fun _ => 0) rfl rfl rfl) hS.2.2 dX16_walk_42 hlk

set_option maxHeartbeats 4000000 in
set_option maxRecDepth 100000 in
/-- Minestrata.whereIs -/
theorem m319 (l : Launch) (hst : l.stackTraces = false) (dC : Nat → ClassId) (dI : Nat → Nat → Nat) (g : Nat → Nat) (a0 a1 a2 a3 a4 a5 a6 a7 a8 a9 a10 : Nat) (s1 : Int32) (sz : Nat) :
    vx_Met l Y127 (Cond.code Y127 prog_1_method_21_code 2 (Option.some Jvm.ClassFile.FieldType.int) :: AW) ({ frames := 6, cells := 1, slots := 6, locals := 81 } : Room) (nP dC dI g [.ref a0, .int s1] [(a0, .inr (12, [.ref a1, .ref a2, .ref a3, .ref a4, .ref a5, .ref a6, .ref a7, .ref a8, .null, .ref a9, .ref a10, .int (0), .int (100), .int (0), .int (0), .int (-1), .long (0), .int (1)]))] sz) (fun _ _ _ _ => False) (nX "java/lang/IndexOutOfBoundsException" (va_A [(a0, .inr (12, [.ref a1, .ref a2, .ref a3, .ref a4, .ref a5, .ref a6, .ref a7, .ref a8, .null, .ref a9, .ref a10, .int (0), .int (100), .int (0), .int (0), .int (-1), .long (0), .int (1)]))] sz)) 1 6 (va_A [(a0, .inr (12, [.ref a1, .ref a2, .ref a3, .ref a4, .ref a5, .ref a6, .ref a7, .ref a8, .null, .ref a9, .ref a10, .int (0), .int (100), .int (0), .int (0), .int (-1), .long (0), .int (1)]))] sz) := by
  refine n_metX (by decide +kernel) (Nat.le_of_ble_eq_true rfl) "java/lang/IndexOutOfBoundsException" ?_
  intro p e s m below meth c A ls ⟨hx, hb, hr, hml, hown, hts, hlk, hnm⟩ hout hE hP hD hA hl
  have hown : s.vm.findClass "Minestrata" = some m.cls := hown
  have hK := hE.1
  have hS : va_S A s.heap s.heap [] := va_S.rf
  have hl : lv_has ls 2 [(0, .ref a0), (1, .int s1)] := hl
  have hlsz : ls.size = c.maxLocals := hl.1.trans hml.symm
  refine lv_aload_n hx hb dX11_whereIs_0 rfl (lv_at hl 0 rfl) ?_
  refine lv_iload_n hx hb dX11_whereIs_1 rfl (lv_at hl 1 rfl) ?_
  have hX : nCx p s m _ c prog_1_method_21_code 2 "Minestrata" dC dI g A [(a0, .inr (12, [.ref a1, .ref a2, .ref a3, .ref a4, .ref a5, .ref a6, .ref a7, .ref a8, .null, .ref a9, .ref a10, .int (0), .int (100), .int (0), .int (0), .int (-1), .long (0), .int (1)]))] _ _ := ⟨⟨hx, hb, hml, hown, hts⟩, hE, hS, hA, hP, hD⟩
  refine n_call (wr := []) hX (n_runV (n := 1) (wc := [(a0, .inr (12, [.ref a1, .ref a2, .ref a3, .ref a4, .ref a5, .ref a6, .ref a7, .ref a8, .null, .ref a9, .ref a10, .int (0), .int (100), .int (0), .int (0), .int (-1), .long (0), .int (1)]))]) (As := [.int s1]) (rest := []) hX (m314 l hst dC dI g a0 a1 a2 a3 a4 a5 a6 a7 a8 a9 a10 s1 _) [0] rfl (by decide +kernel) 0 (ci := 12) rfl (T := TX11) (N := 18) (C := "Minestrata") rfl q1207 q1209 q31 q71 q1210 (by decide +kernel) ⟨(Nat.le_of_ble_eq_true rfl), (Nat.le_of_ble_eq_true rfl)⟩ ⟨(Nat.le_of_ble_eq_true rfl), (Nat.le_of_ble_eq_true rfl)⟩ hl.1 rfl rfl (Nat.le_of_ble_eq_true rfl) dX11_whereIs_2) [0] [] rfl rfl (by decide +kernel) (by decide +kernel) (fun f1 r2 H locs hP hD hS => ?_)
  have hP : va_P (dC, dI) CL [(a0, .inr (12, [.ref a1, .ref a2, .ref a3, .ref a4, .ref a5, .ref a6, .ref a7, .ref a8, .null, .ref a9, .ref a10, .int (0), .int (100), .int (0), .int (0), .int (-1), .long (0), .int (1)]))] _ := hP
  have hD : va_D A [(a0, .inr (12, [.ref a1, .ref a2, .ref a3, .ref a4, .ref a5, .ref a6, .ref a7, .ref a8, .null, .ref a9, .ref a10, .int (0), .int (100), .int (0), .int (0), .int (-1), .long (0), .int (1)]))] := hD
  refine W.widen (k := 0) (n := 0) (Nat.le_of_ble_eq_true rfl) (Nat.le_of_ble_eq_true rfl) ?_
  refine W.eq (g2 := F0 m 5 ls [.int (0)]) rfl ?_
  refine lv_if_ne (tgt := 16) hx hb dX11_whereIs_5 (by decide +kernel) (fun h => absurd (by decide +kernel) h) (fun _ => ?_)
  exact n_throw hx hb hst hown hts hE hS (names := ["java/lang/RuntimeException", "java/lang/Exception"]) (by decide +kernel) (by decide +kernel) q948 q91 hat1p hat1a hat1 hat1g (hl.1.trans hml.symm) dX11_whereIs_8 dX11_whereIs_11 dX11_whereIs_12 dX11_whereIs_15 hout (Nat.le_of_ble_eq_true rfl) (Nat.le_of_ble_eq_true rfl) (Nat.le_of_ble_eq_true rfl) (Nat.le_of_ble_eq_true rfl) hlk (Nat.le_of_ble_eq_true rfl) (Nat.le_of_ble_eq_true rfl)

set_option maxHeartbeats 4000000 in
set_option maxRecDepth 100000 in
/-- MinestrataLaw.whereIs -/
theorem m320 (l : Launch) (hst : l.stackTraces = false) (dC : Nat → ClassId) (dI : Nat → Nat → Nat) (g : Nat → Nat) (a0 a1 a2 a3 a4 a5 a6 a7 a8 a9 a10 a11 : Nat) (s1 : Int32) (sz : Nat) :
    Met l Y126 (Cond.codeWith Y126 method_21_code 4 (Option.some Jvm.ClassFile.FieldType.int) [((0 : Nat), (9 : Nat), (12 : Nat), (21 : Nat))] :: AW) ({ frames := 7, cells := 1, slots := 6, locals := 102 } : Room) (nP dC dI g [.ref a0, .int s1, .ref a1] [(a0, .inr (12, [.ref a2, .ref a3, .ref a4, .ref a5, .ref a6, .ref a7, .ref a8, .ref a9, .null, .ref a10, .ref a11, .int (0), .int (100), .int (0), .int (0), .int (-1), .long (0), .int (1)]))] sz) (nQ dC dI (fun f => some (.int (1))) (fun f r => []) (va_A [(a0, .inr (12, [.ref a2, .ref a3, .ref a4, .ref a5, .ref a6, .ref a7, .ref a8, .ref a9, .null, .ref a10, .ref a11, .int (0), .int (100), .int (0), .int (0), .int (-1), .long (0), .int (1)]))] sz)) 1 6 (va_A [(a0, .inr (12, [.ref a2, .ref a3, .ref a4, .ref a5, .ref a6, .ref a7, .ref a8, .ref a9, .null, .ref a10, .ref a11, .int (0), .int (100), .int (0), .int (0), .int (-1), .long (0), .int (1)]))] sz) := by
  refine n_metW (by decide +kernel) q1214 (Nat.le_of_ble_eq_true rfl) (fun f => some (.int (1))) (fun f r => []) ?_
  intro p e s m below meth c A ls ⟨hx, hb, hr, hml, hown, hts, hlk, hnm⟩ htab hE hP hD hA hl
  have hown : s.vm.findClass "MinestrataLaw" = some m.cls := hown
  have hK := hE.1
  have hS : va_S A s.heap s.heap [] := va_S.rf
  have hl : lv_has ls 4 [(0, .ref a0), (1, .int s1), (2, .ref a1)] := hl
  refine lv_aload_n hx hb dL_whereIs_0 rfl (lv_at hl 2 rfl) ?_
  refine lv_iconst (v := (0)) hx hb dL_whereIs_1 (by decide +kernel) ?_
  refine lv_aload_n hx hb dL_whereIs_2 rfl (lv_at hl 0 rfl) ?_
  refine lv_iload_n hx hb dL_whereIs_3 rfl (lv_at hl 1 rfl) ?_
  have hX : nCx p s m _ c method_21_code 4 "MinestrataLaw" dC dI g A [(a0, .inr (12, [.ref a2, .ref a3, .ref a4, .ref a5, .ref a6, .ref a7, .ref a8, .ref a9, .null, .ref a10, .ref a11, .int (0), .int (100), .int (0), .int (0), .int (-1), .long (0), .int (1)]))] _ _ := ⟨⟨hx, hb, hml, hown, hts⟩, hE, hS, hA, hP, hD⟩
  refine n_callX (E0 := "java/lang/IndexOutOfBoundsException") hX (n_runVX (n := 1) (wc := [(a0, .inr (12, [.ref a2, .ref a3, .ref a4, .ref a5, .ref a6, .ref a7, .ref a8, .ref a9, .null, .ref a10, .ref a11, .int (0), .int (100), .int (0), .int (0), .int (-1), .long (0), .int (1)]))]) (As := [.int s1]) (rest := [.int (0), .ref a1]) hX (m319 l hst dC dI g a0 a2 a3 a4 a5 a6 a7 a8 a9 a10 a11 s1 _) [0] rfl (by decide +kernel) 0 (ci := 12) rfl (T := TX11) (N := 18) (C := "Minestrata") rfl q1215 q1216 q1217 q71 q1218 (by decide +kernel) ⟨(Nat.le_of_ble_eq_true rfl), (Nat.le_of_ble_eq_true rfl)⟩ ⟨(Nat.le_of_ble_eq_true rfl), (Nat.le_of_ble_eq_true rfl)⟩ hl.1 rfl rfl (Nat.le_of_ble_eq_true rfl) dL_whereIs_4) [0] rfl (fun ce q9 H locs hS hce hcv hcl => ?_)
  refine n_catch (E := "java/lang/IndexOutOfBoundsException") (name := "java/lang/IndexOutOfBoundsException") hE hts hown htab [] ⟨0, 9, 12, 21⟩ [] rfl (fun z hz => nomatch hz) (by decide +kernel) (by decide) q907 x950 hce hcv hcl ?_
  refine W.widen (k := 1) (n := 6) (Nat.le_of_ble_eq_true rfl) (Nat.le_of_ble_eq_true rfl) ?_
  refine W.eq (g2 := F0 m 12 ls [.ref q9]) rfl ?_
  refine lv_astore_n (lv' := [(3, .ref q9), (0, .ref a0), (1, .int s1), (2, .ref a1)]) hx hb dL_whereIs_12 rfl hl (by decide) rfl (fun ls hl => ?_)
  refine lv_iconst (v := (1)) hx hb dL_whereIs_13 (by decide +kernel) ?_
  refine W.widen (k := 1) (n := 6) (Nat.le_of_ble_eq_true rfl) (Nat.le_of_ble_eq_true rfl) ?_
  exact W.iret hx hb hr (n_end0 hS (fun _ => 0) rfl rfl) hS.2.2 dL_whereIs_14 hlk

set_option maxHeartbeats 4000000 in
set_option maxRecDepth 100000 in
/-- MinestrataModel.whereIs -/
theorem m321 (l : Launch) (hst : l.stackTraces = false) (dC : Nat → ClassId) (dI : Nat → Nat → Nat) (g : Nat → Nat) (a0 a1 a2 a3 a4 a5 a6 a7 a8 a9 a10 a11 a12 : Nat) (s1 : Int32) (sz : Nat) :
    Met l Y128 (Cond.code Y128 prog_14_method_33_code 2 (Option.some Jvm.ClassFile.FieldType.int) :: AW) ({ frames := 2, cells := 0, slots := 0, locals := 43 } : Room) (nP dC dI g [.ref a0, .int s1] [(a0, .inr (15, [.int (0), .int (0), .int (100), .int (0), .int (0), .ref a1, .ref a2, .ref a3, .ref a4, .ref a5, .ref a6, .ref a7, .ref a8, .ref a9, .ref a10, .ref a11, .null, .int (-1), .ref a12, .long (0)])), (a11, .inr (1, [.int (0), .ref (g 21), .int (0)]))] sz) (nQ dC dI (fun f => some (.int (0))) (fun f r => [(a0, .inr (15, [.int (1), .int (0), .int (100), .int (0), .int (0), .ref a1, .ref a2, .ref a3, .ref a4, .ref a5, .ref a6, .ref a7, .ref a8, .ref a9, .ref a10, .ref a11, .null, .int (-1), .ref a12, .long (0)])), (a11, .inr (1, [.int (0), .ref (g 21), .int (0)]))]) (va_A [(a0, .inr (15, [.int (0), .int (0), .int (100), .int (0), .int (0), .ref a1, .ref a2, .ref a3, .ref a4, .ref a5, .ref a6, .ref a7, .ref a8, .ref a9, .ref a10, .ref a11, .null, .int (-1), .ref a12, .long (0)])), (a11, .inr (1, [.int (0), .ref (g 21), .int (0)]))] sz)) 0 0 (va_A [(a0, .inr (15, [.int (0), .int (0), .int (100), .int (0), .int (0), .ref a1, .ref a2, .ref a3, .ref a4, .ref a5, .ref a6, .ref a7, .ref a8, .ref a9, .ref a10, .ref a11, .null, .int (-1), .ref a12, .long (0)])), (a11, .inr (1, [.int (0), .ref (g 21), .int (0)]))] sz) := by
  refine n_met (by decide +kernel) (Nat.le_of_ble_eq_true rfl) (fun f => some (.int (0))) (fun f r => [(a0, .inr (15, [.int (1), .int (0), .int (100), .int (0), .int (0), .ref a1, .ref a2, .ref a3, .ref a4, .ref a5, .ref a6, .ref a7, .ref a8, .ref a9, .ref a10, .ref a11, .null, .int (-1), .ref a12, .long (0)])), (a11, .inr (1, [.int (0), .ref (g 21), .int (0)]))]) ?_
  intro p e s m below meth c A ls ⟨hx, hb, hr, hml, hown, hts, hlk, hnm⟩ hE hP hD hA hl
  have hown : s.vm.findClass "MinestrataModel" = some m.cls := hown
  have hK := hE.1
  have hS : va_S A s.heap s.heap [] := va_S.rf
  have hl : lv_has ls 2 [(0, .ref a0), (1, .int s1)] := hl
  refine lv_aload_n hx hb dX16_whereIs_0 rfl (lv_at hl 0 rfl) ?_
  refine lv_iload_n hx hb dX16_whereIs_1 rfl (lv_at hl 1 rfl) ?_
  have hX : nCx p s m _ c prog_14_method_33_code 2 "MinestrataModel" dC dI g A [(a0, .inr (15, [.int (0), .int (0), .int (100), .int (0), .int (0), .ref a1, .ref a2, .ref a3, .ref a4, .ref a5, .ref a6, .ref a7, .ref a8, .ref a9, .ref a10, .ref a11, .null, .int (-1), .ref a12, .long (0)])), (a11, .inr (1, [.int (0), .ref (g 21), .int (0)]))] _ _ := ⟨⟨hx, hb, hml, hown, hts⟩, hE, hS, hA, hP, hD⟩
  refine n_call (wr := []) hX (n_runV (n := 1) (wc := [(a0, .inr (15, [.int (0), .int (0), .int (100), .int (0), .int (0), .ref a1, .ref a2, .ref a3, .ref a4, .ref a5, .ref a6, .ref a7, .ref a8, .ref a9, .ref a10, .ref a11, .null, .int (-1), .ref a12, .long (0)])), (a11, .inr (1, [.int (0), .ref (g 21), .int (0)]))]) (As := [.int s1]) (rest := []) hX (m317 l hst dC dI g a0 a1 a2 a3 a4 a5 a6 a7 a8 a9 a10 a11 a12 s1 _) [0, 1] rfl (by decide +kernel) 0 (ci := 15) rfl (T := TX16) (N := 20) (C := "MinestrataModel") rfl q2078 q2080 q62 q82 q2081 (by decide +kernel) ⟨(Nat.le_of_ble_eq_true rfl), (Nat.le_of_ble_eq_true rfl)⟩ ⟨(Nat.le_of_ble_eq_true rfl), (Nat.le_of_ble_eq_true rfl)⟩ hl.1 rfl rfl (Nat.le_of_ble_eq_true rfl) dX16_whereIs_2) [0, 1] [] rfl rfl (by decide +kernel) (by decide +kernel) (fun f1 r2 H locs hP hD hS => ?_)
  have hP : va_P (dC, dI) CL [(a0, .inr (15, [.int (0), .int (0), .int (100), .int (0), .int (0), .ref a1, .ref a2, .ref a3, .ref a4, .ref a5, .ref a6, .ref a7, .ref a8, .ref a9, .ref a10, .ref a11, .null, .int (-1), .ref a12, .long (0)])), (a11, .inr (1, [.int (0), .ref (g 21), .int (0)]))] _ := hP
  have hD : va_D A [(a0, .inr (15, [.int (0), .int (0), .int (100), .int (0), .int (0), .ref a1, .ref a2, .ref a3, .ref a4, .ref a5, .ref a6, .ref a7, .ref a8, .ref a9, .ref a10, .ref a11, .null, .int (-1), .ref a12, .long (0)])), (a11, .inr (1, [.int (0), .ref (g 21), .int (0)]))] := hD
  refine W.widen (k := 0) (n := 0) (Nat.le_of_ble_eq_true rfl) (Nat.le_of_ble_eq_true rfl) ?_
  refine W.eq (g2 := F0 m 5 ls [.int (0)]) rfl ?_
  refine lv_if_eq (tgt := 29) hx hb dX16_whereIs_5 (by decide +kernel) (fun _ => ?_) (fun h => absurd (by decide +kernel) h)
  refine lv_aload_n hx hb dX16_whereIs_29 rfl (lv_at hl 0 rfl) ?_
  refine lv_iconst (v := (1)) hx hb dX16_whereIs_30 (by decide +kernel) ?_
  have hX : nCx p s m _ c prog_14_method_33_code 2 "MinestrataModel" dC dI g A [(a0, .inr (15, [.int (0), .int (0), .int (100), .int (0), .int (0), .ref a1, .ref a2, .ref a3, .ref a4, .ref a5, .ref a6, .ref a7, .ref a8, .ref a9, .ref a10, .ref a11, .null, .int (-1), .ref a12, .long (0)])), (a11, .inr (1, [.int (0), .ref (g 21), .int (0)]))] _ _ := ⟨⟨hx, hb, hml, hown, hts⟩, hE, hS, hA, hP, hD⟩
  refine n_call (wr := [(a11, .inr (1, [.int (0), .ref (g 21), .int (0)]))]) hX (n_runV (n := 1) (wc := [(a0, .inr (15, [.int (0), .int (0), .int (100), .int (0), .int (0), .ref a1, .ref a2, .ref a3, .ref a4, .ref a5, .ref a6, .ref a7, .ref a8, .ref a9, .ref a10, .ref a11, .null, .int (-1), .ref a12, .long (0)]))]) (As := [.int (1)]) (rest := []) hX (m31 l hst dC dI g a0 a1 a2 a3 a4 a5 a6 a7 a8 a9 a10 a11 a12 _) [0] rfl (by decide +kernel) 0 (ci := 15) rfl (T := TX16) (N := 20) (C := "MinestrataModel") rfl q1506 q1508 q39 q82 q1509 (by decide +kernel) ⟨(Nat.le_of_ble_eq_true rfl), (Nat.le_of_ble_eq_true rfl)⟩ ⟨(Nat.le_of_ble_eq_true rfl), (Nat.le_of_ble_eq_true rfl)⟩ hl.1 rfl rfl (Nat.le_of_ble_eq_true rfl) dX16_whereIs_31) [0] [1] rfl rfl (by decide +kernel) (by decide +kernel) (fun f3 r4 H locs hP hD hS => ?_)
  have hP : va_P (dC, dI) CL [(a11, .inr (1, [.int (0), .ref (g 21), .int (0)])), (a0, .inr (15, [.int (1), .int (0), .int (100), .int (0), .int (0), .ref a1, .ref a2, .ref a3, .ref a4, .ref a5, .ref a6, .ref a7, .ref a8, .ref a9, .ref a10, .ref a11, .null, .int (-1), .ref a12, .long (0)]))] _ := hP
  have hD : va_D A [(a11, .inr (1, [.int (0), .ref (g 21), .int (0)])), (a0, .inr (15, [.int (1), .int (0), .int (100), .int (0), .int (0), .ref a1, .ref a2, .ref a3, .ref a4, .ref a5, .ref a6, .ref a7, .ref a8, .ref a9, .ref a10, .ref a11, .null, .int (-1), .ref a12, .long (0)]))] := hD
  refine W.widen (k := 0) (n := 0) (Nat.le_of_ble_eq_true rfl) (Nat.le_of_ble_eq_true rfl) ?_
  refine W.eq (g2 := F0 m 34 ls [.int (0)]) rfl ?_
  refine W.widen (k := 0) (n := 0) (Nat.le_of_ble_eq_true rfl) (Nat.le_of_ble_eq_true rfl) ?_
  exact W.iret hx hb hr (n_end hS hP hD [1, 0] (by decide +kernel) (fun _ => 0) (fun _ => 0) rfl rfl rfl) hS.2.2 dX16_whereIs_34 hlk

set_option maxHeartbeats 4000000 in
set_option maxRecDepth 100000 in
/-- Minestrata.isSafe -/
theorem m322 (l : Launch) (hst : l.stackTraces = false) (dC : Nat → ClassId) (dI : Nat → Nat → Nat) (g : Nat → Nat) (a0 a1 a2 a3 a4 a5 a6 a7 a8 a9 a10 : Nat) (s1 : Int32) (sz : Nat) :
    vx_Met l Y130 (Cond.code Y130 prog_1_method_22_code 2 (Option.some Jvm.ClassFile.FieldType.boolean) :: AW) ({ frames := 6, cells := 1, slots := 6, locals := 81 } : Room) (nP dC dI g [.ref a0, .int s1] [(a0, .inr (12, [.ref a1, .ref a2, .ref a3, .ref a4, .ref a5, .ref a6, .ref a7, .ref a8, .null, .ref a9, .ref a10, .int (0), .int (100), .int (0), .int (0), .int (-1), .long (0), .int (1)]))] sz) (fun _ _ _ _ => False) (nX "java/lang/IndexOutOfBoundsException" (va_A [(a0, .inr (12, [.ref a1, .ref a2, .ref a3, .ref a4, .ref a5, .ref a6, .ref a7, .ref a8, .null, .ref a9, .ref a10, .int (0), .int (100), .int (0), .int (0), .int (-1), .long (0), .int (1)]))] sz)) 1 6 (va_A [(a0, .inr (12, [.ref a1, .ref a2, .ref a3, .ref a4, .ref a5, .ref a6, .ref a7, .ref a8, .null, .ref a9, .ref a10, .int (0), .int (100), .int (0), .int (0), .int (-1), .long (0), .int (1)]))] sz) := by
  refine n_metX (by decide +kernel) (Nat.le_of_ble_eq_true rfl) "java/lang/IndexOutOfBoundsException" ?_
  intro p e s m below meth c A ls ⟨hx, hb, hr, hml, hown, hts, hlk, hnm⟩ hout hE hP hD hA hl
  have hown : s.vm.findClass "Minestrata" = some m.cls := hown
  have hK := hE.1
  have hS : va_S A s.heap s.heap [] := va_S.rf
  have hl : lv_has ls 2 [(0, .ref a0), (1, .int s1)] := hl
  have hlsz : ls.size = c.maxLocals := hl.1.trans hml.symm
  refine lv_aload_n hx hb dX11_isSafe_0 rfl (lv_at hl 0 rfl) ?_
  refine lv_iload_n hx hb dX11_isSafe_1 rfl (lv_at hl 1 rfl) ?_
  have hX : nCx p s m _ c prog_1_method_22_code 2 "Minestrata" dC dI g A [(a0, .inr (12, [.ref a1, .ref a2, .ref a3, .ref a4, .ref a5, .ref a6, .ref a7, .ref a8, .null, .ref a9, .ref a10, .int (0), .int (100), .int (0), .int (0), .int (-1), .long (0), .int (1)]))] _ _ := ⟨⟨hx, hb, hml, hown, hts⟩, hE, hS, hA, hP, hD⟩
  refine n_call (wr := []) hX (n_runV (n := 1) (wc := [(a0, .inr (12, [.ref a1, .ref a2, .ref a3, .ref a4, .ref a5, .ref a6, .ref a7, .ref a8, .null, .ref a9, .ref a10, .int (0), .int (100), .int (0), .int (0), .int (-1), .long (0), .int (1)]))]) (As := [.int s1]) (rest := []) hX (m314 l hst dC dI g a0 a1 a2 a3 a4 a5 a6 a7 a8 a9 a10 s1 _) [0] rfl (by decide +kernel) 0 (ci := 12) rfl (T := TX11) (N := 18) (C := "Minestrata") rfl q1207 q1209 q31 q71 q1210 (by decide +kernel) ⟨(Nat.le_of_ble_eq_true rfl), (Nat.le_of_ble_eq_true rfl)⟩ ⟨(Nat.le_of_ble_eq_true rfl), (Nat.le_of_ble_eq_true rfl)⟩ hl.1 rfl rfl (Nat.le_of_ble_eq_true rfl) dX11_isSafe_2) [0] [] rfl rfl (by decide +kernel) (by decide +kernel) (fun f1 r2 H locs hP hD hS => ?_)
  have hP : va_P (dC, dI) CL [(a0, .inr (12, [.ref a1, .ref a2, .ref a3, .ref a4, .ref a5, .ref a6, .ref a7, .ref a8, .null, .ref a9, .ref a10, .int (0), .int (100), .int (0), .int (0), .int (-1), .long (0), .int (1)]))] _ := hP
  have hD : va_D A [(a0, .inr (12, [.ref a1, .ref a2, .ref a3, .ref a4, .ref a5, .ref a6, .ref a7, .ref a8, .null, .ref a9, .ref a10, .int (0), .int (100), .int (0), .int (0), .int (-1), .long (0), .int (1)]))] := hD
  refine W.widen (k := 0) (n := 0) (Nat.le_of_ble_eq_true rfl) (Nat.le_of_ble_eq_true rfl) ?_
  refine W.eq (g2 := F0 m 5 ls [.int (0)]) rfl ?_
  refine lv_if_ne (tgt := 16) hx hb dX11_isSafe_5 (by decide +kernel) (fun h => absurd (by decide +kernel) h) (fun _ => ?_)
  exact n_throw hx hb hst hown hts hE hS (names := ["java/lang/RuntimeException", "java/lang/Exception"]) (by decide +kernel) (by decide +kernel) q948 q91 hat1p hat1a hat1 hat1g (hl.1.trans hml.symm) dX11_isSafe_8 dX11_isSafe_11 dX11_isSafe_12 dX11_isSafe_15 hout (Nat.le_of_ble_eq_true rfl) (Nat.le_of_ble_eq_true rfl) (Nat.le_of_ble_eq_true rfl) (Nat.le_of_ble_eq_true rfl) hlk (Nat.le_of_ble_eq_true rfl) (Nat.le_of_ble_eq_true rfl)

set_option maxHeartbeats 4000000 in
set_option maxRecDepth 100000 in
/-- MinestrataLaw.isSafe -/
theorem m323 (l : Launch) (hst : l.stackTraces = false) (dC : Nat → ClassId) (dI : Nat → Nat → Nat) (g : Nat → Nat) (a0 a1 a2 a3 a4 a5 a6 a7 a8 a9 a10 a11 : Nat) (s1 : Int32) (sz : Nat) :
    Met l Y129 (Cond.codeWith Y129 method_22_code 4 (Option.some Jvm.ClassFile.FieldType.int) [((0 : Nat), (16 : Nat), (19 : Nat), (21 : Nat))] :: AW) ({ frames := 7, cells := 1, slots := 6, locals := 102 } : Room) (nP dC dI g [.ref a0, .int s1, .ref a1] [(a0, .inr (12, [.ref a2, .ref a3, .ref a4, .ref a5, .ref a6, .ref a7, .ref a8, .ref a9, .null, .ref a10, .ref a11, .int (0), .int (100), .int (0), .int (0), .int (-1), .long (0), .int (1)]))] sz) (nQ dC dI (fun f => some (.int (1))) (fun f r => []) (va_A [(a0, .inr (12, [.ref a2, .ref a3, .ref a4, .ref a5, .ref a6, .ref a7, .ref a8, .ref a9, .null, .ref a10, .ref a11, .int (0), .int (100), .int (0), .int (0), .int (-1), .long (0), .int (1)]))] sz)) 1 6 (va_A [(a0, .inr (12, [.ref a2, .ref a3, .ref a4, .ref a5, .ref a6, .ref a7, .ref a8, .ref a9, .null, .ref a10, .ref a11, .int (0), .int (100), .int (0), .int (0), .int (-1), .long (0), .int (1)]))] sz) := by
  refine n_metW (by decide +kernel) q1221 (Nat.le_of_ble_eq_true rfl) (fun f => some (.int (1))) (fun f r => []) ?_
  intro p e s m below meth c A ls ⟨hx, hb, hr, hml, hown, hts, hlk, hnm⟩ htab hE hP hD hA hl
  have hown : s.vm.findClass "MinestrataLaw" = some m.cls := hown
  have hK := hE.1
  have hS : va_S A s.heap s.heap [] := va_S.rf
  have hl : lv_has ls 4 [(0, .ref a0), (1, .int s1), (2, .ref a1)] := hl
  refine lv_aload_n hx hb dL_isSafe_0 rfl (lv_at hl 2 rfl) ?_
  refine lv_iconst (v := (0)) hx hb dL_isSafe_1 (by decide +kernel) ?_
  refine lv_aload_n hx hb dL_isSafe_2 rfl (lv_at hl 0 rfl) ?_
  refine lv_iload_n hx hb dL_isSafe_3 rfl (lv_at hl 1 rfl) ?_
  have hX : nCx p s m _ c method_22_code 4 "MinestrataLaw" dC dI g A [(a0, .inr (12, [.ref a2, .ref a3, .ref a4, .ref a5, .ref a6, .ref a7, .ref a8, .ref a9, .null, .ref a10, .ref a11, .int (0), .int (100), .int (0), .int (0), .int (-1), .long (0), .int (1)]))] _ _ := ⟨⟨hx, hb, hml, hown, hts⟩, hE, hS, hA, hP, hD⟩
  refine n_callX (E0 := "java/lang/IndexOutOfBoundsException") hX (n_runVX (n := 1) (wc := [(a0, .inr (12, [.ref a2, .ref a3, .ref a4, .ref a5, .ref a6, .ref a7, .ref a8, .ref a9, .null, .ref a10, .ref a11, .int (0), .int (100), .int (0), .int (0), .int (-1), .long (0), .int (1)]))]) (As := [.int s1]) (rest := [.int (0), .ref a1]) hX (m322 l hst dC dI g a0 a2 a3 a4 a5 a6 a7 a8 a9 a10 a11 s1 _) [0] rfl (by decide +kernel) 0 (ci := 12) rfl (T := TX11) (N := 18) (C := "Minestrata") rfl q1222 q1223 q1224 q71 q1225 (by decide +kernel) ⟨(Nat.le_of_ble_eq_true rfl), (Nat.le_of_ble_eq_true rfl)⟩ ⟨(Nat.le_of_ble_eq_true rfl), (Nat.le_of_ble_eq_true rfl)⟩ hl.1 rfl rfl (Nat.le_of_ble_eq_true rfl) dL_isSafe_4) [0] rfl (fun ce q9 H locs hS hce hcv hcl => ?_)
  refine n_catch (E := "java/lang/IndexOutOfBoundsException") (name := "java/lang/IndexOutOfBoundsException") hE hts hown htab [] ⟨0, 16, 19, 21⟩ [] rfl (fun z hz => nomatch hz) (by decide +kernel) (by decide) q907 x950 hce hcv hcl ?_
  refine W.widen (k := 1) (n := 6) (Nat.le_of_ble_eq_true rfl) (Nat.le_of_ble_eq_true rfl) ?_
  refine W.eq (g2 := F0 m 19 ls [.ref q9]) rfl ?_
  refine lv_astore_n (lv' := [(3, .ref q9), (0, .ref a0), (1, .int s1), (2, .ref a1)]) hx hb dL_isSafe_19 rfl hl (by decide) rfl (fun ls hl => ?_)
  refine lv_iconst (v := (1)) hx hb dL_isSafe_20 (by decide +kernel) ?_
  refine W.widen (k := 1) (n := 6) (Nat.le_of_ble_eq_true rfl) (Nat.le_of_ble_eq_true rfl) ?_
  exact W.iret hx hb hr (n_end0 hS (fun _ => 0) rfl rfl) hS.2.2 dL_isSafe_21 hlk

set_option maxHeartbeats 4000000 in
set_option maxRecDepth 100000 in
/-- MinestrataModel.isSafe -/
theorem m324 (l : Launch) (hst : l.stackTraces = false) (dC : Nat → ClassId) (dI : Nat → Nat → Nat) (g : Nat → Nat) (a0 a1 a2 a3 a4 a5 a6 a7 a8 a9 a10 a11 a12 : Nat) (s1 : Int32) (sz : Nat) :
    Met l Y131 (Cond.code Y131 prog_14_method_34_code 2 (Option.some Jvm.ClassFile.FieldType.boolean) :: AW) ({ frames := 2, cells := 0, slots := 0, locals := 43 } : Room) (nP dC dI g [.ref a0, .int s1] [(a0, .inr (15, [.int (0), .int (0), .int (100), .int (0), .int (0), .ref a1, .ref a2, .ref a3, .ref a4, .ref a5, .ref a6, .ref a7, .ref a8, .ref a9, .ref a10, .ref a11, .null, .int (-1), .ref a12, .long (0)])), (a11, .inr (1, [.int (0), .ref (g 21), .int (0)]))] sz) (nQ dC dI (fun f => some (.int (0))) (fun f r => [(a0, .inr (15, [.int (1), .int (0), .int (100), .int (0), .int (0), .ref a1, .ref a2, .ref a3, .ref a4, .ref a5, .ref a6, .ref a7, .ref a8, .ref a9, .ref a10, .ref a11, .null, .int (-1), .ref a12, .long (0)])), (a11, .inr (1, [.int (0), .ref (g 21), .int (0)]))]) (va_A [(a0, .inr (15, [.int (0), .int (0), .int (100), .int (0), .int (0), .ref a1, .ref a2, .ref a3, .ref a4, .ref a5, .ref a6, .ref a7, .ref a8, .ref a9, .ref a10, .ref a11, .null, .int (-1), .ref a12, .long (0)])), (a11, .inr (1, [.int (0), .ref (g 21), .int (0)]))] sz)) 0 0 (va_A [(a0, .inr (15, [.int (0), .int (0), .int (100), .int (0), .int (0), .ref a1, .ref a2, .ref a3, .ref a4, .ref a5, .ref a6, .ref a7, .ref a8, .ref a9, .ref a10, .ref a11, .null, .int (-1), .ref a12, .long (0)])), (a11, .inr (1, [.int (0), .ref (g 21), .int (0)]))] sz) := by
  refine n_met (by decide +kernel) (Nat.le_of_ble_eq_true rfl) (fun f => some (.int (0))) (fun f r => [(a0, .inr (15, [.int (1), .int (0), .int (100), .int (0), .int (0), .ref a1, .ref a2, .ref a3, .ref a4, .ref a5, .ref a6, .ref a7, .ref a8, .ref a9, .ref a10, .ref a11, .null, .int (-1), .ref a12, .long (0)])), (a11, .inr (1, [.int (0), .ref (g 21), .int (0)]))]) ?_
  intro p e s m below meth c A ls ⟨hx, hb, hr, hml, hown, hts, hlk, hnm⟩ hE hP hD hA hl
  have hown : s.vm.findClass "MinestrataModel" = some m.cls := hown
  have hK := hE.1
  have hS : va_S A s.heap s.heap [] := va_S.rf
  have hl : lv_has ls 2 [(0, .ref a0), (1, .int s1)] := hl
  refine lv_aload_n hx hb dX16_isSafe_0 rfl (lv_at hl 0 rfl) ?_
  refine lv_aload_n hx hb dX16_isSafe_1 rfl (lv_at hl 0 rfl) ?_
  refine lv_iload_n hx hb dX16_isSafe_2 rfl (lv_at hl 1 rfl) ?_
  have hX : nCx p s m _ c prog_14_method_34_code 2 "MinestrataModel" dC dI g A [(a0, .inr (15, [.int (0), .int (0), .int (100), .int (0), .int (0), .ref a1, .ref a2, .ref a3, .ref a4, .ref a5, .ref a6, .ref a7, .ref a8, .ref a9, .ref a10, .ref a11, .null, .int (-1), .ref a12, .long (0)])), (a11, .inr (1, [.int (0), .ref (g 21), .int (0)]))] _ _ := ⟨⟨hx, hb, hml, hown, hts⟩, hE, hS, hA, hP, hD⟩
  refine n_call (wr := []) hX (n_runV (n := 1) (wc := [(a0, .inr (15, [.int (0), .int (0), .int (100), .int (0), .int (0), .ref a1, .ref a2, .ref a3, .ref a4, .ref a5, .ref a6, .ref a7, .ref a8, .ref a9, .ref a10, .ref a11, .null, .int (-1), .ref a12, .long (0)])), (a11, .inr (1, [.int (0), .ref (g 21), .int (0)]))]) (As := [.int s1]) (rest := [.ref a0]) hX (m317 l hst dC dI g a0 a1 a2 a3 a4 a5 a6 a7 a8 a9 a10 a11 a12 s1 _) [0, 1] rfl (by decide +kernel) 0 (ci := 15) rfl (T := TX16) (N := 20) (C := "MinestrataModel") rfl q2078 q2080 q62 q82 q2081 (by decide +kernel) ⟨(Nat.le_of_ble_eq_true rfl), (Nat.le_of_ble_eq_true rfl)⟩ ⟨(Nat.le_of_ble_eq_true rfl), (Nat.le_of_ble_eq_true rfl)⟩ hl.1 rfl rfl (Nat.le_of_ble_eq_true rfl) dX16_isSafe_3) [0, 1] [] rfl rfl (by decide +kernel) (by decide +kernel) (fun f1 r2 H locs hP hD hS => ?_)
  have hP : va_P (dC, dI) CL [(a0, .inr (15, [.int (0), .int (0), .int (100), .int (0), .int (0), .ref a1, .ref a2, .ref a3, .ref a4, .ref a5, .ref a6, .ref a7, .ref a8, .ref a9, .ref a10, .ref a11, .null, .int (-1), .ref a12, .long (0)])), (a11, .inr (1, [.int (0), .ref (g 21), .int (0)]))] _ := hP
  have hD : va_D A [(a0, .inr (15, [.int (0), .int (0), .int (100), .int (0), .int (0), .ref a1, .ref a2, .ref a3, .ref a4, .ref a5, .ref a6, .ref a7, .ref a8, .ref a9, .ref a10, .ref a11, .null, .int (-1), .ref a12, .long (0)])), (a11, .inr (1, [.int (0), .ref (g 21), .int (0)]))] := hD
  refine W.widen (k := 0) (n := 0) (Nat.le_of_ble_eq_true rfl) (Nat.le_of_ble_eq_true rfl) ?_
  refine W.eq (g2 := F0 m 6 ls [.int (0), .ref a0]) rfl ?_
  refine lv_if_eq (tgt := 13) hx hb dX16_isSafe_6 (by decide +kernel) (fun _ => ?_) (fun h => absurd (by decide +kernel) h)
  refine lv_iconst (v := (1)) hx hb dX16_isSafe_13 (by decide +kernel) ?_
  refine va_put (D := (dC, dI)) (ci := 15) (v := .int (1)) (ty := .int) (C := "MinestrataModel") (T := TX16) (N := 20) hx hb hts inX16 tyX16 tyX16_ok nmX16 hown hK hP hD hS 0 rfl rfl 0 (by decide) (hts _ q1427) (fun _ h9 => h9) rfl (by decide +kernel) rfl rfl (Nat.le_of_ble_eq_true rfl) dX16_isSafe_14 (fun H locs hP hD hS => ?_)
  have hP : va_P (dC, dI) CL [(a0, .inr (15, [.int (1), .int (0), .int (100), .int (0), .int (0), .ref a1, .ref a2, .ref a3, .ref a4, .ref a5, .ref a6, .ref a7, .ref a8, .ref a9, .ref a10, .ref a11, .null, .int (-1), .ref a12, .long (0)])), (a11, .inr (1, [.int (0), .ref (g 21), .int (0)]))] _ := hP
  have hD : va_D A [(a0, .inr (15, [.int (1), .int (0), .int (100), .int (0), .int (0), .ref a1, .ref a2, .ref a3, .ref a4, .ref a5, .ref a6, .ref a7, .ref a8, .ref a9, .ref a10, .ref a11, .null, .int (-1), .ref a12, .long (0)])), (a11, .inr (1, [.int (0), .ref (g 21), .int (0)]))] := hD
  refine lv_aload_n hx hb dX16_isSafe_17 rfl (lv_at hl 0 rfl) ?_
  refine va_get (D := (dC, dI)) (ci := 15) (v := .int (1)) (C := "MinestrataModel") (T := TX16) (N := 20) hx hb hts inX16 hown hK hP 0 rfl rfl 0 (by decide) (hts _ q1427) (fun _ h9 => h9) rfl dX16_isSafe_18 ?_
  refine lv_if_ne (tgt := 49) hx hb dX16_isSafe_21 (by decide +kernel) (fun _ => ?_) (fun h => absurd h (by decide +kernel))
  refine lv_iconst (v := (0)) hx hb dX16_isSafe_49 (by decide +kernel) ?_
  refine W.widen (k := 0) (n := 0) (Nat.le_of_ble_eq_true rfl) (Nat.le_of_ble_eq_true rfl) ?_
  exact W.zret hx hb hr (by decide +kernel) (n_end hS hP hD [0, 1] (by decide +kernel) (fun _ => 0) (fun _ => 0) rfl rfl rfl) hS.2.2 dX16_isSafe_50 hlk

set_option maxHeartbeats 4000000 in
set_option maxRecDepth 100000 in
/-- Minestrata.isSafeAnew -/
theorem m325 (l : Launch) (hst : l.stackTraces = false) (dC : Nat → ClassId) (dI : Nat → Nat → Nat) (g : Nat → Nat) (a0 a1 a2 a3 a4 a5 a6 a7 a8 a9 a10 : Nat) (s1 : Int32) (sz : Nat) :
    vx_Met l Y133 (Cond.code Y133 prog_1_method_23_code 2 (Option.some Jvm.ClassFile.FieldType.boolean) :: AW) ({ frames := 6, cells := 1, slots := 6, locals := 81 } : Room) (nP dC dI g [.ref a0, .int s1] [(a0, .inr (12, [.ref a1, .ref a2, .ref a3, .ref a4, .ref a5, .ref a6, .ref a7, .ref a8, .null, .ref a9, .ref a10, .int (0), .int (100), .int (0), .int (0), .int (-1), .long (0), .int (1)]))] sz) (fun _ _ _ _ => False) (nX "java/lang/IndexOutOfBoundsException" (va_A [(a0, .inr (12, [.ref a1, .ref a2, .ref a3, .ref a4, .ref a5, .ref a6, .ref a7, .ref a8, .null, .ref a9, .ref a10, .int (0), .int (100), .int (0), .int (0), .int (-1), .long (0), .int (1)]))] sz)) 1 6 (va_A [(a0, .inr (12, [.ref a1, .ref a2, .ref a3, .ref a4, .ref a5, .ref a6, .ref a7, .ref a8, .null, .ref a9, .ref a10, .int (0), .int (100), .int (0), .int (0), .int (-1), .long (0), .int (1)]))] sz) := by
  refine n_metX (by decide +kernel) (Nat.le_of_ble_eq_true rfl) "java/lang/IndexOutOfBoundsException" ?_
  intro p e s m below meth c A ls ⟨hx, hb, hr, hml, hown, hts, hlk, hnm⟩ hout hE hP hD hA hl
  have hown : s.vm.findClass "Minestrata" = some m.cls := hown
  have hK := hE.1
  have hS : va_S A s.heap s.heap [] := va_S.rf
  have hl : lv_has ls 2 [(0, .ref a0), (1, .int s1)] := hl
  have hlsz : ls.size = c.maxLocals := hl.1.trans hml.symm
  refine lv_aload_n hx hb dX11_isSafeAnew_0 rfl (lv_at hl 0 rfl) ?_
  refine lv_iload_n hx hb dX11_isSafeAnew_1 rfl (lv_at hl 1 rfl) ?_
  have hX : nCx p s m _ c prog_1_method_23_code 2 "Minestrata" dC dI g A [(a0, .inr (12, [.ref a1, .ref a2, .ref a3, .ref a4, .ref a5, .ref a6, .ref a7, .ref a8, .null, .ref a9, .ref a10, .int (0), .int (100), .int (0), .int (0), .int (-1), .long (0), .int (1)]))] _ _ := ⟨⟨hx, hb, hml, hown, hts⟩, hE, hS, hA, hP, hD⟩
  refine n_call (wr := []) hX (n_runV (n := 1) (wc := [(a0, .inr (12, [.ref a1, .ref a2, .ref a3, .ref a4, .ref a5, .ref a6, .ref a7, .ref a8, .null, .ref a9, .ref a10, .int (0), .int (100), .int (0), .int (0), .int (-1), .long (0), .int (1)]))]) (As := [.int s1]) (rest := []) hX (m314 l hst dC dI g a0 a1 a2 a3 a4 a5 a6 a7 a8 a9 a10 s1 _) [0] rfl (by decide +kernel) 0 (ci := 12) rfl (T := TX11) (N := 18) (C := "Minestrata") rfl q1207 q1209 q31 q71 q1210 (by decide +kernel) ⟨(Nat.le_of_ble_eq_true rfl), (Nat.le_of_ble_eq_true rfl)⟩ ⟨(Nat.le_of_ble_eq_true rfl), (Nat.le_of_ble_eq_true rfl)⟩ hl.1 rfl rfl (Nat.le_of_ble_eq_true rfl) dX11_isSafeAnew_2) [0] [] rfl rfl (by decide +kernel) (by decide +kernel) (fun f1 r2 H locs hP hD hS => ?_)
  have hP : va_P (dC, dI) CL [(a0, .inr (12, [.ref a1, .ref a2, .ref a3, .ref a4, .ref a5, .ref a6, .ref a7, .ref a8, .null, .ref a9, .ref a10, .int (0), .int (100), .int (0), .int (0), .int (-1), .long (0), .int (1)]))] _ := hP
  have hD : va_D A [(a0, .inr (12, [.ref a1, .ref a2, .ref a3, .ref a4, .ref a5, .ref a6, .ref a7, .ref a8, .null, .ref a9, .ref a10, .int (0), .int (100), .int (0), .int (0), .int (-1), .long (0), .int (1)]))] := hD
  refine W.widen (k := 0) (n := 0) (Nat.le_of_ble_eq_true rfl) (Nat.le_of_ble_eq_true rfl) ?_
  refine W.eq (g2 := F0 m 5 ls [.int (0)]) rfl ?_
  refine lv_if_ne (tgt := 16) hx hb dX11_isSafeAnew_5 (by decide +kernel) (fun h => absurd (by decide +kernel) h) (fun _ => ?_)
  exact n_throw hx hb hst hown hts hE hS (names := ["java/lang/RuntimeException", "java/lang/Exception"]) (by decide +kernel) (by decide +kernel) q948 q91 hat1p hat1a hat1 hat1g (hl.1.trans hml.symm) dX11_isSafeAnew_8 dX11_isSafeAnew_11 dX11_isSafeAnew_12 dX11_isSafeAnew_15 hout (Nat.le_of_ble_eq_true rfl) (Nat.le_of_ble_eq_true rfl) (Nat.le_of_ble_eq_true rfl) (Nat.le_of_ble_eq_true rfl) hlk (Nat.le_of_ble_eq_true rfl) (Nat.le_of_ble_eq_true rfl)

set_option maxHeartbeats 4000000 in
set_option maxRecDepth 100000 in
/-- MinestrataLaw.isSafeAnew -/
theorem m326 (l : Launch) (hst : l.stackTraces = false) (dC : Nat → ClassId) (dI : Nat → Nat → Nat) (g : Nat → Nat) (a0 a1 a2 a3 a4 a5 a6 a7 a8 a9 a10 a11 : Nat) (s1 : Int32) (sz : Nat) :
    Met l Y132 (Cond.codeWith Y132 method_23_code 4 (Option.some Jvm.ClassFile.FieldType.int) [((0 : Nat), (16 : Nat), (19 : Nat), (21 : Nat))] :: AW) ({ frames := 7, cells := 1, slots := 6, locals := 102 } : Room) (nP dC dI g [.ref a0, .int s1, .ref a1] [(a0, .inr (12, [.ref a2, .ref a3, .ref a4, .ref a5, .ref a6, .ref a7, .ref a8, .ref a9, .null, .ref a10, .ref a11, .int (0), .int (100), .int (0), .int (0), .int (-1), .long (0), .int (1)]))] sz) (nQ dC dI (fun f => some (.int (1))) (fun f r => []) (va_A [(a0, .inr (12, [.ref a2, .ref a3, .ref a4, .ref a5, .ref a6, .ref a7, .ref a8, .ref a9, .null, .ref a10, .ref a11, .int (0), .int (100), .int (0), .int (0), .int (-1), .long (0), .int (1)]))] sz)) 1 6 (va_A [(a0, .inr (12, [.ref a2, .ref a3, .ref a4, .ref a5, .ref a6, .ref a7, .ref a8, .ref a9, .null, .ref a10, .ref a11, .int (0), .int (100), .int (0), .int (0), .int (-1), .long (0), .int (1)]))] sz) := by
  refine n_metW (by decide +kernel) q1228 (Nat.le_of_ble_eq_true rfl) (fun f => some (.int (1))) (fun f r => []) ?_
  intro p e s m below meth c A ls ⟨hx, hb, hr, hml, hown, hts, hlk, hnm⟩ htab hE hP hD hA hl
  have hown : s.vm.findClass "MinestrataLaw" = some m.cls := hown
  have hK := hE.1
  have hS : va_S A s.heap s.heap [] := va_S.rf
  have hl : lv_has ls 4 [(0, .ref a0), (1, .int s1), (2, .ref a1)] := hl
  refine lv_aload_n hx hb dL_isSafeAnew_0 rfl (lv_at hl 2 rfl) ?_
  refine lv_iconst (v := (0)) hx hb dL_isSafeAnew_1 (by decide +kernel) ?_
  refine lv_aload_n hx hb dL_isSafeAnew_2 rfl (lv_at hl 0 rfl) ?_
  refine lv_iload_n hx hb dL_isSafeAnew_3 rfl (lv_at hl 1 rfl) ?_
  have hX : nCx p s m _ c method_23_code 4 "MinestrataLaw" dC dI g A [(a0, .inr (12, [.ref a2, .ref a3, .ref a4, .ref a5, .ref a6, .ref a7, .ref a8, .ref a9, .null, .ref a10, .ref a11, .int (0), .int (100), .int (0), .int (0), .int (-1), .long (0), .int (1)]))] _ _ := ⟨⟨hx, hb, hml, hown, hts⟩, hE, hS, hA, hP, hD⟩
  refine n_callX (E0 := "java/lang/IndexOutOfBoundsException") hX (n_runVX (n := 1) (wc := [(a0, .inr (12, [.ref a2, .ref a3, .ref a4, .ref a5, .ref a6, .ref a7, .ref a8, .ref a9, .null, .ref a10, .ref a11, .int (0), .int (100), .int (0), .int (0), .int (-1), .long (0), .int (1)]))]) (As := [.int s1]) (rest := [.int (0), .ref a1]) hX (m325 l hst dC dI g a0 a2 a3 a4 a5 a6 a7 a8 a9 a10 a11 s1 _) [0] rfl (by decide +kernel) 0 (ci := 12) rfl (T := TX11) (N := 18) (C := "Minestrata") rfl q1229 q1230 q1231 q71 q1232 (by decide +kernel) ⟨(Nat.le_of_ble_eq_true rfl), (Nat.le_of_ble_eq_true rfl)⟩ ⟨(Nat.le_of_ble_eq_true rfl), (Nat.le_of_ble_eq_true rfl)⟩ hl.1 rfl rfl (Nat.le_of_ble_eq_true rfl) dL_isSafeAnew_4) [0] rfl (fun ce q9 H locs hS hce hcv hcl => ?_)
  refine n_catch (E := "java/lang/IndexOutOfBoundsException") (name := "java/lang/IndexOutOfBoundsException") hE hts hown htab [] ⟨0, 16, 19, 21⟩ [] rfl (fun z hz => nomatch hz) (by decide +kernel) (by decide) q907 x950 hce hcv hcl ?_
  refine W.widen (k := 1) (n := 6) (Nat.le_of_ble_eq_true rfl) (Nat.le_of_ble_eq_true rfl) ?_
  refine W.eq (g2 := F0 m 19 ls [.ref q9]) rfl ?_
  refine lv_astore_n (lv' := [(3, .ref q9), (0, .ref a0), (1, .int s1), (2, .ref a1)]) hx hb dL_isSafeAnew_19 rfl hl (by decide) rfl (fun ls hl => ?_)
  refine lv_iconst (v := (1)) hx hb dL_isSafeAnew_20 (by decide +kernel) ?_
  refine W.widen (k := 1) (n := 6) (Nat.le_of_ble_eq_true rfl) (Nat.le_of_ble_eq_true rfl) ?_
  exact W.iret hx hb hr (n_end0 hS (fun _ => 0) rfl rfl) hS.2.2 dL_isSafeAnew_21 hlk

set_option maxHeartbeats 4000000 in
set_option maxRecDepth 100000 in
/-- MinestrataModel.isSafeAnew -/
theorem m327 (l : Launch) (hst : l.stackTraces = false) (dC : Nat → ClassId) (dI : Nat → Nat → Nat) (g : Nat → Nat) (a0 a1 a2 a3 a4 a5 a6 a7 a8 a9 a10 a11 a12 : Nat) (s1 : Int32) (sz : Nat) :
    Met l Y134 (Cond.code Y134 prog_14_method_35_code 2 (Option.some Jvm.ClassFile.FieldType.boolean) :: AW) ({ frames := 3, cells := 0, slots := 0, locals := 64 } : Room) (nP dC dI g [.ref a0, .int s1] [(a0, .inr (15, [.int (0), .int (0), .int (100), .int (0), .int (0), .ref a1, .ref a2, .ref a3, .ref a4, .ref a5, .ref a6, .ref a7, .ref a8, .ref a9, .ref a10, .ref a11, .null, .int (-1), .ref a12, .long (0)])), (a11, .inr (1, [.int (0), .ref (g 21), .int (0)]))] sz) (nQ dC dI (fun f => some (.int (0))) (fun f r => [(a0, .inr (15, [.int (1), .int (0), .int (100), .int (0), .int (0), .ref a1, .ref a2, .ref a3, .ref a4, .ref a5, .ref a6, .ref a7, .ref a8, .ref a9, .ref a10, .ref a11, .null, .int (-1), .ref a12, .long (0)])), (a11, .inr (1, [.int (0), .ref (g 21), .int (0)]))]) (va_A [(a0, .inr (15, [.int (0), .int (0), .int (100), .int (0), .int (0), .ref a1, .ref a2, .ref a3, .ref a4, .ref a5, .ref a6, .ref a7, .ref a8, .ref a9, .ref a10, .ref a11, .null, .int (-1), .ref a12, .long (0)])), (a11, .inr (1, [.int (0), .ref (g 21), .int (0)]))] sz)) 0 0 (va_A [(a0, .inr (15, [.int (0), .int (0), .int (100), .int (0), .int (0), .ref a1, .ref a2, .ref a3, .ref a4, .ref a5, .ref a6, .ref a7, .ref a8, .ref a9, .ref a10, .ref a11, .null, .int (-1), .ref a12, .long (0)])), (a11, .inr (1, [.int (0), .ref (g 21), .int (0)]))] sz) := by
  refine n_met (by decide +kernel) (Nat.le_of_ble_eq_true rfl) (fun f => some (.int (0))) (fun f r => [(a0, .inr (15, [.int (1), .int (0), .int (100), .int (0), .int (0), .ref a1, .ref a2, .ref a3, .ref a4, .ref a5, .ref a6, .ref a7, .ref a8, .ref a9, .ref a10, .ref a11, .null, .int (-1), .ref a12, .long (0)])), (a11, .inr (1, [.int (0), .ref (g 21), .int (0)]))]) ?_
  intro p e s m below meth c A ls ⟨hx, hb, hr, hml, hown, hts, hlk, hnm⟩ hE hP hD hA hl
  have hown : s.vm.findClass "MinestrataModel" = some m.cls := hown
  have hK := hE.1
  have hS : va_S A s.heap s.heap [] := va_S.rf
  have hl : lv_has ls 2 [(0, .ref a0), (1, .int s1)] := hl
  refine lv_aload_n hx hb dX16_isSafeAnew_0 rfl (lv_at hl 0 rfl) ?_
  refine lv_iload_n hx hb dX16_isSafeAnew_1 rfl (lv_at hl 1 rfl) ?_
  have hX : nCx p s m _ c prog_14_method_35_code 2 "MinestrataModel" dC dI g A [(a0, .inr (15, [.int (0), .int (0), .int (100), .int (0), .int (0), .ref a1, .ref a2, .ref a3, .ref a4, .ref a5, .ref a6, .ref a7, .ref a8, .ref a9, .ref a10, .ref a11, .null, .int (-1), .ref a12, .long (0)])), (a11, .inr (1, [.int (0), .ref (g 21), .int (0)]))] _ _ := ⟨⟨hx, hb, hml, hown, hts⟩, hE, hS, hA, hP, hD⟩
  refine n_call (wr := []) hX (n_runV (n := 1) (wc := [(a0, .inr (15, [.int (0), .int (0), .int (100), .int (0), .int (0), .ref a1, .ref a2, .ref a3, .ref a4, .ref a5, .ref a6, .ref a7, .ref a8, .ref a9, .ref a10, .ref a11, .null, .int (-1), .ref a12, .long (0)])), (a11, .inr (1, [.int (0), .ref (g 21), .int (0)]))]) (As := [.int s1]) (rest := []) hX (m324 l hst dC dI g a0 a1 a2 a3 a4 a5 a6 a7 a8 a9 a10 a11 a12 s1 _) [0, 1] rfl (by decide +kernel) 0 (ci := 15) rfl (T := TX16) (N := 20) (C := "MinestrataModel") rfl q2098 q2091 q2092 q82 q2093 (by decide +kernel) ⟨(Nat.le_of_ble_eq_true rfl), (Nat.le_of_ble_eq_true rfl)⟩ ⟨(Nat.le_of_ble_eq_true rfl), (Nat.le_of_ble_eq_true rfl)⟩ hl.1 rfl rfl (Nat.le_of_ble_eq_true rfl) dX16_isSafeAnew_2) [0, 1] [] rfl rfl (by decide +kernel) (by decide +kernel) (fun f1 r2 H locs hP hD hS => ?_)
  have hP : va_P (dC, dI) CL [(a0, .inr (15, [.int (1), .int (0), .int (100), .int (0), .int (0), .ref a1, .ref a2, .ref a3, .ref a4, .ref a5, .ref a6, .ref a7, .ref a8, .ref a9, .ref a10, .ref a11, .null, .int (-1), .ref a12, .long (0)])), (a11, .inr (1, [.int (0), .ref (g 21), .int (0)]))] _ := hP
  have hD : va_D A [(a0, .inr (15, [.int (1), .int (0), .int (100), .int (0), .int (0), .ref a1, .ref a2, .ref a3, .ref a4, .ref a5, .ref a6, .ref a7, .ref a8, .ref a9, .ref a10, .ref a11, .null, .int (-1), .ref a12, .long (0)])), (a11, .inr (1, [.int (0), .ref (g 21), .int (0)]))] := hD
  refine W.widen (k := 0) (n := 0) (Nat.le_of_ble_eq_true rfl) (Nat.le_of_ble_eq_true rfl) ?_
  refine W.eq (g2 := F0 m 5 ls [.int (0)]) rfl ?_
  refine W.widen (k := 0) (n := 0) (Nat.le_of_ble_eq_true rfl) (Nat.le_of_ble_eq_true rfl) ?_
  exact W.zret hx hb hr (by decide +kernel) (n_end hS hP hD [0, 1] (by decide +kernel) (fun _ => 0) (fun _ => 0) rfl rfl rfl) hS.2.2 dX16_isSafeAnew_5 hlk

set_option maxHeartbeats 4000000 in
set_option maxRecDepth 100000 in
/-- Minestrata.ways -/
theorem m328 (l : Launch) (hst : l.stackTraces = false) (dC : Nat → ClassId) (dI : Nat → Nat → Nat) (g : Nat → Nat) (a0 a1 a2 a3 a4 a5 a6 a7 a8 a9 a10 a11 a12 a13 a14 a15 a16 a17 a18 a19 a20 a21 : Nat) (s1 : Int32) (sz : Nat) :
    vx_Met l Y136 (Cond.code Y136 prog_1_method_24_code 2 (Option.some Jvm.ClassFile.FieldType.int) :: AW) ({ frames := 6, cells := 1, slots := 6, locals := 81 } : Room) (nP dC dI g [.ref a0, .int s1] [(a0, .inr (12, [.ref a1, .ref a2, .ref a3, .ref a4, .ref a5, .ref a6, .ref a7, .ref a8, .null, .ref a9, .ref a10, .int (0), .int (100), .int (0), .int (0), .int (-1), .long (0), .int (1)])), (a1, .inr (8, [.int (0), .ref a11, .ref a12, .ref a13, .ref a14, .int (0), .ref a15, .ref a16, .ref a17, .ref a18, .ref a19, .ref a20, .ref a21]))] sz) (fun _ _ _ _ => False) (nX "java/lang/IndexOutOfBoundsException" (va_A [(a0, .inr (12, [.ref a1, .ref a2, .ref a3, .ref a4, .ref a5, .ref a6, .ref a7, .ref a8, .null, .ref a9, .ref a10, .int (0), .int (100), .int (0), .int (0), .int (-1), .long (0), .int (1)])), (a1, .inr (8, [.int (0), .ref a11, .ref a12, .ref a13, .ref a14, .int (0), .ref a15, .ref a16, .ref a17, .ref a18, .ref a19, .ref a20, .ref a21]))] sz)) 1 6 (va_A [(a0, .inr (12, [.ref a1, .ref a2, .ref a3, .ref a4, .ref a5, .ref a6, .ref a7, .ref a8, .null, .ref a9, .ref a10, .int (0), .int (100), .int (0), .int (0), .int (-1), .long (0), .int (1)])), (a1, .inr (8, [.int (0), .ref a11, .ref a12, .ref a13, .ref a14, .int (0), .ref a15, .ref a16, .ref a17, .ref a18, .ref a19, .ref a20, .ref a21]))] sz) := by
  refine n_metX (by decide +kernel) (Nat.le_of_ble_eq_true rfl) "java/lang/IndexOutOfBoundsException" ?_
  intro p e s m below meth c A ls ⟨hx, hb, hr, hml, hown, hts, hlk, hnm⟩ hout hE hP hD hA hl
  have hown : s.vm.findClass "Minestrata" = some m.cls := hown
  have hK := hE.1
  have hS : va_S A s.heap s.heap [] := va_S.rf
  have hl : lv_has ls 2 [(0, .ref a0), (1, .int s1)] := hl
  have hlsz : ls.size = c.maxLocals := hl.1.trans hml.symm
  refine lv_aload_n hx hb dX11_ways_0 rfl (lv_at hl 0 rfl) ?_
  refine va_get (D := (dC, dI)) (ci := 12) (v := .ref a1) (C := "Minestrata") (T := TX11) (N := 18) hx hb hts inX11 hown hK hP 0 rfl rfl 0 (by decide) (hts _ q504) (fun _ h9 => h9) rfl dX11_ways_1 ?_
  refine lv_iload_n hx hb dX11_ways_4 rfl (lv_at hl 1 rfl) ?_
  have hX : nCx p s m _ c prog_1_method_24_code 2 "Minestrata" dC dI g A [(a0, .inr (12, [.ref a1, .ref a2, .ref a3, .ref a4, .ref a5, .ref a6, .ref a7, .ref a8, .null, .ref a9, .ref a10, .int (0), .int (100), .int (0), .int (0), .int (-1), .long (0), .int (1)])), (a1, .inr (8, [.int (0), .ref a11, .ref a12, .ref a13, .ref a14, .int (0), .ref a15, .ref a16, .ref a17, .ref a18, .ref a19, .ref a20, .ref a21]))] _ _ := ⟨⟨hx, hb, hml, hown, hts⟩, hE, hS, hA, hP, hD⟩
  refine n_call (wr := [(a0, .inr (12, [.ref a1, .ref a2, .ref a3, .ref a4, .ref a5, .ref a6, .ref a7, .ref a8, .null, .ref a9, .ref a10, .int (0), .int (100), .int (0), .int (0), .int (-1), .long (0), .int (1)]))]) hX (n_runV (n := 1) (wc := [(a1, .inr (8, [.int (0), .ref a11, .ref a12, .ref a13, .ref a14, .int (0), .ref a15, .ref a16, .ref a17, .ref a18, .ref a19, .ref a20, .ref a21]))]) (As := [.int s1]) (rest := []) hX (m45 l hst dC dI g a1 a11 a12 a13 a14 a15 a16 a17 a18 a19 a20 a21 s1 _) [1] rfl (by decide +kernel) 1 (ci := 8) rfl (T := TX7) (N := 13) (C := "Minestrata$Net") rfl q944 q945 q946 q72 q947 (by decide +kernel) ⟨(Nat.le_of_ble_eq_true rfl), (Nat.le_of_ble_eq_true rfl)⟩ ⟨(Nat.le_of_ble_eq_true rfl), (Nat.le_of_ble_eq_true rfl)⟩ hl.1 rfl rfl (Nat.le_of_ble_eq_true rfl) dX11_ways_5) [1] [0] rfl rfl (by decide +kernel) (by decide +kernel) (fun f1 r2 H locs hP hD hS => ?_)
  have hP : va_P (dC, dI) CL [(a0, .inr (12, [.ref a1, .ref a2, .ref a3, .ref a4, .ref a5, .ref a6, .ref a7, .ref a8, .null, .ref a9, .ref a10, .int (0), .int (100), .int (0), .int (0), .int (-1), .long (0), .int (1)])), (a1, .inr (8, [.int (0), .ref a11, .ref a12, .ref a13, .ref a14, .int (0), .ref a15, .ref a16, .ref a17, .ref a18, .ref a19, .ref a20, .ref a21]))] _ := hP
  have hD : va_D A [(a0, .inr (12, [.ref a1, .ref a2, .ref a3, .ref a4, .ref a5, .ref a6, .ref a7, .ref a8, .null, .ref a9, .ref a10, .int (0), .int (100), .int (0), .int (0), .int (-1), .long (0), .int (1)])), (a1, .inr (8, [.int (0), .ref a11, .ref a12, .ref a13, .ref a14, .int (0), .ref a15, .ref a16, .ref a17, .ref a18, .ref a19, .ref a20, .ref a21]))] := hD
  refine W.widen (k := 0) (n := 0) (Nat.le_of_ble_eq_true rfl) (Nat.le_of_ble_eq_true rfl) ?_
  refine W.eq (g2 := F0 m 8 ls [.int (0)]) rfl ?_
  refine lv_if_ne (tgt := 19) hx hb dX11_ways_8 (by decide +kernel) (fun h => absurd (by decide +kernel) h) (fun _ => ?_)
  exact n_throw hx hb hst hown hts hE hS (names := ["java/lang/RuntimeException", "java/lang/Exception"]) (by decide +kernel) (by decide +kernel) q948 q91 hat1p hat1a hat1 hat1g (hl.1.trans hml.symm) dX11_ways_11 dX11_ways_14 dX11_ways_15 dX11_ways_18 hout (Nat.le_of_ble_eq_true rfl) (Nat.le_of_ble_eq_true rfl) (Nat.le_of_ble_eq_true rfl) (Nat.le_of_ble_eq_true rfl) hlk (Nat.le_of_ble_eq_true rfl) (Nat.le_of_ble_eq_true rfl)

set_option maxHeartbeats 4000000 in
set_option maxRecDepth 100000 in
/-- MinestrataLaw.ways -/
theorem m329 (l : Launch) (hst : l.stackTraces = false) (dC : Nat → ClassId) (dI : Nat → Nat → Nat) (g : Nat → Nat) (a0 a1 a2 a3 a4 a5 a6 a7 a8 a9 a10 a11 a12 a13 a14 a15 a16 a17 a18 a19 a20 a21 a22 : Nat) (s1 : Int32) (sz : Nat) :
    Met l Y135 (Cond.codeWith Y135 method_24_code 4 (Option.some Jvm.ClassFile.FieldType.int) [((0 : Nat), (9 : Nat), (12 : Nat), (21 : Nat))] :: AW) ({ frames := 7, cells := 1, slots := 6, locals := 102 } : Room) (nP dC dI g [.ref a0, .int s1, .ref a1] [(a0, .inr (12, [.ref a2, .ref a3, .ref a4, .ref a5, .ref a6, .ref a7, .ref a8, .ref a9, .null, .ref a10, .ref a11, .int (0), .int (100), .int (0), .int (0), .int (-1), .long (0), .int (1)])), (a2, .inr (8, [.int (0), .ref a12, .ref a13, .ref a14, .ref a15, .int (0), .ref a16, .ref a17, .ref a18, .ref a19, .ref a20, .ref a21, .ref a22]))] sz) (nQ dC dI (fun f => some (.int (1))) (fun f r => []) (va_A [(a0, .inr (12, [.ref a2, .ref a3, .ref a4, .ref a5, .ref a6, .ref a7, .ref a8, .ref a9, .null, .ref a10, .ref a11, .int (0), .int (100), .int (0), .int (0), .int (-1), .long (0), .int (1)])), (a2, .inr (8, [.int (0), .ref a12, .ref a13, .ref a14, .ref a15, .int (0), .ref a16, .ref a17, .ref a18, .ref a19, .ref a20, .ref a21, .ref a22]))] sz)) 1 6 (va_A [(a0, .inr (12, [.ref a2, .ref a3, .ref a4, .ref a5, .ref a6, .ref a7, .ref a8, .ref a9, .null, .ref a10, .ref a11, .int (0), .int (100), .int (0), .int (0), .int (-1), .long (0), .int (1)])), (a2, .inr (8, [.int (0), .ref a12, .ref a13, .ref a14, .ref a15, .int (0), .ref a16, .ref a17, .ref a18, .ref a19, .ref a20, .ref a21, .ref a22]))] sz) := by
  refine n_metW (by decide +kernel) q1235 (Nat.le_of_ble_eq_true rfl) (fun f => some (.int (1))) (fun f r => []) ?_
  intro p e s m below meth c A ls ⟨hx, hb, hr, hml, hown, hts, hlk, hnm⟩ htab hE hP hD hA hl
  have hown : s.vm.findClass "MinestrataLaw" = some m.cls := hown
  have hK := hE.1
  have hS : va_S A s.heap s.heap [] := va_S.rf
  have hl : lv_has ls 4 [(0, .ref a0), (1, .int s1), (2, .ref a1)] := hl
  refine lv_aload_n hx hb dL_ways_0 rfl (lv_at hl 2 rfl) ?_
  refine lv_iconst (v := (0)) hx hb dL_ways_1 (by decide +kernel) ?_
  refine lv_aload_n hx hb dL_ways_2 rfl (lv_at hl 0 rfl) ?_
  refine lv_iload_n hx hb dL_ways_3 rfl (lv_at hl 1 rfl) ?_
  have hX : nCx p s m _ c method_24_code 4 "MinestrataLaw" dC dI g A [(a0, .inr (12, [.ref a2, .ref a3, .ref a4, .ref a5, .ref a6, .ref a7, .ref a8, .ref a9, .null, .ref a10, .ref a11, .int (0), .int (100), .int (0), .int (0), .int (-1), .long (0), .int (1)])), (a2, .inr (8, [.int (0), .ref a12, .ref a13, .ref a14, .ref a15, .int (0), .ref a16, .ref a17, .ref a18, .ref a19, .ref a20, .ref a21, .ref a22]))] _ _ := ⟨⟨hx, hb, hml, hown, hts⟩, hE, hS, hA, hP, hD⟩
  refine n_callX (E0 := "java/lang/IndexOutOfBoundsException") hX (n_runVX (n := 1) (wc := [(a0, .inr (12, [.ref a2, .ref a3, .ref a4, .ref a5, .ref a6, .ref a7, .ref a8, .ref a9, .null, .ref a10, .ref a11, .int (0), .int (100), .int (0), .int (0), .int (-1), .long (0), .int (1)])), (a2, .inr (8, [.int (0), .ref a12, .ref a13, .ref a14, .ref a15, .int (0), .ref a16, .ref a17, .ref a18, .ref a19, .ref a20, .ref a21, .ref a22]))]) (As := [.int s1]) (rest := [.int (0), .ref a1]) hX (m328 l hst dC dI g a0 a2 a3 a4 a5 a6 a7 a8 a9 a10 a11 a12 a13 a14 a15 a16 a17 a18 a19 a20 a21 a22 s1 _) [0, 1] rfl (by decide +kernel) 0 (ci := 12) rfl (T := TX11) (N := 18) (C := "Minestrata") rfl q1236 q1237 q1238 q71 q1239 (by decide +kernel) ⟨(Nat.le_of_ble_eq_true rfl), (Nat.le_of_ble_eq_true rfl)⟩ ⟨(Nat.le_of_ble_eq_true rfl), (Nat.le_of_ble_eq_true rfl)⟩ hl.1 rfl rfl (Nat.le_of_ble_eq_true rfl) dL_ways_4) [0, 1] rfl (fun ce q9 H locs hS hce hcv hcl => ?_)
  refine n_catch (E := "java/lang/IndexOutOfBoundsException") (name := "java/lang/IndexOutOfBoundsException") hE hts hown htab [] ⟨0, 9, 12, 21⟩ [] rfl (fun z hz => nomatch hz) (by decide +kernel) (by decide) q907 x950 hce hcv hcl ?_
  refine W.widen (k := 1) (n := 6) (Nat.le_of_ble_eq_true rfl) (Nat.le_of_ble_eq_true rfl) ?_
  refine W.eq (g2 := F0 m 12 ls [.ref q9]) rfl ?_
  refine lv_astore_n (lv' := [(3, .ref q9), (0, .ref a0), (1, .int s1), (2, .ref a1)]) hx hb dL_ways_12 rfl hl (by decide) rfl (fun ls hl => ?_)
  refine lv_iconst (v := (1)) hx hb dL_ways_13 (by decide +kernel) ?_
  refine W.widen (k := 1) (n := 6) (Nat.le_of_ble_eq_true rfl) (Nat.le_of_ble_eq_true rfl) ?_
  exact W.iret hx hb hr (n_end0 hS (fun _ => 0) rfl rfl) hS.2.2 dL_ways_14 hlk

set_option maxHeartbeats 4000000 in
set_option maxRecDepth 100000 in
/-- MinestrataModel.ways -/
theorem m330 (l : Launch) (hst : l.stackTraces = false) (dC : Nat → ClassId) (dI : Nat → Nat → Nat) (g : Nat → Nat) (a0 a1 a2 a3 a4 a5 a6 a7 a8 a9 a10 a11 a12 : Nat) (s1 : Int32) (sz : Nat) :
    Met l Y137 (Cond.code Y137 prog_14_method_36_code 2 (Option.some Jvm.ClassFile.FieldType.int) :: AW) ({ frames := 2, cells := 0, slots := 0, locals := 43 } : Room) (nP dC dI g [.ref a0, .int s1] [(a0, .inr (15, [.int (0), .int (0), .int (100), .int (0), .int (0), .ref a1, .ref a2, .ref a3, .ref a4, .ref a5, .ref a6, .ref a7, .ref a8, .ref a9, .ref a10, .ref a11, .null, .int (-1), .ref a12, .long (0)]))] sz) (nQ dC dI (fun f => some (.int (0))) (fun f r => [(a0, .inr (15, [.int (1), .int (0), .int (100), .int (0), .int (0), .ref a1, .ref a2, .ref a3, .ref a4, .ref a5, .ref a6, .ref a7, .ref a8, .ref a9, .ref a10, .ref a11, .null, .int (-1), .ref a12, .long (0)]))]) (va_A [(a0, .inr (15, [.int (0), .int (0), .int (100), .int (0), .int (0), .ref a1, .ref a2, .ref a3, .ref a4, .ref a5, .ref a6, .ref a7, .ref a8, .ref a9, .ref a10, .ref a11, .null, .int (-1), .ref a12, .long (0)]))] sz)) 0 0 (va_A [(a0, .inr (15, [.int (0), .int (0), .int (100), .int (0), .int (0), .ref a1, .ref a2, .ref a3, .ref a4, .ref a5, .ref a6, .ref a7, .ref a8, .ref a9, .ref a10, .ref a11, .null, .int (-1), .ref a12, .long (0)]))] sz) := by
  refine n_met (by decide +kernel) (Nat.le_of_ble_eq_true rfl) (fun f => some (.int (0))) (fun f r => [(a0, .inr (15, [.int (1), .int (0), .int (100), .int (0), .int (0), .ref a1, .ref a2, .ref a3, .ref a4, .ref a5, .ref a6, .ref a7, .ref a8, .ref a9, .ref a10, .ref a11, .null, .int (-1), .ref a12, .long (0)]))]) ?_
  intro p e s m below meth c A ls ⟨hx, hb, hr, hml, hown, hts, hlk, hnm⟩ hE hP hD hA hl
  have hown : s.vm.findClass "MinestrataModel" = some m.cls := hown
  have hK := hE.1
  have hS : va_S A s.heap s.heap [] := va_S.rf
  have hl : lv_has ls 2 [(0, .ref a0), (1, .int s1)] := hl
  refine lv_aload_n hx hb dX16_ways_0 rfl (lv_at hl 0 rfl) ?_
  refine lv_iload_n hx hb dX16_ways_1 rfl (lv_at hl 1 rfl) ?_
  have hX : nCx p s m _ c prog_14_method_36_code 2 "MinestrataModel" dC dI g A [(a0, .inr (15, [.int (0), .int (0), .int (100), .int (0), .int (0), .ref a1, .ref a2, .ref a3, .ref a4, .ref a5, .ref a6, .ref a7, .ref a8, .ref a9, .ref a10, .ref a11, .null, .int (-1), .ref a12, .long (0)]))] _ _ := ⟨⟨hx, hb, hml, hown, hts⟩, hE, hS, hA, hP, hD⟩
  refine n_call (wr := []) hX (n_runV (n := 1) (wc := [(a0, .inr (15, [.int (0), .int (0), .int (100), .int (0), .int (0), .ref a1, .ref a2, .ref a3, .ref a4, .ref a5, .ref a6, .ref a7, .ref a8, .ref a9, .ref a10, .ref a11, .null, .int (-1), .ref a12, .long (0)]))]) (As := [.int s1]) (rest := []) hX (m49 l hst dC dI g a0 a1 a2 a3 a4 a5 a6 a7 a8 a9 a10 a11 a12 s1 _) [0] rfl (by decide +kernel) 0 (ci := 15) rfl (T := TX16) (N := 20) (C := "MinestrataModel") rfl q1518 q1520 q41 q82 q1521 (by decide +kernel) ⟨(Nat.le_of_ble_eq_true rfl), (Nat.le_of_ble_eq_true rfl)⟩ ⟨(Nat.le_of_ble_eq_true rfl), (Nat.le_of_ble_eq_true rfl)⟩ hl.1 rfl rfl (Nat.le_of_ble_eq_true rfl) dX16_ways_2) [0] [] rfl rfl (by decide +kernel) (by decide +kernel) (fun f1 r2 H locs hP hD hS => ?_)
  have hP : va_P (dC, dI) CL [(a0, .inr (15, [.int (0), .int (0), .int (100), .int (0), .int (0), .ref a1, .ref a2, .ref a3, .ref a4, .ref a5, .ref a6, .ref a7, .ref a8, .ref a9, .ref a10, .ref a11, .null, .int (-1), .ref a12, .long (0)]))] _ := hP
  have hD : va_D A [(a0, .inr (15, [.int (0), .int (0), .int (100), .int (0), .int (0), .ref a1, .ref a2, .ref a3, .ref a4, .ref a5, .ref a6, .ref a7, .ref a8, .ref a9, .ref a10, .ref a11, .null, .int (-1), .ref a12, .long (0)]))] := hD
  refine W.widen (k := 0) (n := 0) (Nat.le_of_ble_eq_true rfl) (Nat.le_of_ble_eq_true rfl) ?_
  refine W.eq (g2 := F0 m 5 ls [.int (0)]) rfl ?_
  refine lv_if_eq (tgt := 20) hx hb dX16_ways_5 (by decide +kernel) (fun _ => ?_) (fun h => absurd (by decide +kernel) h)
  refine lv_aload_n hx hb dX16_ways_20 rfl (lv_at hl 0 rfl) ?_
  refine lv_iconst (v := (1)) hx hb dX16_ways_21 (by decide +kernel) ?_
  have hX : nCx p s m _ c prog_14_method_36_code 2 "MinestrataModel" dC dI g A [(a0, .inr (15, [.int (0), .int (0), .int (100), .int (0), .int (0), .ref a1, .ref a2, .ref a3, .ref a4, .ref a5, .ref a6, .ref a7, .ref a8, .ref a9, .ref a10, .ref a11, .null, .int (-1), .ref a12, .long (0)]))] _ _ := ⟨⟨hx, hb, hml, hown, hts⟩, hE, hS, hA, hP, hD⟩
  refine n_call (wr := []) hX (n_runV (n := 1) (wc := [(a0, .inr (15, [.int (0), .int (0), .int (100), .int (0), .int (0), .ref a1, .ref a2, .ref a3, .ref a4, .ref a5, .ref a6, .ref a7, .ref a8, .ref a9, .ref a10, .ref a11, .null, .int (-1), .ref a12, .long (0)]))]) (As := [.int (1)]) (rest := []) hX (m31 l hst dC dI g a0 a1 a2 a3 a4 a5 a6 a7 a8 a9 a10 a11 a12 _) [0] rfl (by decide +kernel) 0 (ci := 15) rfl (T := TX16) (N := 20) (C := "MinestrataModel") rfl q1506 q1508 q39 q82 q1509 (by decide +kernel) ⟨(Nat.le_of_ble_eq_true rfl), (Nat.le_of_ble_eq_true rfl)⟩ ⟨(Nat.le_of_ble_eq_true rfl), (Nat.le_of_ble_eq_true rfl)⟩ hl.1 rfl rfl (Nat.le_of_ble_eq_true rfl) dX16_ways_22) [0] [] rfl rfl (by decide +kernel) (by decide +kernel) (fun f3 r4 H locs hP hD hS => ?_)
  have hP : va_P (dC, dI) CL [(a0, .inr (15, [.int (1), .int (0), .int (100), .int (0), .int (0), .ref a1, .ref a2, .ref a3, .ref a4, .ref a5, .ref a6, .ref a7, .ref a8, .ref a9, .ref a10, .ref a11, .null, .int (-1), .ref a12, .long (0)]))] _ := hP
  have hD : va_D A [(a0, .inr (15, [.int (1), .int (0), .int (100), .int (0), .int (0), .ref a1, .ref a2, .ref a3, .ref a4, .ref a5, .ref a6, .ref a7, .ref a8, .ref a9, .ref a10, .ref a11, .null, .int (-1), .ref a12, .long (0)]))] := hD
  refine W.widen (k := 0) (n := 0) (Nat.le_of_ble_eq_true rfl) (Nat.le_of_ble_eq_true rfl) ?_
  refine W.eq (g2 := F0 m 25 ls [.int (0)]) rfl ?_
  refine W.widen (k := 0) (n := 0) (Nat.le_of_ble_eq_true rfl) (Nat.le_of_ble_eq_true rfl) ?_
  exact W.iret hx hb hr (n_end hS hP hD [0] (by decide +kernel) (fun _ => 0) (fun _ => 0) rfl rfl rfl) hS.2.2 dX16_ways_25 hlk

set_option maxHeartbeats 4000000 in
set_option maxRecDepth 100000 in
/-- Minestrata.tons -/
theorem m331 (l : Launch) (hst : l.stackTraces = false) (dC : Nat → ClassId) (dI : Nat → Nat → Nat) (g : Nat → Nat) (a0 a1 a2 a3 a4 a5 a6 a7 a8 a9 a10 a11 a12 a13 a14 a15 a16 a17 a18 a19 : Nat) (s1 : Int32) (sz : Nat) :
    vx_Met l Y139 (Cond.code Y139 prog_1_method_25_code 2 (Option.some Jvm.ClassFile.FieldType.int) :: AW) ({ frames := 6, cells := 1, slots := 6, locals := 81 } : Room) (nP dC dI g [.ref a0, .int s1] [(a0, .inr (12, [.ref a1, .ref a2, .ref a3, .ref a4, .ref a5, .ref a6, .ref a7, .ref a8, .null, .ref a9, .ref a10, .int (0), .int (100), .int (0), .int (0), .int (-1), .long (0), .int (1)])), (a3, .inr (11, [.int (0), .ref a11, .ref a12, .ref a13, .ref a14, .ref a15, .ref a16, .ref a17, .ref a18, .ref a19]))] sz) (fun _ _ _ _ => False) (nX "java/lang/IndexOutOfBoundsException" (va_A [(a0, .inr (12, [.ref a1, .ref a2, .ref a3, .ref a4, .ref a5, .ref a6, .ref a7, .ref a8, .null, .ref a9, .ref a10, .int (0), .int (100), .int (0), .int (0), .int (-1), .long (0), .int (1)])), (a3, .inr (11, [.int (0), .ref a11, .ref a12, .ref a13, .ref a14, .ref a15, .ref a16, .ref a17, .ref a18, .ref a19]))] sz)) 1 6 (va_A [(a0, .inr (12, [.ref a1, .ref a2, .ref a3, .ref a4, .ref a5, .ref a6, .ref a7, .ref a8, .null, .ref a9, .ref a10, .int (0), .int (100), .int (0), .int (0), .int (-1), .long (0), .int (1)])), (a3, .inr (11, [.int (0), .ref a11, .ref a12, .ref a13, .ref a14, .ref a15, .ref a16, .ref a17, .ref a18, .ref a19]))] sz) := by
  refine n_metX (by decide +kernel) (Nat.le_of_ble_eq_true rfl) "java/lang/IndexOutOfBoundsException" ?_
  intro p e s m below meth c A ls ⟨hx, hb, hr, hml, hown, hts, hlk, hnm⟩ hout hE hP hD hA hl
  have hown : s.vm.findClass "Minestrata" = some m.cls := hown
  have hK := hE.1
  have hS : va_S A s.heap s.heap [] := va_S.rf
  have hl : lv_has ls 2 [(0, .ref a0), (1, .int s1)] := hl
  have hlsz : ls.size = c.maxLocals := hl.1.trans hml.symm
  refine lv_aload_n hx hb dX11_tons_0 rfl (lv_at hl 0 rfl) ?_
  refine va_get (D := (dC, dI)) (ci := 12) (v := .ref a3) (C := "Minestrata") (T := TX11) (N := 18) hx hb hts inX11 hown hK hP 0 rfl rfl 2 (by decide) (hts _ q506) (fun _ h9 => h9) rfl dX11_tons_1 ?_
  refine lv_iload_n hx hb dX11_tons_4 rfl (lv_at hl 1 rfl) ?_
  have hX : nCx p s m _ c prog_1_method_25_code 2 "Minestrata" dC dI g A [(a0, .inr (12, [.ref a1, .ref a2, .ref a3, .ref a4, .ref a5, .ref a6, .ref a7, .ref a8, .null, .ref a9, .ref a10, .int (0), .int (100), .int (0), .int (0), .int (-1), .long (0), .int (1)])), (a3, .inr (11, [.int (0), .ref a11, .ref a12, .ref a13, .ref a14, .ref a15, .ref a16, .ref a17, .ref a18, .ref a19]))] _ _ := ⟨⟨hx, hb, hml, hown, hts⟩, hE, hS, hA, hP, hD⟩
  refine n_call (wr := [(a0, .inr (12, [.ref a1, .ref a2, .ref a3, .ref a4, .ref a5, .ref a6, .ref a7, .ref a8, .null, .ref a9, .ref a10, .int (0), .int (100), .int (0), .int (0), .int (-1), .long (0), .int (1)]))]) hX (n_runV (n := 1) (wc := [(a3, .inr (11, [.int (0), .ref a11, .ref a12, .ref a13, .ref a14, .ref a15, .ref a16, .ref a17, .ref a18, .ref a19]))]) (As := [.int s1]) (rest := []) hX (m57 l hst dC dI g a3 a11 a12 a13 a14 a15 a16 a17 a18 a19 s1 _) [1] rfl (by decide +kernel) 1 (ci := 11) rfl (T := TX10) (N := 10) (C := "Minestrata$Stopes") rfl q985 q986 q987 q73 q988 (by decide +kernel) ⟨(Nat.le_of_ble_eq_true rfl), (Nat.le_of_ble_eq_true rfl)⟩ ⟨(Nat.le_of_ble_eq_true rfl), (Nat.le_of_ble_eq_true rfl)⟩ hl.1 rfl rfl (Nat.le_of_ble_eq_true rfl) dX11_tons_5) [1] [0] rfl rfl (by decide +kernel) (by decide +kernel) (fun f1 r2 H locs hP hD hS => ?_)
  have hP : va_P (dC, dI) CL [(a0, .inr (12, [.ref a1, .ref a2, .ref a3, .ref a4, .ref a5, .ref a6, .ref a7, .ref a8, .null, .ref a9, .ref a10, .int (0), .int (100), .int (0), .int (0), .int (-1), .long (0), .int (1)])), (a3, .inr (11, [.int (0), .ref a11, .ref a12, .ref a13, .ref a14, .ref a15, .ref a16, .ref a17, .ref a18, .ref a19]))] _ := hP
  have hD : va_D A [(a0, .inr (12, [.ref a1, .ref a2, .ref a3, .ref a4, .ref a5, .ref a6, .ref a7, .ref a8, .null, .ref a9, .ref a10, .int (0), .int (100), .int (0), .int (0), .int (-1), .long (0), .int (1)])), (a3, .inr (11, [.int (0), .ref a11, .ref a12, .ref a13, .ref a14, .ref a15, .ref a16, .ref a17, .ref a18, .ref a19]))] := hD
  refine W.widen (k := 0) (n := 0) (Nat.le_of_ble_eq_true rfl) (Nat.le_of_ble_eq_true rfl) ?_
  refine W.eq (g2 := F0 m 8 ls [.int (0)]) rfl ?_
  refine lv_if_ne (tgt := 19) hx hb dX11_tons_8 (by decide +kernel) (fun h => absurd (by decide +kernel) h) (fun _ => ?_)
  exact n_throw hx hb hst hown hts hE hS (names := ["java/lang/RuntimeException", "java/lang/Exception"]) (by decide +kernel) (by decide +kernel) q948 q91 hat1p hat1a hat1 hat1g (hl.1.trans hml.symm) dX11_tons_11 dX11_tons_14 dX11_tons_15 dX11_tons_18 hout (Nat.le_of_ble_eq_true rfl) (Nat.le_of_ble_eq_true rfl) (Nat.le_of_ble_eq_true rfl) (Nat.le_of_ble_eq_true rfl) hlk (Nat.le_of_ble_eq_true rfl) (Nat.le_of_ble_eq_true rfl)

set_option maxHeartbeats 4000000 in
set_option maxRecDepth 100000 in
/-- MinestrataLaw.tons -/
theorem m332 (l : Launch) (hst : l.stackTraces = false) (dC : Nat → ClassId) (dI : Nat → Nat → Nat) (g : Nat → Nat) (a0 a1 a2 a3 a4 a5 a6 a7 a8 a9 a10 a11 a12 a13 a14 a15 a16 a17 a18 a19 a20 : Nat) (s1 : Int32) (sz : Nat) :
    Met l Y138 (Cond.codeWith Y138 method_25_code 4 (Option.some Jvm.ClassFile.FieldType.int) [((0 : Nat), (9 : Nat), (12 : Nat), (21 : Nat))] :: AW) ({ frames := 7, cells := 1, slots := 6, locals := 102 } : Room) (nP dC dI g [.ref a0, .int s1, .ref a1] [(a0, .inr (12, [.ref a2, .ref a3, .ref a4, .ref a5, .ref a6, .ref a7, .ref a8, .ref a9, .null, .ref a10, .ref a11, .int (0), .int (100), .int (0), .int (0), .int (-1), .long (0), .int (1)])), (a4, .inr (11, [.int (0), .ref a12, .ref a13, .ref a14, .ref a15, .ref a16, .ref a17, .ref a18, .ref a19, .ref a20]))] sz) (nQ dC dI (fun f => some (.int (1))) (fun f r => []) (va_A [(a0, .inr (12, [.ref a2, .ref a3, .ref a4, .ref a5, .ref a6, .ref a7, .ref a8, .ref a9, .null, .ref a10, .ref a11, .int (0), .int (100), .int (0), .int (0), .int (-1), .long (0), .int (1)])), (a4, .inr (11, [.int (0), .ref a12, .ref a13, .ref a14, .ref a15, .ref a16, .ref a17, .ref a18, .ref a19, .ref a20]))] sz)) 1 6 (va_A [(a0, .inr (12, [.ref a2, .ref a3, .ref a4, .ref a5, .ref a6, .ref a7, .ref a8, .ref a9, .null, .ref a10, .ref a11, .int (0), .int (100), .int (0), .int (0), .int (-1), .long (0), .int (1)])), (a4, .inr (11, [.int (0), .ref a12, .ref a13, .ref a14, .ref a15, .ref a16, .ref a17, .ref a18, .ref a19, .ref a20]))] sz) := by
  refine n_metW (by decide +kernel) q1242 (Nat.le_of_ble_eq_true rfl) (fun f => some (.int (1))) (fun f r => []) ?_
  intro p e s m below meth c A ls ⟨hx, hb, hr, hml, hown, hts, hlk, hnm⟩ htab hE hP hD hA hl
  have hown : s.vm.findClass "MinestrataLaw" = some m.cls := hown
  have hK := hE.1
  have hS : va_S A s.heap s.heap [] := va_S.rf
  have hl : lv_has ls 4 [(0, .ref a0), (1, .int s1), (2, .ref a1)] := hl
  refine lv_aload_n hx hb dL_tons_0 rfl (lv_at hl 2 rfl) ?_
  refine lv_iconst (v := (0)) hx hb dL_tons_1 (by decide +kernel) ?_
  refine lv_aload_n hx hb dL_tons_2 rfl (lv_at hl 0 rfl) ?_
  refine lv_iload_n hx hb dL_tons_3 rfl (lv_at hl 1 rfl) ?_
  have hX : nCx p s m _ c method_25_code 4 "MinestrataLaw" dC dI g A [(a0, .inr (12, [.ref a2, .ref a3, .ref a4, .ref a5, .ref a6, .ref a7, .ref a8, .ref a9, .null, .ref a10, .ref a11, .int (0), .int (100), .int (0), .int (0), .int (-1), .long (0), .int (1)])), (a4, .inr (11, [.int (0), .ref a12, .ref a13, .ref a14, .ref a15, .ref a16, .ref a17, .ref a18, .ref a19, .ref a20]))] _ _ := ⟨⟨hx, hb, hml, hown, hts⟩, hE, hS, hA, hP, hD⟩
  refine n_callX (E0 := "java/lang/IndexOutOfBoundsException") hX (n_runVX (n := 1) (wc := [(a0, .inr (12, [.ref a2, .ref a3, .ref a4, .ref a5, .ref a6, .ref a7, .ref a8, .ref a9, .null, .ref a10, .ref a11, .int (0), .int (100), .int (0), .int (0), .int (-1), .long (0), .int (1)])), (a4, .inr (11, [.int (0), .ref a12, .ref a13, .ref a14, .ref a15, .ref a16, .ref a17, .ref a18, .ref a19, .ref a20]))]) (As := [.int s1]) (rest := [.int (0), .ref a1]) hX (m331 l hst dC dI g a0 a2 a3 a4 a5 a6 a7 a8 a9 a10 a11 a12 a13 a14 a15 a16 a17 a18 a19 a20 s1 _) [0, 1] rfl (by decide +kernel) 0 (ci := 12) rfl (T := TX11) (N := 18) (C := "Minestrata") rfl q1243 q1244 q1245 q71 q1246 (by decide +kernel) ⟨(Nat.le_of_ble_eq_true rfl), (Nat.le_of_ble_eq_true rfl)⟩ ⟨(Nat.le_of_ble_eq_true rfl), (Nat.le_of_ble_eq_true rfl)⟩ hl.1 rfl rfl (Nat.le_of_ble_eq_true rfl) dL_tons_4) [0, 1] rfl (fun ce q9 H locs hS hce hcv hcl => ?_)
  refine n_catch (E := "java/lang/IndexOutOfBoundsException") (name := "java/lang/IndexOutOfBoundsException") hE hts hown htab [] ⟨0, 9, 12, 21⟩ [] rfl (fun z hz => nomatch hz) (by decide +kernel) (by decide) q907 x950 hce hcv hcl ?_
  refine W.widen (k := 1) (n := 6) (Nat.le_of_ble_eq_true rfl) (Nat.le_of_ble_eq_true rfl) ?_
  refine W.eq (g2 := F0 m 12 ls [.ref q9]) rfl ?_
  refine lv_astore_n (lv' := [(3, .ref q9), (0, .ref a0), (1, .int s1), (2, .ref a1)]) hx hb dL_tons_12 rfl hl (by decide) rfl (fun ls hl => ?_)
  refine lv_iconst (v := (1)) hx hb dL_tons_13 (by decide +kernel) ?_
  refine W.widen (k := 1) (n := 6) (Nat.le_of_ble_eq_true rfl) (Nat.le_of_ble_eq_true rfl) ?_
  exact W.iret hx hb hr (n_end0 hS (fun _ => 0) rfl rfl) hS.2.2 dL_tons_14 hlk

set_option maxHeartbeats 4000000 in
set_option maxRecDepth 100000 in
/-- MinestrataModel.tons -/
theorem m333 (l : Launch) (hst : l.stackTraces = false) (dC : Nat → ClassId) (dI : Nat → Nat → Nat) (g : Nat → Nat) (a0 a1 a2 a3 a4 a5 a6 a7 a8 a9 a10 a11 a12 : Nat) (s1 : Int32) (sz : Nat) :
    Met l Y140 (Cond.code Y140 prog_14_method_46_code 2 (Option.some Jvm.ClassFile.FieldType.int) :: AW) ({ frames := 2, cells := 0, slots := 0, locals := 43 } : Room) (nP dC dI g [.ref a0, .int s1] [(a0, .inr (15, [.int (0), .int (0), .int (100), .int (0), .int (0), .ref a1, .ref a2, .ref a3, .ref a4, .ref a5, .ref a6, .ref a7, .ref a8, .ref a9, .ref a10, .ref a11, .null, .int (-1), .ref a12, .long (0)])), (a9, .inr (1, [.int (0), .ref (g 21), .int (0)]))] sz) (nQ dC dI (fun f => some (.int (0))) (fun f r => [(a0, .inr (15, [.int (1), .int (0), .int (100), .int (0), .int (0), .ref a1, .ref a2, .ref a3, .ref a4, .ref a5, .ref a6, .ref a7, .ref a8, .ref a9, .ref a10, .ref a11, .null, .int (-1), .ref a12, .long (0)])), (a9, .inr (1, [.int (0), .ref (g 21), .int (0)]))]) (va_A [(a0, .inr (15, [.int (0), .int (0), .int (100), .int (0), .int (0), .ref a1, .ref a2, .ref a3, .ref a4, .ref a5, .ref a6, .ref a7, .ref a8, .ref a9, .ref a10, .ref a11, .null, .int (-1), .ref a12, .long (0)])), (a9, .inr (1, [.int (0), .ref (g 21), .int (0)]))] sz)) 0 0 (va_A [(a0, .inr (15, [.int (0), .int (0), .int (100), .int (0), .int (0), .ref a1, .ref a2, .ref a3, .ref a4, .ref a5, .ref a6, .ref a7, .ref a8, .ref a9, .ref a10, .ref a11, .null, .int (-1), .ref a12, .long (0)])), (a9, .inr (1, [.int (0), .ref (g 21), .int (0)]))] sz) := by
  refine n_met (by decide +kernel) (Nat.le_of_ble_eq_true rfl) (fun f => some (.int (0))) (fun f r => [(a0, .inr (15, [.int (1), .int (0), .int (100), .int (0), .int (0), .ref a1, .ref a2, .ref a3, .ref a4, .ref a5, .ref a6, .ref a7, .ref a8, .ref a9, .ref a10, .ref a11, .null, .int (-1), .ref a12, .long (0)])), (a9, .inr (1, [.int (0), .ref (g 21), .int (0)]))]) ?_
  intro p e s m below meth c A ls ⟨hx, hb, hr, hml, hown, hts, hlk, hnm⟩ hE hP hD hA hl
  have hown : s.vm.findClass "MinestrataModel" = some m.cls := hown
  have hK := hE.1
  have hS : va_S A s.heap s.heap [] := va_S.rf
  have hl : lv_has ls 2 [(0, .ref a0), (1, .int s1)] := hl
  refine lv_aload_n hx hb dX16_tons_0 rfl (lv_at hl 0 rfl) ?_
  refine lv_iload_n hx hb dX16_tons_1 rfl (lv_at hl 1 rfl) ?_
  have hX : nCx p s m _ c prog_14_method_46_code 2 "MinestrataModel" dC dI g A [(a0, .inr (15, [.int (0), .int (0), .int (100), .int (0), .int (0), .ref a1, .ref a2, .ref a3, .ref a4, .ref a5, .ref a6, .ref a7, .ref a8, .ref a9, .ref a10, .ref a11, .null, .int (-1), .ref a12, .long (0)])), (a9, .inr (1, [.int (0), .ref (g 21), .int (0)]))] _ _ := ⟨⟨hx, hb, hml, hown, hts⟩, hE, hS, hA, hP, hD⟩
  refine n_call (wr := []) hX (n_runV (n := 1) (wc := [(a0, .inr (15, [.int (0), .int (0), .int (100), .int (0), .int (0), .ref a1, .ref a2, .ref a3, .ref a4, .ref a5, .ref a6, .ref a7, .ref a8, .ref a9, .ref a10, .ref a11, .null, .int (-1), .ref a12, .long (0)])), (a9, .inr (1, [.int (0), .ref (g 21), .int (0)]))]) (As := [.int s1]) (rest := []) hX (m61 l hst dC dI g a0 a1 a2 a3 a4 a5 a6 a7 a8 a9 a10 a11 a12 s1 _) [0, 1] rfl (by decide +kernel) 0 (ci := 15) rfl (T := TX16) (N := 20) (C := "MinestrataModel") rfl q1679 q1681 q45 q82 q1682 (by decide +kernel) ⟨(Nat.le_of_ble_eq_true rfl), (Nat.le_of_ble_eq_true rfl)⟩ ⟨(Nat.le_of_ble_eq_true rfl), (Nat.le_of_ble_eq_true rfl)⟩ hl.1 rfl rfl (Nat.le_of_ble_eq_true rfl) dX16_tons_2) [0, 1] [] rfl rfl (by decide +kernel) (by decide +kernel) (fun f1 r2 H locs hP hD hS => ?_)
  have hP : va_P (dC, dI) CL [(a0, .inr (15, [.int (0), .int (0), .int (100), .int (0), .int (0), .ref a1, .ref a2, .ref a3, .ref a4, .ref a5, .ref a6, .ref a7, .ref a8, .ref a9, .ref a10, .ref a11, .null, .int (-1), .ref a12, .long (0)])), (a9, .inr (1, [.int (0), .ref (g 21), .int (0)]))] _ := hP
  have hD : va_D A [(a0, .inr (15, [.int (0), .int (0), .int (100), .int (0), .int (0), .ref a1, .ref a2, .ref a3, .ref a4, .ref a5, .ref a6, .ref a7, .ref a8, .ref a9, .ref a10, .ref a11, .null, .int (-1), .ref a12, .long (0)])), (a9, .inr (1, [.int (0), .ref (g 21), .int (0)]))] := hD
  refine W.widen (k := 0) (n := 0) (Nat.le_of_ble_eq_true rfl) (Nat.le_of_ble_eq_true rfl) ?_
  refine W.eq (g2 := F0 m 5 ls [.int (0)]) rfl ?_
  refine lv_if_eq (tgt := 29) hx hb dX16_tons_5 (by decide +kernel) (fun _ => ?_) (fun h => absurd (by decide +kernel) h)
  refine lv_aload_n hx hb dX16_tons_29 rfl (lv_at hl 0 rfl) ?_
  refine lv_iconst (v := (1)) hx hb dX16_tons_30 (by decide +kernel) ?_
  have hX : nCx p s m _ c prog_14_method_46_code 2 "MinestrataModel" dC dI g A [(a0, .inr (15, [.int (0), .int (0), .int (100), .int (0), .int (0), .ref a1, .ref a2, .ref a3, .ref a4, .ref a5, .ref a6, .ref a7, .ref a8, .ref a9, .ref a10, .ref a11, .null, .int (-1), .ref a12, .long (0)])), (a9, .inr (1, [.int (0), .ref (g 21), .int (0)]))] _ _ := ⟨⟨hx, hb, hml, hown, hts⟩, hE, hS, hA, hP, hD⟩
  refine n_call (wr := [(a9, .inr (1, [.int (0), .ref (g 21), .int (0)]))]) hX (n_runV (n := 1) (wc := [(a0, .inr (15, [.int (0), .int (0), .int (100), .int (0), .int (0), .ref a1, .ref a2, .ref a3, .ref a4, .ref a5, .ref a6, .ref a7, .ref a8, .ref a9, .ref a10, .ref a11, .null, .int (-1), .ref a12, .long (0)]))]) (As := [.int (1)]) (rest := []) hX (m31 l hst dC dI g a0 a1 a2 a3 a4 a5 a6 a7 a8 a9 a10 a11 a12 _) [0] rfl (by decide +kernel) 0 (ci := 15) rfl (T := TX16) (N := 20) (C := "MinestrataModel") rfl q1506 q1508 q39 q82 q1509 (by decide +kernel) ⟨(Nat.le_of_ble_eq_true rfl), (Nat.le_of_ble_eq_true rfl)⟩ ⟨(Nat.le_of_ble_eq_true rfl), (Nat.le_of_ble_eq_true rfl)⟩ hl.1 rfl rfl (Nat.le_of_ble_eq_true rfl) dX16_tons_31) [0] [1] rfl rfl (by decide +kernel) (by decide +kernel) (fun f3 r4 H locs hP hD hS => ?_)
  have hP : va_P (dC, dI) CL [(a9, .inr (1, [.int (0), .ref (g 21), .int (0)])), (a0, .inr (15, [.int (1), .int (0), .int (100), .int (0), .int (0), .ref a1, .ref a2, .ref a3, .ref a4, .ref a5, .ref a6, .ref a7, .ref a8, .ref a9, .ref a10, .ref a11, .null, .int (-1), .ref a12, .long (0)]))] _ := hP
  have hD : va_D A [(a9, .inr (1, [.int (0), .ref (g 21), .int (0)])), (a0, .inr (15, [.int (1), .int (0), .int (100), .int (0), .int (0), .ref a1, .ref a2, .ref a3, .ref a4, .ref a5, .ref a6, .ref a7, .ref a8, .ref a9, .ref a10, .ref a11, .null, .int (-1), .ref a12, .long (0)]))] := hD
  refine W.widen (k := 0) (n := 0) (Nat.le_of_ble_eq_true rfl) (Nat.le_of_ble_eq_true rfl) ?_
  refine W.eq (g2 := F0 m 34 ls [.int (0)]) rfl ?_
  refine W.widen (k := 0) (n := 0) (Nat.le_of_ble_eq_true rfl) (Nat.le_of_ble_eq_true rfl) ?_
  exact W.iret hx hb hr (n_end hS hP hD [1, 0] (by decide +kernel) (fun _ => 0) (fun _ => 0) rfl rfl rfl) hS.2.2 dX16_tons_34 hlk

set_option maxHeartbeats 4000000 in
set_option maxRecDepth 100000 in
/-- Minestrata.load -/
theorem m334 (l : Launch) (hst : l.stackTraces = false) (dC : Nat → ClassId) (dI : Nat → Nat → Nat) (g : Nat → Nat) (a0 a1 a2 a3 a4 a5 a6 a7 a8 a9 a10 a11 a12 a13 a14 a15 a16 a17 a18 a19 : Nat) (s1 : Int32) (sz : Nat) :
    vx_Met l Y142 (Cond.code Y142 prog_1_method_26_code 2 (Option.some Jvm.ClassFile.FieldType.int) :: AW) ({ frames := 6, cells := 1, slots := 6, locals := 81 } : Room) (nP dC dI g [.ref a0, .int s1] [(a0, .inr (12, [.ref a1, .ref a2, .ref a3, .ref a4, .ref a5, .ref a6, .ref a7, .ref a8, .null, .ref a9, .ref a10, .int (0), .int (100), .int (0), .int (0), .int (-1), .long (0), .int (1)])), (a3, .inr (11, [.int (0), .ref a11, .ref a12, .ref a13, .ref a14, .ref a15, .ref a16, .ref a17, .ref a18, .ref a19]))] sz) (fun _ _ _ _ => False) (nX "java/lang/IndexOutOfBoundsException" (va_A [(a0, .inr (12, [.ref a1, .ref a2, .ref a3, .ref a4, .ref a5, .ref a6, .ref a7, .ref a8, .null, .ref a9, .ref a10, .int (0), .int (100), .int (0), .int (0), .int (-1), .long (0), .int (1)])), (a3, .inr (11, [.int (0), .ref a11, .ref a12, .ref a13, .ref a14, .ref a15, .ref a16, .ref a17, .ref a18, .ref a19]))] sz)) 1 6 (va_A [(a0, .inr (12, [.ref a1, .ref a2, .ref a3, .ref a4, .ref a5, .ref a6, .ref a7, .ref a8, .null, .ref a9, .ref a10, .int (0), .int (100), .int (0), .int (0), .int (-1), .long (0), .int (1)])), (a3, .inr (11, [.int (0), .ref a11, .ref a12, .ref a13, .ref a14, .ref a15, .ref a16, .ref a17, .ref a18, .ref a19]))] sz) := by
  refine n_metX (by decide +kernel) (Nat.le_of_ble_eq_true rfl) "java/lang/IndexOutOfBoundsException" ?_
  intro p e s m below meth c A ls ⟨hx, hb, hr, hml, hown, hts, hlk, hnm⟩ hout hE hP hD hA hl
  have hown : s.vm.findClass "Minestrata" = some m.cls := hown
  have hK := hE.1
  have hS : va_S A s.heap s.heap [] := va_S.rf
  have hl : lv_has ls 2 [(0, .ref a0), (1, .int s1)] := hl
  have hlsz : ls.size = c.maxLocals := hl.1.trans hml.symm
  refine lv_aload_n hx hb dX11_load_0 rfl (lv_at hl 0 rfl) ?_
  refine va_get (D := (dC, dI)) (ci := 12) (v := .ref a3) (C := "Minestrata") (T := TX11) (N := 18) hx hb hts inX11 hown hK hP 0 rfl rfl 2 (by decide) (hts _ q506) (fun _ h9 => h9) rfl dX11_load_1 ?_
  refine lv_iload_n hx hb dX11_load_4 rfl (lv_at hl 1 rfl) ?_
  have hX : nCx p s m _ c prog_1_method_26_code 2 "Minestrata" dC dI g A [(a0, .inr (12, [.ref a1, .ref a2, .ref a3, .ref a4, .ref a5, .ref a6, .ref a7, .ref a8, .null, .ref a9, .ref a10, .int (0), .int (100), .int (0), .int (0), .int (-1), .long (0), .int (1)])), (a3, .inr (11, [.int (0), .ref a11, .ref a12, .ref a13, .ref a14, .ref a15, .ref a16, .ref a17, .ref a18, .ref a19]))] _ _ := ⟨⟨hx, hb, hml, hown, hts⟩, hE, hS, hA, hP, hD⟩
  refine n_call (wr := [(a0, .inr (12, [.ref a1, .ref a2, .ref a3, .ref a4, .ref a5, .ref a6, .ref a7, .ref a8, .null, .ref a9, .ref a10, .int (0), .int (100), .int (0), .int (0), .int (-1), .long (0), .int (1)]))]) hX (n_runV (n := 1) (wc := [(a3, .inr (11, [.int (0), .ref a11, .ref a12, .ref a13, .ref a14, .ref a15, .ref a16, .ref a17, .ref a18, .ref a19]))]) (As := [.int s1]) (rest := []) hX (m57 l hst dC dI g a3 a11 a12 a13 a14 a15 a16 a17 a18 a19 s1 _) [1] rfl (by decide +kernel) 1 (ci := 11) rfl (T := TX10) (N := 10) (C := "Minestrata$Stopes") rfl q985 q986 q987 q73 q988 (by decide +kernel) ⟨(Nat.le_of_ble_eq_true rfl), (Nat.le_of_ble_eq_true rfl)⟩ ⟨(Nat.le_of_ble_eq_true rfl), (Nat.le_of_ble_eq_true rfl)⟩ hl.1 rfl rfl (Nat.le_of_ble_eq_true rfl) dX11_load_5) [1] [0] rfl rfl (by decide +kernel) (by decide +kernel) (fun f1 r2 H locs hP hD hS => ?_)
  have hP : va_P (dC, dI) CL [(a0, .inr (12, [.ref a1, .ref a2, .ref a3, .ref a4, .ref a5, .ref a6, .ref a7, .ref a8, .null, .ref a9, .ref a10, .int (0), .int (100), .int (0), .int (0), .int (-1), .long (0), .int (1)])), (a3, .inr (11, [.int (0), .ref a11, .ref a12, .ref a13, .ref a14, .ref a15, .ref a16, .ref a17, .ref a18, .ref a19]))] _ := hP
  have hD : va_D A [(a0, .inr (12, [.ref a1, .ref a2, .ref a3, .ref a4, .ref a5, .ref a6, .ref a7, .ref a8, .null, .ref a9, .ref a10, .int (0), .int (100), .int (0), .int (0), .int (-1), .long (0), .int (1)])), (a3, .inr (11, [.int (0), .ref a11, .ref a12, .ref a13, .ref a14, .ref a15, .ref a16, .ref a17, .ref a18, .ref a19]))] := hD
  refine W.widen (k := 0) (n := 0) (Nat.le_of_ble_eq_true rfl) (Nat.le_of_ble_eq_true rfl) ?_
  refine W.eq (g2 := F0 m 8 ls [.int (0)]) rfl ?_
  refine lv_if_ne (tgt := 19) hx hb dX11_load_8 (by decide +kernel) (fun h => absurd (by decide +kernel) h) (fun _ => ?_)
  exact n_throw hx hb hst hown hts hE hS (names := ["java/lang/RuntimeException", "java/lang/Exception"]) (by decide +kernel) (by decide +kernel) q948 q91 hat1p hat1a hat1 hat1g (hl.1.trans hml.symm) dX11_load_11 dX11_load_14 dX11_load_15 dX11_load_18 hout (Nat.le_of_ble_eq_true rfl) (Nat.le_of_ble_eq_true rfl) (Nat.le_of_ble_eq_true rfl) (Nat.le_of_ble_eq_true rfl) hlk (Nat.le_of_ble_eq_true rfl) (Nat.le_of_ble_eq_true rfl)

set_option maxHeartbeats 4000000 in
set_option maxRecDepth 100000 in
/-- MinestrataLaw.load -/
theorem m335 (l : Launch) (hst : l.stackTraces = false) (dC : Nat → ClassId) (dI : Nat → Nat → Nat) (g : Nat → Nat) (a0 a1 a2 a3 a4 a5 a6 a7 a8 a9 a10 a11 a12 a13 a14 a15 a16 a17 a18 a19 a20 : Nat) (s1 : Int32) (sz : Nat) :
    Met l Y141 (Cond.codeWith Y141 method_26_code 4 (Option.some Jvm.ClassFile.FieldType.int) [((0 : Nat), (9 : Nat), (12 : Nat), (21 : Nat))] :: AW) ({ frames := 7, cells := 1, slots := 6, locals := 102 } : Room) (nP dC dI g [.ref a0, .int s1, .ref a1] [(a0, .inr (12, [.ref a2, .ref a3, .ref a4, .ref a5, .ref a6, .ref a7, .ref a8, .ref a9, .null, .ref a10, .ref a11, .int (0), .int (100), .int (0), .int (0), .int (-1), .long (0), .int (1)])), (a4, .inr (11, [.int (0), .ref a12, .ref a13, .ref a14, .ref a15, .ref a16, .ref a17, .ref a18, .ref a19, .ref a20]))] sz) (nQ dC dI (fun f => some (.int (1))) (fun f r => []) (va_A [(a0, .inr (12, [.ref a2, .ref a3, .ref a4, .ref a5, .ref a6, .ref a7, .ref a8, .ref a9, .null, .ref a10, .ref a11, .int (0), .int (100), .int (0), .int (0), .int (-1), .long (0), .int (1)])), (a4, .inr (11, [.int (0), .ref a12, .ref a13, .ref a14, .ref a15, .ref a16, .ref a17, .ref a18, .ref a19, .ref a20]))] sz)) 1 6 (va_A [(a0, .inr (12, [.ref a2, .ref a3, .ref a4, .ref a5, .ref a6, .ref a7, .ref a8, .ref a9, .null, .ref a10, .ref a11, .int (0), .int (100), .int (0), .int (0), .int (-1), .long (0), .int (1)])), (a4, .inr (11, [.int (0), .ref a12, .ref a13, .ref a14, .ref a15, .ref a16, .ref a17, .ref a18, .ref a19, .ref a20]))] sz) := by
  refine n_metW (by decide +kernel) q1249 (Nat.le_of_ble_eq_true rfl) (fun f => some (.int (1))) (fun f r => []) ?_
  intro p e s m below meth c A ls ⟨hx, hb, hr, hml, hown, hts, hlk, hnm⟩ htab hE hP hD hA hl
  have hown : s.vm.findClass "MinestrataLaw" = some m.cls := hown
  have hK := hE.1
  have hS : va_S A s.heap s.heap [] := va_S.rf
  have hl : lv_has ls 4 [(0, .ref a0), (1, .int s1), (2, .ref a1)] := hl
  refine lv_aload_n hx hb dL_load_0 rfl (lv_at hl 2 rfl) ?_
  refine lv_iconst (v := (0)) hx hb dL_load_1 (by decide +kernel) ?_
  refine lv_aload_n hx hb dL_load_2 rfl (lv_at hl 0 rfl) ?_
  refine lv_iload_n hx hb dL_load_3 rfl (lv_at hl 1 rfl) ?_
  have hX : nCx p s m _ c method_26_code 4 "MinestrataLaw" dC dI g A [(a0, .inr (12, [.ref a2, .ref a3, .ref a4, .ref a5, .ref a6, .ref a7, .ref a8, .ref a9, .null, .ref a10, .ref a11, .int (0), .int (100), .int (0), .int (0), .int (-1), .long (0), .int (1)])), (a4, .inr (11, [.int (0), .ref a12, .ref a13, .ref a14, .ref a15, .ref a16, .ref a17, .ref a18, .ref a19, .ref a20]))] _ _ := ⟨⟨hx, hb, hml, hown, hts⟩, hE, hS, hA, hP, hD⟩
  refine n_callX (E0 := "java/lang/IndexOutOfBoundsException") hX (n_runVX (n := 1) (wc := [(a0, .inr (12, [.ref a2, .ref a3, .ref a4, .ref a5, .ref a6, .ref a7, .ref a8, .ref a9, .null, .ref a10, .ref a11, .int (0), .int (100), .int (0), .int (0), .int (-1), .long (0), .int (1)])), (a4, .inr (11, [.int (0), .ref a12, .ref a13, .ref a14, .ref a15, .ref a16, .ref a17, .ref a18, .ref a19, .ref a20]))]) (As := [.int s1]) (rest := [.int (0), .ref a1]) hX (m334 l hst dC dI g a0 a2 a3 a4 a5 a6 a7 a8 a9 a10 a11 a12 a13 a14 a15 a16 a17 a18 a19 a20 s1 _) [0, 1] rfl (by decide +kernel) 0 (ci := 12) rfl (T := TX11) (N := 18) (C := "Minestrata") rfl q1250 q1251 q1252 q71 q1253 (by decide +kernel) ⟨(Nat.le_of_ble_eq_true rfl), (Nat.le_of_ble_eq_true rfl)⟩ ⟨(Nat.le_of_ble_eq_true rfl), (Nat.le_of_ble_eq_true rfl)⟩ hl.1 rfl rfl (Nat.le_of_ble_eq_true rfl) dL_load_4) [0, 1] rfl (fun ce q9 H locs hS hce hcv hcl => ?_)
  refine n_catch (E := "java/lang/IndexOutOfBoundsException") (name := "java/lang/IndexOutOfBoundsException") hE hts hown htab [] ⟨0, 9, 12, 21⟩ [] rfl (fun z hz => nomatch hz) (by decide +kernel) (by decide) q907 x950 hce hcv hcl ?_
  refine W.widen (k := 1) (n := 6) (Nat.le_of_ble_eq_true rfl) (Nat.le_of_ble_eq_true rfl) ?_
  refine W.eq (g2 := F0 m 12 ls [.ref q9]) rfl ?_
  refine lv_astore_n (lv' := [(3, .ref q9), (0, .ref a0), (1, .int s1), (2, .ref a1)]) hx hb dL_load_12 rfl hl (by decide) rfl (fun ls hl => ?_)
  refine lv_iconst (v := (1)) hx hb dL_load_13 (by decide +kernel) ?_
  refine W.widen (k := 1) (n := 6) (Nat.le_of_ble_eq_true rfl) (Nat.le_of_ble_eq_true rfl) ?_
  exact W.iret hx hb hr (n_end0 hS (fun _ => 0) rfl rfl) hS.2.2 dL_load_14 hlk

set_option maxHeartbeats 4000000 in
set_option maxRecDepth 100000 in
/-- MinestrataModel.load -/
theorem m336 (l : Launch) (hst : l.stackTraces = false) (dC : Nat → ClassId) (dI : Nat → Nat → Nat) (g : Nat → Nat) (a0 a1 a2 a3 a4 a5 a6 a7 a8 a9 a10 a11 a12 : Nat) (s1 : Int32) (sz : Nat) :
    Met l Y143 (Cond.code Y143 prog_14_method_47_code 2 (Option.some Jvm.ClassFile.FieldType.int) :: AW) ({ frames := 2, cells := 0, slots := 0, locals := 43 } : Room) (nP dC dI g [.ref a0, .int s1] [(a0, .inr (15, [.int (0), .int (0), .int (100), .int (0), .int (0), .ref a1, .ref a2, .ref a3, .ref a4, .ref a5, .ref a6, .ref a7, .ref a8, .ref a9, .ref a10, .ref a11, .null, .int (-1), .ref a12, .long (0)])), (a9, .inr (1, [.int (0), .ref (g 21), .int (0)]))] sz) (nQ dC dI (fun f => some (.int (0))) (fun f r => [(a0, .inr (15, [.int (1), .int (0), .int (100), .int (0), .int (0), .ref a1, .ref a2, .ref a3, .ref a4, .ref a5, .ref a6, .ref a7, .ref a8, .ref a9, .ref a10, .ref a11, .null, .int (-1), .ref a12, .long (0)])), (a9, .inr (1, [.int (0), .ref (g 21), .int (0)]))]) (va_A [(a0, .inr (15, [.int (0), .int (0), .int (100), .int (0), .int (0), .ref a1, .ref a2, .ref a3, .ref a4, .ref a5, .ref a6, .ref a7, .ref a8, .ref a9, .ref a10, .ref a11, .null, .int (-1), .ref a12, .long (0)])), (a9, .inr (1, [.int (0), .ref (g 21), .int (0)]))] sz)) 0 0 (va_A [(a0, .inr (15, [.int (0), .int (0), .int (100), .int (0), .int (0), .ref a1, .ref a2, .ref a3, .ref a4, .ref a5, .ref a6, .ref a7, .ref a8, .ref a9, .ref a10, .ref a11, .null, .int (-1), .ref a12, .long (0)])), (a9, .inr (1, [.int (0), .ref (g 21), .int (0)]))] sz) := by
  refine n_met (by decide +kernel) (Nat.le_of_ble_eq_true rfl) (fun f => some (.int (0))) (fun f r => [(a0, .inr (15, [.int (1), .int (0), .int (100), .int (0), .int (0), .ref a1, .ref a2, .ref a3, .ref a4, .ref a5, .ref a6, .ref a7, .ref a8, .ref a9, .ref a10, .ref a11, .null, .int (-1), .ref a12, .long (0)])), (a9, .inr (1, [.int (0), .ref (g 21), .int (0)]))]) ?_
  intro p e s m below meth c A ls ⟨hx, hb, hr, hml, hown, hts, hlk, hnm⟩ hE hP hD hA hl
  have hown : s.vm.findClass "MinestrataModel" = some m.cls := hown
  have hK := hE.1
  have hS : va_S A s.heap s.heap [] := va_S.rf
  have hl : lv_has ls 2 [(0, .ref a0), (1, .int s1)] := hl
  refine lv_aload_n hx hb dX16_load_0 rfl (lv_at hl 0 rfl) ?_
  refine lv_iload_n hx hb dX16_load_1 rfl (lv_at hl 1 rfl) ?_
  have hX : nCx p s m _ c prog_14_method_47_code 2 "MinestrataModel" dC dI g A [(a0, .inr (15, [.int (0), .int (0), .int (100), .int (0), .int (0), .ref a1, .ref a2, .ref a3, .ref a4, .ref a5, .ref a6, .ref a7, .ref a8, .ref a9, .ref a10, .ref a11, .null, .int (-1), .ref a12, .long (0)])), (a9, .inr (1, [.int (0), .ref (g 21), .int (0)]))] _ _ := ⟨⟨hx, hb, hml, hown, hts⟩, hE, hS, hA, hP, hD⟩
  refine n_call (wr := []) hX (n_runV (n := 1) (wc := [(a0, .inr (15, [.int (0), .int (0), .int (100), .int (0), .int (0), .ref a1, .ref a2, .ref a3, .ref a4, .ref a5, .ref a6, .ref a7, .ref a8, .ref a9, .ref a10, .ref a11, .null, .int (-1), .ref a12, .long (0)])), (a9, .inr (1, [.int (0), .ref (g 21), .int (0)]))]) (As := [.int s1]) (rest := []) hX (m61 l hst dC dI g a0 a1 a2 a3 a4 a5 a6 a7 a8 a9 a10 a11 a12 s1 _) [0, 1] rfl (by decide +kernel) 0 (ci := 15) rfl (T := TX16) (N := 20) (C := "MinestrataModel") rfl q1679 q1681 q45 q82 q1682 (by decide +kernel) ⟨(Nat.le_of_ble_eq_true rfl), (Nat.le_of_ble_eq_true rfl)⟩ ⟨(Nat.le_of_ble_eq_true rfl), (Nat.le_of_ble_eq_true rfl)⟩ hl.1 rfl rfl (Nat.le_of_ble_eq_true rfl) dX16_load_2) [0, 1] [] rfl rfl (by decide +kernel) (by decide +kernel) (fun f1 r2 H locs hP hD hS => ?_)
  have hP : va_P (dC, dI) CL [(a0, .inr (15, [.int (0), .int (0), .int (100), .int (0), .int (0), .ref a1, .ref a2, .ref a3, .ref a4, .ref a5, .ref a6, .ref a7, .ref a8, .ref a9, .ref a10, .ref a11, .null, .int (-1), .ref a12, .long (0)])), (a9, .inr (1, [.int (0), .ref (g 21), .int (0)]))] _ := hP
  have hD : va_D A [(a0, .inr (15, [.int (0), .int (0), .int (100), .int (0), .int (0), .ref a1, .ref a2, .ref a3, .ref a4, .ref a5, .ref a6, .ref a7, .ref a8, .ref a9, .ref a10, .ref a11, .null, .int (-1), .ref a12, .long (0)])), (a9, .inr (1, [.int (0), .ref (g 21), .int (0)]))] := hD
  refine W.widen (k := 0) (n := 0) (Nat.le_of_ble_eq_true rfl) (Nat.le_of_ble_eq_true rfl) ?_
  refine W.eq (g2 := F0 m 5 ls [.int (0)]) rfl ?_
  refine lv_if_eq (tgt := 29) hx hb dX16_load_5 (by decide +kernel) (fun _ => ?_) (fun h => absurd (by decide +kernel) h)
  refine lv_aload_n hx hb dX16_load_29 rfl (lv_at hl 0 rfl) ?_
  refine lv_iconst (v := (1)) hx hb dX16_load_30 (by decide +kernel) ?_
  have hX : nCx p s m _ c prog_14_method_47_code 2 "MinestrataModel" dC dI g A [(a0, .inr (15, [.int (0), .int (0), .int (100), .int (0), .int (0), .ref a1, .ref a2, .ref a3, .ref a4, .ref a5, .ref a6, .ref a7, .ref a8, .ref a9, .ref a10, .ref a11, .null, .int (-1), .ref a12, .long (0)])), (a9, .inr (1, [.int (0), .ref (g 21), .int (0)]))] _ _ := ⟨⟨hx, hb, hml, hown, hts⟩, hE, hS, hA, hP, hD⟩
  refine n_call (wr := [(a9, .inr (1, [.int (0), .ref (g 21), .int (0)]))]) hX (n_runV (n := 1) (wc := [(a0, .inr (15, [.int (0), .int (0), .int (100), .int (0), .int (0), .ref a1, .ref a2, .ref a3, .ref a4, .ref a5, .ref a6, .ref a7, .ref a8, .ref a9, .ref a10, .ref a11, .null, .int (-1), .ref a12, .long (0)]))]) (As := [.int (1)]) (rest := []) hX (m31 l hst dC dI g a0 a1 a2 a3 a4 a5 a6 a7 a8 a9 a10 a11 a12 _) [0] rfl (by decide +kernel) 0 (ci := 15) rfl (T := TX16) (N := 20) (C := "MinestrataModel") rfl q1506 q1508 q39 q82 q1509 (by decide +kernel) ⟨(Nat.le_of_ble_eq_true rfl), (Nat.le_of_ble_eq_true rfl)⟩ ⟨(Nat.le_of_ble_eq_true rfl), (Nat.le_of_ble_eq_true rfl)⟩ hl.1 rfl rfl (Nat.le_of_ble_eq_true rfl) dX16_load_31) [0] [1] rfl rfl (by decide +kernel) (by decide +kernel) (fun f3 r4 H locs hP hD hS => ?_)
  have hP : va_P (dC, dI) CL [(a9, .inr (1, [.int (0), .ref (g 21), .int (0)])), (a0, .inr (15, [.int (1), .int (0), .int (100), .int (0), .int (0), .ref a1, .ref a2, .ref a3, .ref a4, .ref a5, .ref a6, .ref a7, .ref a8, .ref a9, .ref a10, .ref a11, .null, .int (-1), .ref a12, .long (0)]))] _ := hP
  have hD : va_D A [(a9, .inr (1, [.int (0), .ref (g 21), .int (0)])), (a0, .inr (15, [.int (1), .int (0), .int (100), .int (0), .int (0), .ref a1, .ref a2, .ref a3, .ref a4, .ref a5, .ref a6, .ref a7, .ref a8, .ref a9, .ref a10, .ref a11, .null, .int (-1), .ref a12, .long (0)]))] := hD
  refine W.widen (k := 0) (n := 0) (Nat.le_of_ble_eq_true rfl) (Nat.le_of_ble_eq_true rfl) ?_
  refine W.eq (g2 := F0 m 34 ls [.int (0)]) rfl ?_
  refine W.widen (k := 0) (n := 0) (Nat.le_of_ble_eq_true rfl) (Nat.le_of_ble_eq_true rfl) ?_
  exact W.iret hx hb hr (n_end hS hP hD [1, 0] (by decide +kernel) (fun _ => 0) (fun _ => 0) rfl rfl rfl) hS.2.2 dX16_load_34 hlk

set_option maxHeartbeats 4000000 in
set_option maxRecDepth 100000 in
/-- Minestrata.stateOf -/
theorem m337 (l : Launch) (hst : l.stackTraces = false) (dC : Nat → ClassId) (dI : Nat → Nat → Nat) (g : Nat → Nat) (a0 a1 a2 a3 a4 a5 a6 a7 a8 a9 a10 a11 a12 a13 a14 a15 a16 a17 a18 a19 : Nat) (s1 : Int32) (sz : Nat) :
    vx_Met l Y145 (Cond.code Y145 prog_1_method_27_code 2 (Option.some Jvm.ClassFile.FieldType.char) :: AW) ({ frames := 6, cells := 1, slots := 6, locals := 81 } : Room) (nP dC dI g [.ref a0, .int s1] [(a0, .inr (12, [.ref a1, .ref a2, .ref a3, .ref a4, .ref a5, .ref a6, .ref a7, .ref a8, .null, .ref a9, .ref a10, .int (0), .int (100), .int (0), .int (0), .int (-1), .long (0), .int (1)])), (a3, .inr (11, [.int (0), .ref a11, .ref a12, .ref a13, .ref a14, .ref a15, .ref a16, .ref a17, .ref a18, .ref a19]))] sz) (fun _ _ _ _ => False) (nX "java/lang/IndexOutOfBoundsException" (va_A [(a0, .inr (12, [.ref a1, .ref a2, .ref a3, .ref a4, .ref a5, .ref a6, .ref a7, .ref a8, .null, .ref a9, .ref a10, .int (0), .int (100), .int (0), .int (0), .int (-1), .long (0), .int (1)])), (a3, .inr (11, [.int (0), .ref a11, .ref a12, .ref a13, .ref a14, .ref a15, .ref a16, .ref a17, .ref a18, .ref a19]))] sz)) 1 6 (va_A [(a0, .inr (12, [.ref a1, .ref a2, .ref a3, .ref a4, .ref a5, .ref a6, .ref a7, .ref a8, .null, .ref a9, .ref a10, .int (0), .int (100), .int (0), .int (0), .int (-1), .long (0), .int (1)])), (a3, .inr (11, [.int (0), .ref a11, .ref a12, .ref a13, .ref a14, .ref a15, .ref a16, .ref a17, .ref a18, .ref a19]))] sz) := by
  refine n_metX (by decide +kernel) (Nat.le_of_ble_eq_true rfl) "java/lang/IndexOutOfBoundsException" ?_
  intro p e s m below meth c A ls ⟨hx, hb, hr, hml, hown, hts, hlk, hnm⟩ hout hE hP hD hA hl
  have hown : s.vm.findClass "Minestrata" = some m.cls := hown
  have hK := hE.1
  have hS : va_S A s.heap s.heap [] := va_S.rf
  have hl : lv_has ls 2 [(0, .ref a0), (1, .int s1)] := hl
  have hlsz : ls.size = c.maxLocals := hl.1.trans hml.symm
  refine lv_aload_n hx hb dX11_stateOf_0 rfl (lv_at hl 0 rfl) ?_
  refine va_get (D := (dC, dI)) (ci := 12) (v := .ref a3) (C := "Minestrata") (T := TX11) (N := 18) hx hb hts inX11 hown hK hP 0 rfl rfl 2 (by decide) (hts _ q506) (fun _ h9 => h9) rfl dX11_stateOf_1 ?_
  refine lv_iload_n hx hb dX11_stateOf_4 rfl (lv_at hl 1 rfl) ?_
  have hX : nCx p s m _ c prog_1_method_27_code 2 "Minestrata" dC dI g A [(a0, .inr (12, [.ref a1, .ref a2, .ref a3, .ref a4, .ref a5, .ref a6, .ref a7, .ref a8, .null, .ref a9, .ref a10, .int (0), .int (100), .int (0), .int (0), .int (-1), .long (0), .int (1)])), (a3, .inr (11, [.int (0), .ref a11, .ref a12, .ref a13, .ref a14, .ref a15, .ref a16, .ref a17, .ref a18, .ref a19]))] _ _ := ⟨⟨hx, hb, hml, hown, hts⟩, hE, hS, hA, hP, hD⟩
  refine n_call (wr := [(a0, .inr (12, [.ref a1, .ref a2, .ref a3, .ref a4, .ref a5, .ref a6, .ref a7, .ref a8, .null, .ref a9, .ref a10, .int (0), .int (100), .int (0), .int (0), .int (-1), .long (0), .int (1)]))]) hX (n_runV (n := 1) (wc := [(a3, .inr (11, [.int (0), .ref a11, .ref a12, .ref a13, .ref a14, .ref a15, .ref a16, .ref a17, .ref a18, .ref a19]))]) (As := [.int s1]) (rest := []) hX (m57 l hst dC dI g a3 a11 a12 a13 a14 a15 a16 a17 a18 a19 s1 _) [1] rfl (by decide +kernel) 1 (ci := 11) rfl (T := TX10) (N := 10) (C := "Minestrata$Stopes") rfl q985 q986 q987 q73 q988 (by decide +kernel) ⟨(Nat.le_of_ble_eq_true rfl), (Nat.le_of_ble_eq_true rfl)⟩ ⟨(Nat.le_of_ble_eq_true rfl), (Nat.le_of_ble_eq_true rfl)⟩ hl.1 rfl rfl (Nat.le_of_ble_eq_true rfl) dX11_stateOf_5) [1] [0] rfl rfl (by decide +kernel) (by decide +kernel) (fun f1 r2 H locs hP hD hS => ?_)
  have hP : va_P (dC, dI) CL [(a0, .inr (12, [.ref a1, .ref a2, .ref a3, .ref a4, .ref a5, .ref a6, .ref a7, .ref a8, .null, .ref a9, .ref a10, .int (0), .int (100), .int (0), .int (0), .int (-1), .long (0), .int (1)])), (a3, .inr (11, [.int (0), .ref a11, .ref a12, .ref a13, .ref a14, .ref a15, .ref a16, .ref a17, .ref a18, .ref a19]))] _ := hP
  have hD : va_D A [(a0, .inr (12, [.ref a1, .ref a2, .ref a3, .ref a4, .ref a5, .ref a6, .ref a7, .ref a8, .null, .ref a9, .ref a10, .int (0), .int (100), .int (0), .int (0), .int (-1), .long (0), .int (1)])), (a3, .inr (11, [.int (0), .ref a11, .ref a12, .ref a13, .ref a14, .ref a15, .ref a16, .ref a17, .ref a18, .ref a19]))] := hD
  refine W.widen (k := 0) (n := 0) (Nat.le_of_ble_eq_true rfl) (Nat.le_of_ble_eq_true rfl) ?_
  refine W.eq (g2 := F0 m 8 ls [.int (0)]) rfl ?_
  refine lv_if_ne (tgt := 19) hx hb dX11_stateOf_8 (by decide +kernel) (fun h => absurd (by decide +kernel) h) (fun _ => ?_)
  exact n_throw hx hb hst hown hts hE hS (names := ["java/lang/RuntimeException", "java/lang/Exception"]) (by decide +kernel) (by decide +kernel) q948 q91 hat1p hat1a hat1 hat1g (hl.1.trans hml.symm) dX11_stateOf_11 dX11_stateOf_14 dX11_stateOf_15 dX11_stateOf_18 hout (Nat.le_of_ble_eq_true rfl) (Nat.le_of_ble_eq_true rfl) (Nat.le_of_ble_eq_true rfl) (Nat.le_of_ble_eq_true rfl) hlk (Nat.le_of_ble_eq_true rfl) (Nat.le_of_ble_eq_true rfl)

set_option maxHeartbeats 4000000 in
set_option maxRecDepth 100000 in
/-- MinestrataLaw.stateOf -/
theorem m338 (l : Launch) (hst : l.stackTraces = false) (dC : Nat → ClassId) (dI : Nat → Nat → Nat) (g : Nat → Nat) (a0 a1 a2 a3 a4 a5 a6 a7 a8 a9 a10 a11 a12 a13 a14 a15 a16 a17 a18 a19 a20 : Nat) (s1 : Int32) (sz : Nat) :
    Met l Y144 (Cond.codeWith Y144 method_27_code 4 (Option.some Jvm.ClassFile.FieldType.int) [((0 : Nat), (9 : Nat), (12 : Nat), (21 : Nat))] :: AW) ({ frames := 7, cells := 1, slots := 6, locals := 102 } : Room) (nP dC dI g [.ref a0, .int s1, .ref a1] [(a0, .inr (12, [.ref a2, .ref a3, .ref a4, .ref a5, .ref a6, .ref a7, .ref a8, .ref a9, .null, .ref a10, .ref a11, .int (0), .int (100), .int (0), .int (0), .int (-1), .long (0), .int (1)])), (a4, .inr (11, [.int (0), .ref a12, .ref a13, .ref a14, .ref a15, .ref a16, .ref a17, .ref a18, .ref a19, .ref a20]))] sz) (nQ dC dI (fun f => some (.int (1))) (fun f r => []) (va_A [(a0, .inr (12, [.ref a2, .ref a3, .ref a4, .ref a5, .ref a6, .ref a7, .ref a8, .ref a9, .null, .ref a10, .ref a11, .int (0), .int (100), .int (0), .int (0), .int (-1), .long (0), .int (1)])), (a4, .inr (11, [.int (0), .ref a12, .ref a13, .ref a14, .ref a15, .ref a16, .ref a17, .ref a18, .ref a19, .ref a20]))] sz)) 1 6 (va_A [(a0, .inr (12, [.ref a2, .ref a3, .ref a4, .ref a5, .ref a6, .ref a7, .ref a8, .ref a9, .null, .ref a10, .ref a11, .int (0), .int (100), .int (0), .int (0), .int (-1), .long (0), .int (1)])), (a4, .inr (11, [.int (0), .ref a12, .ref a13, .ref a14, .ref a15, .ref a16, .ref a17, .ref a18, .ref a19, .ref a20]))] sz) := by
  refine n_metW (by decide +kernel) q1256 (Nat.le_of_ble_eq_true rfl) (fun f => some (.int (1))) (fun f r => []) ?_
  intro p e s m below meth c A ls ⟨hx, hb, hr, hml, hown, hts, hlk, hnm⟩ htab hE hP hD hA hl
  have hown : s.vm.findClass "MinestrataLaw" = some m.cls := hown
  have hK := hE.1
  have hS : va_S A s.heap s.heap [] := va_S.rf
  have hl : lv_has ls 4 [(0, .ref a0), (1, .int s1), (2, .ref a1)] := hl
  refine lv_aload_n hx hb dL_stateOf_0 rfl (lv_at hl 2 rfl) ?_
  refine lv_iconst (v := (0)) hx hb dL_stateOf_1 (by decide +kernel) ?_
  refine lv_aload_n hx hb dL_stateOf_2 rfl (lv_at hl 0 rfl) ?_
  refine lv_iload_n hx hb dL_stateOf_3 rfl (lv_at hl 1 rfl) ?_
  have hX : nCx p s m _ c method_27_code 4 "MinestrataLaw" dC dI g A [(a0, .inr (12, [.ref a2, .ref a3, .ref a4, .ref a5, .ref a6, .ref a7, .ref a8, .ref a9, .null, .ref a10, .ref a11, .int (0), .int (100), .int (0), .int (0), .int (-1), .long (0), .int (1)])), (a4, .inr (11, [.int (0), .ref a12, .ref a13, .ref a14, .ref a15, .ref a16, .ref a17, .ref a18, .ref a19, .ref a20]))] _ _ := ⟨⟨hx, hb, hml, hown, hts⟩, hE, hS, hA, hP, hD⟩
  refine n_callX (E0 := "java/lang/IndexOutOfBoundsException") hX (n_runVX (n := 1) (wc := [(a0, .inr (12, [.ref a2, .ref a3, .ref a4, .ref a5, .ref a6, .ref a7, .ref a8, .ref a9, .null, .ref a10, .ref a11, .int (0), .int (100), .int (0), .int (0), .int (-1), .long (0), .int (1)])), (a4, .inr (11, [.int (0), .ref a12, .ref a13, .ref a14, .ref a15, .ref a16, .ref a17, .ref a18, .ref a19, .ref a20]))]) (As := [.int s1]) (rest := [.int (0), .ref a1]) hX (m337 l hst dC dI g a0 a2 a3 a4 a5 a6 a7 a8 a9 a10 a11 a12 a13 a14 a15 a16 a17 a18 a19 a20 s1 _) [0, 1] rfl (by decide +kernel) 0 (ci := 12) rfl (T := TX11) (N := 18) (C := "Minestrata") rfl q1257 q1258 q1259 q71 q1260 (by decide +kernel) ⟨(Nat.le_of_ble_eq_true rfl), (Nat.le_of_ble_eq_true rfl)⟩ ⟨(Nat.le_of_ble_eq_true rfl), (Nat.le_of_ble_eq_true rfl)⟩ hl.1 rfl rfl (Nat.le_of_ble_eq_true rfl) dL_stateOf_4) [0, 1] rfl (fun ce q9 H locs hS hce hcv hcl => ?_)
  refine n_catch (E := "java/lang/IndexOutOfBoundsException") (name := "java/lang/IndexOutOfBoundsException") hE hts hown htab [] ⟨0, 9, 12, 21⟩ [] rfl (fun z hz => nomatch hz) (by decide +kernel) (by decide) q907 x950 hce hcv hcl ?_
  refine W.widen (k := 1) (n := 6) (Nat.le_of_ble_eq_true rfl) (Nat.le_of_ble_eq_true rfl) ?_
  refine W.eq (g2 := F0 m 12 ls [.ref q9]) rfl ?_
  refine lv_astore_n (lv' := [(3, .ref q9), (0, .ref a0), (1, .int s1), (2, .ref a1)]) hx hb dL_stateOf_12 rfl hl (by decide) rfl (fun ls hl => ?_)
  refine lv_iconst (v := (1)) hx hb dL_stateOf_13 (by decide +kernel) ?_
  refine W.widen (k := 1) (n := 6) (Nat.le_of_ble_eq_true rfl) (Nat.le_of_ble_eq_true rfl) ?_
  exact W.iret hx hb hr (n_end0 hS (fun _ => 0) rfl rfl) hS.2.2 dL_stateOf_14 hlk

set_option maxHeartbeats 4000000 in
set_option maxRecDepth 100000 in
/-- MinestrataModel.stateOf -/
theorem m339 (l : Launch) (hst : l.stackTraces = false) (dC : Nat → ClassId) (dI : Nat → Nat → Nat) (g : Nat → Nat) (a0 a1 a2 a3 a4 a5 a6 a7 a8 a9 a10 a11 a12 : Nat) (s1 : Int32) (sz : Nat) :
    Met l Y146 (Cond.code Y146 prog_14_method_48_code 2 (Option.some Jvm.ClassFile.FieldType.char) :: AW) ({ frames := 2, cells := 0, slots := 0, locals := 43 } : Room) (nP dC dI g [.ref a0, .int s1] [(a0, .inr (15, [.int (0), .int (0), .int (100), .int (0), .int (0), .ref a1, .ref a2, .ref a3, .ref a4, .ref a5, .ref a6, .ref a7, .ref a8, .ref a9, .ref a10, .ref a11, .null, .int (-1), .ref a12, .long (0)])), (a9, .inr (1, [.int (0), .ref (g 21), .int (0)]))] sz) (nQ dC dI (fun f => some (.int (32))) (fun f r => [(a0, .inr (15, [.int (1), .int (0), .int (100), .int (0), .int (0), .ref a1, .ref a2, .ref a3, .ref a4, .ref a5, .ref a6, .ref a7, .ref a8, .ref a9, .ref a10, .ref a11, .null, .int (-1), .ref a12, .long (0)])), (a9, .inr (1, [.int (0), .ref (g 21), .int (0)]))]) (va_A [(a0, .inr (15, [.int (0), .int (0), .int (100), .int (0), .int (0), .ref a1, .ref a2, .ref a3, .ref a4, .ref a5, .ref a6, .ref a7, .ref a8, .ref a9, .ref a10, .ref a11, .null, .int (-1), .ref a12, .long (0)])), (a9, .inr (1, [.int (0), .ref (g 21), .int (0)]))] sz)) 0 0 (va_A [(a0, .inr (15, [.int (0), .int (0), .int (100), .int (0), .int (0), .ref a1, .ref a2, .ref a3, .ref a4, .ref a5, .ref a6, .ref a7, .ref a8, .ref a9, .ref a10, .ref a11, .null, .int (-1), .ref a12, .long (0)])), (a9, .inr (1, [.int (0), .ref (g 21), .int (0)]))] sz) := by
  refine n_met (by decide +kernel) (Nat.le_of_ble_eq_true rfl) (fun f => some (.int (32))) (fun f r => [(a0, .inr (15, [.int (1), .int (0), .int (100), .int (0), .int (0), .ref a1, .ref a2, .ref a3, .ref a4, .ref a5, .ref a6, .ref a7, .ref a8, .ref a9, .ref a10, .ref a11, .null, .int (-1), .ref a12, .long (0)])), (a9, .inr (1, [.int (0), .ref (g 21), .int (0)]))]) ?_
  intro p e s m below meth c A ls ⟨hx, hb, hr, hml, hown, hts, hlk, hnm⟩ hE hP hD hA hl
  have hown : s.vm.findClass "MinestrataModel" = some m.cls := hown
  have hK := hE.1
  have hS : va_S A s.heap s.heap [] := va_S.rf
  have hl : lv_has ls 2 [(0, .ref a0), (1, .int s1)] := hl
  refine lv_aload_n hx hb dX16_stateOf_0 rfl (lv_at hl 0 rfl) ?_
  refine lv_aload_n hx hb dX16_stateOf_1 rfl (lv_at hl 0 rfl) ?_
  refine lv_iload_n hx hb dX16_stateOf_2 rfl (lv_at hl 1 rfl) ?_
  have hX : nCx p s m _ c prog_14_method_48_code 2 "MinestrataModel" dC dI g A [(a0, .inr (15, [.int (0), .int (0), .int (100), .int (0), .int (0), .ref a1, .ref a2, .ref a3, .ref a4, .ref a5, .ref a6, .ref a7, .ref a8, .ref a9, .ref a10, .ref a11, .null, .int (-1), .ref a12, .long (0)])), (a9, .inr (1, [.int (0), .ref (g 21), .int (0)]))] _ _ := ⟨⟨hx, hb, hml, hown, hts⟩, hE, hS, hA, hP, hD⟩
  refine n_call (wr := []) hX (n_runV (n := 1) (wc := [(a0, .inr (15, [.int (0), .int (0), .int (100), .int (0), .int (0), .ref a1, .ref a2, .ref a3, .ref a4, .ref a5, .ref a6, .ref a7, .ref a8, .ref a9, .ref a10, .ref a11, .null, .int (-1), .ref a12, .long (0)])), (a9, .inr (1, [.int (0), .ref (g 21), .int (0)]))]) (As := [.int s1]) (rest := [.ref a0]) hX (m61 l hst dC dI g a0 a1 a2 a3 a4 a5 a6 a7 a8 a9 a10 a11 a12 s1 _) [0, 1] rfl (by decide +kernel) 0 (ci := 15) rfl (T := TX16) (N := 20) (C := "MinestrataModel") rfl q1679 q1681 q45 q82 q1682 (by decide +kernel) ⟨(Nat.le_of_ble_eq_true rfl), (Nat.le_of_ble_eq_true rfl)⟩ ⟨(Nat.le_of_ble_eq_true rfl), (Nat.le_of_ble_eq_true rfl)⟩ hl.1 rfl rfl (Nat.le_of_ble_eq_true rfl) dX16_stateOf_3) [0, 1] [] rfl rfl (by decide +kernel) (by decide +kernel) (fun f1 r2 H locs hP hD hS => ?_)
  have hP : va_P (dC, dI) CL [(a0, .inr (15, [.int (0), .int (0), .int (100), .int (0), .int (0), .ref a1, .ref a2, .ref a3, .ref a4, .ref a5, .ref a6, .ref a7, .ref a8, .ref a9, .ref a10, .ref a11, .null, .int (-1), .ref a12, .long (0)])), (a9, .inr (1, [.int (0), .ref (g 21), .int (0)]))] _ := hP
  have hD : va_D A [(a0, .inr (15, [.int (0), .int (0), .int (100), .int (0), .int (0), .ref a1, .ref a2, .ref a3, .ref a4, .ref a5, .ref a6, .ref a7, .ref a8, .ref a9, .ref a10, .ref a11, .null, .int (-1), .ref a12, .long (0)])), (a9, .inr (1, [.int (0), .ref (g 21), .int (0)]))] := hD
  refine W.widen (k := 0) (n := 0) (Nat.le_of_ble_eq_true rfl) (Nat.le_of_ble_eq_true rfl) ?_
  refine W.eq (g2 := F0 m 6 ls [.int (0), .ref a0]) rfl ?_
  refine lv_if_eq (tgt := 13) hx hb dX16_stateOf_6 (by decide +kernel) (fun _ => ?_) (fun h => absurd (by decide +kernel) h)
  refine lv_iconst (v := (1)) hx hb dX16_stateOf_13 (by decide +kernel) ?_
  refine va_put (D := (dC, dI)) (ci := 15) (v := .int (1)) (ty := .int) (C := "MinestrataModel") (T := TX16) (N := 20) hx hb hts inX16 tyX16 tyX16_ok nmX16 hown hK hP hD hS 0 rfl rfl 0 (by decide) (hts _ q1427) (fun _ h9 => h9) rfl (by decide +kernel) rfl rfl (Nat.le_of_ble_eq_true rfl) dX16_stateOf_14 (fun H locs hP hD hS => ?_)
  have hP : va_P (dC, dI) CL [(a0, .inr (15, [.int (1), .int (0), .int (100), .int (0), .int (0), .ref a1, .ref a2, .ref a3, .ref a4, .ref a5, .ref a6, .ref a7, .ref a8, .ref a9, .ref a10, .ref a11, .null, .int (-1), .ref a12, .long (0)])), (a9, .inr (1, [.int (0), .ref (g 21), .int (0)]))] _ := hP
  have hD : va_D A [(a0, .inr (15, [.int (1), .int (0), .int (100), .int (0), .int (0), .ref a1, .ref a2, .ref a3, .ref a4, .ref a5, .ref a6, .ref a7, .ref a8, .ref a9, .ref a10, .ref a11, .null, .int (-1), .ref a12, .long (0)])), (a9, .inr (1, [.int (0), .ref (g 21), .int (0)]))] := hD
  refine lv_aload_n hx hb dX16_stateOf_17 rfl (lv_at hl 0 rfl) ?_
  refine va_get (D := (dC, dI)) (ci := 15) (v := .int (1)) (C := "MinestrataModel") (T := TX16) (N := 20) hx hb hts inX16 hown hK hP 0 rfl rfl 0 (by decide) (hts _ q1427) (fun _ h9 => h9) rfl dX16_stateOf_18 ?_
  refine lv_if_ne (tgt := 41) hx hb dX16_stateOf_21 (by decide +kernel) (fun _ => ?_) (fun h => absurd h (by decide +kernel))
  refine lv_bipush (v := (32)) hx hb dX16_stateOf_41 (by decide +kernel) ?_
  refine W.widen (k := 0) (n := 0) (Nat.le_of_ble_eq_true rfl) (Nat.le_of_ble_eq_true rfl) ?_
  exact W.zret hx hb hr (by decide +kernel) (n_end hS hP hD [0, 1] (by decide +kernel) (fun _ => 0) (fun _ => 0) rfl rfl rfl) hS.2.2 dX16_stateOf_43 hlk

set_option maxHeartbeats 4000000 in
set_option maxRecDepth 100000 in
/-- Minestrata.pile -/
theorem m340 (l : Launch) (hst : l.stackTraces = false) (dC : Nat → ClassId) (dI : Nat → Nat → Nat) (g : Nat → Nat) (a0 a1 a2 a3 a4 a5 a6 a7 a8 a9 a10 a11 a12 a13 a14 a15 a16 a17 a18 a19 : Nat) (s1 : Int32) (sz : Nat) :
    vx_Met l Y148 (Cond.code Y148 prog_1_method_28_code 2 (Option.some Jvm.ClassFile.FieldType.int) :: AW) ({ frames := 6, cells := 1, slots := 6, locals := 81 } : Room) (nP dC dI g [.ref a0, .int s1] [(a0, .inr (12, [.ref a1, .ref a2, .ref a3, .ref a4, .ref a5, .ref a6, .ref a7, .ref a8, .null, .ref a9, .ref a10, .int (0), .int (100), .int (0), .int (0), .int (-1), .long (0), .int (1)])), (a3, .inr (11, [.int (0), .ref a11, .ref a12, .ref a13, .ref a14, .ref a15, .ref a16, .ref a17, .ref a18, .ref a19]))] sz) (fun _ _ _ _ => False) (nX "java/lang/IndexOutOfBoundsException" (va_A [(a0, .inr (12, [.ref a1, .ref a2, .ref a3, .ref a4, .ref a5, .ref a6, .ref a7, .ref a8, .null, .ref a9, .ref a10, .int (0), .int (100), .int (0), .int (0), .int (-1), .long (0), .int (1)])), (a3, .inr (11, [.int (0), .ref a11, .ref a12, .ref a13, .ref a14, .ref a15, .ref a16, .ref a17, .ref a18, .ref a19]))] sz)) 1 6 (va_A [(a0, .inr (12, [.ref a1, .ref a2, .ref a3, .ref a4, .ref a5, .ref a6, .ref a7, .ref a8, .null, .ref a9, .ref a10, .int (0), .int (100), .int (0), .int (0), .int (-1), .long (0), .int (1)])), (a3, .inr (11, [.int (0), .ref a11, .ref a12, .ref a13, .ref a14, .ref a15, .ref a16, .ref a17, .ref a18, .ref a19]))] sz) := by
  refine n_metX (by decide +kernel) (Nat.le_of_ble_eq_true rfl) "java/lang/IndexOutOfBoundsException" ?_
  intro p e s m below meth c A ls ⟨hx, hb, hr, hml, hown, hts, hlk, hnm⟩ hout hE hP hD hA hl
  have hown : s.vm.findClass "Minestrata" = some m.cls := hown
  have hK := hE.1
  have hS : va_S A s.heap s.heap [] := va_S.rf
  have hl : lv_has ls 2 [(0, .ref a0), (1, .int s1)] := hl
  have hlsz : ls.size = c.maxLocals := hl.1.trans hml.symm
  refine lv_aload_n hx hb dX11_pile_0 rfl (lv_at hl 0 rfl) ?_
  refine va_get (D := (dC, dI)) (ci := 12) (v := .ref a3) (C := "Minestrata") (T := TX11) (N := 18) hx hb hts inX11 hown hK hP 0 rfl rfl 2 (by decide) (hts _ q506) (fun _ h9 => h9) rfl dX11_pile_1 ?_
  refine lv_iload_n hx hb dX11_pile_4 rfl (lv_at hl 1 rfl) ?_
  have hX : nCx p s m _ c prog_1_method_28_code 2 "Minestrata" dC dI g A [(a0, .inr (12, [.ref a1, .ref a2, .ref a3, .ref a4, .ref a5, .ref a6, .ref a7, .ref a8, .null, .ref a9, .ref a10, .int (0), .int (100), .int (0), .int (0), .int (-1), .long (0), .int (1)])), (a3, .inr (11, [.int (0), .ref a11, .ref a12, .ref a13, .ref a14, .ref a15, .ref a16, .ref a17, .ref a18, .ref a19]))] _ _ := ⟨⟨hx, hb, hml, hown, hts⟩, hE, hS, hA, hP, hD⟩
  refine n_call (wr := [(a0, .inr (12, [.ref a1, .ref a2, .ref a3, .ref a4, .ref a5, .ref a6, .ref a7, .ref a8, .null, .ref a9, .ref a10, .int (0), .int (100), .int (0), .int (0), .int (-1), .long (0), .int (1)]))]) hX (n_runV (n := 1) (wc := [(a3, .inr (11, [.int (0), .ref a11, .ref a12, .ref a13, .ref a14, .ref a15, .ref a16, .ref a17, .ref a18, .ref a19]))]) (As := [.int s1]) (rest := []) hX (m57 l hst dC dI g a3 a11 a12 a13 a14 a15 a16 a17 a18 a19 s1 _) [1] rfl (by decide +kernel) 1 (ci := 11) rfl (T := TX10) (N := 10) (C := "Minestrata$Stopes") rfl q985 q986 q987 q73 q988 (by decide +kernel) ⟨(Nat.le_of_ble_eq_true rfl), (Nat.le_of_ble_eq_true rfl)⟩ ⟨(Nat.le_of_ble_eq_true rfl), (Nat.le_of_ble_eq_true rfl)⟩ hl.1 rfl rfl (Nat.le_of_ble_eq_true rfl) dX11_pile_5) [1] [0] rfl rfl (by decide +kernel) (by decide +kernel) (fun f1 r2 H locs hP hD hS => ?_)
  have hP : va_P (dC, dI) CL [(a0, .inr (12, [.ref a1, .ref a2, .ref a3, .ref a4, .ref a5, .ref a6, .ref a7, .ref a8, .null, .ref a9, .ref a10, .int (0), .int (100), .int (0), .int (0), .int (-1), .long (0), .int (1)])), (a3, .inr (11, [.int (0), .ref a11, .ref a12, .ref a13, .ref a14, .ref a15, .ref a16, .ref a17, .ref a18, .ref a19]))] _ := hP
  have hD : va_D A [(a0, .inr (12, [.ref a1, .ref a2, .ref a3, .ref a4, .ref a5, .ref a6, .ref a7, .ref a8, .null, .ref a9, .ref a10, .int (0), .int (100), .int (0), .int (0), .int (-1), .long (0), .int (1)])), (a3, .inr (11, [.int (0), .ref a11, .ref a12, .ref a13, .ref a14, .ref a15, .ref a16, .ref a17, .ref a18, .ref a19]))] := hD
  refine W.widen (k := 0) (n := 0) (Nat.le_of_ble_eq_true rfl) (Nat.le_of_ble_eq_true rfl) ?_
  refine W.eq (g2 := F0 m 8 ls [.int (0)]) rfl ?_
  refine lv_if_ne (tgt := 19) hx hb dX11_pile_8 (by decide +kernel) (fun h => absurd (by decide +kernel) h) (fun _ => ?_)
  exact n_throw hx hb hst hown hts hE hS (names := ["java/lang/RuntimeException", "java/lang/Exception"]) (by decide +kernel) (by decide +kernel) q948 q91 hat1p hat1a hat1 hat1g (hl.1.trans hml.symm) dX11_pile_11 dX11_pile_14 dX11_pile_15 dX11_pile_18 hout (Nat.le_of_ble_eq_true rfl) (Nat.le_of_ble_eq_true rfl) (Nat.le_of_ble_eq_true rfl) (Nat.le_of_ble_eq_true rfl) hlk (Nat.le_of_ble_eq_true rfl) (Nat.le_of_ble_eq_true rfl)

set_option maxHeartbeats 4000000 in
set_option maxRecDepth 100000 in
/-- MinestrataLaw.pile -/
theorem m341 (l : Launch) (hst : l.stackTraces = false) (dC : Nat → ClassId) (dI : Nat → Nat → Nat) (g : Nat → Nat) (a0 a1 a2 a3 a4 a5 a6 a7 a8 a9 a10 a11 a12 a13 a14 a15 a16 a17 a18 a19 a20 : Nat) (s1 : Int32) (sz : Nat) :
    Met l Y147 (Cond.codeWith Y147 method_28_code 4 (Option.some Jvm.ClassFile.FieldType.int) [((0 : Nat), (9 : Nat), (12 : Nat), (21 : Nat))] :: AW) ({ frames := 7, cells := 1, slots := 6, locals := 102 } : Room) (nP dC dI g [.ref a0, .int s1, .ref a1] [(a0, .inr (12, [.ref a2, .ref a3, .ref a4, .ref a5, .ref a6, .ref a7, .ref a8, .ref a9, .null, .ref a10, .ref a11, .int (0), .int (100), .int (0), .int (0), .int (-1), .long (0), .int (1)])), (a4, .inr (11, [.int (0), .ref a12, .ref a13, .ref a14, .ref a15, .ref a16, .ref a17, .ref a18, .ref a19, .ref a20]))] sz) (nQ dC dI (fun f => some (.int (1))) (fun f r => []) (va_A [(a0, .inr (12, [.ref a2, .ref a3, .ref a4, .ref a5, .ref a6, .ref a7, .ref a8, .ref a9, .null, .ref a10, .ref a11, .int (0), .int (100), .int (0), .int (0), .int (-1), .long (0), .int (1)])), (a4, .inr (11, [.int (0), .ref a12, .ref a13, .ref a14, .ref a15, .ref a16, .ref a17, .ref a18, .ref a19, .ref a20]))] sz)) 1 6 (va_A [(a0, .inr (12, [.ref a2, .ref a3, .ref a4, .ref a5, .ref a6, .ref a7, .ref a8, .ref a9, .null, .ref a10, .ref a11, .int (0), .int (100), .int (0), .int (0), .int (-1), .long (0), .int (1)])), (a4, .inr (11, [.int (0), .ref a12, .ref a13, .ref a14, .ref a15, .ref a16, .ref a17, .ref a18, .ref a19, .ref a20]))] sz) := by
  refine n_metW (by decide +kernel) q1263 (Nat.le_of_ble_eq_true rfl) (fun f => some (.int (1))) (fun f r => []) ?_
  intro p e s m below meth c A ls ⟨hx, hb, hr, hml, hown, hts, hlk, hnm⟩ htab hE hP hD hA hl
  have hown : s.vm.findClass "MinestrataLaw" = some m.cls := hown
  have hK := hE.1
  have hS : va_S A s.heap s.heap [] := va_S.rf
  have hl : lv_has ls 4 [(0, .ref a0), (1, .int s1), (2, .ref a1)] := hl
  refine lv_aload_n hx hb dL_pile_0 rfl (lv_at hl 2 rfl) ?_
  refine lv_iconst (v := (0)) hx hb dL_pile_1 (by decide +kernel) ?_
  refine lv_aload_n hx hb dL_pile_2 rfl (lv_at hl 0 rfl) ?_
  refine lv_iload_n hx hb dL_pile_3 rfl (lv_at hl 1 rfl) ?_
  have hX : nCx p s m _ c method_28_code 4 "MinestrataLaw" dC dI g A [(a0, .inr (12, [.ref a2, .ref a3, .ref a4, .ref a5, .ref a6, .ref a7, .ref a8, .ref a9, .null, .ref a10, .ref a11, .int (0), .int (100), .int (0), .int (0), .int (-1), .long (0), .int (1)])), (a4, .inr (11, [.int (0), .ref a12, .ref a13, .ref a14, .ref a15, .ref a16, .ref a17, .ref a18, .ref a19, .ref a20]))] _ _ := ⟨⟨hx, hb, hml, hown, hts⟩, hE, hS, hA, hP, hD⟩
  refine n_callX (E0 := "java/lang/IndexOutOfBoundsException") hX (n_runVX (n := 1) (wc := [(a0, .inr (12, [.ref a2, .ref a3, .ref a4, .ref a5, .ref a6, .ref a7, .ref a8, .ref a9, .null, .ref a10, .ref a11, .int (0), .int (100), .int (0), .int (0), .int (-1), .long (0), .int (1)])), (a4, .inr (11, [.int (0), .ref a12, .ref a13, .ref a14, .ref a15, .ref a16, .ref a17, .ref a18, .ref a19, .ref a20]))]) (As := [.int s1]) (rest := [.int (0), .ref a1]) hX (m340 l hst dC dI g a0 a2 a3 a4 a5 a6 a7 a8 a9 a10 a11 a12 a13 a14 a15 a16 a17 a18 a19 a20 s1 _) [0, 1] rfl (by decide +kernel) 0 (ci := 12) rfl (T := TX11) (N := 18) (C := "Minestrata") rfl q1264 q1265 q1266 q71 q1267 (by decide +kernel) ⟨(Nat.le_of_ble_eq_true rfl), (Nat.le_of_ble_eq_true rfl)⟩ ⟨(Nat.le_of_ble_eq_true rfl), (Nat.le_of_ble_eq_true rfl)⟩ hl.1 rfl rfl (Nat.le_of_ble_eq_true rfl) dL_pile_4) [0, 1] rfl (fun ce q9 H locs hS hce hcv hcl => ?_)
  refine n_catch (E := "java/lang/IndexOutOfBoundsException") (name := "java/lang/IndexOutOfBoundsException") hE hts hown htab [] ⟨0, 9, 12, 21⟩ [] rfl (fun z hz => nomatch hz) (by decide +kernel) (by decide) q907 x950 hce hcv hcl ?_
  refine W.widen (k := 1) (n := 6) (Nat.le_of_ble_eq_true rfl) (Nat.le_of_ble_eq_true rfl) ?_
  refine W.eq (g2 := F0 m 12 ls [.ref q9]) rfl ?_
  refine lv_astore_n (lv' := [(3, .ref q9), (0, .ref a0), (1, .int s1), (2, .ref a1)]) hx hb dL_pile_12 rfl hl (by decide) rfl (fun ls hl => ?_)
  refine lv_iconst (v := (1)) hx hb dL_pile_13 (by decide +kernel) ?_
  refine W.widen (k := 1) (n := 6) (Nat.le_of_ble_eq_true rfl) (Nat.le_of_ble_eq_true rfl) ?_
  exact W.iret hx hb hr (n_end0 hS (fun _ => 0) rfl rfl) hS.2.2 dL_pile_14 hlk

set_option maxHeartbeats 4000000 in
set_option maxRecDepth 100000 in
/-- MinestrataModel.pile -/
theorem m342 (l : Launch) (hst : l.stackTraces = false) (dC : Nat → ClassId) (dI : Nat → Nat → Nat) (g : Nat → Nat) (a0 a1 a2 a3 a4 a5 a6 a7 a8 a9 a10 a11 a12 : Nat) (s1 : Int32) (sz : Nat) :
    Met l Y149 (Cond.code Y149 prog_14_method_49_code 2 (Option.some Jvm.ClassFile.FieldType.int) :: AW) ({ frames := 2, cells := 0, slots := 0, locals := 43 } : Room) (nP dC dI g [.ref a0, .int s1] [(a0, .inr (15, [.int (0), .int (0), .int (100), .int (0), .int (0), .ref a1, .ref a2, .ref a3, .ref a4, .ref a5, .ref a6, .ref a7, .ref a8, .ref a9, .ref a10, .ref a11, .null, .int (-1), .ref a12, .long (0)])), (a9, .inr (1, [.int (0), .ref (g 21), .int (0)]))] sz) (nQ dC dI (fun f => some (.int (0))) (fun f r => [(a0, .inr (15, [.int (1), .int (0), .int (100), .int (0), .int (0), .ref a1, .ref a2, .ref a3, .ref a4, .ref a5, .ref a6, .ref a7, .ref a8, .ref a9, .ref a10, .ref a11, .null, .int (-1), .ref a12, .long (0)])), (a9, .inr (1, [.int (0), .ref (g 21), .int (0)]))]) (va_A [(a0, .inr (15, [.int (0), .int (0), .int (100), .int (0), .int (0), .ref a1, .ref a2, .ref a3, .ref a4, .ref a5, .ref a6, .ref a7, .ref a8, .ref a9, .ref a10, .ref a11, .null, .int (-1), .ref a12, .long (0)])), (a9, .inr (1, [.int (0), .ref (g 21), .int (0)]))] sz)) 0 0 (va_A [(a0, .inr (15, [.int (0), .int (0), .int (100), .int (0), .int (0), .ref a1, .ref a2, .ref a3, .ref a4, .ref a5, .ref a6, .ref a7, .ref a8, .ref a9, .ref a10, .ref a11, .null, .int (-1), .ref a12, .long (0)])), (a9, .inr (1, [.int (0), .ref (g 21), .int (0)]))] sz) := by
  refine n_met (by decide +kernel) (Nat.le_of_ble_eq_true rfl) (fun f => some (.int (0))) (fun f r => [(a0, .inr (15, [.int (1), .int (0), .int (100), .int (0), .int (0), .ref a1, .ref a2, .ref a3, .ref a4, .ref a5, .ref a6, .ref a7, .ref a8, .ref a9, .ref a10, .ref a11, .null, .int (-1), .ref a12, .long (0)])), (a9, .inr (1, [.int (0), .ref (g 21), .int (0)]))]) ?_
  intro p e s m below meth c A ls ⟨hx, hb, hr, hml, hown, hts, hlk, hnm⟩ hE hP hD hA hl
  have hown : s.vm.findClass "MinestrataModel" = some m.cls := hown
  have hK := hE.1
  have hS : va_S A s.heap s.heap [] := va_S.rf
  have hl : lv_has ls 2 [(0, .ref a0), (1, .int s1)] := hl
  refine lv_aload_n hx hb dX16_pile_0 rfl (lv_at hl 0 rfl) ?_
  refine lv_iload_n hx hb dX16_pile_1 rfl (lv_at hl 1 rfl) ?_
  have hX : nCx p s m _ c prog_14_method_49_code 2 "MinestrataModel" dC dI g A [(a0, .inr (15, [.int (0), .int (0), .int (100), .int (0), .int (0), .ref a1, .ref a2, .ref a3, .ref a4, .ref a5, .ref a6, .ref a7, .ref a8, .ref a9, .ref a10, .ref a11, .null, .int (-1), .ref a12, .long (0)])), (a9, .inr (1, [.int (0), .ref (g 21), .int (0)]))] _ _ := ⟨⟨hx, hb, hml, hown, hts⟩, hE, hS, hA, hP, hD⟩
  refine n_call (wr := []) hX (n_runV (n := 1) (wc := [(a0, .inr (15, [.int (0), .int (0), .int (100), .int (0), .int (0), .ref a1, .ref a2, .ref a3, .ref a4, .ref a5, .ref a6, .ref a7, .ref a8, .ref a9, .ref a10, .ref a11, .null, .int (-1), .ref a12, .long (0)])), (a9, .inr (1, [.int (0), .ref (g 21), .int (0)]))]) (As := [.int s1]) (rest := []) hX (m61 l hst dC dI g a0 a1 a2 a3 a4 a5 a6 a7 a8 a9 a10 a11 a12 s1 _) [0, 1] rfl (by decide +kernel) 0 (ci := 15) rfl (T := TX16) (N := 20) (C := "MinestrataModel") rfl q1679 q1681 q45 q82 q1682 (by decide +kernel) ⟨(Nat.le_of_ble_eq_true rfl), (Nat.le_of_ble_eq_true rfl)⟩ ⟨(Nat.le_of_ble_eq_true rfl), (Nat.le_of_ble_eq_true rfl)⟩ hl.1 rfl rfl (Nat.le_of_ble_eq_true rfl) dX16_pile_2) [0, 1] [] rfl rfl (by decide +kernel) (by decide +kernel) (fun f1 r2 H locs hP hD hS => ?_)
  have hP : va_P (dC, dI) CL [(a0, .inr (15, [.int (0), .int (0), .int (100), .int (0), .int (0), .ref a1, .ref a2, .ref a3, .ref a4, .ref a5, .ref a6, .ref a7, .ref a8, .ref a9, .ref a10, .ref a11, .null, .int (-1), .ref a12, .long (0)])), (a9, .inr (1, [.int (0), .ref (g 21), .int (0)]))] _ := hP
  have hD : va_D A [(a0, .inr (15, [.int (0), .int (0), .int (100), .int (0), .int (0), .ref a1, .ref a2, .ref a3, .ref a4, .ref a5, .ref a6, .ref a7, .ref a8, .ref a9, .ref a10, .ref a11, .null, .int (-1), .ref a12, .long (0)])), (a9, .inr (1, [.int (0), .ref (g 21), .int (0)]))] := hD
  refine W.widen (k := 0) (n := 0) (Nat.le_of_ble_eq_true rfl) (Nat.le_of_ble_eq_true rfl) ?_
  refine W.eq (g2 := F0 m 5 ls [.int (0)]) rfl ?_
  refine lv_if_eq (tgt := 29) hx hb dX16_pile_5 (by decide +kernel) (fun _ => ?_) (fun h => absurd (by decide +kernel) h)
  refine lv_aload_n hx hb dX16_pile_29 rfl (lv_at hl 0 rfl) ?_
  refine lv_iconst (v := (1)) hx hb dX16_pile_30 (by decide +kernel) ?_
  have hX : nCx p s m _ c prog_14_method_49_code 2 "MinestrataModel" dC dI g A [(a0, .inr (15, [.int (0), .int (0), .int (100), .int (0), .int (0), .ref a1, .ref a2, .ref a3, .ref a4, .ref a5, .ref a6, .ref a7, .ref a8, .ref a9, .ref a10, .ref a11, .null, .int (-1), .ref a12, .long (0)])), (a9, .inr (1, [.int (0), .ref (g 21), .int (0)]))] _ _ := ⟨⟨hx, hb, hml, hown, hts⟩, hE, hS, hA, hP, hD⟩
  refine n_call (wr := [(a9, .inr (1, [.int (0), .ref (g 21), .int (0)]))]) hX (n_runV (n := 1) (wc := [(a0, .inr (15, [.int (0), .int (0), .int (100), .int (0), .int (0), .ref a1, .ref a2, .ref a3, .ref a4, .ref a5, .ref a6, .ref a7, .ref a8, .ref a9, .ref a10, .ref a11, .null, .int (-1), .ref a12, .long (0)]))]) (As := [.int (1)]) (rest := []) hX (m31 l hst dC dI g a0 a1 a2 a3 a4 a5 a6 a7 a8 a9 a10 a11 a12 _) [0] rfl (by decide +kernel) 0 (ci := 15) rfl (T := TX16) (N := 20) (C := "MinestrataModel") rfl q1506 q1508 q39 q82 q1509 (by decide +kernel) ⟨(Nat.le_of_ble_eq_true rfl), (Nat.le_of_ble_eq_true rfl)⟩ ⟨(Nat.le_of_ble_eq_true rfl), (Nat.le_of_ble_eq_true rfl)⟩ hl.1 rfl rfl (Nat.le_of_ble_eq_true rfl) dX16_pile_31) [0] [1] rfl rfl (by decide +kernel) (by decide +kernel) (fun f3 r4 H locs hP hD hS => ?_)
  have hP : va_P (dC, dI) CL [(a9, .inr (1, [.int (0), .ref (g 21), .int (0)])), (a0, .inr (15, [.int (1), .int (0), .int (100), .int (0), .int (0), .ref a1, .ref a2, .ref a3, .ref a4, .ref a5, .ref a6, .ref a7, .ref a8, .ref a9, .ref a10, .ref a11, .null, .int (-1), .ref a12, .long (0)]))] _ := hP
  have hD : va_D A [(a9, .inr (1, [.int (0), .ref (g 21), .int (0)])), (a0, .inr (15, [.int (1), .int (0), .int (100), .int (0), .int (0), .ref a1, .ref a2, .ref a3, .ref a4, .ref a5, .ref a6, .ref a7, .ref a8, .ref a9, .ref a10, .ref a11, .null, .int (-1), .ref a12, .long (0)]))] := hD
  refine W.widen (k := 0) (n := 0) (Nat.le_of_ble_eq_true rfl) (Nat.le_of_ble_eq_true rfl) ?_
  refine W.eq (g2 := F0 m 34 ls [.int (0)]) rfl ?_
  refine W.widen (k := 0) (n := 0) (Nat.le_of_ble_eq_true rfl) (Nat.le_of_ble_eq_true rfl) ?_
  exact W.iret hx hb hr (n_end hS hP hD [1, 0] (by decide +kernel) (fun _ => 0) (fun _ => 0) rfl rfl rfl) hS.2.2 dX16_pile_34 hlk

set_option maxHeartbeats 4000000 in
set_option maxRecDepth 100000 in
/-- Minestrata.isWithin -/
theorem m343 (l : Launch) (hst : l.stackTraces = false) (dC : Nat → ClassId) (dI : Nat → Nat → Nat) (g : Nat → Nat) (s1 : Int32) (e0 : s1 < (1)) (sz : Nat) :
    Met l Y21 (Cond.code Y21 prog_1_method_38_code 3 (Option.some Jvm.ClassFile.FieldType.boolean) :: AW) ({ frames := 0, cells := 0, slots := 0, locals := 0 } : Room) (nP dC dI g [.int s1, .int (1), .int (20)] [] sz) (nQ dC dI (fun f => some (.int (0))) (fun f r => []) (va_A [] sz)) 0 0 (va_A [] sz) := by
  refine n_met (by decide +kernel) (Nat.le_of_ble_eq_true rfl) (fun f => some (.int (0))) (fun f r => []) ?_
  intro p e s m below meth c A ls ⟨hx, hb, hr, hml, hown, hts, hlk, hnm⟩ hE hP hD hA hl
  have hown : s.vm.findClass "Minestrata" = some m.cls := hown
  have hK := hE.1
  have hS : va_S A s.heap s.heap [] := va_S.rf
  have hl : lv_has ls 3 [(0, .int s1), (1, .int (1)), (2, .int (20))] := hl
  refine lv_iload_n hx hb dX11_isWithin_0 rfl (lv_at hl 0 rfl) ?_
  refine lv_iload_n hx hb dX11_isWithin_1 rfl (lv_at hl 1 rfl) ?_
  refine lv_icmp_lt (tgt := 14) hx hb dX11_isWithin_2 (by decide +kernel) (fun _ => ?_) (fun h => absurd e0 h)
  refine lv_iconst (v := (0)) hx hb dX11_isWithin_14 (by decide +kernel) ?_
  refine W.widen (k := 0) (n := 0) (Nat.le_of_ble_eq_true rfl) (Nat.le_of_ble_eq_true rfl) ?_
  exact W.zret hx hb hr (by decide +kernel) (n_end hS hP hD [] (by decide +kernel) (fun _ => 0) (fun _ => 0) rfl rfl rfl) hS.2.2 dX11_isWithin_15 hlk

set_option maxHeartbeats 4000000 in
set_option maxRecDepth 100000 in
/-- Minestrata.deliver -/
theorem m344 (l : Launch) (hst : l.stackTraces = false) (dC : Nat → ClassId) (dI : Nat → Nat → Nat) (g : Nat → Nat) (a0 a1 a2 a3 a4 a5 a6 a7 a8 a9 a10 a11 a12 a13 a14 a15 a16 a17 a18 a19 : Nat) (s1 s2 s3 : Int32) (e0 : s1 < (1)) (sz : Nat) :
    vx_Met l Y151 (Cond.code Y151 prog_1_method_29_code 6 (Option.some Jvm.ClassFile.FieldType.int) :: AW) ({ frames := 6, cells := 1, slots := 6, locals := 81 } : Room) (nP dC dI g [.ref a0, .int s1, .int s2, .int s3] [(a0, .inr (12, [.ref a1, .ref a2, .ref a3, .ref a4, .ref a5, .ref a6, .ref a7, .ref a8, .null, .ref a9, .ref a10, .int (0), .int (100), .int (0), .int (0), .int (-1), .long (0), .int (1)])), (a3, .inr (11, [.int (0), .ref a11, .ref a12, .ref a13, .ref a14, .ref a15, .ref a16, .ref a17, .ref a18, .ref a19]))] sz) (fun _ _ _ _ => False) (nX "java/lang/IllegalArgumentException" (va_A [(a0, .inr (12, [.ref a1, .ref a2, .ref a3, .ref a4, .ref a5, .ref a6, .ref a7, .ref a8, .null, .ref a9, .ref a10, .int (0), .int (100), .int (0), .int (0), .int (-1), .long (0), .int (1)])), (a3, .inr (11, [.int (0), .ref a11, .ref a12, .ref a13, .ref a14, .ref a15, .ref a16, .ref a17, .ref a18, .ref a19]))] sz)) 1 6 (va_A [(a0, .inr (12, [.ref a1, .ref a2, .ref a3, .ref a4, .ref a5, .ref a6, .ref a7, .ref a8, .null, .ref a9, .ref a10, .int (0), .int (100), .int (0), .int (0), .int (-1), .long (0), .int (1)])), (a3, .inr (11, [.int (0), .ref a11, .ref a12, .ref a13, .ref a14, .ref a15, .ref a16, .ref a17, .ref a18, .ref a19]))] sz) := by
  refine n_metX (by decide +kernel) (Nat.le_of_ble_eq_true rfl) "java/lang/IllegalArgumentException" ?_
  intro p e s m below meth c A ls ⟨hx, hb, hr, hml, hown, hts, hlk, hnm⟩ hout hE hP hD hA hl
  have hown : s.vm.findClass "Minestrata" = some m.cls := hown
  have hK := hE.1
  have hS : va_S A s.heap s.heap [] := va_S.rf
  have hl : lv_has ls 6 [(0, .ref a0), (1, .int s1), (2, .int s2), (3, .int s3)] := hl
  have hlsz : ls.size = c.maxLocals := hl.1.trans hml.symm
  refine lv_iload_n hx hb dX11_deliver_0 rfl (lv_at hl 1 rfl) ?_
  refine lv_iconst (v := (1)) hx hb dX11_deliver_1 (by decide +kernel) ?_
  refine lv_bipush (v := (20)) hx hb dX11_deliver_2 (by decide +kernel) ?_
  have hX : nCx p s m _ c prog_1_method_29_code 6 "Minestrata" dC dI g A [(a0, .inr (12, [.ref a1, .ref a2, .ref a3, .ref a4, .ref a5, .ref a6, .ref a7, .ref a8, .null, .ref a9, .ref a10, .int (0), .int (100), .int (0), .int (0), .int (-1), .long (0), .int (1)])), (a3, .inr (11, [.int (0), .ref a11, .ref a12, .ref a13, .ref a14, .ref a15, .ref a16, .ref a17, .ref a18, .ref a19]))] _ _ := ⟨⟨hx, hb, hml, hown, hts⟩, hE, hS, hA, hP, hD⟩
  refine n_call (wr := [(a0, .inr (12, [.ref a1, .ref a2, .ref a3, .ref a4, .ref a5, .ref a6, .ref a7, .ref a8, .null, .ref a9, .ref a10, .int (0), .int (100), .int (0), .int (0), .int (-1), .long (0), .int (1)])), (a3, .inr (11, [.int (0), .ref a11, .ref a12, .ref a13, .ref a14, .ref a15, .ref a16, .ref a17, .ref a18, .ref a19]))]) hX (n_runS (n := 3) (wc := []) (As := [.int s1, .int (1), .int (20)]) (rest := []) hX (m343 l hst dC dI g s1 e0 _) [] rfl (by decide +kernel) q814 q815 q71 q816 (by decide +kernel) ⟨(Nat.le_of_ble_eq_true rfl), (Nat.le_of_ble_eq_true rfl)⟩ ⟨(Nat.le_of_ble_eq_true rfl), (Nat.le_of_ble_eq_true rfl)⟩ hl.1 rfl rfl (Nat.le_of_ble_eq_true rfl) dX11_deliver_4) [] [0, 1] rfl rfl (by decide +kernel) (by decide +kernel) (fun f1 r2 H locs hP hD hS => ?_)
  have hP : va_P (dC, dI) CL [(a0, .inr (12, [.ref a1, .ref a2, .ref a3, .ref a4, .ref a5, .ref a6, .ref a7, .ref a8, .null, .ref a9, .ref a10, .int (0), .int (100), .int (0), .int (0), .int (-1), .long (0), .int (1)])), (a3, .inr (11, [.int (0), .ref a11, .ref a12, .ref a13, .ref a14, .ref a15, .ref a16, .ref a17, .ref a18, .ref a19]))] _ := hP
  have hD : va_D A [(a0, .inr (12, [.ref a1, .ref a2, .ref a3, .ref a4, .ref a5, .ref a6, .ref a7, .ref a8, .null, .ref a9, .ref a10, .int (0), .int (100), .int (0), .int (0), .int (-1), .long (0), .int (1)])), (a3, .inr (11, [.int (0), .ref a11, .ref a12, .ref a13, .ref a14, .ref a15, .ref a16, .ref a17, .ref a18, .ref a19]))] := hD
  refine W.widen (k := 0) (n := 0) (Nat.le_of_ble_eq_true rfl) (Nat.le_of_ble_eq_true rfl) ?_
  refine W.eq (g2 := F0 m 7 ls [.int (0)]) rfl ?_
  refine lv_if_eq (tgt := 26) hx hb dX11_deliver_7 (by decide +kernel) (fun _ => ?_) (fun h => absurd (by decide +kernel) h)
  exact n_throw hx hb hst hown hts hE hS (names := ["java/lang/RuntimeException", "java/lang/Exception"]) (by decide +kernel) (by decide +kernel) q817 q89 hat0p hat0a hat0 hat0g (hl.1.trans hml.symm) dX11_deliver_26 dX11_deliver_29 dX11_deliver_30 dX11_deliver_33 hout (Nat.le_of_ble_eq_true rfl) (Nat.le_of_ble_eq_true rfl) (Nat.le_of_ble_eq_true rfl) (Nat.le_of_ble_eq_true rfl) hlk (Nat.le_of_ble_eq_true rfl) (Nat.le_of_ble_eq_true rfl)

set_option maxHeartbeats 4000000 in
set_option maxRecDepth 100000 in
/-- MinestrataLaw.deliver -/
theorem m345 (l : Launch) (hst : l.stackTraces = false) (dC : Nat → ClassId) (dI : Nat → Nat → Nat) (g : Nat → Nat) (a0 a1 a2 a3 a4 a5 a6 a7 a8 a9 a10 a11 a12 a13 a14 a15 a16 a17 a18 a19 a20 : Nat) (s1 s2 s3 : Int32) (e0 : s1 < (1)) (sz : Nat) :
    Met l Y150 (Cond.codeWith Y150 method_29_code 6 (Option.some Jvm.ClassFile.FieldType.int) [((0 : Nat), (12 : Nat), (15 : Nat), (13 : Nat)), ((0 : Nat), (12 : Nat), (19 : Nat), (47 : Nat))] :: AW) ({ frames := 7, cells := 1, slots := 6, locals := 106 } : Room) (nP dC dI g [.ref a0, .int s1, .int s2, .int s3, .ref a1] [(a0, .inr (12, [.ref a2, .ref a3, .ref a4, .ref a5, .ref a6, .ref a7, .ref a8, .ref a9, .null, .ref a10, .ref a11, .int (0), .int (100), .int (0), .int (0), .int (-1), .long (0), .int (1)])), (a4, .inr (11, [.int (0), .ref a12, .ref a13, .ref a14, .ref a15, .ref a16, .ref a17, .ref a18, .ref a19, .ref a20]))] sz) (nQ dC dI (fun f => some (.int (1))) (fun f r => []) (va_A [(a0, .inr (12, [.ref a2, .ref a3, .ref a4, .ref a5, .ref a6, .ref a7, .ref a8, .ref a9, .null, .ref a10, .ref a11, .int (0), .int (100), .int (0), .int (0), .int (-1), .long (0), .int (1)])), (a4, .inr (11, [.int (0), .ref a12, .ref a13, .ref a14, .ref a15, .ref a16, .ref a17, .ref a18, .ref a19, .ref a20]))] sz)) 1 6 (va_A [(a0, .inr (12, [.ref a2, .ref a3, .ref a4, .ref a5, .ref a6, .ref a7, .ref a8, .ref a9, .null, .ref a10, .ref a11, .int (0), .int (100), .int (0), .int (0), .int (-1), .long (0), .int (1)])), (a4, .inr (11, [.int (0), .ref a12, .ref a13, .ref a14, .ref a15, .ref a16, .ref a17, .ref a18, .ref a19, .ref a20]))] sz) := by
  refine n_metW (by decide +kernel) q1270 (Nat.le_of_ble_eq_true rfl) (fun f => some (.int (1))) (fun f r => []) ?_
  intro p e s m below meth c A ls ⟨hx, hb, hr, hml, hown, hts, hlk, hnm⟩ htab hE hP hD hA hl
  have hown : s.vm.findClass "MinestrataLaw" = some m.cls := hown
  have hK := hE.1
  have hS : va_S A s.heap s.heap [] := va_S.rf
  have hl : lv_has ls 6 [(0, .ref a0), (1, .int s1), (2, .int s2), (3, .int s3), (4, .ref a1)] := hl
  refine lv_aload hx hb dL_deliver_0 (lv_at hl 4 rfl) ?_
  refine lv_iconst (v := (0)) hx hb dL_deliver_2 (by decide +kernel) ?_
  refine lv_aload_n hx hb dL_deliver_3 rfl (lv_at hl 0 rfl) ?_
  refine lv_iload_n hx hb dL_deliver_4 rfl (lv_at hl 1 rfl) ?_
  refine lv_iload_n hx hb dL_deliver_5 rfl (lv_at hl 2 rfl) ?_
  refine lv_iload_n hx hb dL_deliver_6 rfl (lv_at hl 3 rfl) ?_
  have hX : nCx p s m _ c method_29_code 6 "MinestrataLaw" dC dI g A [(a0, .inr (12, [.ref a2, .ref a3, .ref a4, .ref a5, .ref a6, .ref a7, .ref a8, .ref a9, .null, .ref a10, .ref a11, .int (0), .int (100), .int (0), .int (0), .int (-1), .long (0), .int (1)])), (a4, .inr (11, [.int (0), .ref a12, .ref a13, .ref a14, .ref a15, .ref a16, .ref a17, .ref a18, .ref a19, .ref a20]))] _ _ := ⟨⟨hx, hb, hml, hown, hts⟩, hE, hS, hA, hP, hD⟩
  refine n_callX (E0 := "java/lang/IllegalArgumentException") hX (n_runVX (n := 3) (wc := [(a0, .inr (12, [.ref a2, .ref a3, .ref a4, .ref a5, .ref a6, .ref a7, .ref a8, .ref a9, .null, .ref a10, .ref a11, .int (0), .int (100), .int (0), .int (0), .int (-1), .long (0), .int (1)])), (a4, .inr (11, [.int (0), .ref a12, .ref a13, .ref a14, .ref a15, .ref a16, .ref a17, .ref a18, .ref a19, .ref a20]))]) (As := [.int s1, .int s2, .int s3]) (rest := [.int (0), .ref a1]) hX (m344 l hst dC dI g a0 a2 a3 a4 a5 a6 a7 a8 a9 a10 a11 a12 a13 a14 a15 a16 a17 a18 a19 a20 s1 s2 s3 e0 _) [0, 1] rfl (by decide +kernel) 0 (ci := 12) rfl (T := TX11) (N := 18) (C := "Minestrata") rfl q1271 q1272 q1273 q71 q1274 (by decide +kernel) ⟨(Nat.le_of_ble_eq_true rfl), (Nat.le_of_ble_eq_true rfl)⟩ ⟨(Nat.le_of_ble_eq_true rfl), (Nat.le_of_ble_eq_true rfl)⟩ hl.1 rfl rfl (Nat.le_of_ble_eq_true rfl) dL_deliver_7) [0, 1] rfl (fun ce q9 H locs hS hce hcv hcl => ?_)
  refine n_catch (E := "java/lang/IllegalArgumentException") (name := "java/lang/IllegalArgumentException") hE hts hown htab [] ⟨0, 12, 15, 13⟩ [⟨0, 12, 19, 47⟩] rfl (fun z hz => nomatch hz) (by decide +kernel) (by decide) q808 x819 hce hcv hcl ?_
  refine W.widen (k := 1) (n := 6) (Nat.le_of_ble_eq_true rfl) (Nat.le_of_ble_eq_true rfl) ?_
  refine W.eq (g2 := F0 m 15 ls [.ref q9]) rfl ?_
  refine lv_astore (lv' := [(5, .ref q9), (0, .ref a0), (1, .int s1), (2, .int s2), (3, .int s3), (4, .ref a1)]) hx hb dL_deliver_15 hl (by decide) rfl (fun ls hl => ?_)
  refine lv_iconst (v := (1)) hx hb dL_deliver_17 (by decide +kernel) ?_
  refine W.widen (k := 1) (n := 6) (Nat.le_of_ble_eq_true rfl) (Nat.le_of_ble_eq_true rfl) ?_
  exact W.iret hx hb hr (n_end0 hS (fun _ => 0) rfl rfl) hS.2.2 dL_deliver_18 hlk

set_option maxHeartbeats 4000000 in
set_option maxRecDepth 100000 in
/-- MinestrataModel.in -/
theorem m346 (l : Launch) (hst : l.stackTraces = false) (dC : Nat → ClassId) (dI : Nat → Nat → Nat) (g : Nat → Nat) (s1 : Int32) (e0 : s1 < (1)) (sz : Nat) :
    Met l Y22 (Cond.code Y22 prog_14_method_3_code 3 (Option.some Jvm.ClassFile.FieldType.boolean) :: AW) ({ frames := 0, cells := 0, slots := 0, locals := 0 } : Room) (nP dC dI g [.int s1, .int (1), .int (20)] [] sz) (nQ dC dI (fun f => some (.int (0))) (fun f r => []) (va_A [] sz)) 0 0 (va_A [] sz) := by
  refine n_met (by decide +kernel) (Nat.le_of_ble_eq_true rfl) (fun f => some (.int (0))) (fun f r => []) ?_
  intro p e s m below meth c A ls ⟨hx, hb, hr, hml, hown, hts, hlk, hnm⟩ hE hP hD hA hl
  have hown : s.vm.findClass "MinestrataModel" = some m.cls := hown
  have hK := hE.1
  have hS : va_S A s.heap s.heap [] := va_S.rf
  have hl : lv_has ls 3 [(0, .int s1), (1, .int (1)), (2, .int (20))] := hl
  refine lv_iload_n hx hb dX16_in_0 rfl (lv_at hl 0 rfl) ?_
  refine lv_iload_n hx hb dX16_in_1 rfl (lv_at hl 1 rfl) ?_
  refine lv_icmp_lt (tgt := 14) hx hb dX16_in_2 (by decide +kernel) (fun _ => ?_) (fun h => absurd e0 h)
  refine lv_iconst (v := (0)) hx hb dX16_in_14 (by decide +kernel) ?_
  refine W.widen (k := 0) (n := 0) (Nat.le_of_ble_eq_true rfl) (Nat.le_of_ble_eq_true rfl) ?_
  exact W.zret hx hb hr (by decide +kernel) (n_end hS hP hD [] (by decide +kernel) (fun _ => 0) (fun _ => 0) rfl rfl rfl) hS.2.2 dX16_in_15 hlk

set_option maxHeartbeats 4000000 in
set_option maxRecDepth 100000 in
/-- MinestrataModel.deliver -/
theorem m347 (l : Launch) (hst : l.stackTraces = false) (dC : Nat → ClassId) (dI : Nat → Nat → Nat) (g : Nat → Nat) (a0 a1 a2 a3 a4 a5 a6 a7 a8 a9 a10 a11 a12 : Nat) (s1 s2 s3 : Int32) (e0 : s1 < (1)) (sz : Nat) :
    Met l Y152 (Cond.code Y152 prog_14_method_53_code 19 (Option.some Jvm.ClassFile.FieldType.int) :: AW) ({ frames := 1, cells := 0, slots := 0, locals := 22 } : Room) (nP dC dI g [.ref a0, .int s1, .int s2, .int s3] [(a0, .inr (15, [.int (0), .int (0), .int (100), .int (0), .int (0), .ref a1, .ref a2, .ref a3, .ref a4, .ref a5, .ref a6, .ref a7, .ref a8, .ref a9, .ref a10, .ref a11, .null, .int (-1), .ref a12, .long (0)]))] sz) (nQ dC dI (fun f => some (.int (0))) (fun f r => [(a0, .inr (15, [.int (1), .int (0), .int (100), .int (0), .int (0), .ref a1, .ref a2, .ref a3, .ref a4, .ref a5, .ref a6, .ref a7, .ref a8, .ref a9, .ref a10, .ref a11, .null, .int (-1), .ref a12, .long (0)]))]) (va_A [(a0, .inr (15, [.int (0), .int (0), .int (100), .int (0), .int (0), .ref a1, .ref a2, .ref a3, .ref a4, .ref a5, .ref a6, .ref a7, .ref a8, .ref a9, .ref a10, .ref a11, .null, .int (-1), .ref a12, .long (0)]))] sz)) 0 0 (va_A [(a0, .inr (15, [.int (0), .int (0), .int (100), .int (0), .int (0), .ref a1, .ref a2, .ref a3, .ref a4, .ref a5, .ref a6, .ref a7, .ref a8, .ref a9, .ref a10, .ref a11, .null, .int (-1), .ref a12, .long (0)]))] sz) := by
  refine n_met (by decide +kernel) (Nat.le_of_ble_eq_true rfl) (fun f => some (.int (0))) (fun f r => [(a0, .inr (15, [.int (1), .int (0), .int (100), .int (0), .int (0), .ref a1, .ref a2, .ref a3, .ref a4, .ref a5, .ref a6, .ref a7, .ref a8, .ref a9, .ref a10, .ref a11, .null, .int (-1), .ref a12, .long (0)]))]) ?_
  intro p e s m below meth c A ls ⟨hx, hb, hr, hml, hown, hts, hlk, hnm⟩ hE hP hD hA hl
  have hown : s.vm.findClass "MinestrataModel" = some m.cls := hown
  have hK := hE.1
  have hS : va_S A s.heap s.heap [] := va_S.rf
  have hl : lv_has ls 19 [(0, .ref a0), (1, .int s1), (2, .int s2), (3, .int s3)] := hl
  refine lv_iload_n hx hb dX16_deliver_0 rfl (lv_at hl 1 rfl) ?_
  refine lv_iconst (v := (1)) hx hb dX16_deliver_1 (by decide +kernel) ?_
  refine lv_bipush (v := (20)) hx hb dX16_deliver_2 (by decide +kernel) ?_
  have hX : nCx p s m _ c prog_14_method_53_code 19 "MinestrataModel" dC dI g A [(a0, .inr (15, [.int (0), .int (0), .int (100), .int (0), .int (0), .ref a1, .ref a2, .ref a3, .ref a4, .ref a5, .ref a6, .ref a7, .ref a8, .ref a9, .ref a10, .ref a11, .null, .int (-1), .ref a12, .long (0)]))] _ _ := ⟨⟨hx, hb, hml, hown, hts⟩, hE, hS, hA, hP, hD⟩
  refine n_call (wr := [(a0, .inr (15, [.int (0), .int (0), .int (100), .int (0), .int (0), .ref a1, .ref a2, .ref a3, .ref a4, .ref a5, .ref a6, .ref a7, .ref a8, .ref a9, .ref a10, .ref a11, .null, .int (-1), .ref a12, .long (0)]))]) hX (n_runS (n := 3) (wc := []) (As := [.int s1, .int (1), .int (20)]) (rest := []) hX (m346 l hst dC dI g s1 e0 _) [] rfl (by decide +kernel) q1503 q1504 q82 q1505 (by decide +kernel) ⟨(Nat.le_of_ble_eq_true rfl), (Nat.le_of_ble_eq_true rfl)⟩ ⟨(Nat.le_of_ble_eq_true rfl), (Nat.le_of_ble_eq_true rfl)⟩ hl.1 rfl rfl (Nat.le_of_ble_eq_true rfl) dX16_deliver_4) [] [0] rfl rfl (by decide +kernel) (by decide +kernel) (fun f1 r2 H locs hP hD hS => ?_)
  have hP : va_P (dC, dI) CL [(a0, .inr (15, [.int (0), .int (0), .int (100), .int (0), .int (0), .ref a1, .ref a2, .ref a3, .ref a4, .ref a5, .ref a6, .ref a7, .ref a8, .ref a9, .ref a10, .ref a11, .null, .int (-1), .ref a12, .long (0)]))] _ := hP
  have hD : va_D A [(a0, .inr (15, [.int (0), .int (0), .int (100), .int (0), .int (0), .ref a1, .ref a2, .ref a3, .ref a4, .ref a5, .ref a6, .ref a7, .ref a8, .ref a9, .ref a10, .ref a11, .null, .int (-1), .ref a12, .long (0)]))] := hD
  refine W.widen (k := 0) (n := 0) (Nat.le_of_ble_eq_true rfl) (Nat.le_of_ble_eq_true rfl) ?_
  refine W.eq (g2 := F0 m 7 ls [.int (0)]) rfl ?_
  refine lv_if_eq (tgt := 32) hx hb dX16_deliver_7 (by decide +kernel) (fun _ => ?_) (fun h => absurd (by decide +kernel) h)
  refine lv_aload_n hx hb dX16_deliver_32 rfl (lv_at hl 0 rfl) ?_
  refine lv_iconst (v := (1)) hx hb dX16_deliver_33 (by decide +kernel) ?_
  have hX : nCx p s m _ c prog_14_method_53_code 19 "MinestrataModel" dC dI g A [(a0, .inr (15, [.int (0), .int (0), .int (100), .int (0), .int (0), .ref a1, .ref a2, .ref a3, .ref a4, .ref a5, .ref a6, .ref a7, .ref a8, .ref a9, .ref a10, .ref a11, .null, .int (-1), .ref a12, .long (0)]))] _ _ := ⟨⟨hx, hb, hml, hown, hts⟩, hE, hS, hA, hP, hD⟩
  refine n_call (wr := []) hX (n_runV (n := 1) (wc := [(a0, .inr (15, [.int (0), .int (0), .int (100), .int (0), .int (0), .ref a1, .ref a2, .ref a3, .ref a4, .ref a5, .ref a6, .ref a7, .ref a8, .ref a9, .ref a10, .ref a11, .null, .int (-1), .ref a12, .long (0)]))]) (As := [.int (1)]) (rest := []) hX (m31 l hst dC dI g a0 a1 a2 a3 a4 a5 a6 a7 a8 a9 a10 a11 a12 _) [0] rfl (by decide +kernel) 0 (ci := 15) rfl (T := TX16) (N := 20) (C := "MinestrataModel") rfl q1506 q1508 q39 q82 q1509 (by decide +kernel) ⟨(Nat.le_of_ble_eq_true rfl), (Nat.le_of_ble_eq_true rfl)⟩ ⟨(Nat.le_of_ble_eq_true rfl), (Nat.le_of_ble_eq_true rfl)⟩ hl.1 rfl rfl (Nat.le_of_ble_eq_true rfl) dX16_deliver_34) [0] [] rfl rfl (by decide +kernel) (by decide +kernel) (fun f3 r4 H locs hP hD hS => ?_)
  have hP : va_P (dC, dI) CL [(a0, .inr (15, [.int (1), .int (0), .int (100), .int (0), .int (0), .ref a1, .ref a2, .ref a3, .ref a4, .ref a5, .ref a6, .ref a7, .ref a8, .ref a9, .ref a10, .ref a11, .null, .int (-1), .ref a12, .long (0)]))] _ := hP
  have hD : va_D A [(a0, .inr (15, [.int (1), .int (0), .int (100), .int (0), .int (0), .ref a1, .ref a2, .ref a3, .ref a4, .ref a5, .ref a6, .ref a7, .ref a8, .ref a9, .ref a10, .ref a11, .null, .int (-1), .ref a12, .long (0)]))] := hD
  refine W.widen (k := 0) (n := 0) (Nat.le_of_ble_eq_true rfl) (Nat.le_of_ble_eq_true rfl) ?_
  refine W.eq (g2 := F0 m 37 ls [.int (0)]) rfl ?_
  refine W.widen (k := 0) (n := 0) (Nat.le_of_ble_eq_true rfl) (Nat.le_of_ble_eq_true rfl) ?_
  exact W.iret hx hb hr (n_end hS hP hD [0] (by decide +kernel) (fun _ => 0) (fun _ => 0) rfl rfl rfl) hS.2.2 dX16_deliver_37 hlk

set_option maxHeartbeats 4000000 in
set_option maxRecDepth 100000 in
/-- Minestrata.isWithin -/
theorem m348 (l : Launch) (hst : l.stackTraces = false) (dC : Nat → ClassId) (dI : Nat → Nat → Nat) (g : Nat → Nat) (s1 : Int32) (e0 : ¬ (s1 < (1))) (e1 : (20) < s1) (sz : Nat) :
    Met l Y21 (Cond.code Y21 prog_1_method_38_code 3 (Option.some Jvm.ClassFile.FieldType.boolean) :: AW) ({ frames := 0, cells := 0, slots := 0, locals := 0 } : Room) (nP dC dI g [.int s1, .int (1), .int (20)] [] sz) (nQ dC dI (fun f => some (.int (0))) (fun f r => []) (va_A [] sz)) 0 0 (va_A [] sz) := by
  refine n_met (by decide +kernel) (Nat.le_of_ble_eq_true rfl) (fun f => some (.int (0))) (fun f r => []) ?_
  intro p e s m below meth c A ls ⟨hx, hb, hr, hml, hown, hts, hlk, hnm⟩ hE hP hD hA hl
  have hown : s.vm.findClass "Minestrata" = some m.cls := hown
  have hK := hE.1
  have hS : va_S A s.heap s.heap [] := va_S.rf
  have hl : lv_has ls 3 [(0, .int s1), (1, .int (1)), (2, .int (20))] := hl
  refine lv_iload_n hx hb dX11_isWithin_0 rfl (lv_at hl 0 rfl) ?_
  refine lv_iload_n hx hb dX11_isWithin_1 rfl (lv_at hl 1 rfl) ?_
  refine lv_icmp_lt (tgt := 14) hx hb dX11_isWithin_2 (by decide +kernel) (fun h => absurd h e0) (fun _ => ?_)
  refine lv_iload_n hx hb dX11_isWithin_5 rfl (lv_at hl 0 rfl) ?_
  refine lv_iload_n hx hb dX11_isWithin_6 rfl (lv_at hl 2 rfl) ?_
  refine lv_icmp_gt (tgt := 14) hx hb dX11_isWithin_7 (by decide +kernel) (fun _ => ?_) (fun h => absurd e1 h)
  refine lv_iconst (v := (0)) hx hb dX11_isWithin_14 (by decide +kernel) ?_
  refine W.widen (k := 0) (n := 0) (Nat.le_of_ble_eq_true rfl) (Nat.le_of_ble_eq_true rfl) ?_
  exact W.zret hx hb hr (by decide +kernel) (n_end hS hP hD [] (by decide +kernel) (fun _ => 0) (fun _ => 0) rfl rfl rfl) hS.2.2 dX11_isWithin_15 hlk

set_option maxHeartbeats 4000000 in
set_option maxRecDepth 100000 in
/-- Minestrata.deliver -/
theorem m349 (l : Launch) (hst : l.stackTraces = false) (dC : Nat → ClassId) (dI : Nat → Nat → Nat) (g : Nat → Nat) (a0 a1 a2 a3 a4 a5 a6 a7 a8 a9 a10 a11 a12 a13 a14 a15 a16 a17 a18 a19 : Nat) (s1 s2 s3 : Int32) (e0 : ¬ (s1 < (1))) (e1 : (20) < s1) (sz : Nat) :
    vx_Met l Y151 (Cond.code Y151 prog_1_method_29_code 6 (Option.some Jvm.ClassFile.FieldType.int) :: AW) ({ frames := 6, cells := 1, slots := 6, locals := 81 } : Room) (nP dC dI g [.ref a0, .int s1, .int s2, .int s3] [(a0, .inr (12, [.ref a1, .ref a2, .ref a3, .ref a4, .ref a5, .ref a6, .ref a7, .ref a8, .null, .ref a9, .ref a10, .int (0), .int (100), .int (0), .int (0), .int (-1), .long (0), .int (1)])), (a3, .inr (11, [.int (0), .ref a11, .ref a12, .ref a13, .ref a14, .ref a15, .ref a16, .ref a17, .ref a18, .ref a19]))] sz) (fun _ _ _ _ => False) (nX "java/lang/IllegalArgumentException" (va_A [(a0, .inr (12, [.ref a1, .ref a2, .ref a3, .ref a4, .ref a5, .ref a6, .ref a7, .ref a8, .null, .ref a9, .ref a10, .int (0), .int (100), .int (0), .int (0), .int (-1), .long (0), .int (1)])), (a3, .inr (11, [.int (0), .ref a11, .ref a12, .ref a13, .ref a14, .ref a15, .ref a16, .ref a17, .ref a18, .ref a19]))] sz)) 1 6 (va_A [(a0, .inr (12, [.ref a1, .ref a2, .ref a3, .ref a4, .ref a5, .ref a6, .ref a7, .ref a8, .null, .ref a9, .ref a10, .int (0), .int (100), .int (0), .int (0), .int (-1), .long (0), .int (1)])), (a3, .inr (11, [.int (0), .ref a11, .ref a12, .ref a13, .ref a14, .ref a15, .ref a16, .ref a17, .ref a18, .ref a19]))] sz) := by
  refine n_metX (by decide +kernel) (Nat.le_of_ble_eq_true rfl) "java/lang/IllegalArgumentException" ?_
  intro p e s m below meth c A ls ⟨hx, hb, hr, hml, hown, hts, hlk, hnm⟩ hout hE hP hD hA hl
  have hown : s.vm.findClass "Minestrata" = some m.cls := hown
  have hK := hE.1
  have hS : va_S A s.heap s.heap [] := va_S.rf
  have hl : lv_has ls 6 [(0, .ref a0), (1, .int s1), (2, .int s2), (3, .int s3)] := hl
  have hlsz : ls.size = c.maxLocals := hl.1.trans hml.symm
  refine lv_iload_n hx hb dX11_deliver_0 rfl (lv_at hl 1 rfl) ?_
  refine lv_iconst (v := (1)) hx hb dX11_deliver_1 (by decide +kernel) ?_
  refine lv_bipush (v := (20)) hx hb dX11_deliver_2 (by decide +kernel) ?_
  have hX : nCx p s m _ c prog_1_method_29_code 6 "Minestrata" dC dI g A [(a0, .inr (12, [.ref a1, .ref a2, .ref a3, .ref a4, .ref a5, .ref a6, .ref a7, .ref a8, .null, .ref a9, .ref a10, .int (0), .int (100), .int (0), .int (0), .int (-1), .long (0), .int (1)])), (a3, .inr (11, [.int (0), .ref a11, .ref a12, .ref a13, .ref a14, .ref a15, .ref a16, .ref a17, .ref a18, .ref a19]))] _ _ := ⟨⟨hx, hb, hml, hown, hts⟩, hE, hS, hA, hP, hD⟩
  refine n_call (wr := [(a0, .inr (12, [.ref a1, .ref a2, .ref a3, .ref a4, .ref a5, .ref a6, .ref a7, .ref a8, .null, .ref a9, .ref a10, .int (0), .int (100), .int (0), .int (0), .int (-1), .long (0), .int (1)])), (a3, .inr (11, [.int (0), .ref a11, .ref a12, .ref a13, .ref a14, .ref a15, .ref a16, .ref a17, .ref a18, .ref a19]))]) hX (n_runS (n := 3) (wc := []) (As := [.int s1, .int (1), .int (20)]) (rest := []) hX (m348 l hst dC dI g s1 e0 e1 _) [] rfl (by decide +kernel) q814 q815 q71 q816 (by decide +kernel) ⟨(Nat.le_of_ble_eq_true rfl), (Nat.le_of_ble_eq_true rfl)⟩ ⟨(Nat.le_of_ble_eq_true rfl), (Nat.le_of_ble_eq_true rfl)⟩ hl.1 rfl rfl (Nat.le_of_ble_eq_true rfl) dX11_deliver_4) [] [0, 1] rfl rfl (by decide +kernel) (by decide +kernel) (fun f1 r2 H locs hP hD hS => ?_)
  have hP : va_P (dC, dI) CL [(a0, .inr (12, [.ref a1, .ref a2, .ref a3, .ref a4, .ref a5, .ref a6, .ref a7, .ref a8, .null, .ref a9, .ref a10, .int (0), .int (100), .int (0), .int (0), .int (-1), .long (0), .int (1)])), (a3, .inr (11, [.int (0), .ref a11, .ref a12, .ref a13, .ref a14, .ref a15, .ref a16, .ref a17, .ref a18, .ref a19]))] _ := hP
  have hD : va_D A [(a0, .inr (12, [.ref a1, .ref a2, .ref a3, .ref a4, .ref a5, .ref a6, .ref a7, .ref a8, .null, .ref a9, .ref a10, .int (0), .int (100), .int (0), .int (0), .int (-1), .long (0), .int (1)])), (a3, .inr (11, [.int (0), .ref a11, .ref a12, .ref a13, .ref a14, .ref a15, .ref a16, .ref a17, .ref a18, .ref a19]))] := hD
  refine W.widen (k := 0) (n := 0) (Nat.le_of_ble_eq_true rfl) (Nat.le_of_ble_eq_true rfl) ?_
  refine W.eq (g2 := F0 m 7 ls [.int (0)]) rfl ?_
  refine lv_if_eq (tgt := 26) hx hb dX11_deliver_7 (by decide +kernel) (fun _ => ?_) (fun h => absurd (by decide +kernel) h)
  exact n_throw hx hb hst hown hts hE hS (names := ["java/lang/RuntimeException", "java/lang/Exception"]) (by decide +kernel) (by decide +kernel) q817 q89 hat0p hat0a hat0 hat0g (hl.1.trans hml.symm) dX11_deliver_26 dX11_deliver_29 dX11_deliver_30 dX11_deliver_33 hout (Nat.le_of_ble_eq_true rfl) (Nat.le_of_ble_eq_true rfl) (Nat.le_of_ble_eq_true rfl) (Nat.le_of_ble_eq_true rfl) hlk (Nat.le_of_ble_eq_true rfl) (Nat.le_of_ble_eq_true rfl)

