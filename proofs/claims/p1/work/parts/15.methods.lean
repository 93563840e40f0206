set_option maxHeartbeats 4000000 in
set_option maxRecDepth 100000 in
/-- Minestrata$Air.keep -/
theorem m236 (l : Launch) (hst : l.stackTraces = false) (dC : Nat → ClassId) (dI : Nat → Nat → Nat) (g : Nat → Nat) (a0 a1 a2 a3 a4 a5 a6 a7 a8 a9 a10 a11 a12 a13 a14 a15 a16 a17 a18 a19 a20 a21 a22 a23 a24 a25 a26 a27 : Nat) (rr : Nat → Nat) (sz : Nat) :
    Met l Y67 (Cond.code Y67 prog_2_method_8_code 12 (Option.none : Option Jvm.ClassFile.FieldType) :: AW) ({ frames := 0, cells := 0, slots := 0, locals := 0 } : Room) (nP dC dI g [.ref a0, .ref a1, .long (2147483647), .long (1)] [(a1, .inr (8, [.int (0), .ref a2, .ref a3, .ref a4, .ref a5, .int (0), .ref a6, .ref a7, .ref a8, .ref a9, .ref a10, .ref a11, .ref a12])), (a0, .inr (2, [.ref a13, .ref a14, .ref a15, .ref a16, .ref a17, .ref a18, .int (0), .ref a19, .ref a20, .ref a21, .ref a22, .ref a23, .ref a24, .ref a25, .int (0), .int (0)])), (a13, .inr (9, [.int (0), .ref a26, .ref a27])), (a14, .inl (g 1, 32, .inr (.inl (fun _ => 0)))), (a19, .inl (g 5, 32, .inr (.inr (.inr (.inr (fun i => if i < 32 then some (rr i) else none))))))] sz) (nQ dC dI (fun f => none) (fun f r => [(a1, .inr (8, [.int (0), .ref a2, .ref a3, .ref a4, .ref a5, .int (0), .ref a6, .ref a7, .ref a8, .ref a9, .ref a10, .ref a11, .ref a12])), (a0, .inr (2, [.ref a13, .ref a14, .ref a15, .ref a16, .ref a17, .ref a18, .int (0), .ref a19, .ref a20, .ref a21, .ref a22, .ref a23, .ref a24, .ref a25, .int (0), .int (0)])), (a13, .inr (9, [.int (0), .ref a26, .ref a27])), (a14, .inl (g 1, 32, .inr (.inl (vp_updL (fun _ => 0) (Int32.toNatClampNeg (0)) (1))))), (a19, .inl (g 5, 32, .inr (.inr (.inr (.inr (fun i => if i < 32 then some (rr i) else none))))))]) (va_A [(a1, .inr (8, [.int (0), .ref a2, .ref a3, .ref a4, .ref a5, .int (0), .ref a6, .ref a7, .ref a8, .ref a9, .ref a10, .ref a11, .ref a12])), (a0, .inr (2, [.ref a13, .ref a14, .ref a15, .ref a16, .ref a17, .ref a18, .int (0), .ref a19, .ref a20, .ref a21, .ref a22, .ref a23, .ref a24, .ref a25, .int (0), .int (0)])), (a13, .inr (9, [.int (0), .ref a26, .ref a27])), (a14, .inl (g 1, 32, .inr (.inl (fun _ => 0)))), (a19, .inl (g 5, 32, .inr (.inr (.inr (.inr (fun i => if i < 32 then some (rr i) else none))))))] sz)) 0 0 (va_A [(a1, .inr (8, [.int (0), .ref a2, .ref a3, .ref a4, .ref a5, .int (0), .ref a6, .ref a7, .ref a8, .ref a9, .ref a10, .ref a11, .ref a12])), (a0, .inr (2, [.ref a13, .ref a14, .ref a15, .ref a16, .ref a17, .ref a18, .int (0), .ref a19, .ref a20, .ref a21, .ref a22, .ref a23, .ref a24, .ref a25, .int (0), .int (0)])), (a13, .inr (9, [.int (0), .ref a26, .ref a27])), (a14, .inl (g 1, 32, .inr (.inl (fun _ => 0)))), (a19, .inl (g 5, 32, .inr (.inr (.inr (.inr (fun i => if i < 32 then some (rr i) else none))))))] sz) := by
  refine n_met (by decide +kernel) (Nat.le_of_ble_eq_true rfl) (fun f => none) (fun f r => [(a1, .inr (8, [.int (0), .ref a2, .ref a3, .ref a4, .ref a5, .int (0), .ref a6, .ref a7, .ref a8, .ref a9, .ref a10, .ref a11, .ref a12])), (a0, .inr (2, [.ref a13, .ref a14, .ref a15, .ref a16, .ref a17, .ref a18, .int (0), .ref a19, .ref a20, .ref a21, .ref a22, .ref a23, .ref a24, .ref a25, .int (0), .int (0)])), (a13, .inr (9, [.int (0), .ref a26, .ref a27])), (a14, .inl (g 1, 32, .inr (.inl (vp_updL (fun _ => 0) (Int32.toNatClampNeg (0)) (1))))), (a19, .inl (g 5, 32, .inr (.inr (.inr (.inr (fun i => if i < 32 then some (rr i) else none))))))]) ?_
  intro p e s m below meth c A ls ⟨hx, hb, hr, hml, hown, hts, hlk, hnm⟩ hE hP hD hA hl
  have hown : s.vm.findClass "Minestrata$Air" = some m.cls := hown
  have hK := hE.1
  have hS : va_S A s.heap s.heap [] := va_S.rf
  have hl : lv_has ls 12 [(0, .ref a0), (1, .ref a1), (2, .long (2147483647)), (4, .long (1))] := hl
  refine lv_aload_n hx hb dX0_keep_0 rfl (lv_at hl 0 rfl) ?_
  refine va_get (D := (dC, dI)) (ci := 2) (v := .ref a13) (C := "Minestrata$Air") (T := TX0) (N := 16) hx hb hts inX0 hown hK hP 1 rfl rfl 0 (by decide) (hts _ q351) (fun _ h9 => h9) rfl dX0_keep_1 ?_
  refine va_get (D := (dC, dI)) (ci := 9) (v := .int (0)) (C := "Minestrata$Radix") (T := TX8) (N := 3) hx hb hts inX8 hown hK hP 2 rfl rfl 0 (by decide) (hts _ q263) (fun _ h9 => h9) rfl dX0_keep_4 ?_
  refine lv_istore (lv' := [(6, .int (0)), (0, .ref a0), (1, .ref a1), (2, .long (2147483647)), (4, .long (1))]) hx hb dX0_keep_7 hl (by decide) rfl (fun ls hl => ?_)
  refine lv_aload_n hx hb dX0_keep_9 rfl (lv_at hl 1 rfl) ?_
  refine va_get (D := (dC, dI)) (ci := 2) (v := .ref a19) (C := "Minestrata$Air") (T := TX0) (N := 16) hx hb hts inX0 hown hK hP 1 rfl rfl 7 (by decide) (hts _ q366) (fun _ h9 => h9) rfl dX0_keep_10 ?_
  refine lv_iload hx hb dX0_keep_13 (lv_at hl 0 rfl) ?_
  refine n_aald hx hb hK hP 4 5 rfl rfl rfl (show ¬ ((0 : Int32) < 0 ∨ 32 ≤ Int32.toNatClampNeg (0)) by decide +kernel) (v := .ref (rr 0)) rfl dX0_keep_15 ?_
  refine lv_astore (lv' := [(7, .ref (rr 0)), (6, .int (0)), (0, .ref a0), (1, .ref a1), (2, .long (2147483647)), (4, .long (1))]) hx hb dX0_keep_16 hl (by decide) rfl (fun ls hl => ?_)
  refine lv_iconst (v := (0)) hx hb dX0_keep_18 (by decide +kernel) ?_
  refine lv_istore (lv' := [(8, .int (0)), (7, .ref (rr 0)), (6, .int (0)), (0, .ref a0), (1, .ref a1), (2, .long (2147483647)), (4, .long (1))]) hx hb dX0_keep_19 hl (by decide) rfl (fun ls hl => ?_)
  refine lv_iload hx hb dX0_keep_21 (lv_at hl 0 rfl) ?_
  refine lv_aload_n hx hb dX0_keep_23 rfl (lv_at hl 4 rfl) ?_
  refine va_get (D := (dC, dI)) (ci := 8) (v := .int (0)) (C := "Minestrata$Net") (T := TX7) (N := 13) hx hb hts inX7 hown hK hP 0 rfl rfl 0 (by decide) (hts _ q129) (fun _ h9 => h9) rfl dX0_keep_24 ?_
  refine lv_icmp_ge (tgt := 94) hx hb dX0_keep_27 (by decide +kernel) (fun _ => ?_) (fun h => absurd (by decide +kernel) h)
  refine lv_iconst (v := (0)) hx hb dX0_keep_94 (by decide +kernel) ?_
  refine lv_istore (lv' := [(8, .int (0)), (7, .ref (rr 0)), (6, .int (0)), (0, .ref a0), (1, .ref a1), (2, .long (2147483647)), (4, .long (1))]) hx hb dX0_keep_95 hl (by decide) rfl (fun ls hl => ?_)
  refine lv_iload hx hb dX0_keep_97 (lv_at hl 0 rfl) ?_
  refine lv_aload_n hx hb dX0_keep_99 rfl (lv_at hl 4 rfl) ?_
  refine va_get (D := (dC, dI)) (ci := 8) (v := .int (0)) (C := "Minestrata$Net") (T := TX7) (N := 13) hx hb hts inX7 hown hK hP 0 rfl rfl 5 (by decide) (hts _ q151) (fun _ h9 => h9) rfl dX0_keep_100 ?_
  refine lv_icmp_ge (tgt := 172) hx hb dX0_keep_103 (by decide +kernel) (fun _ => ?_) (fun h => absurd (by decide +kernel) h)
  refine lv_aload_n hx hb dX0_keep_172 rfl (lv_at hl 3 rfl) ?_
  refine va_get (D := (dC, dI)) (ci := 2) (v := .ref a14) (C := "Minestrata$Air") (T := TX0) (N := 16) hx hb hts inX0 hown hK hP 1 rfl rfl 1 (by decide) (hts _ q353) (fun _ h9 => h9) rfl dX0_keep_173 ?_
  refine lv_iload hx hb dX0_keep_176 (lv_at hl 2 rfl) ?_
  refine lv_lload hx hb dX0_keep_178 (lv_at hl 6 rfl) ?_
  refine va_last hx hb hK hP hD hS 3 1 rfl rfl (show ¬ ((0 : Int32) < 0 ∨ 32 ≤ Int32.toNatClampNeg (0)) by decide +kernel) dX0_keep_180 (fun H locs hP hD hS => ?_)
  have hP : va_P (dC, dI) CL [(a1, .inr (8, [.int (0), .ref a2, .ref a3, .ref a4, .ref a5, .int (0), .ref a6, .ref a7, .ref a8, .ref a9, .ref a10, .ref a11, .ref a12])), (a0, .inr (2, [.ref a13, .ref a14, .ref a15, .ref a16, .ref a17, .ref a18, .int (0), .ref a19, .ref a20, .ref a21, .ref a22, .ref a23, .ref a24, .ref a25, .int (0), .int (0)])), (a13, .inr (9, [.int (0), .ref a26, .ref a27])), (a14, .inl (g 1, 32, .inr (.inl (vp_updL (fun _ => 0) (Int32.toNatClampNeg (0)) (1))))), (a19, .inl (g 5, 32, .inr (.inr (.inr (.inr (fun i => if i < 32 then some (rr i) else none))))))] _ := hP
  have hD : va_D A [(a1, .inr (8, [.int (0), .ref a2, .ref a3, .ref a4, .ref a5, .int (0), .ref a6, .ref a7, .ref a8, .ref a9, .ref a10, .ref a11, .ref a12])), (a0, .inr (2, [.ref a13, .ref a14, .ref a15, .ref a16, .ref a17, .ref a18, .int (0), .ref a19, .ref a20, .ref a21, .ref a22, .ref a23, .ref a24, .ref a25, .int (0), .int (0)])), (a13, .inr (9, [.int (0), .ref a26, .ref a27])), (a14, .inl (g 1, 32, .inr (.inl (vp_updL (fun _ => 0) (Int32.toNatClampNeg (0)) (1))))), (a19, .inl (g 5, 32, .inr (.inr (.inr (.inr (fun i => if i < 32 then some (rr i) else none))))))] := hD
  refine W.widen (k := 0) (n := 0) (Nat.le_of_ble_eq_true rfl) (Nat.le_of_ble_eq_true rfl) ?_
  exact W.vret hx hb hr (n_end hS hP hD [0, 1, 2, 3, 4] (by decide +kernel) (fun _ => 0) rr rfl rfl rfl) hS.2.2 dX0_keep_181 hlk

set_option maxHeartbeats 4000000 in
set_option maxRecDepth 100000 in
/-- Math.floorMod -/
theorem m237 (l : Launch) (hst : l.stackTraces = false) (dC : Nat → ClassId) (dI : Nat → Nat → Nat) (g : Nat → Nat) (sz : Nat) :
    Met l Y70 (Cond.code Y70 prog_31_method_52_code 6 (Option.some Jvm.ClassFile.FieldType.long) :: AW) ({ frames := 0, cells := 0, slots := 0, locals := 0 } : Room) (nP dC dI g [.long (1), .long (2147483647)] [] sz) (nQ dC dI (fun f => some (.long (1))) (fun f r => []) (va_A [] sz)) 0 0 (va_A [] sz) := by
  refine n_met (by decide +kernel) (Nat.le_of_ble_eq_true rfl) (fun f => some (.long (1))) (fun f r => []) ?_
  intro p e s m below meth c A ls ⟨hx, hb, hr, hml, hown, hts, hlk, hnm⟩ hE hP hD hA hl
  have hown : s.vm.findClass "java/lang/Math" = some m.cls := hown
  have hK := hE.1
  have hS : va_S A s.heap s.heap [] := va_S.rf
  have hl : lv_has ls 6 [(0, .long (1)), (2, .long (2147483647))] := hl
  refine lv_lload_n hx hb dJ9_floorMod_f86c9_0 rfl (lv_at hl 0 rfl) ?_
  refine lv_lload_n hx hb dJ9_floorMod_f86c9_1 rfl (lv_at hl 1 rfl) ?_
  refine lv_lrem hx hb dJ9_floorMod_f86c9_2 (by decide +kernel) ?_
  refine nt_l (v := (1)) (by decide +kernel) ?_
  refine lv_lstore (lv' := [(4, .long (1)), (0, .long (1)), (2, .long (2147483647))]) hx hb dJ9_floorMod_f86c9_3 hl (by decide) rfl (fun ls hl => ?_)
  refine lv_lload_n hx hb dJ9_floorMod_f86c9_5 rfl (lv_at hl 1 rfl) ?_
  refine lv_lload_n hx hb dJ9_floorMod_f86c9_6 rfl (lv_at hl 2 rfl) ?_
  refine lv_lxor hx hb dJ9_floorMod_f86c9_7 ?_
  refine nt_l (v := (2147483646)) (by decide +kernel) ?_
  refine lv_lconst (v := (0)) hx hb dJ9_floorMod_f86c9_8 (by decide +kernel) ?_
  refine W.lcmp hx hb dJ9_floorMod_f86c9_9 ?_
  refine nt_i (v := (1)) (by decide +kernel) ?_
  refine lv_if_ge (tgt := 25) hx hb dJ9_floorMod_f86c9_10 (by decide +kernel) (fun _ => ?_) (fun h => absurd (by decide +kernel) h)
  refine lv_lload hx hb dJ9_floorMod_f86c9_25 (lv_at hl 0 rfl) ?_
  refine W.widen (k := 0) (n := 0) (Nat.le_of_ble_eq_true rfl) (Nat.le_of_ble_eq_true rfl) ?_
  exact W.lret hx hb hr (n_end hS hP hD [] (by decide +kernel) (fun _ => 0) (fun _ => 0) rfl rfl rfl) hS.2.2 dJ9_floorMod_f86c9_27 hlk

set_option maxHeartbeats 4000000 in
set_option maxRecDepth 100000 in
/-- Minestrata$Radix.inverse -/
theorem m238 (l : Launch) (hst : l.stackTraces = false) (dC : Nat → ClassId) (dI : Nat → Nat → Nat) (g : Nat → Nat) (sz : Nat) :
    Met l Y69 (Cond.code Y69 prog_10_method_4_code 19 (Option.some Jvm.ClassFile.FieldType.long) :: AW) ({ frames := 1, cells := 0, slots := 0, locals := 25 } : Room) (nP dC dI g [.long (1), .long (2147483647)] [] sz) (nQ dC dI (fun f => some (.long (1))) (fun f r => []) (va_A [] sz)) 0 0 (va_A [] sz) := by
  refine n_met (by decide +kernel) (Nat.le_of_ble_eq_true rfl) (fun f => some (.long (1))) (fun f r => []) ?_
  intro p e s m below meth c A ls ⟨hx, hb, hr, hml, hown, hts, hlk, hnm⟩ hE hP hD hA hl
  have hown : s.vm.findClass "Minestrata$Radix" = some m.cls := hown
  have hK := hE.1
  have hS : va_S A s.heap s.heap [] := va_S.rf
  have hl : lv_has ls 19 [(0, .long (1)), (2, .long (2147483647))] := hl
  refine lv_lload_n hx hb dX8_inverse_0 rfl (lv_at hl 1 rfl) ?_
  refine lv_ldc2 (v := (2)) hx hb hown (hts _ q611) dX8_inverse_1 ?_
  refine W.lcmp hx hb dX8_inverse_4 ?_
  refine nt_i (v := (1)) (by decide +kernel) ?_
  refine lv_if_ge (tgt := 10) hx hb dX8_inverse_5 (by decide +kernel) (fun _ => ?_) (fun h => absurd (by decide +kernel) h)
  refine lv_lload_n hx hb dX8_inverse_10 rfl (lv_at hl 1 rfl) ?_
  refine lv_lstore (lv' := [(4, .long (2147483647)), (0, .long (1)), (2, .long (2147483647))]) hx hb dX8_inverse_11 hl (by decide) rfl (fun ls hl => ?_)
  refine lv_lload_n hx hb dX8_inverse_13 rfl (lv_at hl 1 rfl) ?_
  refine lv_lload_n hx hb dX8_inverse_14 rfl (lv_at hl 2 rfl) ?_
  have hX : nCx p s m _ c prog_10_method_4_code 19 "Minestrata$Radix" dC dI g A [] _ _ := ⟨⟨hx, hb, hml, hown, hts⟩, hE, hS, hA, hP, hD⟩
  refine n_call (wr := []) hX (n_runS (n := 2) (wc := []) (As := [.long (1), .long (2147483647)]) (rest := []) hX (m237 l hst dC dI g _) [] rfl (by decide +kernel) q612 q613 q96 q614 (by decide +kernel) ⟨(Nat.le_of_ble_eq_true rfl), (Nat.le_of_ble_eq_true rfl)⟩ ⟨(Nat.le_of_ble_eq_true rfl), (Nat.le_of_ble_eq_true rfl)⟩ hl.1 rfl rfl (Nat.le_of_ble_eq_true rfl) dX8_inverse_15) [] [] rfl rfl (by decide +kernel) (by decide +kernel) (fun f1 r2 H locs hP hD hS => ?_)
  have hP : va_P (dC, dI) CL [] _ := hP
  have hD : va_D A [] := hD
  refine W.widen (k := 0) (n := 0) (Nat.le_of_ble_eq_true rfl) (Nat.le_of_ble_eq_true rfl) ?_
  refine W.eq (g2 := F0 m 18 ls [.long (1)]) rfl ?_
  refine lv_lstore (lv' := [(6, .long (1)), (4, .long (2147483647)), (0, .long (1)), (2, .long (2147483647))]) hx hb dX8_inverse_18 hl (by decide) rfl (fun ls hl => ?_)
  refine lv_lconst (v := (0)) hx hb dX8_inverse_20 (by decide +kernel) ?_
  refine lv_lstore (lv' := [(8, .long (0)), (6, .long (1)), (4, .long (2147483647)), (0, .long (1)), (2, .long (2147483647))]) hx hb dX8_inverse_21 hl (by decide) rfl (fun ls hl => ?_)
  refine lv_lconst (v := (1)) hx hb dX8_inverse_23 (by decide +kernel) ?_
  refine lv_lstore (lv' := [(10, .long (1)), (8, .long (0)), (6, .long (1)), (4, .long (2147483647)), (0, .long (1)), (2, .long (2147483647))]) hx hb dX8_inverse_24 hl (by decide) rfl (fun ls hl => ?_)
  refine lv_iconst (v := (0)) hx hb dX8_inverse_26 (by decide +kernel) ?_
  refine lv_istore (lv' := [(12, .int (0)), (10, .long (1)), (8, .long (0)), (6, .long (1)), (4, .long (2147483647)), (0, .long (1)), (2, .long (2147483647))]) hx hb dX8_inverse_27 hl (by decide) rfl (fun ls hl => ?_)
  refine lv_iload hx hb dX8_inverse_29 (lv_at hl 0 rfl) ?_
  refine lv_bipush (v := (64)) hx hb dX8_inverse_31 (by decide +kernel) ?_
  refine lv_icmp_ge (tgt := 92) hx hb dX8_inverse_33 (by decide +kernel) (fun h => absurd h (by decide +kernel)) (fun _ => ?_)
  refine lv_lload hx hb dX8_inverse_36 (lv_at hl 3 rfl) ?_
  refine lv_lconst (v := (0)) hx hb dX8_inverse_38 (by decide +kernel) ?_
  refine W.lcmp hx hb dX8_inverse_39 ?_
  refine nt_i (v := (1)) (by decide +kernel) ?_
  refine lv_if_eq (tgt := 92) hx hb dX8_inverse_40 (by decide +kernel) (fun h => absurd h (by decide +kernel)) (fun _ => ?_)
  refine lv_lload hx hb dX8_inverse_43 (lv_at hl 4 rfl) ?_
  refine lv_lload hx hb dX8_inverse_45 (lv_at hl 3 rfl) ?_
  refine lv_ldiv hx hb dX8_inverse_47 (by decide +kernel) ?_
  refine nt_l (v := (2147483647)) (by decide +kernel) ?_
  refine lv_lstore (lv' := [(13, .long (2147483647)), (12, .int (0)), (10, .long (1)), (8, .long (0)), (6, .long (1)), (4, .long (2147483647)), (0, .long (1)), (2, .long (2147483647))]) hx hb dX8_inverse_48 hl (by decide) rfl (fun ls hl => ?_)
  refine lv_lload hx hb dX8_inverse_50 (lv_at hl 5 rfl) ?_
  refine lv_lload hx hb dX8_inverse_52 (lv_at hl 0 rfl) ?_
  refine lv_lload hx hb dX8_inverse_54 (lv_at hl 4 rfl) ?_
  refine lv_lmul hx hb dX8_inverse_56 ?_
  refine nt_l (v := (2147483647)) (by decide +kernel) ?_
  refine lv_lsub hx hb dX8_inverse_57 ?_
  refine nt_l (v := (0)) (by decide +kernel) ?_
  refine lv_lstore (lv' := [(15, .long (0)), (13, .long (2147483647)), (12, .int (0)), (10, .long (1)), (8, .long (0)), (6, .long (1)), (4, .long (2147483647)), (0, .long (1)), (2, .long (2147483647))]) hx hb dX8_inverse_58 hl (by decide) rfl (fun ls hl => ?_)
  refine lv_lload hx hb dX8_inverse_60 (lv_at hl 4 rfl) ?_
  refine lv_lload hx hb dX8_inverse_62 (lv_at hl 1 rfl) ?_
  refine lv_lload hx hb dX8_inverse_64 (lv_at hl 3 rfl) ?_
  refine lv_lmul hx hb dX8_inverse_66 ?_
  refine nt_l (v := (2147483647)) (by decide +kernel) ?_
  refine lv_lsub hx hb dX8_inverse_67 ?_
  refine nt_l (v := (-2147483647)) (by decide +kernel) ?_
  refine lv_lstore (lv' := [(17, .long (-2147483647)), (15, .long (0)), (13, .long (2147483647)), (12, .int (0)), (10, .long (1)), (8, .long (0)), (6, .long (1)), (4, .long (2147483647)), (0, .long (1)), (2, .long (2147483647))]) hx hb dX8_inverse_68 hl (by decide) rfl (fun ls hl => ?_)
  refine lv_lload hx hb dX8_inverse_70 (lv_at hl 6 rfl) ?_
  refine lv_lstore (lv' := [(4, .long (1)), (17, .long (-2147483647)), (15, .long (0)), (13, .long (2147483647)), (12, .int (0)), (10, .long (1)), (8, .long (0)), (6, .long (1)), (0, .long (1)), (2, .long (2147483647))]) hx hb dX8_inverse_72 hl (by decide) rfl (fun ls hl => ?_)
  refine lv_lload hx hb dX8_inverse_74 (lv_at hl 2 rfl) ?_
  refine lv_lstore (lv' := [(6, .long (0)), (4, .long (1)), (17, .long (-2147483647)), (15, .long (0)), (13, .long (2147483647)), (12, .int (0)), (10, .long (1)), (8, .long (0)), (0, .long (1)), (2, .long (2147483647))]) hx hb dX8_inverse_76 hl (by decide) rfl (fun ls hl => ?_)
  refine lv_lload hx hb dX8_inverse_78 (lv_at hl 6 rfl) ?_
  refine lv_lstore (lv' := [(8, .long (1)), (6, .long (0)), (4, .long (1)), (17, .long (-2147483647)), (15, .long (0)), (13, .long (2147483647)), (12, .int (0)), (10, .long (1)), (0, .long (1)), (2, .long (2147483647))]) hx hb dX8_inverse_80 hl (by decide) rfl (fun ls hl => ?_)
  refine lv_lload hx hb dX8_inverse_82 (lv_at hl 3 rfl) ?_
  refine lv_lstore (lv' := [(10, .long (-2147483647)), (8, .long (1)), (6, .long (0)), (4, .long (1)), (17, .long (-2147483647)), (15, .long (0)), (13, .long (2147483647)), (12, .int (0)), (0, .long (1)), (2, .long (2147483647))]) hx hb dX8_inverse_84 hl (by decide) rfl (fun ls hl => ?_)
  refine lv_iinc (v := (1)) (lv' := [(12, .int (1)), (10, .long (-2147483647)), (8, .long (1)), (6, .long (0)), (4, .long (1)), (17, .long (-2147483647)), (15, .long (0)), (13, .long (2147483647)), (0, .long (1)), (2, .long (2147483647))]) hx hb dX8_inverse_86 hl (k := 7) rfl (by decide +kernel) (by decide) rfl (fun ls hl => ?_)
  refine lv_goto (tgt := 29) hx hb dX8_inverse_89 (by decide +kernel) ?_
  refine lv_iload hx hb dX8_inverse_29 (lv_at hl 0 rfl) ?_
  refine lv_bipush (v := (64)) hx hb dX8_inverse_31 (by decide +kernel) ?_
  refine lv_icmp_ge (tgt := 92) hx hb dX8_inverse_33 (by decide +kernel) (fun h => absurd h (by decide +kernel)) (fun _ => ?_)
  refine lv_lload hx hb dX8_inverse_36 (lv_at hl 3 rfl) ?_
  refine lv_lconst (v := (0)) hx hb dX8_inverse_38 (by decide +kernel) ?_
  refine W.lcmp hx hb dX8_inverse_39 ?_
  refine nt_i (v := (0)) (by decide +kernel) ?_
  refine lv_if_eq (tgt := 92) hx hb dX8_inverse_40 (by decide +kernel) (fun _ => ?_) (fun h => absurd (by decide +kernel) h)
  refine lv_lload hx hb dX8_inverse_92 (lv_at hl 2 rfl) ?_
  refine lv_lload_n hx hb dX8_inverse_94 rfl (lv_at hl 9 rfl) ?_
  have hX : nCx p s m _ c prog_10_method_4_code 19 "Minestrata$Radix" dC dI g A [] _ _ := ⟨⟨hx, hb, hml, hown, hts⟩, hE, hS, hA, hP, hD⟩
  refine n_call (wr := []) hX (n_runS (n := 2) (wc := []) (As := [.long (1), .long (2147483647)]) (rest := []) hX (m237 l hst dC dI g _) [] rfl (by decide +kernel) q612 q613 q96 q614 (by decide +kernel) ⟨(Nat.le_of_ble_eq_true rfl), (Nat.le_of_ble_eq_true rfl)⟩ ⟨(Nat.le_of_ble_eq_true rfl), (Nat.le_of_ble_eq_true rfl)⟩ hl.1 rfl rfl (Nat.le_of_ble_eq_true rfl) dX8_inverse_95) [] [] rfl rfl (by decide +kernel) (by decide +kernel) (fun f3 r4 H locs hP hD hS => ?_)
  have hP : va_P (dC, dI) CL [] _ := hP
  have hD : va_D A [] := hD
  refine W.widen (k := 0) (n := 0) (Nat.le_of_ble_eq_true rfl) (Nat.le_of_ble_eq_true rfl) ?_
  refine W.eq (g2 := F0 m 98 ls [.long (1)]) rfl ?_
  refine W.widen (k := 0) (n := 0) (Nat.le_of_ble_eq_true rfl) (Nat.le_of_ble_eq_true rfl) ?_
  exact W.lret hx hb hr (n_end hS hP hD [] (by decide +kernel) (fun _ => 0) (fun _ => 0) rfl rfl rfl) hS.2.2 dX8_inverse_98 hlk

set_option maxHeartbeats 4000000 in
set_option maxRecDepth 100000 in
/-- Minestrata$Radix.add -/
theorem m239 (l : Launch) (hst : l.stackTraces = false) (dC : Nat → ClassId) (dI : Nat → Nat → Nat) (g : Nat → Nat) (a0 a1 a2 : Nat) (sz : Nat) :
    Met l Y68 (Cond.code Y68 prog_10_method_2_code 6 (Option.none : Option Jvm.ClassFile.FieldType) :: AW) ({ frames := 2, cells := 0, slots := 0, locals := 63 } : Room) (nP dC dI g [.ref a0, .long (2147483647)] [(a0, .inr (9, [.int (0), .ref a1, .ref a2])), (a1, .inl (g 1, 32, .inr (.inl (fun _ => 0)))), (a2, .inl (g 1, 32, .inr (.inl (fun _ => 0))))] sz) (nQ dC dI (fun f => none) (fun f r => [(a0, .inr (9, [.int (1), .ref a1, .ref a2])), (a1, .inl (g 1, 32, .inr (.inl (vp_updL (fun _ => 0) (Int32.toNatClampNeg (0)) (2147483647))))), (a2, .inl (g 1, 32, .inr (.inl (vp_updL (fun _ => 0) (Int32.toNatClampNeg (0)) (1)))))]) (va_A [(a0, .inr (9, [.int (0), .ref a1, .ref a2])), (a1, .inl (g 1, 32, .inr (.inl (fun _ => 0)))), (a2, .inl (g 1, 32, .inr (.inl (fun _ => 0))))] sz)) 0 0 (va_A [(a0, .inr (9, [.int (0), .ref a1, .ref a2])), (a1, .inl (g 1, 32, .inr (.inl (fun _ => 0)))), (a2, .inl (g 1, 32, .inr (.inl (fun _ => 0))))] sz) := by
  refine n_met (by decide +kernel) (Nat.le_of_ble_eq_true rfl) (fun f => none) (fun f r => [(a0, .inr (9, [.int (1), .ref a1, .ref a2])), (a1, .inl (g 1, 32, .inr (.inl (vp_updL (fun _ => 0) (Int32.toNatClampNeg (0)) (2147483647))))), (a2, .inl (g 1, 32, .inr (.inl (vp_updL (fun _ => 0) (Int32.toNatClampNeg (0)) (1)))))]) ?_
  intro p e s m below meth c A ls ⟨hx, hb, hr, hml, hown, hts, hlk, hnm⟩ hE hP hD hA hl
  have hown : s.vm.findClass "Minestrata$Radix" = some m.cls := hown
  have hK := hE.1
  have hS : va_S A s.heap s.heap [] := va_S.rf
  have hl : lv_has ls 6 [(0, .ref a0), (1, .long (2147483647))] := hl
  refine lv_aload_n hx hb dX8_add_0 rfl (lv_at hl 0 rfl) ?_
  refine va_get (D := (dC, dI)) (ci := 9) (v := .int (0)) (C := "Minestrata$Radix") (T := TX8) (N := 3) hx hb hts inX8 hown hK hP 0 rfl rfl 0 (by decide) (hts _ q262) (fun _ h9 => h9) rfl dX8_add_1 ?_
  refine lv_bipush (v := (32)) hx hb dX8_add_4 (by decide +kernel) ?_
  refine lv_icmp_ge (tgt := 17) hx hb dX8_add_6 (by decide +kernel) (fun h => absurd h (by decide +kernel)) (fun _ => ?_)
  refine lv_lload_n hx hb dX8_add_9 rfl (lv_at hl 1 rfl) ?_
  refine lv_ldc2 (v := (2)) hx hb hown (hts _ q611) dX8_add_10 ?_
  refine W.lcmp hx hb dX8_add_13 ?_
  refine nt_i (v := (1)) (by decide +kernel) ?_
  refine lv_if_ge (tgt := 18) hx hb dX8_add_14 (by decide +kernel) (fun _ => ?_) (fun h => absurd (by decide +kernel) h)
  refine lv_lconst (v := (1)) hx hb dX8_add_18 (by decide +kernel) ?_
  refine lv_lstore_n (lv' := [(3, .long (1)), (0, .ref a0), (1, .long (2147483647))]) hx hb dX8_add_19 rfl hl (by decide) rfl (fun ls hl => ?_)
  refine lv_iconst (v := (0)) hx hb dX8_add_20 (by decide +kernel) ?_
  refine lv_istore (lv' := [(5, .int (0)), (3, .long (1)), (0, .ref a0), (1, .long (2147483647))]) hx hb dX8_add_21 hl (by decide) rfl (fun ls hl => ?_)
  refine lv_iload hx hb dX8_add_23 (lv_at hl 0 rfl) ?_
  refine lv_aload_n hx hb dX8_add_25 rfl (lv_at hl 2 rfl) ?_
  refine va_get (D := (dC, dI)) (ci := 9) (v := .int (0)) (C := "Minestrata$Radix") (T := TX8) (N := 3) hx hb hts inX8 hown hK hP 0 rfl rfl 0 (by decide) (hts _ q262) (fun _ h9 => h9) rfl dX8_add_26 ?_
  refine lv_icmp_ge (tgt := 52) hx hb dX8_add_29 (by decide +kernel) (fun _ => ?_) (fun h => absurd (by decide +kernel) h)
  refine lv_aload_n hx hb dX8_add_52 rfl (lv_at hl 2 rfl) ?_
  refine va_get (D := (dC, dI)) (ci := 9) (v := .ref a1) (C := "Minestrata$Radix") (T := TX8) (N := 3) hx hb hts inX8 hown hK hP 0 rfl rfl 1 (by decide) (hts _ q266) (fun _ h9 => h9) rfl dX8_add_53 ?_
  refine lv_aload_n hx hb dX8_add_56 rfl (lv_at hl 2 rfl) ?_
  refine va_get (D := (dC, dI)) (ci := 9) (v := .int (0)) (C := "Minestrata$Radix") (T := TX8) (N := 3) hx hb hts inX8 hown hK hP 0 rfl rfl 0 (by decide) (hts _ q262) (fun _ h9 => h9) rfl dX8_add_57 ?_
  refine lv_lload_n hx hb dX8_add_60 rfl (lv_at hl 3 rfl) ?_
  refine va_last hx hb hK hP hD hS 1 1 rfl rfl (show ¬ ((0 : Int32) < 0 ∨ 32 ≤ Int32.toNatClampNeg (0)) by decide +kernel) dX8_add_61 (fun H locs hP hD hS => ?_)
  have hP : va_P (dC, dI) CL [(a0, .inr (9, [.int (0), .ref a1, .ref a2])), (a1, .inl (g 1, 32, .inr (.inl (vp_updL (fun _ => 0) (Int32.toNatClampNeg (0)) (2147483647))))), (a2, .inl (g 1, 32, .inr (.inl (fun _ => 0))))] _ := hP
  have hD : va_D A [(a0, .inr (9, [.int (0), .ref a1, .ref a2])), (a1, .inl (g 1, 32, .inr (.inl (vp_updL (fun _ => 0) (Int32.toNatClampNeg (0)) (2147483647))))), (a2, .inl (g 1, 32, .inr (.inl (fun _ => 0))))] := hD
  refine lv_aload_n hx hb dX8_add_62 rfl (lv_at hl 2 rfl) ?_
  refine va_get (D := (dC, dI)) (ci := 9) (v := .ref a2) (C := "Minestrata$Radix") (T := TX8) (N := 3) hx hb hts inX8 hown hK hP 0 rfl rfl 2 (by decide) (hts _ q270) (fun _ h9 => h9) rfl dX8_add_63 ?_
  refine lv_aload_n hx hb dX8_add_66 rfl (lv_at hl 2 rfl) ?_
  refine va_get (D := (dC, dI)) (ci := 9) (v := .int (0)) (C := "Minestrata$Radix") (T := TX8) (N := 3) hx hb hts inX8 hown hK hP 0 rfl rfl 0 (by decide) (hts _ q262) (fun _ h9 => h9) rfl dX8_add_67 ?_
  refine lv_lload_n hx hb dX8_add_70 rfl (lv_at hl 1 rfl) ?_
  refine lv_lload_n hx hb dX8_add_71 rfl (lv_at hl 3 rfl) ?_
  have hX : nCx p s m _ c prog_10_method_2_code 6 "Minestrata$Radix" dC dI g A [(a0, .inr (9, [.int (0), .ref a1, .ref a2])), (a1, .inl (g 1, 32, .inr (.inl (vp_updL (fun _ => 0) (Int32.toNatClampNeg (0)) (2147483647))))), (a2, .inl (g 1, 32, .inr (.inl (fun _ => 0))))] _ _ := ⟨⟨hx, hb, hml, hown, hts⟩, hE, hS, hA, hP, hD⟩
  refine n_call (wr := [(a0, .inr (9, [.int (0), .ref a1, .ref a2])), (a1, .inl (g 1, 32, .inr (.inl (vp_updL (fun _ => 0) (Int32.toNatClampNeg (0)) (2147483647))))), (a2, .inl (g 1, 32, .inr (.inl (fun _ => 0))))]) hX (n_runS (n := 2) (wc := []) (As := [.long (1), .long (2147483647)]) (rest := [.int (0), .ref a2]) hX (m238 l hst dC dI g _) [] rfl (by decide +kernel) q650 q609 q75 q610 (by decide +kernel) ⟨(Nat.le_of_ble_eq_true rfl), (Nat.le_of_ble_eq_true rfl)⟩ ⟨(Nat.le_of_ble_eq_true rfl), (Nat.le_of_ble_eq_true rfl)⟩ hl.1 rfl rfl (Nat.le_of_ble_eq_true rfl) dX8_add_72) [] [0, 1, 2] rfl rfl (by decide +kernel) (by decide +kernel) (fun f1 r2 H locs hP hD hS => ?_)
  have hP : va_P (dC, dI) CL [(a0, .inr (9, [.int (0), .ref a1, .ref a2])), (a1, .inl (g 1, 32, .inr (.inl (vp_updL (fun _ => 0) (Int32.toNatClampNeg (0)) (2147483647))))), (a2, .inl (g 1, 32, .inr (.inl (fun _ => 0))))] _ := hP
  have hD : va_D A [(a0, .inr (9, [.int (0), .ref a1, .ref a2])), (a1, .inl (g 1, 32, .inr (.inl (vp_updL (fun _ => 0) (Int32.toNatClampNeg (0)) (2147483647))))), (a2, .inl (g 1, 32, .inr (.inl (fun _ => 0))))] := hD
  refine W.widen (k := 0) (n := 0) (Nat.le_of_ble_eq_true rfl) (Nat.le_of_ble_eq_true rfl) ?_
  refine W.eq (g2 := F0 m 75 ls [.long (1), .int (0), .ref a2]) rfl ?_
  refine va_last hx hb hK hP hD hS 2 1 rfl rfl (show ¬ ((0 : Int32) < 0 ∨ 32 ≤ Int32.toNatClampNeg (0)) by decide +kernel) dX8_add_75 (fun H locs hP hD hS => ?_)
  have hP : va_P (dC, dI) CL [(a0, .inr (9, [.int (0), .ref a1, .ref a2])), (a1, .inl (g 1, 32, .inr (.inl (vp_updL (fun _ => 0) (Int32.toNatClampNeg (0)) (2147483647))))), (a2, .inl (g 1, 32, .inr (.inl (vp_updL (fun _ => 0) (Int32.toNatClampNeg (0)) (1)))))] _ := hP
  have hD : va_D A [(a0, .inr (9, [.int (0), .ref a1, .ref a2])), (a1, .inl (g 1, 32, .inr (.inl (vp_updL (fun _ => 0) (Int32.toNatClampNeg (0)) (2147483647))))), (a2, .inl (g 1, 32, .inr (.inl (vp_updL (fun _ => 0) (Int32.toNatClampNeg (0)) (1)))))] := hD
  refine lv_aload_n hx hb dX8_add_76 rfl (lv_at hl 2 rfl) ?_
  refine lv_dup hx hb dX8_add_77 rfl ?_
  refine va_get (D := (dC, dI)) (ci := 9) (v := .int (0)) (C := "Minestrata$Radix") (T := TX8) (N := 3) hx hb hts inX8 hown hK hP 0 rfl rfl 0 (by decide) (hts _ q262) (fun _ h9 => h9) rfl dX8_add_78 ?_
  refine lv_iconst (v := (1)) hx hb dX8_add_81 (by decide +kernel) ?_
  refine lv_iadd hx hb dX8_add_82 ?_
  refine nt_i (v := (1)) (by decide +kernel) ?_
  refine va_put (D := (dC, dI)) (ci := 9) (v := .int (1)) (ty := .int) (C := "Minestrata$Radix") (T := TX8) (N := 3) hx hb hts inX8 tyX8 tyX8_ok nmX8 hown hK hP hD hS 0 rfl rfl 0 (by decide) (hts _ q262) (fun _ h9 => h9) rfl (by decide +kernel) rfl rfl (Nat.le_of_ble_eq_true rfl) dX8_add_83 (fun H locs hP hD hS => ?_)
  have hP : va_P (dC, dI) CL [(a0, .inr (9, [.int (1), .ref a1, .ref a2])), (a1, .inl (g 1, 32, .inr (.inl (vp_updL (fun _ => 0) (Int32.toNatClampNeg (0)) (2147483647))))), (a2, .inl (g 1, 32, .inr (.inl (vp_updL (fun _ => 0) (Int32.toNatClampNeg (0)) (1)))))] _ := hP
  have hD : va_D A [(a0, .inr (9, [.int (1), .ref a1, .ref a2])), (a1, .inl (g 1, 32, .inr (.inl (vp_updL (fun _ => 0) (Int32.toNatClampNeg (0)) (2147483647))))), (a2, .inl (g 1, 32, .inr (.inl (vp_updL (fun _ => 0) (Int32.toNatClampNeg (0)) (1)))))] := hD
  refine W.widen (k := 0) (n := 0) (Nat.le_of_ble_eq_true rfl) (Nat.le_of_ble_eq_true rfl) ?_
  exact W.vret hx hb hr (n_end hS hP hD [0, 1, 2] (by decide +kernel) (fun _ => 0) (fun _ => 0) rfl rfl rfl) hS.2.2 dX8_add_86 hlk

set_option maxHeartbeats 4000000 in
set_option maxRecDepth 100000 in
/-- Minestrata$Equations.begin -/
theorem m240 (l : Launch) (hst : l.stackTraces = false) (dC : Nat → ClassId) (dI : Nat → Nat → Nat) (g : Nat → Nat) (a0 a1 : Nat) (sz : Nat) :
    Met l Y65 (Cond.code Y65 prog_4_method_2_code 6 (Option.none : Option Jvm.ClassFile.FieldType) :: AW) ({ frames := 1, cells := 0, slots := 0, locals := 16 } : Room) (nP dC dI g [.ref a0, .int (0), .long (2147483629)] [(a0, .inr (3, [.ref a1, .long (2147483647)]))] sz) (nQ dC dI (fun f => none) (fun f r => [(a0, .inr (3, [.ref a1, .long (2147483629)]))]) (va_A [(a0, .inr (3, [.ref a1, .long (2147483647)]))] sz)) 0 0 (va_A [(a0, .inr (3, [.ref a1, .long (2147483647)]))] sz) := by
  refine n_met (by decide +kernel) (Nat.le_of_ble_eq_true rfl) (fun f => none) (fun f r => [(a0, .inr (3, [.ref a1, .long (2147483629)]))]) ?_
  intro p e s m below meth c A ls ⟨hx, hb, hr, hml, hown, hts, hlk, hnm⟩ hE hP hD hA hl
  have hown : s.vm.findClass "Minestrata$Equations" = some m.cls := hown
  have hK := hE.1
  have hS : va_S A s.heap s.heap [] := va_S.rf
  have hl : lv_has ls 6 [(0, .ref a0), (1, .int (0)), (2, .long (2147483629))] := hl
  refine lv_aload_n hx hb dX2_begin_0 rfl (lv_at hl 0 rfl) ?_
  refine lv_lload_n hx hb dX2_begin_1 rfl (lv_at hl 2 rfl) ?_
  refine lv_ldc2 (v := (2)) hx hb hown (hts _ q309) dX2_begin_2 ?_
  refine va_mmax_long hx hb (hml.trans hl.1.symm) hown (hts _ q605) (hts _ q606) (hts _ q96) (hts _ q607) (Nat.le_of_ble_eq_true rfl) (Nat.le_of_ble_eq_true rfl) (Nat.le_of_ble_eq_true rfl) (Nat.le_of_ble_eq_true rfl) dX2_begin_5 ?_
  refine nt_l (v := (2147483629)) (by decide +kernel) ?_
  refine va_put (D := (dC, dI)) (ci := 3) (v := .long (2147483629)) (ty := .long) (C := "Minestrata$Equations") (T := TX2) (N := 2) hx hb hts inX2 tyX2 tyX2_ok nmX2 hown hK hP hD hS 0 rfl rfl 1 (by decide) (hts _ q313) (fun _ h9 => h9) rfl (by decide +kernel) rfl rfl (Nat.le_of_ble_eq_true rfl) dX2_begin_8 (fun H locs hP hD hS => ?_)
  have hP : va_P (dC, dI) CL [(a0, .inr (3, [.ref a1, .long (2147483629)]))] _ := hP
  have hD : va_D A [(a0, .inr (3, [.ref a1, .long (2147483629)]))] := hD
  refine lv_iconst (v := (0)) hx hb dX2_begin_11 (by decide +kernel) ?_
  refine lv_istore (lv' := [(4, .int (0)), (0, .ref a0), (1, .int (0)), (2, .long (2147483629))]) hx hb dX2_begin_12 hl (by decide) rfl (fun ls hl => ?_)
  refine lv_iload hx hb dX2_begin_14 (lv_at hl 0 rfl) ?_
  refine lv_iload_n hx hb dX2_begin_16 rfl (lv_at hl 2 rfl) ?_
  refine lv_icmp_ge (tgt := 52) hx hb dX2_begin_17 (by decide +kernel) (fun _ => ?_) (fun h => absurd (by decide +kernel) h)
  refine W.widen (k := 0) (n := 0) (Nat.le_of_ble_eq_true rfl) (Nat.le_of_ble_eq_true rfl) ?_
  exact W.vret hx hb hr (n_end hS hP hD [0] (by decide +kernel) (fun _ => 0) (fun _ => 0) rfl rfl rfl) hS.2.2 dX2_begin_52 hlk

set_option maxHeartbeats 4000000 in
set_option maxRecDepth 100000 in
/-- Minestrata$Air.solveModulo -/
theorem m241 (l : Launch) (hst : l.stackTraces = false) (dC : Nat → ClassId) (dI : Nat → Nat → Nat) (g : Nat → Nat) (a0 a1 a2 a3 a4 a5 a6 a7 a8 a9 a10 a11 a12 a13 a14 a15 a16 a17 a18 a19 a20 a21 a22 a23 a24 a25 a26 a27 a28 : Nat) (sz : Nat) :
    Met l Y64 (Cond.code Y64 prog_2_method_6_code 7 (Option.some Jvm.ClassFile.FieldType.long) :: AW) ({ frames := 2, cells := 0, slots := 0, locals := 41 } : Room) (nP dC dI g [.ref a0, .ref a1, .long (2147483629)] [(a1, .inr (8, [.int (0), .ref a2, .ref a3, .ref a4, .ref a5, .int (0), .ref a6, .ref a7, .ref a8, .ref a9, .ref a10, .ref a11, .ref a12])), (a0, .inr (2, [.ref a13, .ref a14, .ref a15, .ref a16, .ref a17, .ref a18, .int (0), .ref a19, .ref a20, .ref a21, .ref a22, .ref a23, .ref a24, .ref a25, .int (0), .int (1)])), (a13, .inr (9, [.int (1), .ref a26, .ref a27])), (a21, .inr (3, [.ref a28, .long (2147483647)]))] sz) (nQ dC dI (fun f => some (.long (1))) (fun f r => [(a1, .inr (8, [.int (0), .ref a2, .ref a3, .ref a4, .ref a5, .int (0), .ref a6, .ref a7, .ref a8, .ref a9, .ref a10, .ref a11, .ref a12])), (a0, .inr (2, [.ref a13, .ref a14, .ref a15, .ref a16, .ref a17, .ref a18, .int (0), .ref a19, .ref a20, .ref a21, .ref a22, .ref a23, .ref a24, .ref a25, .int (0), .int (1)])), (a13, .inr (9, [.int (1), .ref a26, .ref a27])), (a21, .inr (3, [.ref a28, .long (2147483629)]))]) (va_A [(a1, .inr (8, [.int (0), .ref a2, .ref a3, .ref a4, .ref a5, .int (0), .ref a6, .ref a7, .ref a8, .ref a9, .ref a10, .ref a11, .ref a12])), (a0, .inr (2, [.ref a13, .ref a14, .ref a15, .ref a16, .ref a17, .ref a18, .int (0), .ref a19, .ref a20, .ref a21, .ref a22, .ref a23, .ref a24, .ref a25, .int (0), .int (1)])), (a13, .inr (9, [.int (1), .ref a26, .ref a27])), (a21, .inr (3, [.ref a28, .long (2147483647)]))] sz)) 0 0 (va_A [(a1, .inr (8, [.int (0), .ref a2, .ref a3, .ref a4, .ref a5, .int (0), .ref a6, .ref a7, .ref a8, .ref a9, .ref a10, .ref a11, .ref a12])), (a0, .inr (2, [.ref a13, .ref a14, .ref a15, .ref a16, .ref a17, .ref a18, .int (0), .ref a19, .ref a20, .ref a21, .ref a22, .ref a23, .ref a24, .ref a25, .int (0), .int (1)])), (a13, .inr (9, [.int (1), .ref a26, .ref a27])), (a21, .inr (3, [.ref a28, .long (2147483647)]))] sz) := by
  refine n_met (by decide +kernel) (Nat.le_of_ble_eq_true rfl) (fun f => some (.long (1))) (fun f r => [(a1, .inr (8, [.int (0), .ref a2, .ref a3, .ref a4, .ref a5, .int (0), .ref a6, .ref a7, .ref a8, .ref a9, .ref a10, .ref a11, .ref a12])), (a0, .inr (2, [.ref a13, .ref a14, .ref a15, .ref a16, .ref a17, .ref a18, .int (0), .ref a19, .ref a20, .ref a21, .ref a22, .ref a23, .ref a24, .ref a25, .int (0), .int (1)])), (a13, .inr (9, [.int (1), .ref a26, .ref a27])), (a21, .inr (3, [.ref a28, .long (2147483629)]))]) ?_
  intro p e s m below meth c A ls ⟨hx, hb, hr, hml, hown, hts, hlk, hnm⟩ hE hP hD hA hl
  have hown : s.vm.findClass "Minestrata$Air" = some m.cls := hown
  have hK := hE.1
  have hS : va_S A s.heap s.heap [] := va_S.rf
  have hl : lv_has ls 7 [(0, .ref a0), (1, .ref a1), (2, .long (2147483629))] := hl
  refine lv_lload_n hx hb dX0_solveModulo_0 rfl (lv_at hl 2 rfl) ?_
  refine lv_ldc2 (v := (2)) hx hb hown (hts _ q600) dX0_solveModulo_1 ?_
  refine W.lcmp hx hb dX0_solveModulo_4 ?_
  refine nt_i (v := (1)) (by decide +kernel) ?_
  refine lv_if_lt (tgt := 20) hx hb dX0_solveModulo_5 (by decide +kernel) (fun h => absurd h (by decide +kernel)) (fun _ => ?_)
  refine lv_aload_n hx hb dX0_solveModulo_8 rfl (lv_at hl 0 rfl) ?_
  refine va_get (D := (dC, dI)) (ci := 2) (v := .ref a13) (C := "Minestrata$Air") (T := TX0) (N := 16) hx hb hts inX0 hown hK hP 1 rfl rfl 0 (by decide) (hts _ q351) (fun _ h9 => h9) rfl dX0_solveModulo_9 ?_
  refine va_get (D := (dC, dI)) (ci := 9) (v := .int (1)) (C := "Minestrata$Radix") (T := TX8) (N := 3) hx hb hts inX8 hown hK hP 2 rfl rfl 0 (by decide) (hts _ q263) (fun _ h9 => h9) rfl dX0_solveModulo_12 ?_
  refine lv_bipush (v := (32)) hx hb dX0_solveModulo_15 (by decide +kernel) ?_
  refine lv_icmp_lt (tgt := 22) hx hb dX0_solveModulo_17 (by decide +kernel) (fun _ => ?_) (fun h => absurd (by decide +kernel) h)
  refine lv_aload_n hx hb dX0_solveModulo_22 rfl (lv_at hl 0 rfl) ?_
  refine va_get (D := (dC, dI)) (ci := 2) (v := .ref a21) (C := "Minestrata$Air") (T := TX0) (N := 16) hx hb hts inX0 hown hK hP 1 rfl rfl 9 (by decide) (hts _ q368) (fun _ h9 => h9) rfl dX0_solveModulo_23 ?_
  refine lv_aload_n hx hb dX0_solveModulo_26 rfl (lv_at hl 0 rfl) ?_
  refine va_get (D := (dC, dI)) (ci := 2) (v := .int (0)) (C := "Minestrata$Air") (T := TX0) (N := 16) hx hb hts inX0 hown hK hP 1 rfl rfl 14 (by decide) (hts _ q373) (fun _ h9 => h9) rfl dX0_solveModulo_27 ?_
  refine lv_lload_n hx hb dX0_solveModulo_30 rfl (lv_at hl 2 rfl) ?_
  have hX : nCx p s m _ c prog_2_method_6_code 7 "Minestrata$Air" dC dI g A [(a1, .inr (8, [.int (0), .ref a2, .ref a3, .ref a4, .ref a5, .int (0), .ref a6, .ref a7, .ref a8, .ref a9, .ref a10, .ref a11, .ref a12])), (a0, .inr (2, [.ref a13, .ref a14, .ref a15, .ref a16, .ref a17, .ref a18, .int (0), .ref a19, .ref a20, .ref a21, .ref a22, .ref a23, .ref a24, .ref a25, .int (0), .int (1)])), (a13, .inr (9, [.int (1), .ref a26, .ref a27])), (a21, .inr (3, [.ref a28, .long (2147483647)]))] _ _ := ⟨⟨hx, hb, hml, hown, hts⟩, hE, hS, hA, hP, hD⟩
  refine n_call (wr := [(a1, .inr (8, [.int (0), .ref a2, .ref a3, .ref a4, .ref a5, .int (0), .ref a6, .ref a7, .ref a8, .ref a9, .ref a10, .ref a11, .ref a12])), (a0, .inr (2, [.ref a13, .ref a14, .ref a15, .ref a16, .ref a17, .ref a18, .int (0), .ref a19, .ref a20, .ref a21, .ref a22, .ref a23, .ref a24, .ref a25, .int (0), .int (1)])), (a13, .inr (9, [.int (1), .ref a26, .ref a27]))]) hX (n_runV (n := 2) (wc := [(a21, .inr (3, [.ref a28, .long (2147483647)]))]) (As := [.int (0), .long (2147483629)]) (rest := []) hX (m240 l hst dC dI g a21 a28 _) [3] rfl (by decide +kernel) 3 (ci := 3) rfl (T := TX2) (N := 2) (C := "Minestrata$Equations") rfl q601 q602 q603 q77 q604 (by decide +kernel) ⟨(Nat.le_of_ble_eq_true rfl), (Nat.le_of_ble_eq_true rfl)⟩ ⟨(Nat.le_of_ble_eq_true rfl), (Nat.le_of_ble_eq_true rfl)⟩ hl.1 rfl rfl (Nat.le_of_ble_eq_true rfl) dX0_solveModulo_31) [3] [0, 1, 2] rfl rfl (by decide +kernel) (by decide +kernel) (fun f1 r2 H locs hP hD hS => ?_)
  have hP : va_P (dC, dI) CL [(a1, .inr (8, [.int (0), .ref a2, .ref a3, .ref a4, .ref a5, .int (0), .ref a6, .ref a7, .ref a8, .ref a9, .ref a10, .ref a11, .ref a12])), (a0, .inr (2, [.ref a13, .ref a14, .ref a15, .ref a16, .ref a17, .ref a18, .int (0), .ref a19, .ref a20, .ref a21, .ref a22, .ref a23, .ref a24, .ref a25, .int (0), .int (1)])), (a13, .inr (9, [.int (1), .ref a26, .ref a27])), (a21, .inr (3, [.ref a28, .long (2147483629)]))] _ := hP
  have hD : va_D A [(a1, .inr (8, [.int (0), .ref a2, .ref a3, .ref a4, .ref a5, .int (0), .ref a6, .ref a7, .ref a8, .ref a9, .ref a10, .ref a11, .ref a12])), (a0, .inr (2, [.ref a13, .ref a14, .ref a15, .ref a16, .ref a17, .ref a18, .int (0), .ref a19, .ref a20, .ref a21, .ref a22, .ref a23, .ref a24, .ref a25, .int (0), .int (1)])), (a13, .inr (9, [.int (1), .ref a26, .ref a27])), (a21, .inr (3, [.ref a28, .long (2147483629)]))] := hD
  refine W.widen (k := 0) (n := 0) (Nat.le_of_ble_eq_true rfl) (Nat.le_of_ble_eq_true rfl) ?_
  refine W.eq (g2 := F0 m 34 ls []) rfl ?_
  refine lv_lconst (v := (1)) hx hb dX0_solveModulo_34 (by decide +kernel) ?_
  refine lv_lstore (lv' := [(4, .long (1)), (0, .ref a0), (1, .ref a1), (2, .long (2147483629))]) hx hb dX0_solveModulo_35 hl (by decide) rfl (fun ls hl => ?_)
  refine lv_iconst (v := (0)) hx hb dX0_solveModulo_37 (by decide +kernel) ?_
  refine lv_istore (lv' := [(6, .int (0)), (4, .long (1)), (0, .ref a0), (1, .ref a1), (2, .long (2147483629))]) hx hb dX0_solveModulo_38 hl (by decide) rfl (fun ls hl => ?_)
  refine lv_iload hx hb dX0_solveModulo_40 (lv_at hl 0 rfl) ?_
  refine lv_aload_n hx hb dX0_solveModulo_42 rfl (lv_at hl 3 rfl) ?_
  refine va_get (D := (dC, dI)) (ci := 8) (v := .int (0)) (C := "Minestrata$Net") (T := TX7) (N := 13) hx hb hts inX7 hown hK hP 0 rfl rfl 5 (by decide) (hts _ q151) (fun _ h9 => h9) rfl dX0_solveModulo_43 ?_
  refine lv_icmp_ge (tgt := 159) hx hb dX0_solveModulo_46 (by decide +kernel) (fun _ => ?_) (fun h => absurd (by decide +kernel) h)
  refine lv_aload_n hx hb dX0_solveModulo_159 rfl (lv_at hl 2 rfl) ?_
  refine va_get (D := (dC, dI)) (ci := 2) (v := .ref a21) (C := "Minestrata$Air") (T := TX0) (N := 16) hx hb hts inX0 hown hK hP 1 rfl rfl 9 (by decide) (hts _ q368) (fun _ h9 => h9) rfl dX0_solveModulo_160 ?_
  refine lv_aload_n hx hb dX0_solveModulo_163 rfl (lv_at hl 2 rfl) ?_
  refine va_get (D := (dC, dI)) (ci := 2) (v := .int (0)) (C := "Minestrata$Air") (T := TX0) (N := 16) hx hb hts inX0 hown hK hP 1 rfl rfl 14 (by decide) (hts _ q373) (fun _ h9 => h9) rfl dX0_solveModulo_164 ?_
  have hX : nCx p s m _ c prog_2_method_6_code 7 "Minestrata$Air" dC dI g A [(a1, .inr (8, [.int (0), .ref a2, .ref a3, .ref a4, .ref a5, .int (0), .ref a6, .ref a7, .ref a8, .ref a9, .ref a10, .ref a11, .ref a12])), (a0, .inr (2, [.ref a13, .ref a14, .ref a15, .ref a16, .ref a17, .ref a18, .int (0), .ref a19, .ref a20, .ref a21, .ref a22, .ref a23, .ref a24, .ref a25, .int (0), .int (1)])), (a13, .inr (9, [.int (1), .ref a26, .ref a27])), (a21, .inr (3, [.ref a28, .long (2147483629)]))] _ _ := ⟨⟨hx, hb, hml, hown, hts⟩, hE, hS, hA, hP, hD⟩
  refine n_call (wr := [(a1, .inr (8, [.int (0), .ref a2, .ref a3, .ref a4, .ref a5, .int (0), .ref a6, .ref a7, .ref a8, .ref a9, .ref a10, .ref a11, .ref a12])), (a0, .inr (2, [.ref a13, .ref a14, .ref a15, .ref a16, .ref a17, .ref a18, .int (0), .ref a19, .ref a20, .ref a21, .ref a22, .ref a23, .ref a24, .ref a25, .int (0), .int (1)])), (a13, .inr (9, [.int (1), .ref a26, .ref a27])), (a21, .inr (3, [.ref a28, .long (2147483629)]))]) hX (n_runV (n := 1) (wc := []) (As := [.int (0)]) (rest := []) hX (m234 l hst dC dI g a21 _) [] rfl (by decide +kernel) 3 (ci := 3) rfl (T := TX2) (N := 2) (C := "Minestrata$Equations") rfl q628 q629 q630 q77 q631 (by decide +kernel) ⟨(Nat.le_of_ble_eq_true rfl), (Nat.le_of_ble_eq_true rfl)⟩ ⟨(Nat.le_of_ble_eq_true rfl), (Nat.le_of_ble_eq_true rfl)⟩ hl.1 rfl rfl (Nat.le_of_ble_eq_true rfl) dX0_solveModulo_167) [] [0, 1, 2, 3] rfl rfl (by decide +kernel) (by decide +kernel) (fun f3 r4 H locs hP hD hS => ?_)
  have hP : va_P (dC, dI) CL [(a1, .inr (8, [.int (0), .ref a2, .ref a3, .ref a4, .ref a5, .int (0), .ref a6, .ref a7, .ref a8, .ref a9, .ref a10, .ref a11, .ref a12])), (a0, .inr (2, [.ref a13, .ref a14, .ref a15, .ref a16, .ref a17, .ref a18, .int (0), .ref a19, .ref a20, .ref a21, .ref a22, .ref a23, .ref a24, .ref a25, .int (0), .int (1)])), (a13, .inr (9, [.int (1), .ref a26, .ref a27])), (a21, .inr (3, [.ref a28, .long (2147483629)]))] _ := hP
  have hD : va_D A [(a1, .inr (8, [.int (0), .ref a2, .ref a3, .ref a4, .ref a5, .int (0), .ref a6, .ref a7, .ref a8, .ref a9, .ref a10, .ref a11, .ref a12])), (a0, .inr (2, [.ref a13, .ref a14, .ref a15, .ref a16, .ref a17, .ref a18, .int (0), .ref a19, .ref a20, .ref a21, .ref a22, .ref a23, .ref a24, .ref a25, .int (0), .int (1)])), (a13, .inr (9, [.int (1), .ref a26, .ref a27])), (a21, .inr (3, [.ref a28, .long (2147483629)]))] := hD
  refine W.widen (k := 0) (n := 0) (Nat.le_of_ble_eq_true rfl) (Nat.le_of_ble_eq_true rfl) ?_
  refine W.eq (g2 := F0 m 170 ls [.long (1)]) rfl ?_
  refine lv_lload hx hb dX0_solveModulo_170 (lv_at hl 1 rfl) ?_
  refine lv_lmul hx hb dX0_solveModulo_172 ?_
  refine nt_l (v := (1)) (by decide +kernel) ?_
  refine lv_lload_n hx hb dX0_solveModulo_173 rfl (lv_at hl 4 rfl) ?_
  refine lv_lrem hx hb dX0_solveModulo_174 (by decide +kernel) ?_
  refine nt_l (v := (1)) (by decide +kernel) ?_
  refine W.widen (k := 0) (n := 0) (Nat.le_of_ble_eq_true rfl) (Nat.le_of_ble_eq_true rfl) ?_
  exact W.lret hx hb hr (n_end hS hP hD [0, 1, 2, 3] (by decide +kernel) (fun _ => 0) (fun _ => 0) rfl rfl rfl) hS.2.2 dX0_solveModulo_175 hlk

set_option maxHeartbeats 4000000 in
set_option maxRecDepth 100000 in
/-- Minestrata$Air.keep -/
theorem m242 (l : Launch) (hst : l.stackTraces = false) (dC : Nat → ClassId) (dI : Nat → Nat → Nat) (g : Nat → Nat) (a0 a1 a2 a3 a4 a5 a6 a7 a8 a9 a10 a11 a12 a13 a14 a15 a16 a17 a18 a19 a20 a21 a22 a23 a24 a25 a26 a27 : Nat) (rr : Nat → Nat) (sz : Nat) :
    Met l Y67 (Cond.code Y67 prog_2_method_8_code 12 (Option.none : Option Jvm.ClassFile.FieldType) :: AW) ({ frames := 0, cells := 0, slots := 0, locals := 0 } : Room) (nP dC dI g [.ref a0, .ref a1, .long (2147483629), .long (1)] [(a1, .inr (8, [.int (0), .ref a2, .ref a3, .ref a4, .ref a5, .int (0), .ref a6, .ref a7, .ref a8, .ref a9, .ref a10, .ref a11, .ref a12])), (a0, .inr (2, [.ref a13, .ref a14, .ref a15, .ref a16, .ref a17, .ref a18, .int (0), .ref a19, .ref a20, .ref a21, .ref a22, .ref a23, .ref a24, .ref a25, .int (0), .int (1)])), (a13, .inr (9, [.int (1), .ref a26, .ref a27])), (a14, .inl (g 1, 32, .inr (.inl (vp_updL (fun _ => 0) (Int32.toNatClampNeg (0)) (1))))), (a19, .inl (g 5, 32, .inr (.inr (.inr (.inr (fun i => if i < 32 then some (rr i) else none))))))] sz) (nQ dC dI (fun f => none) (fun f r => [(a1, .inr (8, [.int (0), .ref a2, .ref a3, .ref a4, .ref a5, .int (0), .ref a6, .ref a7, .ref a8, .ref a9, .ref a10, .ref a11, .ref a12])), (a0, .inr (2, [.ref a13, .ref a14, .ref a15, .ref a16, .ref a17, .ref a18, .int (0), .ref a19, .ref a20, .ref a21, .ref a22, .ref a23, .ref a24, .ref a25, .int (0), .int (1)])), (a13, .inr (9, [.int (1), .ref a26, .ref a27])), (a14, .inl (g 1, 32, .inr (.inl (vp_updL (vp_updL (fun _ => 0) (Int32.toNatClampNeg (0)) (1)) (Int32.toNatClampNeg (1)) (1))))), (a19, .inl (g 5, 32, .inr (.inr (.inr (.inr (fun i => if i < 32 then some (rr i) else none))))))]) (va_A [(a1, .inr (8, [.int (0), .ref a2, .ref a3, .ref a4, .ref a5, .int (0), .ref a6, .ref a7, .ref a8, .ref a9, .ref a10, .ref a11, .ref a12])), (a0, .inr (2, [.ref a13, .ref a14, .ref a15, .ref a16, .ref a17, .ref a18, .int (0), .ref a19, .ref a20, .ref a21, .ref a22, .ref a23, .ref a24, .ref a25, .int (0), .int (1)])), (a13, .inr (9, [.int (1), .ref a26, .ref a27])), (a14, .inl (g 1, 32, .inr (.inl (vp_updL (fun _ => 0) (Int32.toNatClampNeg (0)) (1))))), (a19, .inl (g 5, 32, .inr (.inr (.inr (.inr (fun i => if i < 32 then some (rr i) else none))))))] sz)) 0 0 (va_A [(a1, .inr (8, [.int (0), .ref a2, .ref a3, .ref a4, .ref a5, .int (0), .ref a6, .ref a7, .ref a8, .ref a9, .ref a10, .ref a11, .ref a12])), (a0, .inr (2, [.ref a13, .ref a14, .ref a15, .ref a16, .ref a17, .ref a18, .int (0), .ref a19, .ref a20, .ref a21, .ref a22, .ref a23, .ref a24, .ref a25, .int (0), .int (1)])), (a13, .inr (9, [.int (1), .ref a26, .ref a27])), (a14, .inl (g 1, 32, .inr (.inl (vp_updL (fun _ => 0) (Int32.toNatClampNeg (0)) (1))))), (a19, .inl (g 5, 32, .inr (.inr (.inr (.inr (fun i => if i < 32 then some (rr i) else none))))))] sz) := by
  refine n_met (by decide +kernel) (Nat.le_of_ble_eq_true rfl) (fun f => none) (fun f r => [(a1, .inr (8, [.int (0), .ref a2, .ref a3, .ref a4, .ref a5, .int (0), .ref a6, .ref a7, .ref a8, .ref a9, .ref a10, .ref a11, .ref a12])), (a0, .inr (2, [.ref a13, .ref a14, .ref a15, .ref a16, .ref a17, .ref a18, .int (0), .ref a19, .ref a20, .ref a21, .ref a22, .ref a23, .ref a24, .ref a25, .int (0), .int (1)])), (a13, .inr (9, [.int (1), .ref a26, .ref a27])), (a14, .inl (g 1, 32, .inr (.inl (vp_updL (vp_updL (fun _ => 0) (Int32.toNatClampNeg (0)) (1)) (Int32.toNatClampNeg (1)) (1))))), (a19, .inl (g 5, 32, .inr (.inr (.inr (.inr (fun i => if i < 32 then some (rr i) else none))))))]) ?_
  intro p e s m below meth c A ls ⟨hx, hb, hr, hml, hown, hts, hlk, hnm⟩ hE hP hD hA hl
  have hown : s.vm.findClass "Minestrata$Air" = some m.cls := hown
  have hK := hE.1
  have hS : va_S A s.heap s.heap [] := va_S.rf
  have hl : lv_has ls 12 [(0, .ref a0), (1, .ref a1), (2, .long (2147483629)), (4, .long (1))] := hl
  refine lv_aload_n hx hb dX0_keep_0 rfl (lv_at hl 0 rfl) ?_
  refine va_get (D := (dC, dI)) (ci := 2) (v := .ref a13) (C := "Minestrata$Air") (T := TX0) (N := 16) hx hb hts inX0 hown hK hP 1 rfl rfl 0 (by decide) (hts _ q351) (fun _ h9 => h9) rfl dX0_keep_1 ?_
  refine va_get (D := (dC, dI)) (ci := 9) (v := .int (1)) (C := "Minestrata$Radix") (T := TX8) (N := 3) hx hb hts inX8 hown hK hP 2 rfl rfl 0 (by decide) (hts _ q263) (fun _ h9 => h9) rfl dX0_keep_4 ?_
  refine lv_istore (lv' := [(6, .int (1)), (0, .ref a0), (1, .ref a1), (2, .long (2147483629)), (4, .long (1))]) hx hb dX0_keep_7 hl (by decide) rfl (fun ls hl => ?_)
  refine lv_aload_n hx hb dX0_keep_9 rfl (lv_at hl 1 rfl) ?_
  refine va_get (D := (dC, dI)) (ci := 2) (v := .ref a19) (C := "Minestrata$Air") (T := TX0) (N := 16) hx hb hts inX0 hown hK hP 1 rfl rfl 7 (by decide) (hts _ q366) (fun _ h9 => h9) rfl dX0_keep_10 ?_
  refine lv_iload hx hb dX0_keep_13 (lv_at hl 0 rfl) ?_
  refine n_aald hx hb hK hP 4 5 rfl rfl rfl (show ¬ ((1 : Int32) < 0 ∨ 32 ≤ Int32.toNatClampNeg (1)) by decide +kernel) (v := .ref (rr 1)) rfl dX0_keep_15 ?_
  refine lv_astore (lv' := [(7, .ref (rr 1)), (6, .int (1)), (0, .ref a0), (1, .ref a1), (2, .long (2147483629)), (4, .long (1))]) hx hb dX0_keep_16 hl (by decide) rfl (fun ls hl => ?_)
  refine lv_iconst (v := (0)) hx hb dX0_keep_18 (by decide +kernel) ?_
  refine lv_istore (lv' := [(8, .int (0)), (7, .ref (rr 1)), (6, .int (1)), (0, .ref a0), (1, .ref a1), (2, .long (2147483629)), (4, .long (1))]) hx hb dX0_keep_19 hl (by decide) rfl (fun ls hl => ?_)
  refine lv_iload hx hb dX0_keep_21 (lv_at hl 0 rfl) ?_
  refine lv_aload_n hx hb dX0_keep_23 rfl (lv_at hl 4 rfl) ?_
  refine va_get (D := (dC, dI)) (ci := 8) (v := .int (0)) (C := "Minestrata$Net") (T := TX7) (N := 13) hx hb hts inX7 hown hK hP 0 rfl rfl 0 (by decide) (hts _ q129) (fun _ h9 => h9) rfl dX0_keep_24 ?_
  refine lv_icmp_ge (tgt := 94) hx hb dX0_keep_27 (by decide +kernel) (fun _ => ?_) (fun h => absurd (by decide +kernel) h)
  refine lv_iconst (v := (0)) hx hb dX0_keep_94 (by decide +kernel) ?_
  refine lv_istore (lv' := [(8, .int (0)), (7, .ref (rr 1)), (6, .int (1)), (0, .ref a0), (1, .ref a1), (2, .long (2147483629)), (4, .long (1))]) hx hb dX0_keep_95 hl (by decide) rfl (fun ls hl => ?_)
  refine lv_iload hx hb dX0_keep_97 (lv_at hl 0 rfl) ?_
  refine lv_aload_n hx hb dX0_keep_99 rfl (lv_at hl 4 rfl) ?_
  refine va_get (D := (dC, dI)) (ci := 8) (v := .int (0)) (C := "Minestrata$Net") (T := TX7) (N := 13) hx hb hts inX7 hown hK hP 0 rfl rfl 5 (by decide) (hts _ q151) (fun _ h9 => h9) rfl dX0_keep_100 ?_
  refine lv_icmp_ge (tgt := 172) hx hb dX0_keep_103 (by decide +kernel) (fun _ => ?_) (fun h => absurd (by decide +kernel) h)
  refine lv_aload_n hx hb dX0_keep_172 rfl (lv_at hl 3 rfl) ?_
  refine va_get (D := (dC, dI)) (ci := 2) (v := .ref a14) (C := "Minestrata$Air") (T := TX0) (N := 16) hx hb hts inX0 hown hK hP 1 rfl rfl 1 (by decide) (hts _ q353) (fun _ h9 => h9) rfl dX0_keep_173 ?_
  refine lv_iload hx hb dX0_keep_176 (lv_at hl 2 rfl) ?_
  refine lv_lload hx hb dX0_keep_178 (lv_at hl 6 rfl) ?_
  refine va_last hx hb hK hP hD hS 3 1 rfl rfl (show ¬ ((1 : Int32) < 0 ∨ 32 ≤ Int32.toNatClampNeg (1)) by decide +kernel) dX0_keep_180 (fun H locs hP hD hS => ?_)
  have hP : va_P (dC, dI) CL [(a1, .inr (8, [.int (0), .ref a2, .ref a3, .ref a4, .ref a5, .int (0), .ref a6, .ref a7, .ref a8, .ref a9, .ref a10, .ref a11, .ref a12])), (a0, .inr (2, [.ref a13, .ref a14, .ref a15, .ref a16, .ref a17, .ref a18, .int (0), .ref a19, .ref a20, .ref a21, .ref a22, .ref a23, .ref a24, .ref a25, .int (0), .int (1)])), (a13, .inr (9, [.int (1), .ref a26, .ref a27])), (a14, .inl (g 1, 32, .inr (.inl (vp_updL (vp_updL (fun _ => 0) (Int32.toNatClampNeg (0)) (1)) (Int32.toNatClampNeg (1)) (1))))), (a19, .inl (g 5, 32, .inr (.inr (.inr (.inr (fun i => if i < 32 then some (rr i) else none))))))] _ := hP
  have hD : va_D A [(a1, .inr (8, [.int (0), .ref a2, .ref a3, .ref a4, .ref a5, .int (0), .ref a6, .ref a7, .ref a8, .ref a9, .ref a10, .ref a11, .ref a12])), (a0, .inr (2, [.ref a13, .ref a14, .ref a15, .ref a16, .ref a17, .ref a18, .int (0), .ref a19, .ref a20, .ref a21, .ref a22, .ref a23, .ref a24, .ref a25, .int (0), .int (1)])), (a13, .inr (9, [.int (1), .ref a26, .ref a27])), (a14, .inl (g 1, 32, .inr (.inl (vp_updL (vp_updL (fun _ => 0) (Int32.toNatClampNeg (0)) (1)) (Int32.toNatClampNeg (1)) (1))))), (a19, .inl (g 5, 32, .inr (.inr (.inr (.inr (fun i => if i < 32 then some (rr i) else none))))))] := hD
  refine W.widen (k := 0) (n := 0) (Nat.le_of_ble_eq_true rfl) (Nat.le_of_ble_eq_true rfl) ?_
  exact W.vret hx hb hr (n_end hS hP hD [0, 1, 2, 3, 4] (by decide +kernel) (fun _ => 0) rr rfl rfl rfl) hS.2.2 dX0_keep_181 hlk

set_option maxHeartbeats 4000000 in
set_option maxRecDepth 100000 in
/-- Math.floorMod -/
theorem m243 (l : Launch) (hst : l.stackTraces = false) (dC : Nat → ClassId) (dI : Nat → Nat → Nat) (g : Nat → Nat) (sz : Nat) :
    Met l Y70 (Cond.code Y70 prog_31_method_52_code 6 (Option.some Jvm.ClassFile.FieldType.long) :: AW) ({ frames := 0, cells := 0, slots := 0, locals := 0 } : Room) (nP dC dI g [.long (18), .long (2147483629)] [] sz) (nQ dC dI (fun f => some (.long (18))) (fun f r => []) (va_A [] sz)) 0 0 (va_A [] sz) := by
  refine n_met (by decide +kernel) (Nat.le_of_ble_eq_true rfl) (fun f => some (.long (18))) (fun f r => []) ?_
  intro p e s m below meth c A ls ⟨hx, hb, hr, hml, hown, hts, hlk, hnm⟩ hE hP hD hA hl
  have hown : s.vm.findClass "java/lang/Math" = some m.cls := hown
  have hK := hE.1
  have hS : va_S A s.heap s.heap [] := va_S.rf
  have hl : lv_has ls 6 [(0, .long (18)), (2, .long (2147483629))] := hl
  refine lv_lload_n hx hb dJ9_floorMod_f86c9_0 rfl (lv_at hl 0 rfl) ?_
  refine lv_lload_n hx hb dJ9_floorMod_f86c9_1 rfl (lv_at hl 1 rfl) ?_
  refine lv_lrem hx hb dJ9_floorMod_f86c9_2 (by decide +kernel) ?_
  refine nt_l (v := (18)) (by decide +kernel) ?_
  refine lv_lstore (lv' := [(4, .long (18)), (0, .long (18)), (2, .long (2147483629))]) hx hb dJ9_floorMod_f86c9_3 hl (by decide) rfl (fun ls hl => ?_)
  refine lv_lload_n hx hb dJ9_floorMod_f86c9_5 rfl (lv_at hl 1 rfl) ?_
  refine lv_lload_n hx hb dJ9_floorMod_f86c9_6 rfl (lv_at hl 2 rfl) ?_
  refine lv_lxor hx hb dJ9_floorMod_f86c9_7 ?_
  refine nt_l (v := (2147483647)) (by decide +kernel) ?_
  refine lv_lconst (v := (0)) hx hb dJ9_floorMod_f86c9_8 (by decide +kernel) ?_
  refine W.lcmp hx hb dJ9_floorMod_f86c9_9 ?_
  refine nt_i (v := (1)) (by decide +kernel) ?_
  refine lv_if_ge (tgt := 25) hx hb dJ9_floorMod_f86c9_10 (by decide +kernel) (fun _ => ?_) (fun h => absurd (by decide +kernel) h)
  refine lv_lload hx hb dJ9_floorMod_f86c9_25 (lv_at hl 0 rfl) ?_
  refine W.widen (k := 0) (n := 0) (Nat.le_of_ble_eq_true rfl) (Nat.le_of_ble_eq_true rfl) ?_
  exact W.lret hx hb hr (n_end hS hP hD [] (by decide +kernel) (fun _ => 0) (fun _ => 0) rfl rfl rfl) hS.2.2 dJ9_floorMod_f86c9_27 hlk

set_option maxHeartbeats 4000000 in
set_option maxRecDepth 100000 in
/-- Math.floorMod -/
theorem m244 (l : Launch) (hst : l.stackTraces = false) (dC : Nat → ClassId) (dI : Nat → Nat → Nat) (g : Nat → Nat) (sz : Nat) :
    Met l Y70 (Cond.code Y70 prog_31_method_52_code 6 (Option.some Jvm.ClassFile.FieldType.long) :: AW) ({ frames := 0, cells := 0, slots := 0, locals := 0 } : Room) (nP dC dI g [.long (-119304646), .long (2147483629)] [] sz) (nQ dC dI (fun f => some (.long (2028178983))) (fun f r => []) (va_A [] sz)) 0 0 (va_A [] sz) := by
  refine n_met (by decide +kernel) (Nat.le_of_ble_eq_true rfl) (fun f => some (.long (2028178983))) (fun f r => []) ?_
  intro p e s m below meth c A ls ⟨hx, hb, hr, hml, hown, hts, hlk, hnm⟩ hE hP hD hA hl
  have hown : s.vm.findClass "java/lang/Math" = some m.cls := hown
  have hK := hE.1
  have hS : va_S A s.heap s.heap [] := va_S.rf
  have hl : lv_has ls 6 [(0, .long (-119304646)), (2, .long (2147483629))] := hl
  refine lv_lload_n hx hb dJ9_floorMod_f86c9_0 rfl (lv_at hl 0 rfl) ?_
  refine lv_lload_n hx hb dJ9_floorMod_f86c9_1 rfl (lv_at hl 1 rfl) ?_
  refine lv_lrem hx hb dJ9_floorMod_f86c9_2 (by decide +kernel) ?_
  refine nt_l (v := (-119304646)) (by decide +kernel) ?_
  refine lv_lstore (lv' := [(4, .long (-119304646)), (0, .long (-119304646)), (2, .long (2147483629))]) hx hb dJ9_floorMod_f86c9_3 hl (by decide) rfl (fun ls hl => ?_)
  refine lv_lload_n hx hb dJ9_floorMod_f86c9_5 rfl (lv_at hl 1 rfl) ?_
  refine lv_lload_n hx hb dJ9_floorMod_f86c9_6 rfl (lv_at hl 2 rfl) ?_
  refine lv_lxor hx hb dJ9_floorMod_f86c9_7 ?_
  refine nt_l (v := (-2028178985)) (by decide +kernel) ?_
  refine lv_lconst (v := (0)) hx hb dJ9_floorMod_f86c9_8 (by decide +kernel) ?_
  refine W.lcmp hx hb dJ9_floorMod_f86c9_9 ?_
  refine nt_i (v := (-1)) (by decide +kernel) ?_
  refine lv_if_ge (tgt := 25) hx hb dJ9_floorMod_f86c9_10 (by decide +kernel) (fun h => absurd h (by decide +kernel)) (fun _ => ?_)
  refine lv_lload hx hb dJ9_floorMod_f86c9_13 (lv_at hl 0 rfl) ?_
  refine lv_lconst (v := (0)) hx hb dJ9_floorMod_f86c9_15 (by decide +kernel) ?_
  refine W.lcmp hx hb dJ9_floorMod_f86c9_16 ?_
  refine nt_i (v := (-1)) (by decide +kernel) ?_
  refine lv_if_eq (tgt := 25) hx hb dJ9_floorMod_f86c9_17 (by decide +kernel) (fun h => absurd h (by decide +kernel)) (fun _ => ?_)
  refine lv_lload hx hb dJ9_floorMod_f86c9_20 (lv_at hl 0 rfl) ?_
  refine lv_lload_n hx hb dJ9_floorMod_f86c9_22 rfl (lv_at hl 2 rfl) ?_
  refine lv_ladd hx hb dJ9_floorMod_f86c9_23 ?_
  refine nt_l (v := (2028178983)) (by decide +kernel) ?_
  refine W.widen (k := 0) (n := 0) (Nat.le_of_ble_eq_true rfl) (Nat.le_of_ble_eq_true rfl) ?_
  exact W.lret hx hb hr (n_end hS hP hD [] (by decide +kernel) (fun _ => 0) (fun _ => 0) rfl rfl rfl) hS.2.2 dJ9_floorMod_f86c9_24 hlk

set_option maxHeartbeats 4000000 in
set_option maxRecDepth 100000 in
/-- Minestrata$Radix.inverse -/
theorem m245 (l : Launch) (hst : l.stackTraces = false) (dC : Nat → ClassId) (dI : Nat → Nat → Nat) (g : Nat → Nat) (sz : Nat) :
    Met l Y69 (Cond.code Y69 prog_10_method_4_code 19 (Option.some Jvm.ClassFile.FieldType.long) :: AW) ({ frames := 1, cells := 0, slots := 0, locals := 25 } : Room) (nP dC dI g [.long (18), .long (2147483629)] [] sz) (nQ dC dI (fun f => some (.long (2028178983))) (fun f r => []) (va_A [] sz)) 0 0 (va_A [] sz) := by
  refine n_met (by decide +kernel) (Nat.le_of_ble_eq_true rfl) (fun f => some (.long (2028178983))) (fun f r => []) ?_
  intro p e s m below meth c A ls ⟨hx, hb, hr, hml, hown, hts, hlk, hnm⟩ hE hP hD hA hl
  have hown : s.vm.findClass "Minestrata$Radix" = some m.cls := hown
  have hK := hE.1
  have hS : va_S A s.heap s.heap [] := va_S.rf
  have hl : lv_has ls 19 [(0, .long (18)), (2, .long (2147483629))] := hl
  refine lv_lload_n hx hb dX8_inverse_0 rfl (lv_at hl 1 rfl) ?_
  refine lv_ldc2 (v := (2)) hx hb hown (hts _ q611) dX8_inverse_1 ?_
  refine W.lcmp hx hb dX8_inverse_4 ?_
  refine nt_i (v := (1)) (by decide +kernel) ?_
  refine lv_if_ge (tgt := 10) hx hb dX8_inverse_5 (by decide +kernel) (fun _ => ?_) (fun h => absurd (by decide +kernel) h)
  refine lv_lload_n hx hb dX8_inverse_10 rfl (lv_at hl 1 rfl) ?_
  refine lv_lstore (lv' := [(4, .long (2147483629)), (0, .long (18)), (2, .long (2147483629))]) hx hb dX8_inverse_11 hl (by decide) rfl (fun ls hl => ?_)
  refine lv_lload_n hx hb dX8_inverse_13 rfl (lv_at hl 1 rfl) ?_
  refine lv_lload_n hx hb dX8_inverse_14 rfl (lv_at hl 2 rfl) ?_
  have hX : nCx p s m _ c prog_10_method_4_code 19 "Minestrata$Radix" dC dI g A [] _ _ := ⟨⟨hx, hb, hml, hown, hts⟩, hE, hS, hA, hP, hD⟩
  refine n_call (wr := []) hX (n_runS (n := 2) (wc := []) (As := [.long (18), .long (2147483629)]) (rest := []) hX (m243 l hst dC dI g _) [] rfl (by decide +kernel) q612 q613 q96 q614 (by decide +kernel) ⟨(Nat.le_of_ble_eq_true rfl), (Nat.le_of_ble_eq_true rfl)⟩ ⟨(Nat.le_of_ble_eq_true rfl), (Nat.le_of_ble_eq_true rfl)⟩ hl.1 rfl rfl (Nat.le_of_ble_eq_true rfl) dX8_inverse_15) [] [] rfl rfl (by decide +kernel) (by decide +kernel) (fun f1 r2 H locs hP hD hS => ?_)
  have hP : va_P (dC, dI) CL [] _ := hP
  have hD : va_D A [] := hD
  refine W.widen (k := 0) (n := 0) (Nat.le_of_ble_eq_true rfl) (Nat.le_of_ble_eq_true rfl) ?_
  refine W.eq (g2 := F0 m 18 ls [.long (18)]) rfl ?_
  refine lv_lstore (lv' := [(6, .long (18)), (4, .long (2147483629)), (0, .long (18)), (2, .long (2147483629))]) hx hb dX8_inverse_18 hl (by decide) rfl (fun ls hl => ?_)
  refine lv_lconst (v := (0)) hx hb dX8_inverse_20 (by decide +kernel) ?_
  refine lv_lstore (lv' := [(8, .long (0)), (6, .long (18)), (4, .long (2147483629)), (0, .long (18)), (2, .long (2147483629))]) hx hb dX8_inverse_21 hl (by decide) rfl (fun ls hl => ?_)
  refine lv_lconst (v := (1)) hx hb dX8_inverse_23 (by decide +kernel) ?_
  refine lv_lstore (lv' := [(10, .long (1)), (8, .long (0)), (6, .long (18)), (4, .long (2147483629)), (0, .long (18)), (2, .long (2147483629))]) hx hb dX8_inverse_24 hl (by decide) rfl (fun ls hl => ?_)
  refine lv_iconst (v := (0)) hx hb dX8_inverse_26 (by decide +kernel) ?_
  refine lv_istore (lv' := [(12, .int (0)), (10, .long (1)), (8, .long (0)), (6, .long (18)), (4, .long (2147483629)), (0, .long (18)), (2, .long (2147483629))]) hx hb dX8_inverse_27 hl (by decide) rfl (fun ls hl => ?_)
  refine lv_iload hx hb dX8_inverse_29 (lv_at hl 0 rfl) ?_
  refine lv_bipush (v := (64)) hx hb dX8_inverse_31 (by decide +kernel) ?_
  refine lv_icmp_ge (tgt := 92) hx hb dX8_inverse_33 (by decide +kernel) (fun h => absurd h (by decide +kernel)) (fun _ => ?_)
  refine lv_lload hx hb dX8_inverse_36 (lv_at hl 3 rfl) ?_
  refine lv_lconst (v := (0)) hx hb dX8_inverse_38 (by decide +kernel) ?_
  refine W.lcmp hx hb dX8_inverse_39 ?_
  refine nt_i (v := (1)) (by decide +kernel) ?_
  refine lv_if_eq (tgt := 92) hx hb dX8_inverse_40 (by decide +kernel) (fun h => absurd h (by decide +kernel)) (fun _ => ?_)
  refine lv_lload hx hb dX8_inverse_43 (lv_at hl 4 rfl) ?_
  refine lv_lload hx hb dX8_inverse_45 (lv_at hl 3 rfl) ?_
  refine lv_ldiv hx hb dX8_inverse_47 (by decide +kernel) ?_
  refine nt_l (v := (119304646)) (by decide +kernel) ?_
  refine lv_lstore (lv' := [(13, .long (119304646)), (12, .int (0)), (10, .long (1)), (8, .long (0)), (6, .long (18)), (4, .long (2147483629)), (0, .long (18)), (2, .long (2147483629))]) hx hb dX8_inverse_48 hl (by decide) rfl (fun ls hl => ?_)
  refine lv_lload hx hb dX8_inverse_50 (lv_at hl 5 rfl) ?_
  refine lv_lload hx hb dX8_inverse_52 (lv_at hl 0 rfl) ?_
  refine lv_lload hx hb dX8_inverse_54 (lv_at hl 4 rfl) ?_
  refine lv_lmul hx hb dX8_inverse_56 ?_
  refine nt_l (v := (2147483628)) (by decide +kernel) ?_
  refine lv_lsub hx hb dX8_inverse_57 ?_
  refine nt_l (v := (1)) (by decide +kernel) ?_
  refine lv_lstore (lv' := [(15, .long (1)), (13, .long (119304646)), (12, .int (0)), (10, .long (1)), (8, .long (0)), (6, .long (18)), (4, .long (2147483629)), (0, .long (18)), (2, .long (2147483629))]) hx hb dX8_inverse_58 hl (by decide) rfl (fun ls hl => ?_)
  refine lv_lload hx hb dX8_inverse_60 (lv_at hl 4 rfl) ?_
  refine lv_lload hx hb dX8_inverse_62 (lv_at hl 1 rfl) ?_
  refine lv_lload hx hb dX8_inverse_64 (lv_at hl 3 rfl) ?_
  refine lv_lmul hx hb dX8_inverse_66 ?_
  refine nt_l (v := (119304646)) (by decide +kernel) ?_
  refine lv_lsub hx hb dX8_inverse_67 ?_
  refine nt_l (v := (-119304646)) (by decide +kernel) ?_
  refine lv_lstore (lv' := [(17, .long (-119304646)), (15, .long (1)), (13, .long (119304646)), (12, .int (0)), (10, .long (1)), (8, .long (0)), (6, .long (18)), (4, .long (2147483629)), (0, .long (18)), (2, .long (2147483629))]) hx hb dX8_inverse_68 hl (by decide) rfl (fun ls hl => ?_)
  refine lv_lload hx hb dX8_inverse_70 (lv_at hl 6 rfl) ?_
  refine lv_lstore (lv' := [(4, .long (18)), (17, .long (-119304646)), (15, .long (1)), (13, .long (119304646)), (12, .int (0)), (10, .long (1)), (8, .long (0)), (6, .long (18)), (0, .long (18)), (2, .long (2147483629))]) hx hb dX8_inverse_72 hl (by decide) rfl (fun ls hl => ?_)
  refine lv_lload hx hb dX8_inverse_74 (lv_at hl 2 rfl) ?_
  refine lv_lstore (lv' := [(6, .long (1)), (4, .long (18)), (17, .long (-119304646)), (15, .long (1)), (13, .long (119304646)), (12, .int (0)), (10, .long (1)), (8, .long (0)), (0, .long (18)), (2, .long (2147483629))]) hx hb dX8_inverse_76 hl (by decide) rfl (fun ls hl => ?_)
  refine lv_lload hx hb dX8_inverse_78 (lv_at hl 6 rfl) ?_
  refine lv_lstore (lv' := [(8, .long (1)), (6, .long (1)), (4, .long (18)), (17, .long (-119304646)), (15, .long (1)), (13, .long (119304646)), (12, .int (0)), (10, .long (1)), (0, .long (18)), (2, .long (2147483629))]) hx hb dX8_inverse_80 hl (by decide) rfl (fun ls hl => ?_)
  refine lv_lload hx hb dX8_inverse_82 (lv_at hl 3 rfl) ?_
  refine lv_lstore (lv' := [(10, .long (-119304646)), (8, .long (1)), (6, .long (1)), (4, .long (18)), (17, .long (-119304646)), (15, .long (1)), (13, .long (119304646)), (12, .int (0)), (0, .long (18)), (2, .long (2147483629))]) hx hb dX8_inverse_84 hl (by decide) rfl (fun ls hl => ?_)
  refine lv_iinc (v := (1)) (lv' := [(12, .int (1)), (10, .long (-119304646)), (8, .long (1)), (6, .long (1)), (4, .long (18)), (17, .long (-119304646)), (15, .long (1)), (13, .long (119304646)), (0, .long (18)), (2, .long (2147483629))]) hx hb dX8_inverse_86 hl (k := 7) rfl (by decide +kernel) (by decide) rfl (fun ls hl => ?_)
  refine lv_goto (tgt := 29) hx hb dX8_inverse_89 (by decide +kernel) ?_
  refine lv_iload hx hb dX8_inverse_29 (lv_at hl 0 rfl) ?_
  refine lv_bipush (v := (64)) hx hb dX8_inverse_31 (by decide +kernel) ?_
  refine lv_icmp_ge (tgt := 92) hx hb dX8_inverse_33 (by decide +kernel) (fun h => absurd h (by decide +kernel)) (fun _ => ?_)
  refine lv_lload hx hb dX8_inverse_36 (lv_at hl 3 rfl) ?_
  refine lv_lconst (v := (0)) hx hb dX8_inverse_38 (by decide +kernel) ?_
  refine W.lcmp hx hb dX8_inverse_39 ?_
  refine nt_i (v := (1)) (by decide +kernel) ?_
  refine lv_if_eq (tgt := 92) hx hb dX8_inverse_40 (by decide +kernel) (fun h => absurd h (by decide +kernel)) (fun _ => ?_)
  refine lv_lload hx hb dX8_inverse_43 (lv_at hl 4 rfl) ?_
  refine lv_lload hx hb dX8_inverse_45 (lv_at hl 3 rfl) ?_
  refine lv_ldiv hx hb dX8_inverse_47 (by decide +kernel) ?_
  refine nt_l (v := (18)) (by decide +kernel) ?_
  refine lv_lstore (lv' := [(13, .long (18)), (12, .int (1)), (10, .long (-119304646)), (8, .long (1)), (6, .long (1)), (4, .long (18)), (17, .long (-119304646)), (15, .long (1)), (0, .long (18)), (2, .long (2147483629))]) hx hb dX8_inverse_48 hl (by decide) rfl (fun ls hl => ?_)
  refine lv_lload hx hb dX8_inverse_50 (lv_at hl 5 rfl) ?_
  refine lv_lload hx hb dX8_inverse_52 (lv_at hl 0 rfl) ?_
  refine lv_lload hx hb dX8_inverse_54 (lv_at hl 4 rfl) ?_
  refine lv_lmul hx hb dX8_inverse_56 ?_
  refine nt_l (v := (18)) (by decide +kernel) ?_
  refine lv_lsub hx hb dX8_inverse_57 ?_
  refine nt_l (v := (0)) (by decide +kernel) ?_
  refine lv_lstore (lv' := [(15, .long (0)), (13, .long (18)), (12, .int (1)), (10, .long (-119304646)), (8, .long (1)), (6, .long (1)), (4, .long (18)), (17, .long (-119304646)), (0, .long (18)), (2, .long (2147483629))]) hx hb dX8_inverse_58 hl (by decide) rfl (fun ls hl => ?_)
  refine lv_lload hx hb dX8_inverse_60 (lv_at hl 4 rfl) ?_
  refine lv_lload hx hb dX8_inverse_62 (lv_at hl 1 rfl) ?_
  refine lv_lload hx hb dX8_inverse_64 (lv_at hl 3 rfl) ?_
  refine lv_lmul hx hb dX8_inverse_66 ?_
  refine nt_l (v := (-2147483628)) (by decide +kernel) ?_
  refine lv_lsub hx hb dX8_inverse_67 ?_
  refine nt_l (v := (2147483629)) (by decide +kernel) ?_
  refine lv_lstore (lv' := [(17, .long (2147483629)), (15, .long (0)), (13, .long (18)), (12, .int (1)), (10, .long (-119304646)), (8, .long (1)), (6, .long (1)), (4, .long (18)), (0, .long (18)), (2, .long (2147483629))]) hx hb dX8_inverse_68 hl (by decide) rfl (fun ls hl => ?_)
  refine lv_lload hx hb dX8_inverse_70 (lv_at hl 6 rfl) ?_
  refine lv_lstore (lv' := [(4, .long (1)), (17, .long (2147483629)), (15, .long (0)), (13, .long (18)), (12, .int (1)), (10, .long (-119304646)), (8, .long (1)), (6, .long (1)), (0, .long (18)), (2, .long (2147483629))]) hx hb dX8_inverse_72 hl (by decide) rfl (fun ls hl => ?_)
  refine lv_lload hx hb dX8_inverse_74 (lv_at hl 2 rfl) ?_
  refine lv_lstore (lv' := [(6, .long (0)), (4, .long (1)), (17, .long (2147483629)), (15, .long (0)), (13, .long (18)), (12, .int (1)), (10, .long (-119304646)), (8, .long (1)), (0, .long (18)), (2, .long (2147483629))]) hx hb dX8_inverse_76 hl (by decide) rfl (fun ls hl => ?_)
  refine lv_lload hx hb dX8_inverse_78 (lv_at hl 6 rfl) ?_
  refine lv_lstore (lv' := [(8, .long (-119304646)), (6, .long (0)), (4, .long (1)), (17, .long (2147483629)), (15, .long (0)), (13, .long (18)), (12, .int (1)), (10, .long (-119304646)), (0, .long (18)), (2, .long (2147483629))]) hx hb dX8_inverse_80 hl (by decide) rfl (fun ls hl => ?_)
  refine lv_lload hx hb dX8_inverse_82 (lv_at hl 3 rfl) ?_
  refine lv_lstore (lv' := [(10, .long (2147483629)), (8, .long (-119304646)), (6, .long (0)), (4, .long (1)), (17, .long (2147483629)), (15, .long (0)), (13, .long (18)), (12, .int (1)), (0, .long (18)), (2, .long (2147483629))]) hx hb dX8_inverse_84 hl (by decide) rfl (fun ls hl => ?_)
  refine lv_iinc (v := (2)) (lv' := [(12, .int (2)), (10, .long (2147483629)), (8, .long (-119304646)), (6, .long (0)), (4, .long (1)), (17, .long (2147483629)), (15, .long (0)), (13, .long (18)), (0, .long (18)), (2, .long (2147483629))]) hx hb dX8_inverse_86 hl (k := 7) rfl (by decide +kernel) (by decide) rfl (fun ls hl => ?_)
  refine lv_goto (tgt := 29) hx hb dX8_inverse_89 (by decide +kernel) ?_
  refine lv_iload hx hb dX8_inverse_29 (lv_at hl 0 rfl) ?_
  refine lv_bipush (v := (64)) hx hb dX8_inverse_31 (by decide +kernel) ?_
  refine lv_icmp_ge (tgt := 92) hx hb dX8_inverse_33 (by decide +kernel) (fun h => absurd h (by decide +kernel)) (fun _ => ?_)
  refine lv_lload hx hb dX8_inverse_36 (lv_at hl 3 rfl) ?_
  refine lv_lconst (v := (0)) hx hb dX8_inverse_38 (by decide +kernel) ?_
  refine W.lcmp hx hb dX8_inverse_39 ?_
  refine nt_i (v := (0)) (by decide +kernel) ?_
  refine lv_if_eq (tgt := 92) hx hb dX8_inverse_40 (by decide +kernel) (fun _ => ?_) (fun h => absurd (by decide +kernel) h)
  refine lv_lload hx hb dX8_inverse_92 (lv_at hl 2 rfl) ?_
  refine lv_lload_n hx hb dX8_inverse_94 rfl (lv_at hl 9 rfl) ?_
  have hX : nCx p s m _ c prog_10_method_4_code 19 "Minestrata$Radix" dC dI g A [] _ _ := ⟨⟨hx, hb, hml, hown, hts⟩, hE, hS, hA, hP, hD⟩
  refine n_call (wr := []) hX (n_runS (n := 2) (wc := []) (As := [.long (-119304646), .long (2147483629)]) (rest := []) hX (m244 l hst dC dI g _) [] rfl (by decide +kernel) q612 q613 q96 q614 (by decide +kernel) ⟨(Nat.le_of_ble_eq_true rfl), (Nat.le_of_ble_eq_true rfl)⟩ ⟨(Nat.le_of_ble_eq_true rfl), (Nat.le_of_ble_eq_true rfl)⟩ hl.1 rfl rfl (Nat.le_of_ble_eq_true rfl) dX8_inverse_95) [] [] rfl rfl (by decide +kernel) (by decide +kernel) (fun f3 r4 H locs hP hD hS => ?_)
  have hP : va_P (dC, dI) CL [] _ := hP
  have hD : va_D A [] := hD
  refine W.widen (k := 0) (n := 0) (Nat.le_of_ble_eq_true rfl) (Nat.le_of_ble_eq_true rfl) ?_
  refine W.eq (g2 := F0 m 98 ls [.long (2028178983)]) rfl ?_
  refine W.widen (k := 0) (n := 0) (Nat.le_of_ble_eq_true rfl) (Nat.le_of_ble_eq_true rfl) ?_
  exact W.lret hx hb hr (n_end hS hP hD [] (by decide +kernel) (fun _ => 0) (fun _ => 0) rfl rfl rfl) hS.2.2 dX8_inverse_98 hlk

set_option maxHeartbeats 4000000 in
set_option maxRecDepth 100000 in
/-- Minestrata$Radix.add -/
theorem m246 (l : Launch) (hst : l.stackTraces = false) (dC : Nat → ClassId) (dI : Nat → Nat → Nat) (g : Nat → Nat) (a0 a1 a2 : Nat) (sz : Nat) :
    Met l Y68 (Cond.code Y68 prog_10_method_2_code 6 (Option.none : Option Jvm.ClassFile.FieldType) :: AW) ({ frames := 2, cells := 0, slots := 0, locals := 63 } : Room) (nP dC dI g [.ref a0, .long (2147483629)] [(a0, .inr (9, [.int (1), .ref a1, .ref a2])), (a1, .inl (g 1, 32, .inr (.inl (vp_updL (fun _ => 0) (Int32.toNatClampNeg (0)) (2147483647))))), (a2, .inl (g 1, 32, .inr (.inl (vp_updL (fun _ => 0) (Int32.toNatClampNeg (0)) (1)))))] sz) (nQ dC dI (fun f => none) (fun f r => [(a0, .inr (9, [.int (2), .ref a1, .ref a2])), (a1, .inl (g 1, 32, .inr (.inl (vp_updL (vp_updL (fun _ => 0) (Int32.toNatClampNeg (0)) (2147483647)) (Int32.toNatClampNeg (1)) (2147483629))))), (a2, .inl (g 1, 32, .inr (.inl (vp_updL (vp_updL (fun _ => 0) (Int32.toNatClampNeg (0)) (1)) (Int32.toNatClampNeg (1)) (2028178983)))))]) (va_A [(a0, .inr (9, [.int (1), .ref a1, .ref a2])), (a1, .inl (g 1, 32, .inr (.inl (vp_updL (fun _ => 0) (Int32.toNatClampNeg (0)) (2147483647))))), (a2, .inl (g 1, 32, .inr (.inl (vp_updL (fun _ => 0) (Int32.toNatClampNeg (0)) (1)))))] sz)) 0 0 (va_A [(a0, .inr (9, [.int (1), .ref a1, .ref a2])), (a1, .inl (g 1, 32, .inr (.inl (vp_updL (fun _ => 0) (Int32.toNatClampNeg (0)) (2147483647))))), (a2, .inl (g 1, 32, .inr (.inl (vp_updL (fun _ => 0) (Int32.toNatClampNeg (0)) (1)))))] sz) := by
  refine n_met (by decide +kernel) (Nat.le_of_ble_eq_true rfl) (fun f => none) (fun f r => [(a0, .inr (9, [.int (2), .ref a1, .ref a2])), (a1, .inl (g 1, 32, .inr (.inl (vp_updL (vp_updL (fun _ => 0) (Int32.toNatClampNeg (0)) (2147483647)) (Int32.toNatClampNeg (1)) (2147483629))))), (a2, .inl (g 1, 32, .inr (.inl (vp_updL (vp_updL (fun _ => 0) (Int32.toNatClampNeg (0)) (1)) (Int32.toNatClampNeg (1)) (2028178983)))))]) ?_
  intro p e s m below meth c A ls ⟨hx, hb, hr, hml, hown, hts, hlk, hnm⟩ hE hP hD hA hl
  have hown : s.vm.findClass "Minestrata$Radix" = some m.cls := hown
  have hK := hE.1
  have hS : va_S A s.heap s.heap [] := va_S.rf
  have hl : lv_has ls 6 [(0, .ref a0), (1, .long (2147483629))] := hl
  refine lv_aload_n hx hb dX8_add_0 rfl (lv_at hl 0 rfl) ?_
  refine va_get (D := (dC, dI)) (ci := 9) (v := .int (1)) (C := "Minestrata$Radix") (T := TX8) (N := 3) hx hb hts inX8 hown hK hP 0 rfl rfl 0 (by decide) (hts _ q262) (fun _ h9 => h9) rfl dX8_add_1 ?_
  refine lv_bipush (v := (32)) hx hb dX8_add_4 (by decide +kernel) ?_
  refine lv_icmp_ge (tgt := 17) hx hb dX8_add_6 (by decide +kernel) (fun h => absurd h (by decide +kernel)) (fun _ => ?_)
  refine lv_lload_n hx hb dX8_add_9 rfl (lv_at hl 1 rfl) ?_
  refine lv_ldc2 (v := (2)) hx hb hown (hts _ q611) dX8_add_10 ?_
  refine W.lcmp hx hb dX8_add_13 ?_
  refine nt_i (v := (1)) (by decide +kernel) ?_
  refine lv_if_ge (tgt := 18) hx hb dX8_add_14 (by decide +kernel) (fun _ => ?_) (fun h => absurd (by decide +kernel) h)
  refine lv_lconst (v := (1)) hx hb dX8_add_18 (by decide +kernel) ?_
  refine lv_lstore_n (lv' := [(3, .long (1)), (0, .ref a0), (1, .long (2147483629))]) hx hb dX8_add_19 rfl hl (by decide) rfl (fun ls hl => ?_)
  refine lv_iconst (v := (0)) hx hb dX8_add_20 (by decide +kernel) ?_
  refine lv_istore (lv' := [(5, .int (0)), (3, .long (1)), (0, .ref a0), (1, .long (2147483629))]) hx hb dX8_add_21 hl (by decide) rfl (fun ls hl => ?_)
  refine lv_iload hx hb dX8_add_23 (lv_at hl 0 rfl) ?_
  refine lv_aload_n hx hb dX8_add_25 rfl (lv_at hl 2 rfl) ?_
  refine va_get (D := (dC, dI)) (ci := 9) (v := .int (1)) (C := "Minestrata$Radix") (T := TX8) (N := 3) hx hb hts inX8 hown hK hP 0 rfl rfl 0 (by decide) (hts _ q262) (fun _ h9 => h9) rfl dX8_add_26 ?_
  refine lv_icmp_ge (tgt := 52) hx hb dX8_add_29 (by decide +kernel) (fun h => absurd h (by decide +kernel)) (fun _ => ?_)
  refine lv_lload_n hx hb dX8_add_32 rfl (lv_at hl 1 rfl) ?_
  refine lv_aload_n hx hb dX8_add_33 rfl (lv_at hl 2 rfl) ?_
  refine va_get (D := (dC, dI)) (ci := 9) (v := .ref a1) (C := "Minestrata$Radix") (T := TX8) (N := 3) hx hb hts inX8 hown hK hP 0 rfl rfl 1 (by decide) (hts _ q266) (fun _ h9 => h9) rfl dX8_add_34 ?_
  refine lv_iload hx hb dX8_add_37 (lv_at hl 0 rfl) ?_
  refine va_lald hx hb hK hP 1 1 rfl rfl (show ¬ ((0 : Int32) < 0 ∨ 32 ≤ Int32.toNatClampNeg (0)) by decide +kernel) dX8_add_39 ?_
  refine nt_l (v := (2147483647)) (by decide +kernel) ?_
  refine lv_lload_n hx hb dX8_add_40 rfl (lv_at hl 3 rfl) ?_
  refine lv_lrem hx hb dX8_add_41 (by decide +kernel) ?_
  refine nt_l (v := (18)) (by decide +kernel) ?_
  refine lv_lmul hx hb dX8_add_42 ?_
  refine nt_l (v := (18)) (by decide +kernel) ?_
  refine lv_lload_n hx hb dX8_add_43 rfl (lv_at hl 3 rfl) ?_
  refine lv_lrem hx hb dX8_add_44 (by decide +kernel) ?_
  refine nt_l (v := (18)) (by decide +kernel) ?_
  refine lv_lstore_n (lv' := [(3, .long (18)), (5, .int (0)), (0, .ref a0), (1, .long (2147483629))]) hx hb dX8_add_45 rfl hl (by decide) rfl (fun ls hl => ?_)
  refine lv_iinc (v := (1)) (lv' := [(5, .int (1)), (3, .long (18)), (0, .ref a0), (1, .long (2147483629))]) hx hb dX8_add_46 hl (k := 1) rfl (by decide +kernel) (by decide) rfl (fun ls hl => ?_)
  refine lv_goto (tgt := 23) hx hb dX8_add_49 (by decide +kernel) ?_
  refine lv_iload hx hb dX8_add_23 (lv_at hl 0 rfl) ?_
  refine lv_aload_n hx hb dX8_add_25 rfl (lv_at hl 2 rfl) ?_
  refine va_get (D := (dC, dI)) (ci := 9) (v := .int (1)) (C := "Minestrata$Radix") (T := TX8) (N := 3) hx hb hts inX8 hown hK hP 0 rfl rfl 0 (by decide) (hts _ q262) (fun _ h9 => h9) rfl dX8_add_26 ?_
  refine lv_icmp_ge (tgt := 52) hx hb dX8_add_29 (by decide +kernel) (fun _ => ?_) (fun h => absurd (by decide +kernel) h)
  refine lv_aload_n hx hb dX8_add_52 rfl (lv_at hl 2 rfl) ?_
  refine va_get (D := (dC, dI)) (ci := 9) (v := .ref a1) (C := "Minestrata$Radix") (T := TX8) (N := 3) hx hb hts inX8 hown hK hP 0 rfl rfl 1 (by decide) (hts _ q266) (fun _ h9 => h9) rfl dX8_add_53 ?_
  refine lv_aload_n hx hb dX8_add_56 rfl (lv_at hl 2 rfl) ?_
  refine va_get (D := (dC, dI)) (ci := 9) (v := .int (1)) (C := "Minestrata$Radix") (T := TX8) (N := 3) hx hb hts inX8 hown hK hP 0 rfl rfl 0 (by decide) (hts _ q262) (fun _ h9 => h9) rfl dX8_add_57 ?_
  refine lv_lload_n hx hb dX8_add_60 rfl (lv_at hl 3 rfl) ?_
  refine va_last hx hb hK hP hD hS 1 1 rfl rfl (show ¬ ((1 : Int32) < 0 ∨ 32 ≤ Int32.toNatClampNeg (1)) by decide +kernel) dX8_add_61 (fun H locs hP hD hS => ?_)
  have hP : va_P (dC, dI) CL [(a0, .inr (9, [.int (1), .ref a1, .ref a2])), (a1, .inl (g 1, 32, .inr (.inl (vp_updL (vp_updL (fun _ => 0) (Int32.toNatClampNeg (0)) (2147483647)) (Int32.toNatClampNeg (1)) (2147483629))))), (a2, .inl (g 1, 32, .inr (.inl (vp_updL (fun _ => 0) (Int32.toNatClampNeg (0)) (1)))))] _ := hP
  have hD : va_D A [(a0, .inr (9, [.int (1), .ref a1, .ref a2])), (a1, .inl (g 1, 32, .inr (.inl (vp_updL (vp_updL (fun _ => 0) (Int32.toNatClampNeg (0)) (2147483647)) (Int32.toNatClampNeg (1)) (2147483629))))), (a2, .inl (g 1, 32, .inr (.inl (vp_updL (fun _ => 0) (Int32.toNatClampNeg (0)) (1)))))] := hD
  refine lv_aload_n hx hb dX8_add_62 rfl (lv_at hl 2 rfl) ?_
  refine va_get (D := (dC, dI)) (ci := 9) (v := .ref a2) (C := "Minestrata$Radix") (T := TX8) (N := 3) hx hb hts inX8 hown hK hP 0 rfl rfl 2 (by decide) (hts _ q270) (fun _ h9 => h9) rfl dX8_add_63 ?_
  refine lv_aload_n hx hb dX8_add_66 rfl (lv_at hl 2 rfl) ?_
  refine va_get (D := (dC, dI)) (ci := 9) (v := .int (1)) (C := "Minestrata$Radix") (T := TX8) (N := 3) hx hb hts inX8 hown hK hP 0 rfl rfl 0 (by decide) (hts _ q262) (fun _ h9 => h9) rfl dX8_add_67 ?_
  refine lv_lload_n hx hb dX8_add_70 rfl (lv_at hl 1 rfl) ?_
  refine lv_lload_n hx hb dX8_add_71 rfl (lv_at hl 3 rfl) ?_
  have hX : nCx p s m _ c prog_10_method_2_code 6 "Minestrata$Radix" dC dI g A [(a0, .inr (9, [.int (1), .ref a1, .ref a2])), (a1, .inl (g 1, 32, .inr (.inl (vp_updL (vp_updL (fun _ => 0) (Int32.toNatClampNeg (0)) (2147483647)) (Int32.toNatClampNeg (1)) (2147483629))))), (a2, .inl (g 1, 32, .inr (.inl (vp_updL (fun _ => 0) (Int32.toNatClampNeg (0)) (1)))))] _ _ := ⟨⟨hx, hb, hml, hown, hts⟩, hE, hS, hA, hP, hD⟩
  refine n_call (wr := [(a0, .inr (9, [.int (1), .ref a1, .ref a2])), (a1, .inl (g 1, 32, .inr (.inl (vp_updL (vp_updL (fun _ => 0) (Int32.toNatClampNeg (0)) (2147483647)) (Int32.toNatClampNeg (1)) (2147483629))))), (a2, .inl (g 1, 32, .inr (.inl (vp_updL (fun _ => 0) (Int32.toNatClampNeg (0)) (1)))))]) hX (n_runS (n := 2) (wc := []) (As := [.long (18), .long (2147483629)]) (rest := [.int (1), .ref a2]) hX (m245 l hst dC dI g _) [] rfl (by decide +kernel) q650 q609 q75 q610 (by decide +kernel) ⟨(Nat.le_of_ble_eq_true rfl), (Nat.le_of_ble_eq_true rfl)⟩ ⟨(Nat.le_of_ble_eq_true rfl), (Nat.le_of_ble_eq_true rfl)⟩ hl.1 rfl rfl (Nat.le_of_ble_eq_true rfl) dX8_add_72) [] [0, 1, 2] rfl rfl (by decide +kernel) (by decide +kernel) (fun f1 r2 H locs hP hD hS => ?_)
  have hP : va_P (dC, dI) CL [(a0, .inr (9, [.int (1), .ref a1, .ref a2])), (a1, .inl (g 1, 32, .inr (.inl (vp_updL (vp_updL (fun _ => 0) (Int32.toNatClampNeg (0)) (2147483647)) (Int32.toNatClampNeg (1)) (2147483629))))), (a2, .inl (g 1, 32, .inr (.inl (vp_updL (fun _ => 0) (Int32.toNatClampNeg (0)) (1)))))] _ := hP
  have hD : va_D A [(a0, .inr (9, [.int (1), .ref a1, .ref a2])), (a1, .inl (g 1, 32, .inr (.inl (vp_updL (vp_updL (fun _ => 0) (Int32.toNatClampNeg (0)) (2147483647)) (Int32.toNatClampNeg (1)) (2147483629))))), (a2, .inl (g 1, 32, .inr (.inl (vp_updL (fun _ => 0) (Int32.toNatClampNeg (0)) (1)))))] := hD
  refine W.widen (k := 0) (n := 0) (Nat.le_of_ble_eq_true rfl) (Nat.le_of_ble_eq_true rfl) ?_
  refine W.eq (g2 := F0 m 75 ls [.long (2028178983), .int (1), .ref a2]) rfl ?_
  refine va_last hx hb hK hP hD hS 2 1 rfl rfl (show ¬ ((1 : Int32) < 0 ∨ 32 ≤ Int32.toNatClampNeg (1)) by decide +kernel) dX8_add_75 (fun H locs hP hD hS => ?_)
  have hP : va_P (dC, dI) CL [(a0, .inr (9, [.int (1), .ref a1, .ref a2])), (a1, .inl (g 1, 32, .inr (.inl (vp_updL (vp_updL (fun _ => 0) (Int32.toNatClampNeg (0)) (2147483647)) (Int32.toNatClampNeg (1)) (2147483629))))), (a2, .inl (g 1, 32, .inr (.inl (vp_updL (vp_updL (fun _ => 0) (Int32.toNatClampNeg (0)) (1)) (Int32.toNatClampNeg (1)) (2028178983)))))] _ := hP
  have hD : va_D A [(a0, .inr (9, [.int (1), .ref a1, .ref a2])), (a1, .inl (g 1, 32, .inr (.inl (vp_updL (vp_updL (fun _ => 0) (Int32.toNatClampNeg (0)) (2147483647)) (Int32.toNatClampNeg (1)) (2147483629))))), (a2, .inl (g 1, 32, .inr (.inl (vp_updL (vp_updL (fun _ => 0) (Int32.toNatClampNeg (0)) (1)) (Int32.toNatClampNeg (1)) (2028178983)))))] := hD
  refine lv_aload_n hx hb dX8_add_76 rfl (lv_at hl 2 rfl) ?_
  refine lv_dup hx hb dX8_add_77 rfl ?_
  refine va_get (D := (dC, dI)) (ci := 9) (v := .int (1)) (C := "Minestrata$Radix") (T := TX8) (N := 3) hx hb hts inX8 hown hK hP 0 rfl rfl 0 (by decide) (hts _ q262) (fun _ h9 => h9) rfl dX8_add_78 ?_
  refine lv_iconst (v := (1)) hx hb dX8_add_81 (by decide +kernel) ?_
  refine lv_iadd hx hb dX8_add_82 ?_
  refine nt_i (v := (2)) (by decide +kernel) ?_
  refine va_put (D := (dC, dI)) (ci := 9) (v := .int (2)) (ty := .int) (C := "Minestrata$Radix") (T := TX8) (N := 3) hx hb hts inX8 tyX8 tyX8_ok nmX8 hown hK hP hD hS 0 rfl rfl 0 (by decide) (hts _ q262) (fun _ h9 => h9) rfl (by decide +kernel) rfl rfl (Nat.le_of_ble_eq_true rfl) dX8_add_83 (fun H locs hP hD hS => ?_)
  have hP : va_P (dC, dI) CL [(a0, .inr (9, [.int (2), .ref a1, .ref a2])), (a1, .inl (g 1, 32, .inr (.inl (vp_updL (vp_updL (fun _ => 0) (Int32.toNatClampNeg (0)) (2147483647)) (Int32.toNatClampNeg (1)) (2147483629))))), (a2, .inl (g 1, 32, .inr (.inl (vp_updL (vp_updL (fun _ => 0) (Int32.toNatClampNeg (0)) (1)) (Int32.toNatClampNeg (1)) (2028178983)))))] _ := hP
  have hD : va_D A [(a0, .inr (9, [.int (2), .ref a1, .ref a2])), (a1, .inl (g 1, 32, .inr (.inl (vp_updL (vp_updL (fun _ => 0) (Int32.toNatClampNeg (0)) (2147483647)) (Int32.toNatClampNeg (1)) (2147483629))))), (a2, .inl (g 1, 32, .inr (.inl (vp_updL (vp_updL (fun _ => 0) (Int32.toNatClampNeg (0)) (1)) (Int32.toNatClampNeg (1)) (2028178983)))))] := hD
  refine W.widen (k := 0) (n := 0) (Nat.le_of_ble_eq_true rfl) (Nat.le_of_ble_eq_true rfl) ?_
  exact W.vret hx hb hr (n_end hS hP hD [0, 1, 2] (by decide +kernel) (fun _ => 0) (fun _ => 0) rfl rfl rfl) hS.2.2 dX8_add_86 hlk

set_option maxHeartbeats 4000000 in
set_option maxRecDepth 100000 in
/-- Minestrata$Equations.begin -/
theorem m247 (l : Launch) (hst : l.stackTraces = false) (dC : Nat → ClassId) (dI : Nat → Nat → Nat) (g : Nat → Nat) (a0 a1 : Nat) (sz : Nat) :
    Met l Y65 (Cond.code Y65 prog_4_method_2_code 6 (Option.none : Option Jvm.ClassFile.FieldType) :: AW) ({ frames := 1, cells := 0, slots := 0, locals := 16 } : Room) (nP dC dI g [.ref a0, .int (0), .long (2147483587)] [(a0, .inr (3, [.ref a1, .long (2147483629)]))] sz) (nQ dC dI (fun f => none) (fun f r => [(a0, .inr (3, [.ref a1, .long (2147483587)]))]) (va_A [(a0, .inr (3, [.ref a1, .long (2147483629)]))] sz)) 0 0 (va_A [(a0, .inr (3, [.ref a1, .long (2147483629)]))] sz) := by
  refine n_met (by decide +kernel) (Nat.le_of_ble_eq_true rfl) (fun f => none) (fun f r => [(a0, .inr (3, [.ref a1, .long (2147483587)]))]) ?_
  intro p e s m below meth c A ls ⟨hx, hb, hr, hml, hown, hts, hlk, hnm⟩ hE hP hD hA hl
  have hown : s.vm.findClass "Minestrata$Equations" = some m.cls := hown
  have hK := hE.1
  have hS : va_S A s.heap s.heap [] := va_S.rf
  have hl : lv_has ls 6 [(0, .ref a0), (1, .int (0)), (2, .long (2147483587))] := hl
  refine lv_aload_n hx hb dX2_begin_0 rfl (lv_at hl 0 rfl) ?_
  refine lv_lload_n hx hb dX2_begin_1 rfl (lv_at hl 2 rfl) ?_
  refine lv_ldc2 (v := (2)) hx hb hown (hts _ q309) dX2_begin_2 ?_
  refine va_mmax_long hx hb (hml.trans hl.1.symm) hown (hts _ q605) (hts _ q606) (hts _ q96) (hts _ q607) (Nat.le_of_ble_eq_true rfl) (Nat.le_of_ble_eq_true rfl) (Nat.le_of_ble_eq_true rfl) (Nat.le_of_ble_eq_true rfl) dX2_begin_5 ?_
  refine nt_l (v := (2147483587)) (by decide +kernel) ?_
  refine va_put (D := (dC, dI)) (ci := 3) (v := .long (2147483587)) (ty := .long) (C := "Minestrata$Equations") (T := TX2) (N := 2) hx hb hts inX2 tyX2 tyX2_ok nmX2 hown hK hP hD hS 0 rfl rfl 1 (by decide) (hts _ q313) (fun _ h9 => h9) rfl (by decide +kernel) rfl rfl (Nat.le_of_ble_eq_true rfl) dX2_begin_8 (fun H locs hP hD hS => ?_)
  have hP : va_P (dC, dI) CL [(a0, .inr (3, [.ref a1, .long (2147483587)]))] _ := hP
  have hD : va_D A [(a0, .inr (3, [.ref a1, .long (2147483587)]))] := hD
  refine lv_iconst (v := (0)) hx hb dX2_begin_11 (by decide +kernel) ?_
  refine lv_istore (lv' := [(4, .int (0)), (0, .ref a0), (1, .int (0)), (2, .long (2147483587))]) hx hb dX2_begin_12 hl (by decide) rfl (fun ls hl => ?_)
  refine lv_iload hx hb dX2_begin_14 (lv_at hl 0 rfl) ?_
  refine lv_iload_n hx hb dX2_begin_16 rfl (lv_at hl 2 rfl) ?_
  refine lv_icmp_ge (tgt := 52) hx hb dX2_begin_17 (by decide +kernel) (fun _ => ?_) (fun h => absurd (by decide +kernel) h)
  refine W.widen (k := 0) (n := 0) (Nat.le_of_ble_eq_true rfl) (Nat.le_of_ble_eq_true rfl) ?_
  exact W.vret hx hb hr (n_end hS hP hD [0] (by decide +kernel) (fun _ => 0) (fun _ => 0) rfl rfl rfl) hS.2.2 dX2_begin_52 hlk

set_option maxHeartbeats 4000000 in
set_option maxRecDepth 100000 in
/-- Minestrata$Air.solveModulo -/
theorem m248 (l : Launch) (hst : l.stackTraces = false) (dC : Nat → ClassId) (dI : Nat → Nat → Nat) (g : Nat → Nat) (a0 a1 a2 a3 a4 a5 a6 a7 a8 a9 a10 a11 a12 a13 a14 a15 a16 a17 a18 a19 a20 a21 a22 a23 a24 a25 a26 a27 a28 : Nat) (sz : Nat) :
    Met l Y64 (Cond.code Y64 prog_2_method_6_code 7 (Option.some Jvm.ClassFile.FieldType.long) :: AW) ({ frames := 2, cells := 0, slots := 0, locals := 41 } : Room) (nP dC dI g [.ref a0, .ref a1, .long (2147483587)] [(a1, .inr (8, [.int (0), .ref a2, .ref a3, .ref a4, .ref a5, .int (0), .ref a6, .ref a7, .ref a8, .ref a9, .ref a10, .ref a11, .ref a12])), (a0, .inr (2, [.ref a13, .ref a14, .ref a15, .ref a16, .ref a17, .ref a18, .int (0), .ref a19, .ref a20, .ref a21, .ref a22, .ref a23, .ref a24, .ref a25, .int (0), .int (2)])), (a13, .inr (9, [.int (2), .ref a26, .ref a27])), (a21, .inr (3, [.ref a28, .long (2147483629)]))] sz) (nQ dC dI (fun f => some (.long (1))) (fun f r => [(a1, .inr (8, [.int (0), .ref a2, .ref a3, .ref a4, .ref a5, .int (0), .ref a6, .ref a7, .ref a8, .ref a9, .ref a10, .ref a11, .ref a12])), (a0, .inr (2, [.ref a13, .ref a14, .ref a15, .ref a16, .ref a17, .ref a18, .int (0), .ref a19, .ref a20, .ref a21, .ref a22, .ref a23, .ref a24, .ref a25, .int (0), .int (2)])), (a13, .inr (9, [.int (2), .ref a26, .ref a27])), (a21, .inr (3, [.ref a28, .long (2147483587)]))]) (va_A [(a1, .inr (8, [.int (0), .ref a2, .ref a3, .ref a4, .ref a5, .int (0), .ref a6, .ref a7, .ref a8, .ref a9, .ref a10, .ref a11, .ref a12])), (a0, .inr (2, [.ref a13, .ref a14, .ref a15, .ref a16, .ref a17, .ref a18, .int (0), .ref a19, .ref a20, .ref a21, .ref a22, .ref a23, .ref a24, .ref a25, .int (0), .int (2)])), (a13, .inr (9, [.int (2), .ref a26, .ref a27])), (a21, .inr (3, [.ref a28, .long (2147483629)]))] sz)) 0 0 (va_A [(a1, .inr (8, [.int (0), .ref a2, .ref a3, .ref a4, .ref a5, .int (0), .ref a6, .ref a7, .ref a8, .ref a9, .ref a10, .ref a11, .ref a12])), (a0, .inr (2, [.ref a13, .ref a14, .ref a15, .ref a16, .ref a17, .ref a18, .int (0), .ref a19, .ref a20, .ref a21, .ref a22, .ref a23, .ref a24, .ref a25, .int (0), .int (2)])), (a13, .inr (9, [.int (2), .ref a26, .ref a27])), (a21, .inr (3, [.ref a28, .long (2147483629)]))] sz) := by
  refine n_met (by decide +kernel) (Nat.le_of_ble_eq_true rfl) (fun f => some (.long (1))) (fun f r => [(a1, .inr (8, [.int (0), .ref a2, .ref a3, .ref a4, .ref a5, .int (0), .ref a6, .ref a7, .ref a8, .ref a9, .ref a10, .ref a11, .ref a12])), (a0, .inr (2, [.ref a13, .ref a14, .ref a15, .ref a16, .ref a17, .ref a18, .int (0), .ref a19, .ref a20, .ref a21, .ref a22, .ref a23, .ref a24, .ref a25, .int (0), .int (2)])), (a13, .inr (9, [.int (2), .ref a26, .ref a27])), (a21, .inr (3, [.ref a28, .long (2147483587)]))]) ?_
  intro p e s m below meth c A ls ⟨hx, hb, hr, hml, hown, hts, hlk, hnm⟩ hE hP hD hA hl
  have hown : s.vm.findClass "Minestrata$Air" = some m.cls := hown
  have hK := hE.1
  have hS : va_S A s.heap s.heap [] := va_S.rf
  have hl : lv_has ls 7 [(0, .ref a0), (1, .ref a1), (2, .long (2147483587))] := hl
  refine lv_lload_n hx hb dX0_solveModulo_0 rfl (lv_at hl 2 rfl) ?_
  refine lv_ldc2 (v := (2)) hx hb hown (hts _ q600) dX0_solveModulo_1 ?_
  refine W.lcmp hx hb dX0_solveModulo_4 ?_
  refine nt_i (v := (1)) (by decide +kernel) ?_
  refine lv_if_lt (tgt := 20) hx hb dX0_solveModulo_5 (by decide +kernel) (fun h => absurd h (by decide +kernel)) (fun _ => ?_)
  refine lv_aload_n hx hb dX0_solveModulo_8 rfl (lv_at hl 0 rfl) ?_
  refine va_get (D := (dC, dI)) (ci := 2) (v := .ref a13) (C := "Minestrata$Air") (T := TX0) (N := 16) hx hb hts inX0 hown hK hP 1 rfl rfl 0 (by decide) (hts _ q351) (fun _ h9 => h9) rfl dX0_solveModulo_9 ?_
  refine va_get (D := (dC, dI)) (ci := 9) (v := .int (2)) (C := "Minestrata$Radix") (T := TX8) (N := 3) hx hb hts inX8 hown hK hP 2 rfl rfl 0 (by decide) (hts _ q263) (fun _ h9 => h9) rfl dX0_solveModulo_12 ?_
  refine lv_bipush (v := (32)) hx hb dX0_solveModulo_15 (by decide +kernel) ?_
  refine lv_icmp_lt (tgt := 22) hx hb dX0_solveModulo_17 (by decide +kernel) (fun _ => ?_) (fun h => absurd (by decide +kernel) h)
  refine lv_aload_n hx hb dX0_solveModulo_22 rfl (lv_at hl 0 rfl) ?_
  refine va_get (D := (dC, dI)) (ci := 2) (v := .ref a21) (C := "Minestrata$Air") (T := TX0) (N := 16) hx hb hts inX0 hown hK hP 1 rfl rfl 9 (by decide) (hts _ q368) (fun _ h9 => h9) rfl dX0_solveModulo_23 ?_
  refine lv_aload_n hx hb dX0_solveModulo_26 rfl (lv_at hl 0 rfl) ?_
  refine va_get (D := (dC, dI)) (ci := 2) (v := .int (0)) (C := "Minestrata$Air") (T := TX0) (N := 16) hx hb hts inX0 hown hK hP 1 rfl rfl 14 (by decide) (hts _ q373) (fun _ h9 => h9) rfl dX0_solveModulo_27 ?_
  refine lv_lload_n hx hb dX0_solveModulo_30 rfl (lv_at hl 2 rfl) ?_
  have hX : nCx p s m _ c prog_2_method_6_code 7 "Minestrata$Air" dC dI g A [(a1, .inr (8, [.int (0), .ref a2, .ref a3, .ref a4, .ref a5, .int (0), .ref a6, .ref a7, .ref a8, .ref a9, .ref a10, .ref a11, .ref a12])), (a0, .inr (2, [.ref a13, .ref a14, .ref a15, .ref a16, .ref a17, .ref a18, .int (0), .ref a19, .ref a20, .ref a21, .ref a22, .ref a23, .ref a24, .ref a25, .int (0), .int (2)])), (a13, .inr (9, [.int (2), .ref a26, .ref a27])), (a21, .inr (3, [.ref a28, .long (2147483629)]))] _ _ := ⟨⟨hx, hb, hml, hown, hts⟩, hE, hS, hA, hP, hD⟩
  refine n_call (wr := [(a1, .inr (8, [.int (0), .ref a2, .ref a3, .ref a4, .ref a5, .int (0), .ref a6, .ref a7, .ref a8, .ref a9, .ref a10, .ref a11, .ref a12])), (a0, .inr (2, [.ref a13, .ref a14, .ref a15, .ref a16, .ref a17, .ref a18, .int (0), .ref a19, .ref a20, .ref a21, .ref a22, .ref a23, .ref a24, .ref a25, .int (0), .int (2)])), (a13, .inr (9, [.int (2), .ref a26, .ref a27]))]) hX (n_runV (n := 2) (wc := [(a21, .inr (3, [.ref a28, .long (2147483629)]))]) (As := [.int (0), .long (2147483587)]) (rest := []) hX (m247 l hst dC dI g a21 a28 _) [3] rfl (by decide +kernel) 3 (ci := 3) rfl (T := TX2) (N := 2) (C := "Minestrata$Equations") rfl q601 q602 q603 q77 q604 (by decide +kernel) ⟨(Nat.le_of_ble_eq_true rfl), (Nat.le_of_ble_eq_true rfl)⟩ ⟨(Nat.le_of_ble_eq_true rfl), (Nat.le_of_ble_eq_true rfl)⟩ hl.1 rfl rfl (Nat.le_of_ble_eq_true rfl) dX0_solveModulo_31) [3] [0, 1, 2] rfl rfl (by decide +kernel) (by decide +kernel) (fun f1 r2 H locs hP hD hS => ?_)
  have hP : va_P (dC, dI) CL [(a1, .inr (8, [.int (0), .ref a2, .ref a3, .ref a4, .ref a5, .int (0), .ref a6, .ref a7, .ref a8, .ref a9, .ref a10, .ref a11, .ref a12])), (a0, .inr (2, [.ref a13, .ref a14, .ref a15, .ref a16, .ref a17, .ref a18, .int (0), .ref a19, .ref a20, .ref a21, .ref a22, .ref a23, .ref a24, .ref a25, .int (0), .int (2)])), (a13, .inr (9, [.int (2), .ref a26, .ref a27])), (a21, .inr (3, [.ref a28, .long (2147483587)]))] _ := hP
  have hD : va_D A [(a1, .inr (8, [.int (0), .ref a2, .ref a3, .ref a4, .ref a5, .int (0), .ref a6, .ref a7, .ref a8, .ref a9, .ref a10, .ref a11, .ref a12])), (a0, .inr (2, [.ref a13, .ref a14, .ref a15, .ref a16, .ref a17, .ref a18, .int (0), .ref a19, .ref a20, .ref a21, .ref a22, .ref a23, .ref a24, .ref a25, .int (0), .int (2)])), (a13, .inr (9, [.int (2), .ref a26, .ref a27])), (a21, .inr (3, [.ref a28, .long (2147483587)]))] := hD
  refine W.widen (k := 0) (n := 0) (Nat.le_of_ble_eq_true rfl) (Nat.le_of_ble_eq_true rfl) ?_
  refine W.eq (g2 := F0 m 34 ls []) rfl ?_
  refine lv_lconst (v := (1)) hx hb dX0_solveModulo_34 (by decide +kernel) ?_
  refine lv_lstore (lv' := [(4, .long (1)), (0, .ref a0), (1, .ref a1), (2, .long (2147483587))]) hx hb dX0_solveModulo_35 hl (by decide) rfl (fun ls hl => ?_)
  refine lv_iconst (v := (0)) hx hb dX0_solveModulo_37 (by decide +kernel) ?_
  refine lv_istore (lv' := [(6, .int (0)), (4, .long (1)), (0, .ref a0), (1, .ref a1), (2, .long (2147483587))]) hx hb dX0_solveModulo_38 hl (by decide) rfl (fun ls hl => ?_)
  refine lv_iload hx hb dX0_solveModulo_40 (lv_at hl 0 rfl) ?_
  refine lv_aload_n hx hb dX0_solveModulo_42 rfl (lv_at hl 3 rfl) ?_
  refine va_get (D := (dC, dI)) (ci := 8) (v := .int (0)) (C := "Minestrata$Net") (T := TX7) (N := 13) hx hb hts inX7 hown hK hP 0 rfl rfl 5 (by decide) (hts _ q151) (fun _ h9 => h9) rfl dX0_solveModulo_43 ?_
  refine lv_icmp_ge (tgt := 159) hx hb dX0_solveModulo_46 (by decide +kernel) (fun _ => ?_) (fun h => absurd (by decide +kernel) h)
  refine lv_aload_n hx hb dX0_solveModulo_159 rfl (lv_at hl 2 rfl) ?_
  refine va_get (D := (dC, dI)) (ci := 2) (v := .ref a21) (C := "Minestrata$Air") (T := TX0) (N := 16) hx hb hts inX0 hown hK hP 1 rfl rfl 9 (by decide) (hts _ q368) (fun _ h9 => h9) rfl dX0_solveModulo_160 ?_
  refine lv_aload_n hx hb dX0_solveModulo_163 rfl (lv_at hl 2 rfl) ?_
  refine va_get (D := (dC, dI)) (ci := 2) (v := .int (0)) (C := "Minestrata$Air") (T := TX0) (N := 16) hx hb hts inX0 hown hK hP 1 rfl rfl 14 (by decide) (hts _ q373) (fun _ h9 => h9) rfl dX0_solveModulo_164 ?_
  have hX : nCx p s m _ c prog_2_method_6_code 7 "Minestrata$Air" dC dI g A [(a1, .inr (8, [.int (0), .ref a2, .ref a3, .ref a4, .ref a5, .int (0), .ref a6, .ref a7, .ref a8, .ref a9, .ref a10, .ref a11, .ref a12])), (a0, .inr (2, [.ref a13, .ref a14, .ref a15, .ref a16, .ref a17, .ref a18, .int (0), .ref a19, .ref a20, .ref a21, .ref a22, .ref a23, .ref a24, .ref a25, .int (0), .int (2)])), (a13, .inr (9, [.int (2), .ref a26, .ref a27])), (a21, .inr (3, [.ref a28, .long (2147483587)]))] _ _ := ⟨⟨hx, hb, hml, hown, hts⟩, hE, hS, hA, hP, hD⟩
  refine n_call (wr := [(a1, .inr (8, [.int (0), .ref a2, .ref a3, .ref a4, .ref a5, .int (0), .ref a6, .ref a7, .ref a8, .ref a9, .ref a10, .ref a11, .ref a12])), (a0, .inr (2, [.ref a13, .ref a14, .ref a15, .ref a16, .ref a17, .ref a18, .int (0), .ref a19, .ref a20, .ref a21, .ref a22, .ref a23, .ref a24, .ref a25, .int (0), .int (2)])), (a13, .inr (9, [.int (2), .ref a26, .ref a27])), (a21, .inr (3, [.ref a28, .long (2147483587)]))]) hX (n_runV (n := 1) (wc := []) (As := [.int (0)]) (rest := []) hX (m234 l hst dC dI g a21 _) [] rfl (by decide +kernel) 3 (ci := 3) rfl (T := TX2) (N := 2) (C := "Minestrata$Equations") rfl q628 q629 q630 q77 q631 (by decide +kernel) ⟨(Nat.le_of_ble_eq_true rfl), (Nat.le_of_ble_eq_true rfl)⟩ ⟨(Nat.le_of_ble_eq_true rfl), (Nat.le_of_ble_eq_true rfl)⟩ hl.1 rfl rfl (Nat.le_of_ble_eq_true rfl) dX0_solveModulo_167) [] [0, 1, 2, 3] rfl rfl (by decide +kernel) (by decide +kernel) (fun f3 r4 H locs hP hD hS => ?_)
  have hP : va_P (dC, dI) CL [(a1, .inr (8, [.int (0), .ref a2, .ref a3, .ref a4, .ref a5, .int (0), .ref a6, .ref a7, .ref a8, .ref a9, .ref a10, .ref a11, .ref a12])), (a0, .inr (2, [.ref a13, .ref a14, .ref a15, .ref a16, .ref a17, .ref a18, .int (0), .ref a19, .ref a20, .ref a21, .ref a22, .ref a23, .ref a24, .ref a25, .int (0), .int (2)])), (a13, .inr (9, [.int (2), .ref a26, .ref a27])), (a21, .inr (3, [.ref a28, .long (2147483587)]))] _ := hP
  have hD : va_D A [(a1, .inr (8, [.int (0), .ref a2, .ref a3, .ref a4, .ref a5, .int (0), .ref a6, .ref a7, .ref a8, .ref a9, .ref a10, .ref a11, .ref a12])), (a0, .inr (2, [.ref a13, .ref a14, .ref a15, .ref a16, .ref a17, .ref a18, .int (0), .ref a19, .ref a20, .ref a21, .ref a22, .ref a23, .ref a24, .ref a25, .int (0), .int (2)])), (a13, .inr (9, [.int (2), .ref a26, .ref a27])), (a21, .inr (3, [.ref a28, .long (2147483587)]))] := hD
  refine W.widen (k := 0) (n := 0) (Nat.le_of_ble_eq_true rfl) (Nat.le_of_ble_eq_true rfl) ?_
  refine W.eq (g2 := F0 m 170 ls [.long (1)]) rfl ?_
  refine lv_lload hx hb dX0_solveModulo_170 (lv_at hl 1 rfl) ?_
  refine lv_lmul hx hb dX0_solveModulo_172 ?_
  refine nt_l (v := (1)) (by decide +kernel) ?_
  refine lv_lload_n hx hb dX0_solveModulo_173 rfl (lv_at hl 4 rfl) ?_
  refine lv_lrem hx hb dX0_solveModulo_174 (by decide +kernel) ?_
  refine nt_l (v := (1)) (by decide +kernel) ?_
  refine W.widen (k := 0) (n := 0) (Nat.le_of_ble_eq_true rfl) (Nat.le_of_ble_eq_true rfl) ?_
  exact W.lret hx hb hr (n_end hS hP hD [0, 1, 2, 3] (by decide +kernel) (fun _ => 0) (fun _ => 0) rfl rfl rfl) hS.2.2 dX0_solveModulo_175 hlk

set_option maxHeartbeats 4000000 in
set_option maxRecDepth 100000 in
/-- Minestrata$Air.keep -/
theorem m249 (l : Launch) (hst : l.stackTraces = false) (dC : Nat → ClassId) (dI : Nat → Nat → Nat) (g : Nat → Nat) (a0 a1 a2 a3 a4 a5 a6 a7 a8 a9 a10 a11 a12 a13 a14 a15 a16 a17 a18 a19 a20 a21 a22 a23 a24 a25 a26 a27 : Nat) (rr : Nat → Nat) (sz : Nat) :
    Met l Y67 (Cond.code Y67 prog_2_method_8_code 12 (Option.none : Option Jvm.ClassFile.FieldType) :: AW) ({ frames := 0, cells := 0, slots := 0, locals := 0 } : Room) (nP dC dI g [.ref a0, .ref a1, .long (2147483587), .long (1)] [(a1, .inr (8, [.int (0), .ref a2, .ref a3, .ref a4, .ref a5, .int (0), .ref a6, .ref a7, .ref a8, .ref a9, .ref a10, .ref a11, .ref a12])), (a0, .inr (2, [.ref a13, .ref a14, .ref a15, .ref a16, .ref a17, .ref a18, .int (0), .ref a19, .ref a20, .ref a21, .ref a22, .ref a23, .ref a24, .ref a25, .int (0), .int (2)])), (a13, .inr (9, [.int (2), .ref a26, .ref a27])), (a14, .inl (g 1, 32, .inr (.inl (vp_updL (vp_updL (fun _ => 0) (Int32.toNatClampNeg (0)) (1)) (Int32.toNatClampNeg (1)) (1))))), (a19, .inl (g 5, 32, .inr (.inr (.inr (.inr (fun i => if i < 32 then some (rr i) else none))))))] sz) (nQ dC dI (fun f => none) (fun f r => [(a1, .inr (8, [.int (0), .ref a2, .ref a3, .ref a4, .ref a5, .int (0), .ref a6, .ref a7, .ref a8, .ref a9, .ref a10, .ref a11, .ref a12])), (a0, .inr (2, [.ref a13, .ref a14, .ref a15, .ref a16, .ref a17, .ref a18, .int (0), .ref a19, .ref a20, .ref a21, .ref a22, .ref a23, .ref a24, .ref a25, .int (0), .int (2)])), (a13, .inr (9, [.int (2), .ref a26, .ref a27])), (a14, .inl (g 1, 32, .inr (.inl (vp_updL (vp_updL (vp_updL (fun _ => 0) (Int32.toNatClampNeg (0)) (1)) (Int32.toNatClampNeg (1)) (1)) (Int32.toNatClampNeg (2)) (1))))), (a19, .inl (g 5, 32, .inr (.inr (.inr (.inr (fun i => if i < 32 then some (rr i) else none))))))]) (va_A [(a1, .inr (8, [.int (0), .ref a2, .ref a3, .ref a4, .ref a5, .int (0), .ref a6, .ref a7, .ref a8, .ref a9, .ref a10, .ref a11, .ref a12])), (a0, .inr (2, [.ref a13, .ref a14, .ref a15, .ref a16, .ref a17, .ref a18, .int (0), .ref a19, .ref a20, .ref a21, .ref a22, .ref a23, .ref a24, .ref a25, .int (0), .int (2)])), (a13, .inr (9, [.int (2), .ref a26, .ref a27])), (a14, .inl (g 1, 32, .inr (.inl (vp_updL (vp_updL (fun _ => 0) (Int32.toNatClampNeg (0)) (1)) (Int32.toNatClampNeg (1)) (1))))), (a19, .inl (g 5, 32, .inr (.inr (.inr (.inr (fun i => if i < 32 then some (rr i) else none))))))] sz)) 0 0 (va_A [(a1, .inr (8, [.int (0), .ref a2, .ref a3, .ref a4, .ref a5, .int (0), .ref a6, .ref a7, .ref a8, .ref a9, .ref a10, .ref a11, .ref a12])), (a0, .inr (2, [.ref a13, .ref a14, .ref a15, .ref a16, .ref a17, .ref a18, .int (0), .ref a19, .ref a20, .ref a21, .ref a22, .ref a23, .ref a24, .ref a25, .int (0), .int (2)])), (a13, .inr (9, [.int (2), .ref a26, .ref a27])), (a14, .inl (g 1, 32, .inr (.inl (vp_updL (vp_updL (fun _ => 0) (Int32.toNatClampNeg (0)) (1)) (Int32.toNatClampNeg (1)) (1))))), (a19, .inl (g 5, 32, .inr (.inr (.inr (.inr (fun i => if i < 32 then some (rr i) else none))))))] sz) := by
  refine n_met (by decide +kernel) (Nat.le_of_ble_eq_true rfl) (fun f => none) (fun f r => [(a1, .inr (8, [.int (0), .ref a2, .ref a3, .ref a4, .ref a5, .int (0), .ref a6, .ref a7, .ref a8, .ref a9, .ref a10, .ref a11, .ref a12])), (a0, .inr (2, [.ref a13, .ref a14, .ref a15, .ref a16, .ref a17, .ref a18, .int (0), .ref a19, .ref a20, .ref a21, .ref a22, .ref a23, .ref a24, .ref a25, .int (0), .int (2)])), (a13, .inr (9, [.int (2), .ref a26, .ref a27])), (a14, .inl (g 1, 32, .inr (.inl (vp_updL (vp_updL (vp_updL (fun _ => 0) (Int32.toNatClampNeg (0)) (1)) (Int32.toNatClampNeg (1)) (1)) (Int32.toNatClampNeg (2)) (1))))), (a19, .inl (g 5, 32, .inr (.inr (.inr (.inr (fun i => if i < 32 then some (rr i) else none))))))]) ?_
  intro p e s m below meth c A ls ⟨hx, hb, hr, hml, hown, hts, hlk, hnm⟩ hE hP hD hA hl
  have hown : s.vm.findClass "Minestrata$Air" = some m.cls := hown
  have hK := hE.1
  have hS : va_S A s.heap s.heap [] := va_S.rf
  have hl : lv_has ls 12 [(0, .ref a0), (1, .ref a1), (2, .long (2147483587)), (4, .long (1))] := hl
  refine lv_aload_n hx hb dX0_keep_0 rfl (lv_at hl 0 rfl) ?_
  refine va_get (D := (dC, dI)) (ci := 2) (v := .ref a13) (C := "Minestrata$Air") (T := TX0) (N := 16) hx hb hts inX0 hown hK hP 1 rfl rfl 0 (by decide) (hts _ q351) (fun _ h9 => h9) rfl dX0_keep_1 ?_
  refine va_get (D := (dC, dI)) (ci := 9) (v := .int (2)) (C := "Minestrata$Radix") (T := TX8) (N := 3) hx hb hts inX8 hown hK hP 2 rfl rfl 0 (by decide) (hts _ q263) (fun _ h9 => h9) rfl dX0_keep_4 ?_
  refine lv_istore (lv' := [(6, .int (2)), (0, .ref a0), (1, .ref a1), (2, .long (2147483587)), (4, .long (1))]) hx hb dX0_keep_7 hl (by decide) rfl (fun ls hl => ?_)
  refine lv_aload_n hx hb dX0_keep_9 rfl (lv_at hl 1 rfl) ?_
  refine va_get (D := (dC, dI)) (ci := 2) (v := .ref a19) (C := "Minestrata$Air") (T := TX0) (N := 16) hx hb hts inX0 hown hK hP 1 rfl rfl 7 (by decide) (hts _ q366) (fun _ h9 => h9) rfl dX0_keep_10 ?_
  refine lv_iload hx hb dX0_keep_13 (lv_at hl 0 rfl) ?_
  refine n_aald hx hb hK hP 4 5 rfl rfl rfl (show ¬ ((2 : Int32) < 0 ∨ 32 ≤ Int32.toNatClampNeg (2)) by decide +kernel) (v := .ref (rr 2)) rfl dX0_keep_15 ?_
  refine lv_astore (lv' := [(7, .ref (rr 2)), (6, .int (2)), (0, .ref a0), (1, .ref a1), (2, .long (2147483587)), (4, .long (1))]) hx hb dX0_keep_16 hl (by decide) rfl (fun ls hl => ?_)
  refine lv_iconst (v := (0)) hx hb dX0_keep_18 (by decide +kernel) ?_
  refine lv_istore (lv' := [(8, .int (0)), (7, .ref (rr 2)), (6, .int (2)), (0, .ref a0), (1, .ref a1), (2, .long (2147483587)), (4, .long (1))]) hx hb dX0_keep_19 hl (by decide) rfl (fun ls hl => ?_)
  refine lv_iload hx hb dX0_keep_21 (lv_at hl 0 rfl) ?_
  refine lv_aload_n hx hb dX0_keep_23 rfl (lv_at hl 4 rfl) ?_
  refine va_get (D := (dC, dI)) (ci := 8) (v := .int (0)) (C := "Minestrata$Net") (T := TX7) (N := 13) hx hb hts inX7 hown hK hP 0 rfl rfl 0 (by decide) (hts _ q129) (fun _ h9 => h9) rfl dX0_keep_24 ?_
  refine lv_icmp_ge (tgt := 94) hx hb dX0_keep_27 (by decide +kernel) (fun _ => ?_) (fun h => absurd (by decide +kernel) h)
  refine lv_iconst (v := (0)) hx hb dX0_keep_94 (by decide +kernel) ?_
  refine lv_istore (lv' := [(8, .int (0)), (7, .ref (rr 2)), (6, .int (2)), (0, .ref a0), (1, .ref a1), (2, .long (2147483587)), (4, .long (1))]) hx hb dX0_keep_95 hl (by decide) rfl (fun ls hl => ?_)
  refine lv_iload hx hb dX0_keep_97 (lv_at hl 0 rfl) ?_
  refine lv_aload_n hx hb dX0_keep_99 rfl (lv_at hl 4 rfl) ?_
  refine va_get (D := (dC, dI)) (ci := 8) (v := .int (0)) (C := "Minestrata$Net") (T := TX7) (N := 13) hx hb hts inX7 hown hK hP 0 rfl rfl 5 (by decide) (hts _ q151) (fun _ h9 => h9) rfl dX0_keep_100 ?_
  refine lv_icmp_ge (tgt := 172) hx hb dX0_keep_103 (by decide +kernel) (fun _ => ?_) (fun h => absurd (by decide +kernel) h)
  refine lv_aload_n hx hb dX0_keep_172 rfl (lv_at hl 3 rfl) ?_
  refine va_get (D := (dC, dI)) (ci := 2) (v := .ref a14) (C := "Minestrata$Air") (T := TX0) (N := 16) hx hb hts inX0 hown hK hP 1 rfl rfl 1 (by decide) (hts _ q353) (fun _ h9 => h9) rfl dX0_keep_173 ?_
  refine lv_iload hx hb dX0_keep_176 (lv_at hl 2 rfl) ?_
  refine lv_lload hx hb dX0_keep_178 (lv_at hl 6 rfl) ?_
  refine va_last hx hb hK hP hD hS 3 1 rfl rfl (show ¬ ((2 : Int32) < 0 ∨ 32 ≤ Int32.toNatClampNeg (2)) by decide +kernel) dX0_keep_180 (fun H locs hP hD hS => ?_)
  have hP : va_P (dC, dI) CL [(a1, .inr (8, [.int (0), .ref a2, .ref a3, .ref a4, .ref a5, .int (0), .ref a6, .ref a7, .ref a8, .ref a9, .ref a10, .ref a11, .ref a12])), (a0, .inr (2, [.ref a13, .ref a14, .ref a15, .ref a16, .ref a17, .ref a18, .int (0), .ref a19, .ref a20, .ref a21, .ref a22, .ref a23, .ref a24, .ref a25, .int (0), .int (2)])), (a13, .inr (9, [.int (2), .ref a26, .ref a27])), (a14, .inl (g 1, 32, .inr (.inl (vp_updL (vp_updL (vp_updL (fun _ => 0) (Int32.toNatClampNeg (0)) (1)) (Int32.toNatClampNeg (1)) (1)) (Int32.toNatClampNeg (2)) (1))))), (a19, .inl (g 5, 32, .inr (.inr (.inr (.inr (fun i => if i < 32 then some (rr i) else none))))))] _ := hP
  have hD : va_D A [(a1, .inr (8, [.int (0), .ref a2, .ref a3, .ref a4, .ref a5, .int (0), .ref a6, .ref a7, .ref a8, .ref a9, .ref a10, .ref a11, .ref a12])), (a0, .inr (2, [.ref a13, .ref a14, .ref a15, .ref a16, .ref a17, .ref a18, .int (0), .ref a19, .ref a20, .ref a21, .ref a22, .ref a23, .ref a24, .ref a25, .int (0), .int (2)])), (a13, .inr (9, [.int (2), .ref a26, .ref a27])), (a14, .inl (g 1, 32, .inr (.inl (vp_updL (vp_updL (vp_updL (fun _ => 0) (Int32.toNatClampNeg (0)) (1)) (Int32.toNatClampNeg (1)) (1)) (Int32.toNatClampNeg (2)) (1))))), (a19, .inl (g 5, 32, .inr (.inr (.inr (.inr (fun i => if i < 32 then some (rr i) else none))))))] := hD
  refine W.widen (k := 0) (n := 0) (Nat.le_of_ble_eq_true rfl) (Nat.le_of_ble_eq_true rfl) ?_
  exact W.vret hx hb hr (n_end hS hP hD [0, 1, 2, 3, 4] (by decide +kernel) (fun _ => 0) rr rfl rfl rfl) hS.2.2 dX0_keep_181 hlk

set_option maxHeartbeats 4000000 in
set_option maxRecDepth 100000 in
/-- Math.floorMod -/
theorem m250 (l : Launch) (hst : l.stackTraces = false) (dC : Nat → ClassId) (dI : Nat → Nat → Nat) (g : Nat → Nat) (sz : Nat) :
    Met l Y70 (Cond.code Y70 prog_31_method_52_code 6 (Option.some Jvm.ClassFile.FieldType.long) :: AW) ({ frames := 0, cells := 0, slots := 0, locals := 0 } : Room) (nP dC dI g [.long (2520), .long (2147483587)] [] sz) (nQ dC dI (fun f => some (.long (2520))) (fun f r => []) (va_A [] sz)) 0 0 (va_A [] sz) := by
  refine n_met (by decide +kernel) (Nat.le_of_ble_eq_true rfl) (fun f => some (.long (2520))) (fun f r => []) ?_
  intro p e s m below meth c A ls ⟨hx, hb, hr, hml, hown, hts, hlk, hnm⟩ hE hP hD hA hl
  have hown : s.vm.findClass "java/lang/Math" = some m.cls := hown
  have hK := hE.1
  have hS : va_S A s.heap s.heap [] := va_S.rf
  have hl : lv_has ls 6 [(0, .long (2520)), (2, .long (2147483587))] := hl
  refine lv_lload_n hx hb dJ9_floorMod_f86c9_0 rfl (lv_at hl 0 rfl) ?_
  refine lv_lload_n hx hb dJ9_floorMod_f86c9_1 rfl (lv_at hl 1 rfl) ?_
  refine lv_lrem hx hb dJ9_floorMod_f86c9_2 (by decide +kernel) ?_
  refine nt_l (v := (2520)) (by decide +kernel) ?_
  refine lv_lstore (lv' := [(4, .long (2520)), (0, .long (2520)), (2, .long (2147483587))]) hx hb dJ9_floorMod_f86c9_3 hl (by decide) rfl (fun ls hl => ?_)
  refine lv_lload_n hx hb dJ9_floorMod_f86c9_5 rfl (lv_at hl 1 rfl) ?_
  refine lv_lload_n hx hb dJ9_floorMod_f86c9_6 rfl (lv_at hl 2 rfl) ?_
  refine lv_lxor hx hb dJ9_floorMod_f86c9_7 ?_
  refine nt_l (v := (2147481115)) (by decide +kernel) ?_
  refine lv_lconst (v := (0)) hx hb dJ9_floorMod_f86c9_8 (by decide +kernel) ?_
  refine W.lcmp hx hb dJ9_floorMod_f86c9_9 ?_
  refine nt_i (v := (1)) (by decide +kernel) ?_
  refine lv_if_ge (tgt := 25) hx hb dJ9_floorMod_f86c9_10 (by decide +kernel) (fun _ => ?_) (fun h => absurd (by decide +kernel) h)
  refine lv_lload hx hb dJ9_floorMod_f86c9_25 (lv_at hl 0 rfl) ?_
  refine W.widen (k := 0) (n := 0) (Nat.le_of_ble_eq_true rfl) (Nat.le_of_ble_eq_true rfl) ?_
  exact W.lret hx hb hr (n_end hS hP hD [] (by decide +kernel) (fun _ => 0) (fun _ => 0) rfl rfl rfl) hS.2.2 dJ9_floorMod_f86c9_27 hlk

set_option maxHeartbeats 4000000 in
set_option maxRecDepth 100000 in
/-- Math.floorMod -/
theorem m251 (l : Launch) (hst : l.stackTraces = false) (dC : Nat → ClassId) (dI : Nat → Nat → Nat) (g : Nat → Nat) (sz : Nat) :
    Met l Y70 (Cond.code Y70 prog_31_method_52_code 6 (Option.some Jvm.ClassFile.FieldType.long) :: AW) ({ frames := 0, cells := 0, slots := 0, locals := 0 } : Room) (nP dC dI g [.long (576923170), .long (2147483587)] [] sz) (nQ dC dI (fun f => some (.long (576923170))) (fun f r => []) (va_A [] sz)) 0 0 (va_A [] sz) := by
  refine n_met (by decide +kernel) (Nat.le_of_ble_eq_true rfl) (fun f => some (.long (576923170))) (fun f r => []) ?_
  intro p e s m below meth c A ls ⟨hx, hb, hr, hml, hown, hts, hlk, hnm⟩ hE hP hD hA hl
  have hown : s.vm.findClass "java/lang/Math" = some m.cls := hown
  have hK := hE.1
  have hS : va_S A s.heap s.heap [] := va_S.rf
  have hl : lv_has ls 6 [(0, .long (576923170)), (2, .long (2147483587))] := hl
  refine lv_lload_n hx hb dJ9_floorMod_f86c9_0 rfl (lv_at hl 0 rfl) ?_
  refine lv_lload_n hx hb dJ9_floorMod_f86c9_1 rfl (lv_at hl 1 rfl) ?_
  refine lv_lrem hx hb dJ9_floorMod_f86c9_2 (by decide +kernel) ?_
  refine nt_l (v := (576923170)) (by decide +kernel) ?_
  refine lv_lstore (lv' := [(4, .long (576923170)), (0, .long (576923170)), (2, .long (2147483587))]) hx hb dJ9_floorMod_f86c9_3 hl (by decide) rfl (fun ls hl => ?_)
  refine lv_lload_n hx hb dJ9_floorMod_f86c9_5 rfl (lv_at hl 1 rfl) ?_
  refine lv_lload_n hx hb dJ9_floorMod_f86c9_6 rfl (lv_at hl 2 rfl) ?_
  refine lv_lxor hx hb dJ9_floorMod_f86c9_7 ?_
  refine nt_l (v := (1570560481)) (by decide +kernel) ?_
  refine lv_lconst (v := (0)) hx hb dJ9_floorMod_f86c9_8 (by decide +kernel) ?_
  refine W.lcmp hx hb dJ9_floorMod_f86c9_9 ?_
  refine nt_i (v := (1)) (by decide +kernel) ?_
  refine lv_if_ge (tgt := 25) hx hb dJ9_floorMod_f86c9_10 (by decide +kernel) (fun _ => ?_) (fun h => absurd (by decide +kernel) h)
  refine lv_lload hx hb dJ9_floorMod_f86c9_25 (lv_at hl 0 rfl) ?_
  refine W.widen (k := 0) (n := 0) (Nat.le_of_ble_eq_true rfl) (Nat.le_of_ble_eq_true rfl) ?_
  exact W.lret hx hb hr (n_end hS hP hD [] (by decide +kernel) (fun _ => 0) (fun _ => 0) rfl rfl rfl) hS.2.2 dJ9_floorMod_f86c9_27 hlk

set_option maxHeartbeats 4000000 in
set_option maxRecDepth 100000 in
/-- Minestrata$Radix.inverse -/
theorem m252 (l : Launch) (hst : l.stackTraces = false) (dC : Nat → ClassId) (dI : Nat → Nat → Nat) (g : Nat → Nat) (sz : Nat) :
    Met l Y69 (Cond.code Y69 prog_10_method_4_code 19 (Option.some Jvm.ClassFile.FieldType.long) :: AW) ({ frames := 1, cells := 0, slots := 0, locals := 25 } : Room) (nP dC dI g [.long (2520), .long (2147483587)] [] sz) (nQ dC dI (fun f => some (.long (576923170))) (fun f r => []) (va_A [] sz)) 0 0 (va_A [] sz) := by
  refine n_met (by decide +kernel) (Nat.le_of_ble_eq_true rfl) (fun f => some (.long (576923170))) (fun f r => []) ?_
  intro p e s m below meth c A ls ⟨hx, hb, hr, hml, hown, hts, hlk, hnm⟩ hE hP hD hA hl
  have hown : s.vm.findClass "Minestrata$Radix" = some m.cls := hown
  have hK := hE.1
  have hS : va_S A s.heap s.heap [] := va_S.rf
  have hl : lv_has ls 19 [(0, .long (2520)), (2, .long (2147483587))] := hl
  refine lv_lload_n hx hb dX8_inverse_0 rfl (lv_at hl 1 rfl) ?_
  refine lv_ldc2 (v := (2)) hx hb hown (hts _ q611) dX8_inverse_1 ?_
  refine W.lcmp hx hb dX8_inverse_4 ?_
  refine nt_i (v := (1)) (by decide +kernel) ?_
  refine lv_if_ge (tgt := 10) hx hb dX8_inverse_5 (by decide +kernel) (fun _ => ?_) (fun h => absurd (by decide +kernel) h)
  refine lv_lload_n hx hb dX8_inverse_10 rfl (lv_at hl 1 rfl) ?_
  refine lv_lstore (lv' := [(4, .long (2147483587)), (0, .long (2520)), (2, .long (2147483587))]) hx hb dX8_inverse_11 hl (by decide) rfl (fun ls hl => ?_)
  refine lv_lload_n hx hb dX8_inverse_13 rfl (lv_at hl 1 rfl) ?_
  refine lv_lload_n hx hb dX8_inverse_14 rfl (lv_at hl 2 rfl) ?_
  have hX : nCx p s m _ c prog_10_method_4_code 19 "Minestrata$Radix" dC dI g A [] _ _ := ⟨⟨hx, hb, hml, hown, hts⟩, hE, hS, hA, hP, hD⟩
  refine n_call (wr := []) hX (n_runS (n := 2) (wc := []) (As := [.long (2520), .long (2147483587)]) (rest := []) hX (m250 l hst dC dI g _) [] rfl (by decide +kernel) q612 q613 q96 q614 (by decide +kernel) ⟨(Nat.le_of_ble_eq_true rfl), (Nat.le_of_ble_eq_true rfl)⟩ ⟨(Nat.le_of_ble_eq_true rfl), (Nat.le_of_ble_eq_true rfl)⟩ hl.1 rfl rfl (Nat.le_of_ble_eq_true rfl) dX8_inverse_15) [] [] rfl rfl (by decide +kernel) (by decide +kernel) (fun f1 r2 H locs hP hD hS => ?_)
  have hP : va_P (dC, dI) CL [] _ := hP
  have hD : va_D A [] := hD
  refine W.widen (k := 0) (n := 0) (Nat.le_of_ble_eq_true rfl) (Nat.le_of_ble_eq_true rfl) ?_
  refine W.eq (g2 := F0 m 18 ls [.long (2520)]) rfl ?_
  refine lv_lstore (lv' := [(6, .long (2520)), (4, .long (2147483587)), (0, .long (2520)), (2, .long (2147483587))]) hx hb dX8_inverse_18 hl (by decide) rfl (fun ls hl => ?_)
  refine lv_lconst (v := (0)) hx hb dX8_inverse_20 (by decide +kernel) ?_
  refine lv_lstore (lv' := [(8, .long (0)), (6, .long (2520)), (4, .long (2147483587)), (0, .long (2520)), (2, .long (2147483587))]) hx hb dX8_inverse_21 hl (by decide) rfl (fun ls hl => ?_)
  refine lv_lconst (v := (1)) hx hb dX8_inverse_23 (by decide +kernel) ?_
  refine lv_lstore (lv' := [(10, .long (1)), (8, .long (0)), (6, .long (2520)), (4, .long (2147483587)), (0, .long (2520)), (2, .long (2147483587))]) hx hb dX8_inverse_24 hl (by decide) rfl (fun ls hl => ?_)
  refine lv_iconst (v := (0)) hx hb dX8_inverse_26 (by decide +kernel) ?_
  refine lv_istore (lv' := [(12, .int (0)), (10, .long (1)), (8, .long (0)), (6, .long (2520)), (4, .long (2147483587)), (0, .long (2520)), (2, .long (2147483587))]) hx hb dX8_inverse_27 hl (by decide) rfl (fun ls hl => ?_)
  refine lv_iload hx hb dX8_inverse_29 (lv_at hl 0 rfl) ?_
  refine lv_bipush (v := (64)) hx hb dX8_inverse_31 (by decide +kernel) ?_
  refine lv_icmp_ge (tgt := 92) hx hb dX8_inverse_33 (by decide +kernel) (fun h => absurd h (by decide +kernel)) (fun _ => ?_)
  refine lv_lload hx hb dX8_inverse_36 (lv_at hl 3 rfl) ?_
  refine lv_lconst (v := (0)) hx hb dX8_inverse_38 (by decide +kernel) ?_
  refine W.lcmp hx hb dX8_inverse_39 ?_
  refine nt_i (v := (1)) (by decide +kernel) ?_
  refine lv_if_eq (tgt := 92) hx hb dX8_inverse_40 (by decide +kernel) (fun h => absurd h (by decide +kernel)) (fun _ => ?_)
  refine lv_lload hx hb dX8_inverse_43 (lv_at hl 4 rfl) ?_
  refine lv_lload hx hb dX8_inverse_45 (lv_at hl 3 rfl) ?_
  refine lv_ldiv hx hb dX8_inverse_47 (by decide +kernel) ?_
  refine nt_l (v := (852176)) (by decide +kernel) ?_
  refine lv_lstore (lv' := [(13, .long (852176)), (12, .int (0)), (10, .long (1)), (8, .long (0)), (6, .long (2520)), (4, .long (2147483587)), (0, .long (2520)), (2, .long (2147483587))]) hx hb dX8_inverse_48 hl (by decide) rfl (fun ls hl => ?_)
  refine lv_lload hx hb dX8_inverse_50 (lv_at hl 5 rfl) ?_
  refine lv_lload hx hb dX8_inverse_52 (lv_at hl 0 rfl) ?_
  refine lv_lload hx hb dX8_inverse_54 (lv_at hl 4 rfl) ?_
  refine lv_lmul hx hb dX8_inverse_56 ?_
  refine nt_l (v := (2147483520)) (by decide +kernel) ?_
  refine lv_lsub hx hb dX8_inverse_57 ?_
  refine nt_l (v := (67)) (by decide +kernel) ?_
  refine lv_lstore (lv' := [(15, .long (67)), (13, .long (852176)), (12, .int (0)), (10, .long (1)), (8, .long (0)), (6, .long (2520)), (4, .long (2147483587)), (0, .long (2520)), (2, .long (2147483587))]) hx hb dX8_inverse_58 hl (by decide) rfl (fun ls hl => ?_)
  refine lv_lload hx hb dX8_inverse_60 (lv_at hl 4 rfl) ?_
  refine lv_lload hx hb dX8_inverse_62 (lv_at hl 1 rfl) ?_
  refine lv_lload hx hb dX8_inverse_64 (lv_at hl 3 rfl) ?_
  refine lv_lmul hx hb dX8_inverse_66 ?_
  refine nt_l (v := (852176)) (by decide +kernel) ?_
  refine lv_lsub hx hb dX8_inverse_67 ?_
  refine nt_l (v := (-852176)) (by decide +kernel) ?_
  refine lv_lstore (lv' := [(17, .long (-852176)), (15, .long (67)), (13, .long (852176)), (12, .int (0)), (10, .long (1)), (8, .long (0)), (6, .long (2520)), (4, .long (2147483587)), (0, .long (2520)), (2, .long (2147483587))]) hx hb dX8_inverse_68 hl (by decide) rfl (fun ls hl => ?_)
  refine lv_lload hx hb dX8_inverse_70 (lv_at hl 6 rfl) ?_
  refine lv_lstore (lv' := [(4, .long (2520)), (17, .long (-852176)), (15, .long (67)), (13, .long (852176)), (12, .int (0)), (10, .long (1)), (8, .long (0)), (6, .long (2520)), (0, .long (2520)), (2, .long (2147483587))]) hx hb dX8_inverse_72 hl (by decide) rfl (fun ls hl => ?_)
  refine lv_lload hx hb dX8_inverse_74 (lv_at hl 2 rfl) ?_
  refine lv_lstore (lv' := [(6, .long (67)), (4, .long (2520)), (17, .long (-852176)), (15, .long (67)), (13, .long (852176)), (12, .int (0)), (10, .long (1)), (8, .long (0)), (0, .long (2520)), (2, .long (2147483587))]) hx hb dX8_inverse_76 hl (by decide) rfl (fun ls hl => ?_)
  refine lv_lload hx hb dX8_inverse_78 (lv_at hl 6 rfl) ?_
  refine lv_lstore (lv' := [(8, .long (1)), (6, .long (67)), (4, .long (2520)), (17, .long (-852176)), (15, .long (67)), (13, .long (852176)), (12, .int (0)), (10, .long (1)), (0, .long (2520)), (2, .long (2147483587))]) hx hb dX8_inverse_80 hl (by decide) rfl (fun ls hl => ?_)
  refine lv_lload hx hb dX8_inverse_82 (lv_at hl 3 rfl) ?_
  refine lv_lstore (lv' := [(10, .long (-852176)), (8, .long (1)), (6, .long (67)), (4, .long (2520)), (17, .long (-852176)), (15, .long (67)), (13, .long (852176)), (12, .int (0)), (0, .long (2520)), (2, .long (2147483587))]) hx hb dX8_inverse_84 hl (by decide) rfl (fun ls hl => ?_)
  refine lv_iinc (v := (1)) (lv' := [(12, .int (1)), (10, .long (-852176)), (8, .long (1)), (6, .long (67)), (4, .long (2520)), (17, .long (-852176)), (15, .long (67)), (13, .long (852176)), (0, .long (2520)), (2, .long (2147483587))]) hx hb dX8_inverse_86 hl (k := 7) rfl (by decide +kernel) (by decide) rfl (fun ls hl => ?_)
  refine lv_goto (tgt := 29) hx hb dX8_inverse_89 (by decide +kernel) ?_
  refine lv_iload hx hb dX8_inverse_29 (lv_at hl 0 rfl) ?_
  refine lv_bipush (v := (64)) hx hb dX8_inverse_31 (by decide +kernel) ?_
  refine lv_icmp_ge (tgt := 92) hx hb dX8_inverse_33 (by decide +kernel) (fun h => absurd h (by decide +kernel)) (fun _ => ?_)
  refine lv_lload hx hb dX8_inverse_36 (lv_at hl 3 rfl) ?_
  refine lv_lconst (v := (0)) hx hb dX8_inverse_38 (by decide +kernel) ?_
  refine W.lcmp hx hb dX8_inverse_39 ?_
  refine nt_i (v := (1)) (by decide +kernel) ?_
  refine lv_if_eq (tgt := 92) hx hb dX8_inverse_40 (by decide +kernel) (fun h => absurd h (by decide +kernel)) (fun _ => ?_)
  refine lv_lload hx hb dX8_inverse_43 (lv_at hl 4 rfl) ?_
  refine lv_lload hx hb dX8_inverse_45 (lv_at hl 3 rfl) ?_
  refine lv_ldiv hx hb dX8_inverse_47 (by decide +kernel) ?_
  refine nt_l (v := (37)) (by decide +kernel) ?_
  refine lv_lstore (lv' := [(13, .long (37)), (12, .int (1)), (10, .long (-852176)), (8, .long (1)), (6, .long (67)), (4, .long (2520)), (17, .long (-852176)), (15, .long (67)), (0, .long (2520)), (2, .long (2147483587))]) hx hb dX8_inverse_48 hl (by decide) rfl (fun ls hl => ?_)
  refine lv_lload hx hb dX8_inverse_50 (lv_at hl 5 rfl) ?_
  refine lv_lload hx hb dX8_inverse_52 (lv_at hl 0 rfl) ?_
  refine lv_lload hx hb dX8_inverse_54 (lv_at hl 4 rfl) ?_
  refine lv_lmul hx hb dX8_inverse_56 ?_
  refine nt_l (v := (2479)) (by decide +kernel) ?_
  refine lv_lsub hx hb dX8_inverse_57 ?_
  refine nt_l (v := (41)) (by decide +kernel) ?_
  refine lv_lstore (lv' := [(15, .long (41)), (13, .long (37)), (12, .int (1)), (10, .long (-852176)), (8, .long (1)), (6, .long (67)), (4, .long (2520)), (17, .long (-852176)), (0, .long (2520)), (2, .long (2147483587))]) hx hb dX8_inverse_58 hl (by decide) rfl (fun ls hl => ?_)
  refine lv_lload hx hb dX8_inverse_60 (lv_at hl 4 rfl) ?_
  refine lv_lload hx hb dX8_inverse_62 (lv_at hl 1 rfl) ?_
  refine lv_lload hx hb dX8_inverse_64 (lv_at hl 3 rfl) ?_
  refine lv_lmul hx hb dX8_inverse_66 ?_
  refine nt_l (v := (-31530512)) (by decide +kernel) ?_
  refine lv_lsub hx hb dX8_inverse_67 ?_
  refine nt_l (v := (31530513)) (by decide +kernel) ?_
  refine lv_lstore (lv' := [(17, .long (31530513)), (15, .long (41)), (13, .long (37)), (12, .int (1)), (10, .long (-852176)), (8, .long (1)), (6, .long (67)), (4, .long (2520)), (0, .long (2520)), (2, .long (2147483587))]) hx hb dX8_inverse_68 hl (by decide) rfl (fun ls hl => ?_)
  refine lv_lload hx hb dX8_inverse_70 (lv_at hl 6 rfl) ?_
  refine lv_lstore (lv' := [(4, .long (67)), (17, .long (31530513)), (15, .long (41)), (13, .long (37)), (12, .int (1)), (10, .long (-852176)), (8, .long (1)), (6, .long (67)), (0, .long (2520)), (2, .long (2147483587))]) hx hb dX8_inverse_72 hl (by decide) rfl (fun ls hl => ?_)
  refine lv_lload hx hb dX8_inverse_74 (lv_at hl 2 rfl) ?_
  refine lv_lstore (lv' := [(6, .long (41)), (4, .long (67)), (17, .long (31530513)), (15, .long (41)), (13, .long (37)), (12, .int (1)), (10, .long (-852176)), (8, .long (1)), (0, .long (2520)), (2, .long (2147483587))]) hx hb dX8_inverse_76 hl (by decide) rfl (fun ls hl => ?_)
  refine lv_lload hx hb dX8_inverse_78 (lv_at hl 6 rfl) ?_
  refine lv_lstore (lv' := [(8, .long (-852176)), (6, .long (41)), (4, .long (67)), (17, .long (31530513)), (15, .long (41)), (13, .long (37)), (12, .int (1)), (10, .long (-852176)), (0, .long (2520)), (2, .long (2147483587))]) hx hb dX8_inverse_80 hl (by decide) rfl (fun ls hl => ?_)
  refine lv_lload hx hb dX8_inverse_82 (lv_at hl 3 rfl) ?_
  refine lv_lstore (lv' := [(10, .long (31530513)), (8, .long (-852176)), (6, .long (41)), (4, .long (67)), (17, .long (31530513)), (15, .long (41)), (13, .long (37)), (12, .int (1)), (0, .long (2520)), (2, .long (2147483587))]) hx hb dX8_inverse_84 hl (by decide) rfl (fun ls hl => ?_)
  refine lv_iinc (v := (2)) (lv' := [(12, .int (2)), (10, .long (31530513)), (8, .long (-852176)), (6, .long (41)), (4, .long (67)), (17, .long (31530513)), (15, .long (41)), (13, .long (37)), (0, .long (2520)), (2, .long (2147483587))]) hx hb dX8_inverse_86 hl (k := 7) rfl (by decide +kernel) (by decide) rfl (fun ls hl => ?_)
  refine lv_goto (tgt := 29) hx hb dX8_inverse_89 (by decide +kernel) ?_
  refine lv_iload hx hb dX8_inverse_29 (lv_at hl 0 rfl) ?_
  refine lv_bipush (v := (64)) hx hb dX8_inverse_31 (by decide +kernel) ?_
  refine lv_icmp_ge (tgt := 92) hx hb dX8_inverse_33 (by decide +kernel) (fun h => absurd h (by decide +kernel)) (fun _ => ?_)
  refine lv_lload hx hb dX8_inverse_36 (lv_at hl 3 rfl) ?_
  refine lv_lconst (v := (0)) hx hb dX8_inverse_38 (by decide +kernel) ?_
  refine W.lcmp hx hb dX8_inverse_39 ?_
  refine nt_i (v := (1)) (by decide +kernel) ?_
  refine lv_if_eq (tgt := 92) hx hb dX8_inverse_40 (by decide +kernel) (fun h => absurd h (by decide +kernel)) (fun _ => ?_)
  refine lv_lload hx hb dX8_inverse_43 (lv_at hl 4 rfl) ?_
  refine lv_lload hx hb dX8_inverse_45 (lv_at hl 3 rfl) ?_
  refine lv_ldiv hx hb dX8_inverse_47 (by decide +kernel) ?_
  refine nt_l (v := (1)) (by decide +kernel) ?_
  refine lv_lstore (lv' := [(13, .long (1)), (12, .int (2)), (10, .long (31530513)), (8, .long (-852176)), (6, .long (41)), (4, .long (67)), (17, .long (31530513)), (15, .long (41)), (0, .long (2520)), (2, .long (2147483587))]) hx hb dX8_inverse_48 hl (by decide) rfl (fun ls hl => ?_)
  refine lv_lload hx hb dX8_inverse_50 (lv_at hl 5 rfl) ?_
  refine lv_lload hx hb dX8_inverse_52 (lv_at hl 0 rfl) ?_
  refine lv_lload hx hb dX8_inverse_54 (lv_at hl 4 rfl) ?_
  refine lv_lmul hx hb dX8_inverse_56 ?_
  refine nt_l (v := (41)) (by decide +kernel) ?_
  refine lv_lsub hx hb dX8_inverse_57 ?_
  refine nt_l (v := (26)) (by decide +kernel) ?_
  refine lv_lstore (lv' := [(15, .long (26)), (13, .long (1)), (12, .int (2)), (10, .long (31530513)), (8, .long (-852176)), (6, .long (41)), (4, .long (67)), (17, .long (31530513)), (0, .long (2520)), (2, .long (2147483587))]) hx hb dX8_inverse_58 hl (by decide) rfl (fun ls hl => ?_)
  refine lv_lload hx hb dX8_inverse_60 (lv_at hl 4 rfl) ?_
  refine lv_lload hx hb dX8_inverse_62 (lv_at hl 1 rfl) ?_
  refine lv_lload hx hb dX8_inverse_64 (lv_at hl 3 rfl) ?_
  refine lv_lmul hx hb dX8_inverse_66 ?_
  refine nt_l (v := (31530513)) (by decide +kernel) ?_
  refine lv_lsub hx hb dX8_inverse_67 ?_
  refine nt_l (v := (-32382689)) (by decide +kernel) ?_
  refine lv_lstore (lv' := [(17, .long (-32382689)), (15, .long (26)), (13, .long (1)), (12, .int (2)), (10, .long (31530513)), (8, .long (-852176)), (6, .long (41)), (4, .long (67)), (0, .long (2520)), (2, .long (2147483587))]) hx hb dX8_inverse_68 hl (by decide) rfl (fun ls hl => ?_)
  refine lv_lload hx hb dX8_inverse_70 (lv_at hl 6 rfl) ?_
  refine lv_lstore (lv' := [(4, .long (41)), (17, .long (-32382689)), (15, .long (26)), (13, .long (1)), (12, .int (2)), (10, .long (31530513)), (8, .long (-852176)), (6, .long (41)), (0, .long (2520)), (2, .long (2147483587))]) hx hb dX8_inverse_72 hl (by decide) rfl (fun ls hl => ?_)
  refine lv_lload hx hb dX8_inverse_74 (lv_at hl 2 rfl) ?_
  refine lv_lstore (lv' := [(6, .long (26)), (4, .long (41)), (17, .long (-32382689)), (15, .long (26)), (13, .long (1)), (12, .int (2)), (10, .long (31530513)), (8, .long (-852176)), (0, .long (2520)), (2, .long (2147483587))]) hx hb dX8_inverse_76 hl (by decide) rfl (fun ls hl => ?_)
  refine lv_lload hx hb dX8_inverse_78 (lv_at hl 6 rfl) ?_
  refine lv_lstore (lv' := [(8, .long (31530513)), (6, .long (26)), (4, .long (41)), (17, .long (-32382689)), (15, .long (26)), (13, .long (1)), (12, .int (2)), (10, .long (31530513)), (0, .long (2520)), (2, .long (2147483587))]) hx hb dX8_inverse_80 hl (by decide) rfl (fun ls hl => ?_)
  refine lv_lload hx hb dX8_inverse_82 (lv_at hl 3 rfl) ?_
  refine lv_lstore (lv' := [(10, .long (-32382689)), (8, .long (31530513)), (6, .long (26)), (4, .long (41)), (17, .long (-32382689)), (15, .long (26)), (13, .long (1)), (12, .int (2)), (0, .long (2520)), (2, .long (2147483587))]) hx hb dX8_inverse_84 hl (by decide) rfl (fun ls hl => ?_)
  refine lv_iinc (v := (3)) (lv' := [(12, .int (3)), (10, .long (-32382689)), (8, .long (31530513)), (6, .long (26)), (4, .long (41)), (17, .long (-32382689)), (15, .long (26)), (13, .long (1)), (0, .long (2520)), (2, .long (2147483587))]) hx hb dX8_inverse_86 hl (k := 7) rfl (by decide +kernel) (by decide) rfl (fun ls hl => ?_)
  refine lv_goto (tgt := 29) hx hb dX8_inverse_89 (by decide +kernel) ?_
  refine lv_iload hx hb dX8_inverse_29 (lv_at hl 0 rfl) ?_
  refine lv_bipush (v := (64)) hx hb dX8_inverse_31 (by decide +kernel) ?_
  refine lv_icmp_ge (tgt := 92) hx hb dX8_inverse_33 (by decide +kernel) (fun h => absurd h (by decide +kernel)) (fun _ => ?_)
  refine lv_lload hx hb dX8_inverse_36 (lv_at hl 3 rfl) ?_
  refine lv_lconst (v := (0)) hx hb dX8_inverse_38 (by decide +kernel) ?_
  refine W.lcmp hx hb dX8_inverse_39 ?_
  refine nt_i (v := (1)) (by decide +kernel) ?_
  refine lv_if_eq (tgt := 92) hx hb dX8_inverse_40 (by decide +kernel) (fun h => absurd h (by decide +kernel)) (fun _ => ?_)
  refine lv_lload hx hb dX8_inverse_43 (lv_at hl 4 rfl) ?_
  refine lv_lload hx hb dX8_inverse_45 (lv_at hl 3 rfl) ?_
  refine lv_ldiv hx hb dX8_inverse_47 (by decide +kernel) ?_
  refine nt_l (v := (1)) (by decide +kernel) ?_
  refine lv_lstore (lv' := [(13, .long (1)), (12, .int (3)), (10, .long (-32382689)), (8, .long (31530513)), (6, .long (26)), (4, .long (41)), (17, .long (-32382689)), (15, .long (26)), (0, .long (2520)), (2, .long (2147483587))]) hx hb dX8_inverse_48 hl (by decide) rfl (fun ls hl => ?_)
  refine lv_lload hx hb dX8_inverse_50 (lv_at hl 5 rfl) ?_
  refine lv_lload hx hb dX8_inverse_52 (lv_at hl 0 rfl) ?_
  refine lv_lload hx hb dX8_inverse_54 (lv_at hl 4 rfl) ?_
  refine lv_lmul hx hb dX8_inverse_56 ?_
  refine nt_l (v := (26)) (by decide +kernel) ?_
  refine lv_lsub hx hb dX8_inverse_57 ?_
  refine nt_l (v := (15)) (by decide +kernel) ?_
  refine lv_lstore (lv' := [(15, .long (15)), (13, .long (1)), (12, .int (3)), (10, .long (-32382689)), (8, .long (31530513)), (6, .long (26)), (4, .long (41)), (17, .long (-32382689)), (0, .long (2520)), (2, .long (2147483587))]) hx hb dX8_inverse_58 hl (by decide) rfl (fun ls hl => ?_)
  refine lv_lload hx hb dX8_inverse_60 (lv_at hl 4 rfl) ?_
  refine lv_lload hx hb dX8_inverse_62 (lv_at hl 1 rfl) ?_
  refine lv_lload hx hb dX8_inverse_64 (lv_at hl 3 rfl) ?_
  refine lv_lmul hx hb dX8_inverse_66 ?_
  refine nt_l (v := (-32382689)) (by decide +kernel) ?_
  refine lv_lsub hx hb dX8_inverse_67 ?_
  refine nt_l (v := (63913202)) (by decide +kernel) ?_
  refine lv_lstore (lv' := [(17, .long (63913202)), (15, .long (15)), (13, .long (1)), (12, .int (3)), (10, .long (-32382689)), (8, .long (31530513)), (6, .long (26)), (4, .long (41)), (0, .long (2520)), (2, .long (2147483587))]) hx hb dX8_inverse_68 hl (by decide) rfl (fun ls hl => ?_)
  refine lv_lload hx hb dX8_inverse_70 (lv_at hl 6 rfl) ?_
  refine lv_lstore (lv' := [(4, .long (26)), (17, .long (63913202)), (15, .long (15)), (13, .long (1)), (12, .int (3)), (10, .long (-32382689)), (8, .long (31530513)), (6, .long (26)), (0, .long (2520)), (2, .long (2147483587))]) hx hb dX8_inverse_72 hl (by decide) rfl (fun ls hl => ?_)
  refine lv_lload hx hb dX8_inverse_74 (lv_at hl 2 rfl) ?_
  refine lv_lstore (lv' := [(6, .long (15)), (4, .long (26)), (17, .long (63913202)), (15, .long (15)), (13, .long (1)), (12, .int (3)), (10, .long (-32382689)), (8, .long (31530513)), (0, .long (2520)), (2, .long (2147483587))]) hx hb dX8_inverse_76 hl (by decide) rfl (fun ls hl => ?_)
  refine lv_lload hx hb dX8_inverse_78 (lv_at hl 6 rfl) ?_
  refine lv_lstore (lv' := [(8, .long (-32382689)), (6, .long (15)), (4, .long (26)), (17, .long (63913202)), (15, .long (15)), (13, .long (1)), (12, .int (3)), (10, .long (-32382689)), (0, .long (2520)), (2, .long (2147483587))]) hx hb dX8_inverse_80 hl (by decide) rfl (fun ls hl => ?_)
  refine lv_lload hx hb dX8_inverse_82 (lv_at hl 3 rfl) ?_
  refine lv_lstore (lv' := [(10, .long (63913202)), (8, .long (-32382689)), (6, .long (15)), (4, .long (26)), (17, .long (63913202)), (15, .long (15)), (13, .long (1)), (12, .int (3)), (0, .long (2520)), (2, .long (2147483587))]) hx hb dX8_inverse_84 hl (by decide) rfl (fun ls hl => ?_)
  refine lv_iinc (v := (4)) (lv' := [(12, .int (4)), (10, .long (63913202)), (8, .long (-32382689)), (6, .long (15)), (4, .long (26)), (17, .long (63913202)), (15, .long (15)), (13, .long (1)), (0, .long (2520)), (2, .long (2147483587))]) hx hb dX8_inverse_86 hl (k := 7) rfl (by decide +kernel) (by decide) rfl (fun ls hl => ?_)
  refine lv_goto (tgt := 29) hx hb dX8_inverse_89 (by decide +kernel) ?_
  refine lv_iload hx hb dX8_inverse_29 (lv_at hl 0 rfl) ?_
  refine lv_bipush (v := (64)) hx hb dX8_inverse_31 (by decide +kernel) ?_
  refine lv_icmp_ge (tgt := 92) hx hb dX8_inverse_33 (by decide +kernel) (fun h => absurd h (by decide +kernel)) (fun _ => ?_)
  refine lv_lload hx hb dX8_inverse_36 (lv_at hl 3 rfl) ?_
  refine lv_lconst (v := (0)) hx hb dX8_inverse_38 (by decide +kernel) ?_
  refine W.lcmp hx hb dX8_inverse_39 ?_
  refine nt_i (v := (1)) (by decide +kernel) ?_
  refine lv_if_eq (tgt := 92) hx hb dX8_inverse_40 (by decide +kernel) (fun h => absurd h (by decide +kernel)) (fun _ => ?_)
  refine lv_lload hx hb dX8_inverse_43 (lv_at hl 4 rfl) ?_
  refine lv_lload hx hb dX8_inverse_45 (lv_at hl 3 rfl) ?_
  refine lv_ldiv hx hb dX8_inverse_47 (by decide +kernel) ?_
  refine nt_l (v := (1)) (by decide +kernel) ?_
  refine lv_lstore (lv' := [(13, .long (1)), (12, .int (4)), (10, .long (63913202)), (8, .long (-32382689)), (6, .long (15)), (4, .long (26)), (17, .long (63913202)), (15, .long (15)), (0, .long (2520)), (2, .long (2147483587))]) hx hb dX8_inverse_48 hl (by decide) rfl (fun ls hl => ?_)
  refine lv_lload hx hb dX8_inverse_50 (lv_at hl 5 rfl) ?_
  refine lv_lload hx hb dX8_inverse_52 (lv_at hl 0 rfl) ?_
  refine lv_lload hx hb dX8_inverse_54 (lv_at hl 4 rfl) ?_
  refine lv_lmul hx hb dX8_inverse_56 ?_
  refine nt_l (v := (15)) (by decide +kernel) ?_
  refine lv_lsub hx hb dX8_inverse_57 ?_
  refine nt_l (v := (11)) (by decide +kernel) ?_
  refine lv_lstore (lv' := [(15, .long (11)), (13, .long (1)), (12, .int (4)), (10, .long (63913202)), (8, .long (-32382689)), (6, .long (15)), (4, .long (26)), (17, .long (63913202)), (0, .long (2520)), (2, .long (2147483587))]) hx hb dX8_inverse_58 hl (by decide) rfl (fun ls hl => ?_)
  refine lv_lload hx hb dX8_inverse_60 (lv_at hl 4 rfl) ?_
  refine lv_lload hx hb dX8_inverse_62 (lv_at hl 1 rfl) ?_
  refine lv_lload hx hb dX8_inverse_64 (lv_at hl 3 rfl) ?_
  refine lv_lmul hx hb dX8_inverse_66 ?_
  refine nt_l (v := (63913202)) (by decide +kernel) ?_
  refine lv_lsub hx hb dX8_inverse_67 ?_
  refine nt_l (v := (-96295891)) (by decide +kernel) ?_
  refine lv_lstore (lv' := [(17, .long (-96295891)), (15, .long (11)), (13, .long (1)), (12, .int (4)), (10, .long (63913202)), (8, .long (-32382689)), (6, .long (15)), (4, .long (26)), (0, .long (2520)), (2, .long (2147483587))]) hx hb dX8_inverse_68 hl (by decide) rfl (fun ls hl => ?_)
  refine lv_lload hx hb dX8_inverse_70 (lv_at hl 6 rfl) ?_
  refine lv_lstore (lv' := [(4, .long (15)), (17, .long (-96295891)), (15, .long (11)), (13, .long (1)), (12, .int (4)), (10, .long (63913202)), (8, .long (-32382689)), (6, .long (15)), (0, .long (2520)), (2, .long (2147483587))]) hx hb dX8_inverse_72 hl (by decide) rfl (fun ls hl => ?_)
  refine lv_lload hx hb dX8_inverse_74 (lv_at hl 2 rfl) ?_
  refine lv_lstore (lv' := [(6, .long (11)), (4, .long (15)), (17, .long (-96295891)), (15, .long (11)), (13, .long (1)), (12, .int (4)), (10, .long (63913202)), (8, .long (-32382689)), (0, .long (2520)), (2, .long (2147483587))]) hx hb dX8_inverse_76 hl (by decide) rfl (fun ls hl => ?_)
  refine lv_lload hx hb dX8_inverse_78 (lv_at hl 6 rfl) ?_
  refine lv_lstore (lv' := [(8, .long (63913202)), (6, .long (11)), (4, .long (15)), (17, .long (-96295891)), (15, .long (11)), (13, .long (1)), (12, .int (4)), (10, .long (63913202)), (0, .long (2520)), (2, .long (2147483587))]) hx hb dX8_inverse_80 hl (by decide) rfl (fun ls hl => ?_)
  refine lv_lload hx hb dX8_inverse_82 (lv_at hl 3 rfl) ?_
  refine lv_lstore (lv' := [(10, .long (-96295891)), (8, .long (63913202)), (6, .long (11)), (4, .long (15)), (17, .long (-96295891)), (15, .long (11)), (13, .long (1)), (12, .int (4)), (0, .long (2520)), (2, .long (2147483587))]) hx hb dX8_inverse_84 hl (by decide) rfl (fun ls hl => ?_)
  refine lv_iinc (v := (5)) (lv' := [(12, .int (5)), (10, .long (-96295891)), (8, .long (63913202)), (6, .long (11)), (4, .long (15)), (17, .long (-96295891)), (15, .long (11)), (13, .long (1)), (0, .long (2520)), (2, .long (2147483587))]) hx hb dX8_inverse_86 hl (k := 7) rfl (by decide +kernel) (by decide) rfl (fun ls hl => ?_)
  refine lv_goto (tgt := 29) hx hb dX8_inverse_89 (by decide +kernel) ?_
  refine lv_iload hx hb dX8_inverse_29 (lv_at hl 0 rfl) ?_
  refine lv_bipush (v := (64)) hx hb dX8_inverse_31 (by decide +kernel) ?_
  refine lv_icmp_ge (tgt := 92) hx hb dX8_inverse_33 (by decide +kernel) (fun h => absurd h (by decide +kernel)) (fun _ => ?_)
  refine lv_lload hx hb dX8_inverse_36 (lv_at hl 3 rfl) ?_
  refine lv_lconst (v := (0)) hx hb dX8_inverse_38 (by decide +kernel) ?_
  refine W.lcmp hx hb dX8_inverse_39 ?_
  refine nt_i (v := (1)) (by decide +kernel) ?_
  refine lv_if_eq (tgt := 92) hx hb dX8_inverse_40 (by decide +kernel) (fun h => absurd h (by decide +kernel)) (fun _ => ?_)
  refine lv_lload hx hb dX8_inverse_43 (lv_at hl 4 rfl) ?_
  refine lv_lload hx hb dX8_inverse_45 (lv_at hl 3 rfl) ?_
  refine lv_ldiv hx hb dX8_inverse_47 (by decide +kernel) ?_
  refine nt_l (v := (1)) (by decide +kernel) ?_
  refine lv_lstore (lv' := [(13, .long (1)), (12, .int (5)), (10, .long (-96295891)), (8, .long (63913202)), (6, .long (11)), (4, .long (15)), (17, .long (-96295891)), (15, .long (11)), (0, .long (2520)), (2, .long (2147483587))]) hx hb dX8_inverse_48 hl (by decide) rfl (fun ls hl => ?_)
  refine lv_lload hx hb dX8_inverse_50 (lv_at hl 5 rfl) ?_
  refine lv_lload hx hb dX8_inverse_52 (lv_at hl 0 rfl) ?_
  refine lv_lload hx hb dX8_inverse_54 (lv_at hl 4 rfl) ?_
  refine lv_lmul hx hb dX8_inverse_56 ?_
  refine nt_l (v := (11)) (by decide +kernel) ?_
  refine lv_lsub hx hb dX8_inverse_57 ?_
  refine nt_l (v := (4)) (by decide +kernel) ?_
  refine lv_lstore (lv' := [(15, .long (4)), (13, .long (1)), (12, .int (5)), (10, .long (-96295891)), (8, .long (63913202)), (6, .long (11)), (4, .long (15)), (17, .long (-96295891)), (0, .long (2520)), (2, .long (2147483587))]) hx hb dX8_inverse_58 hl (by decide) rfl (fun ls hl => ?_)
  refine lv_lload hx hb dX8_inverse_60 (lv_at hl 4 rfl) ?_
  refine lv_lload hx hb dX8_inverse_62 (lv_at hl 1 rfl) ?_
  refine lv_lload hx hb dX8_inverse_64 (lv_at hl 3 rfl) ?_
  refine lv_lmul hx hb dX8_inverse_66 ?_
  refine nt_l (v := (-96295891)) (by decide +kernel) ?_
  refine lv_lsub hx hb dX8_inverse_67 ?_
  refine nt_l (v := (160209093)) (by decide +kernel) ?_
  refine lv_lstore (lv' := [(17, .long (160209093)), (15, .long (4)), (13, .long (1)), (12, .int (5)), (10, .long (-96295891)), (8, .long (63913202)), (6, .long (11)), (4, .long (15)), (0, .long (2520)), (2, .long (2147483587))]) hx hb dX8_inverse_68 hl (by decide) rfl (fun ls hl => ?_)
  refine lv_lload hx hb dX8_inverse_70 (lv_at hl 6 rfl) ?_
  refine lv_lstore (lv' := [(4, .long (11)), (17, .long (160209093)), (15, .long (4)), (13, .long (1)), (12, .int (5)), (10, .long (-96295891)), (8, .long (63913202)), (6, .long (11)), (0, .long (2520)), (2, .long (2147483587))]) hx hb dX8_inverse_72 hl (by decide) rfl (fun ls hl => ?_)
  refine lv_lload hx hb dX8_inverse_74 (lv_at hl 2 rfl) ?_
  refine lv_lstore (lv' := [(6, .long (4)), (4, .long (11)), (17, .long (160209093)), (15, .long (4)), (13, .long (1)), (12, .int (5)), (10, .long (-96295891)), (8, .long (63913202)), (0, .long (2520)), (2, .long (2147483587))]) hx hb dX8_inverse_76 hl (by decide) rfl (fun ls hl => ?_)
  refine lv_lload hx hb dX8_inverse_78 (lv_at hl 6 rfl) ?_
  refine lv_lstore (lv' := [(8, .long (-96295891)), (6, .long (4)), (4, .long (11)), (17, .long (160209093)), (15, .long (4)), (13, .long (1)), (12, .int (5)), (10, .long (-96295891)), (0, .long (2520)), (2, .long (2147483587))]) hx hb dX8_inverse_80 hl (by decide) rfl (fun ls hl => ?_)
  refine lv_lload hx hb dX8_inverse_82 (lv_at hl 3 rfl) ?_
  refine lv_lstore (lv' := [(10, .long (160209093)), (8, .long (-96295891)), (6, .long (4)), (4, .long (11)), (17, .long (160209093)), (15, .long (4)), (13, .long (1)), (12, .int (5)), (0, .long (2520)), (2, .long (2147483587))]) hx hb dX8_inverse_84 hl (by decide) rfl (fun ls hl => ?_)
  refine lv_iinc (v := (6)) (lv' := [(12, .int (6)), (10, .long (160209093)), (8, .long (-96295891)), (6, .long (4)), (4, .long (11)), (17, .long (160209093)), (15, .long (4)), (13, .long (1)), (0, .long (2520)), (2, .long (2147483587))]) hx hb dX8_inverse_86 hl (k := 7) rfl (by decide +kernel) (by decide) rfl (fun ls hl => ?_)
  refine lv_goto (tgt := 29) hx hb dX8_inverse_89 (by decide +kernel) ?_
  refine lv_iload hx hb dX8_inverse_29 (lv_at hl 0 rfl) ?_
  refine lv_bipush (v := (64)) hx hb dX8_inverse_31 (by decide +kernel) ?_
  refine lv_icmp_ge (tgt := 92) hx hb dX8_inverse_33 (by decide +kernel) (fun h => absurd h (by decide +kernel)) (fun _ => ?_)
  refine lv_lload hx hb dX8_inverse_36 (lv_at hl 3 rfl) ?_
  refine lv_lconst (v := (0)) hx hb dX8_inverse_38 (by decide +kernel) ?_
  refine W.lcmp hx hb dX8_inverse_39 ?_
  refine nt_i (v := (1)) (by decide +kernel) ?_
  refine lv_if_eq (tgt := 92) hx hb dX8_inverse_40 (by decide +kernel) (fun h => absurd h (by decide +kernel)) (fun _ => ?_)
  refine lv_lload hx hb dX8_inverse_43 (lv_at hl 4 rfl) ?_
  refine lv_lload hx hb dX8_inverse_45 (lv_at hl 3 rfl) ?_
  refine lv_ldiv hx hb dX8_inverse_47 (by decide +kernel) ?_
  refine nt_l (v := (2)) (by decide +kernel) ?_
  refine lv_lstore (lv' := [(13, .long (2)), (12, .int (6)), (10, .long (160209093)), (8, .long (-96295891)), (6, .long (4)), (4, .long (11)), (17, .long (160209093)), (15, .long (4)), (0, .long (2520)), (2, .long (2147483587))]) hx hb dX8_inverse_48 hl (by decide) rfl (fun ls hl => ?_)
  refine lv_lload hx hb dX8_inverse_50 (lv_at hl 5 rfl) ?_
  refine lv_lload hx hb dX8_inverse_52 (lv_at hl 0 rfl) ?_
  refine lv_lload hx hb dX8_inverse_54 (lv_at hl 4 rfl) ?_
  refine lv_lmul hx hb dX8_inverse_56 ?_
  refine nt_l (v := (8)) (by decide +kernel) ?_
  refine lv_lsub hx hb dX8_inverse_57 ?_
  refine nt_l (v := (3)) (by decide +kernel) ?_
  refine lv_lstore (lv' := [(15, .long (3)), (13, .long (2)), (12, .int (6)), (10, .long (160209093)), (8, .long (-96295891)), (6, .long (4)), (4, .long (11)), (17, .long (160209093)), (0, .long (2520)), (2, .long (2147483587))]) hx hb dX8_inverse_58 hl (by decide) rfl (fun ls hl => ?_)
  refine lv_lload hx hb dX8_inverse_60 (lv_at hl 4 rfl) ?_
  refine lv_lload hx hb dX8_inverse_62 (lv_at hl 1 rfl) ?_
  refine lv_lload hx hb dX8_inverse_64 (lv_at hl 3 rfl) ?_
  refine lv_lmul hx hb dX8_inverse_66 ?_
  refine nt_l (v := (320418186)) (by decide +kernel) ?_
  refine lv_lsub hx hb dX8_inverse_67 ?_
  refine nt_l (v := (-416714077)) (by decide +kernel) ?_
  refine lv_lstore (lv' := [(17, .long (-416714077)), (15, .long (3)), (13, .long (2)), (12, .int (6)), (10, .long (160209093)), (8, .long (-96295891)), (6, .long (4)), (4, .long (11)), (0, .long (2520)), (2, .long (2147483587))]) hx hb dX8_inverse_68 hl (by decide) rfl (fun ls hl => ?_)
  refine lv_lload hx hb dX8_inverse_70 (lv_at hl 6 rfl) ?_
  refine lv_lstore (lv' := [(4, .long (4)), (17, .long (-416714077)), (15, .long (3)), (13, .long (2)), (12, .int (6)), (10, .long (160209093)), (8, .long (-96295891)), (6, .long (4)), (0, .long (2520)), (2, .long (2147483587))]) hx hb dX8_inverse_72 hl (by decide) rfl (fun ls hl => ?_)
  refine lv_lload hx hb dX8_inverse_74 (lv_at hl 2 rfl) ?_
  refine lv_lstore (lv' := [(6, .long (3)), (4, .long (4)), (17, .long (-416714077)), (15, .long (3)), (13, .long (2)), (12, .int (6)), (10, .long (160209093)), (8, .long (-96295891)), (0, .long (2520)), (2, .long (2147483587))]) hx hb dX8_inverse_76 hl (by decide) rfl (fun ls hl => ?_)
  refine lv_lload hx hb dX8_inverse_78 (lv_at hl 6 rfl) ?_
  refine lv_lstore (lv' := [(8, .long (160209093)), (6, .long (3)), (4, .long (4)), (17, .long (-416714077)), (15, .long (3)), (13, .long (2)), (12, .int (6)), (10, .long (160209093)), (0, .long (2520)), (2, .long (2147483587))]) hx hb dX8_inverse_80 hl (by decide) rfl (fun ls hl => ?_)
  refine lv_lload hx hb dX8_inverse_82 (lv_at hl 3 rfl) ?_
  refine lv_lstore (lv' := [(10, .long (-416714077)), (8, .long (160209093)), (6, .long (3)), (4, .long (4)), (17, .long (-416714077)), (15, .long (3)), (13, .long (2)), (12, .int (6)), (0, .long (2520)), (2, .long (2147483587))]) hx hb dX8_inverse_84 hl (by decide) rfl (fun ls hl => ?_)
  refine lv_iinc (v := (7)) (lv' := [(12, .int (7)), (10, .long (-416714077)), (8, .long (160209093)), (6, .long (3)), (4, .long (4)), (17, .long (-416714077)), (15, .long (3)), (13, .long (2)), (0, .long (2520)), (2, .long (2147483587))]) hx hb dX8_inverse_86 hl (k := 7) rfl (by decide +kernel) (by decide) rfl (fun ls hl => ?_)
  refine lv_goto (tgt := 29) hx hb dX8_inverse_89 (by decide +kernel) ?_
  refine lv_iload hx hb dX8_inverse_29 (lv_at hl 0 rfl) ?_
  refine lv_bipush (v := (64)) hx hb dX8_inverse_31 (by decide +kernel) ?_
  refine lv_icmp_ge (tgt := 92) hx hb dX8_inverse_33 (by decide +kernel) (fun h => absurd h (by decide +kernel)) (fun _ => ?_)
  refine lv_lload hx hb dX8_inverse_36 (lv_at hl 3 rfl) ?_
  refine lv_lconst (v := (0)) hx hb dX8_inverse_38 (by decide +kernel) ?_
  refine W.lcmp hx hb dX8_inverse_39 ?_
  refine nt_i (v := (1)) (by decide +kernel) ?_
  refine lv_if_eq (tgt := 92) hx hb dX8_inverse_40 (by decide +kernel) (fun h => absurd h (by decide +kernel)) (fun _ => ?_)
  refine lv_lload hx hb dX8_inverse_43 (lv_at hl 4 rfl) ?_
  refine lv_lload hx hb dX8_inverse_45 (lv_at hl 3 rfl) ?_
  refine lv_ldiv hx hb dX8_inverse_47 (by decide +kernel) ?_
  refine nt_l (v := (1)) (by decide +kernel) ?_
  refine lv_lstore (lv' := [(13, .long (1)), (12, .int (7)), (10, .long (-416714077)), (8, .long (160209093)), (6, .long (3)), (4, .long (4)), (17, .long (-416714077)), (15, .long (3)), (0, .long (2520)), (2, .long (2147483587))]) hx hb dX8_inverse_48 hl (by decide) rfl (fun ls hl => ?_)
  refine lv_lload hx hb dX8_inverse_50 (lv_at hl 5 rfl) ?_
  refine lv_lload hx hb dX8_inverse_52 (lv_at hl 0 rfl) ?_
  refine lv_lload hx hb dX8_inverse_54 (lv_at hl 4 rfl) ?_
  refine lv_lmul hx hb dX8_inverse_56 ?_
  refine nt_l (v := (3)) (by decide +kernel) ?_
  refine lv_lsub hx hb dX8_inverse_57 ?_
  refine nt_l (v := (1)) (by decide +kernel) ?_
  refine lv_lstore (lv' := [(15, .long (1)), (13, .long (1)), (12, .int (7)), (10, .long (-416714077)), (8, .long (160209093)), (6, .long (3)), (4, .long (4)), (17, .long (-416714077)), (0, .long (2520)), (2, .long (2147483587))]) hx hb dX8_inverse_58 hl (by decide) rfl (fun ls hl => ?_)
  refine lv_lload hx hb dX8_inverse_60 (lv_at hl 4 rfl) ?_
  refine lv_lload hx hb dX8_inverse_62 (lv_at hl 1 rfl) ?_
  refine lv_lload hx hb dX8_inverse_64 (lv_at hl 3 rfl) ?_
  refine lv_lmul hx hb dX8_inverse_66 ?_
  refine nt_l (v := (-416714077)) (by decide +kernel) ?_
  refine lv_lsub hx hb dX8_inverse_67 ?_
  refine nt_l (v := (576923170)) (by decide +kernel) ?_
  refine lv_lstore (lv' := [(17, .long (576923170)), (15, .long (1)), (13, .long (1)), (12, .int (7)), (10, .long (-416714077)), (8, .long (160209093)), (6, .long (3)), (4, .long (4)), (0, .long (2520)), (2, .long (2147483587))]) hx hb dX8_inverse_68 hl (by decide) rfl (fun ls hl => ?_)
  refine lv_lload hx hb dX8_inverse_70 (lv_at hl 6 rfl) ?_
  refine lv_lstore (lv' := [(4, .long (3)), (17, .long (576923170)), (15, .long (1)), (13, .long (1)), (12, .int (7)), (10, .long (-416714077)), (8, .long (160209093)), (6, .long (3)), (0, .long (2520)), (2, .long (2147483587))]) hx hb dX8_inverse_72 hl (by decide) rfl (fun ls hl => ?_)
  refine lv_lload hx hb dX8_inverse_74 (lv_at hl 2 rfl) ?_
  refine lv_lstore (lv' := [(6, .long (1)), (4, .long (3)), (17, .long (576923170)), (15, .long (1)), (13, .long (1)), (12, .int (7)), (10, .long (-416714077)), (8, .long (160209093)), (0, .long (2520)), (2, .long (2147483587))]) hx hb dX8_inverse_76 hl (by decide) rfl (fun ls hl => ?_)
  refine lv_lload hx hb dX8_inverse_78 (lv_at hl 6 rfl) ?_
  refine lv_lstore (lv' := [(8, .long (-416714077)), (6, .long (1)), (4, .long (3)), (17, .long (576923170)), (15, .long (1)), (13, .long (1)), (12, .int (7)), (10, .long (-416714077)), (0, .long (2520)), (2, .long (2147483587))]) hx hb dX8_inverse_80 hl (by decide) rfl (fun ls hl => ?_)
  refine lv_lload hx hb dX8_inverse_82 (lv_at hl 3 rfl) ?_
  refine lv_lstore (lv' := [(10, .long (576923170)), (8, .long (-416714077)), (6, .long (1)), (4, .long (3)), (17, .long (576923170)), (15, .long (1)), (13, .long (1)), (12, .int (7)), (0, .long (2520)), (2, .long (2147483587))]) hx hb dX8_inverse_84 hl (by decide) rfl (fun ls hl => ?_)
  refine lv_iinc (v := (8)) (lv' := [(12, .int (8)), (10, .long (576923170)), (8, .long (-416714077)), (6, .long (1)), (4, .long (3)), (17, .long (576923170)), (15, .long (1)), (13, .long (1)), (0, .long (2520)), (2, .long (2147483587))]) hx hb dX8_inverse_86 hl (k := 7) rfl (by decide +kernel) (by decide) rfl (fun ls hl => ?_)
  refine lv_goto (tgt := 29) hx hb dX8_inverse_89 (by decide +kernel) ?_
  refine lv_iload hx hb dX8_inverse_29 (lv_at hl 0 rfl) ?_
  refine lv_bipush (v := (64)) hx hb dX8_inverse_31 (by decide +kernel) ?_
  refine lv_icmp_ge (tgt := 92) hx hb dX8_inverse_33 (by decide +kernel) (fun h => absurd h (by decide +kernel)) (fun _ => ?_)
  refine lv_lload hx hb dX8_inverse_36 (lv_at hl 3 rfl) ?_
  refine lv_lconst (v := (0)) hx hb dX8_inverse_38 (by decide +kernel) ?_
  refine W.lcmp hx hb dX8_inverse_39 ?_
  refine nt_i (v := (1)) (by decide +kernel) ?_
  refine lv_if_eq (tgt := 92) hx hb dX8_inverse_40 (by decide +kernel) (fun h => absurd h (by decide +kernel)) (fun _ => ?_)
  refine lv_lload hx hb dX8_inverse_43 (lv_at hl 4 rfl) ?_
  refine lv_lload hx hb dX8_inverse_45 (lv_at hl 3 rfl) ?_
  refine lv_ldiv hx hb dX8_inverse_47 (by decide +kernel) ?_
  refine nt_l (v := (3)) (by decide +kernel) ?_
  refine lv_lstore (lv' := [(13, .long (3)), (12, .int (8)), (10, .long (576923170)), (8, .long (-416714077)), (6, .long (1)), (4, .long (3)), (17, .long (576923170)), (15, .long (1)), (0, .long (2520)), (2, .long (2147483587))]) hx hb dX8_inverse_48 hl (by decide) rfl (fun ls hl => ?_)
  refine lv_lload hx hb dX8_inverse_50 (lv_at hl 5 rfl) ?_
  refine lv_lload hx hb dX8_inverse_52 (lv_at hl 0 rfl) ?_
  refine lv_lload hx hb dX8_inverse_54 (lv_at hl 4 rfl) ?_
  refine lv_lmul hx hb dX8_inverse_56 ?_
  refine nt_l (v := (3)) (by decide +kernel) ?_
  refine lv_lsub hx hb dX8_inverse_57 ?_
  refine nt_l (v := (0)) (by decide +kernel) ?_
  refine lv_lstore (lv' := [(15, .long (0)), (13, .long (3)), (12, .int (8)), (10, .long (576923170)), (8, .long (-416714077)), (6, .long (1)), (4, .long (3)), (17, .long (576923170)), (0, .long (2520)), (2, .long (2147483587))]) hx hb dX8_inverse_58 hl (by decide) rfl (fun ls hl => ?_)
  refine lv_lload hx hb dX8_inverse_60 (lv_at hl 4 rfl) ?_
  refine lv_lload hx hb dX8_inverse_62 (lv_at hl 1 rfl) ?_
  refine lv_lload hx hb dX8_inverse_64 (lv_at hl 3 rfl) ?_
  refine lv_lmul hx hb dX8_inverse_66 ?_
  refine nt_l (v := (1730769510)) (by decide +kernel) ?_
  refine lv_lsub hx hb dX8_inverse_67 ?_
  refine nt_l (v := (-2147483587)) (by decide +kernel) ?_
  refine lv_lstore (lv' := [(17, .long (-2147483587)), (15, .long (0)), (13, .long (3)), (12, .int (8)), (10, .long (576923170)), (8, .long (-416714077)), (6, .long (1)), (4, .long (3)), (0, .long (2520)), (2, .long (2147483587))]) hx hb dX8_inverse_68 hl (by decide) rfl (fun ls hl => ?_)
  refine lv_lload hx hb dX8_inverse_70 (lv_at hl 6 rfl) ?_
  refine lv_lstore (lv' := [(4, .long (1)), (17, .long (-2147483587)), (15, .long (0)), (13, .long (3)), (12, .int (8)), (10, .long (576923170)), (8, .long (-416714077)), (6, .long (1)), (0, .long (2520)), (2, .long (2147483587))]) hx hb dX8_inverse_72 hl (by decide) rfl (fun ls hl => ?_)
  refine lv_lload hx hb dX8_inverse_74 (lv_at hl 2 rfl) ?_
  refine lv_lstore (lv' := [(6, .long (0)), (4, .long (1)), (17, .long (-2147483587)), (15, .long (0)), (13, .long (3)), (12, .int (8)), (10, .long (576923170)), (8, .long (-416714077)), (0, .long (2520)), (2, .long (2147483587))]) hx hb dX8_inverse_76 hl (by decide) rfl (fun ls hl => ?_)
  refine lv_lload hx hb dX8_inverse_78 (lv_at hl 6 rfl) ?_
  refine lv_lstore (lv' := [(8, .long (576923170)), (6, .long (0)), (4, .long (1)), (17, .long (-2147483587)), (15, .long (0)), (13, .long (3)), (12, .int (8)), (10, .long (576923170)), (0, .long (2520)), (2, .long (2147483587))]) hx hb dX8_inverse_80 hl (by decide) rfl (fun ls hl => ?_)
  refine lv_lload hx hb dX8_inverse_82 (lv_at hl 3 rfl) ?_
  refine lv_lstore (lv' := [(10, .long (-2147483587)), (8, .long (576923170)), (6, .long (0)), (4, .long (1)), (17, .long (-2147483587)), (15, .long (0)), (13, .long (3)), (12, .int (8)), (0, .long (2520)), (2, .long (2147483587))]) hx hb dX8_inverse_84 hl (by decide) rfl (fun ls hl => ?_)
  refine lv_iinc (v := (9)) (lv' := [(12, .int (9)), (10, .long (-2147483587)), (8, .long (576923170)), (6, .long (0)), (4, .long (1)), (17, .long (-2147483587)), (15, .long (0)), (13, .long (3)), (0, .long (2520)), (2, .long (2147483587))]) hx hb dX8_inverse_86 hl (k := 7) rfl (by decide +kernel) (by decide) rfl (fun ls hl => ?_)
  refine lv_goto (tgt := 29) hx hb dX8_inverse_89 (by decide +kernel) ?_
  refine lv_iload hx hb dX8_inverse_29 (lv_at hl 0 rfl) ?_
  refine lv_bipush (v := (64)) hx hb dX8_inverse_31 (by decide +kernel) ?_
  refine lv_icmp_ge (tgt := 92) hx hb dX8_inverse_33 (by decide +kernel) (fun h => absurd h (by decide +kernel)) (fun _ => ?_)
  refine lv_lload hx hb dX8_inverse_36 (lv_at hl 3 rfl) ?_
  refine lv_lconst (v := (0)) hx hb dX8_inverse_38 (by decide +kernel) ?_
  refine W.lcmp hx hb dX8_inverse_39 ?_
  refine nt_i (v := (0)) (by decide +kernel) ?_
  refine lv_if_eq (tgt := 92) hx hb dX8_inverse_40 (by decide +kernel) (fun _ => ?_) (fun h => absurd (by decide +kernel) h)
  refine lv_lload hx hb dX8_inverse_92 (lv_at hl 2 rfl) ?_
  refine lv_lload_n hx hb dX8_inverse_94 rfl (lv_at hl 9 rfl) ?_
  have hX : nCx p s m _ c prog_10_method_4_code 19 "Minestrata$Radix" dC dI g A [] _ _ := ⟨⟨hx, hb, hml, hown, hts⟩, hE, hS, hA, hP, hD⟩
  refine n_call (wr := []) hX (n_runS (n := 2) (wc := []) (As := [.long (576923170), .long (2147483587)]) (rest := []) hX (m251 l hst dC dI g _) [] rfl (by decide +kernel) q612 q613 q96 q614 (by decide +kernel) ⟨(Nat.le_of_ble_eq_true rfl), (Nat.le_of_ble_eq_true rfl)⟩ ⟨(Nat.le_of_ble_eq_true rfl), (Nat.le_of_ble_eq_true rfl)⟩ hl.1 rfl rfl (Nat.le_of_ble_eq_true rfl) dX8_inverse_95) [] [] rfl rfl (by decide +kernel) (by decide +kernel) (fun f3 r4 H locs hP hD hS => ?_)
  have hP : va_P (dC, dI) CL [] _ := hP
  have hD : va_D A [] := hD
  refine W.widen (k := 0) (n := 0) (Nat.le_of_ble_eq_true rfl) (Nat.le_of_ble_eq_true rfl) ?_
  refine W.eq (g2 := F0 m 98 ls [.long (576923170)]) rfl ?_
  refine W.widen (k := 0) (n := 0) (Nat.le_of_ble_eq_true rfl) (Nat.le_of_ble_eq_true rfl) ?_
  exact W.lret hx hb hr (n_end hS hP hD [] (by decide +kernel) (fun _ => 0) (fun _ => 0) rfl rfl rfl) hS.2.2 dX8_inverse_98 hlk

