/-! THE CLAIM OUT OF ONE WALK OF THE LAW'S BODY. Your part is whole_start (and what it stands on); all else here is the same for every law, but numbers. -/
def R_law : String := "MinestrataLaw"
def lw_P (b : Addr) (xs : List Int32) (args : Array Value) (s : State) : Prop := args = #[.ref b] ∧ s.IntsAt b xs ∧ xs.length ≤ 5 ∧ (Jvm.Cond.and given_1 narrow_1).before args s = true
/-- what a walk over the start with the record d0 says of its end, said of the start itself -/
theorem lw_closed {s t : State} {o : Outcome} {d0 : Drawn} {L : List Loc} {k n : Nat} (hd0 : s.drawn.sameBut d0 lw_cs) (hv : ∃ v, o = .returned v) (hW : (s.setDrawn d0).WarmedH t.vm) (hs : (s.setDrawn d0).sameButNew ({ t with vm := s.vm } : State) L k n) : State.butDraws s t lw_cs (fun t1 => Framed s o t1 L k n) := by
  have h2 : t.drawn = d0 := congrArg State.drawn hs.1
  refine ⟨⟨hv, hW, State.sameButNew.setDrawn hs s.drawn⟩, ?_, by decide⟩
  rw [h2]
  exact hd0
def lw_Q (_ : Array Value) (s : State) (o : Outcome) (t : State) : Prop := o = .returned (some (.int 1)) ∧ State.butDraws s t lw_cs (fun t1 => Framed s o t1 [] 600006 7302056)
def lw_Z (below : List Frame) (a : Array Value) (s : State) : State → Prop := fun t => ∃ o, t.status = .running ∧ Ended t below o ∧ lw_Q a s o t
/-- the law's own end, with 1 on the stack, nothing written that was there before, its room as the claim has it; d0: the record of draws at this point (at the entry s.drawn: begin with 'refine W.base ?_' and 'have hd0 := Drawn.sameBut.refl s.drawn lw_cs') -/
theorem lw_ret {p : Program} {l : Launch} {e : Env} {s : State} {m : MethodId} {below : List Frame} {meth : Method} {c : Code} {b : Nat} {d0 : Drawn} (hd0 : s.drawn.sameBut d0 lw_cs) (hx : p.tables.exec = Jvm.exec) (hb : c.code = code) (hr : meth.sig.returnType = ret) (hlocks : meth.locks = false) {pc : Nat} {H : Heap} {ls : Array Slot} (hdg : decode code pc = .ok (.ireturn, 1)) : W p l e room_1 (s.setDrawn d0) m #[Value.ref b] below meth c H [] 600006 7302056 (lw_Z below #[Value.ref b] s) (F0 m pc ls [.int 1]) := by
  intro T hT X
  obtain ⟨fs, hret, hrun, hended, hW, hframe⟩ := X.leave (v := some (.int 1)) (hlocks := hlocks) (fun h => by rw [hr] at h; cases h)
  have hmeth' : T.vm.method? m = some meth := X.method'
  refine ⟨T.setFrames fs, ?_, .returned (some (.int 1)), hrun, hended, rfl, lw_closed hd0 ⟨_, rfl⟩ hW hframe⟩
  jvm_step X.here [X.here.top, hx, hb, hdg, hmeth', hr, ret, narrow_b1]
  (try refine ⟨rfl, ?_⟩); (try refine ⟨rfl, ?_⟩)
  first | (intro acts; rw [hret _ acts rfl rfl rfl]) | rw [hret _ _ rfl rfl rfl]
  exact Steps.refl _
/-- what holds at the law's entry: the machine, the code, the tables' words (any of lw_tbl by 'hts w (by decide +kernel)'), the script of L ints xs at the cell b, what the Statement gives of the start (any of its parts by flat_of_before) -/
def lw_At (p : Program) (s : State) (m : MethodId) (meth : Method) (c : Code) (b L : Nat) (xs : Nat → Int32) : Prop :=
  p.tables.exec = Jvm.exec ∧ c.code = code ∧ meth.sig.returnType = ret ∧ c.maxLocals = 9 ∧ s.vm.findClass R_law = some m.cls ∧ (∀ w ∈ lw_tbl, w.before #[Value.ref b] s = true) ∧ va_X b L xs s s.heap ∧ b < s.heap.size ∧ meth.locks = false ∧ (Jvm.Cond.and given_1 narrow_1).before #[Value.ref b] s = true
set_option maxHeartbeats 4000000 in
set_option maxRecDepth 100000 in
/-- what the start gives -/
theorem law_env {s : State} {b : Nat} (hts0 : ∀ w ∈ lw_tbl, w.before #[Value.ref b] s = true) (hgv : (Jvm.Cond.and given_1 narrow_1).before #[Value.ref b] s = true) : ∃ (dC : Nat → ClassId) (dI : Nat → Nat → Nat) (g : Nat → Nat), EV dC dI g (fun q => s.heap.size ≤ q) s := by
  have hts : ∀ w ∈ AW, w.before #[Value.ref b] s = true := fun w h => hts0 w (aw_tbl h)
  have hs := flat_of_before _ hgv
  obtain ⟨c0, i0, k0⟩ := u_known (C := "java/util/ArrayList$Itr") (T := TJx35411) (N := 4) (n := 4) hts inJx35411 (hts _ q1784)
  obtain ⟨c1, i1, k1⟩ := u_known (C := "java/util/ArrayList") (T := TJx4a65c) (N := 3) (n := 3) hts inJx4a65c (hts _ q1397)
  obtain ⟨c2, i2, k2⟩ := u_known (C := "Minestrata$Air") (T := TX0) (N := 16) (n := 16) hts inX0 (hts _ q251)
  obtain ⟨c3, i3, k3⟩ := u_known (C := "Minestrata$Equations") (T := TX2) (N := 2) (n := 2) hts inX2 (hts _ q303)
  obtain ⟨c4, i4, k4⟩ := u_known (C := "Minestrata$Escape") (T := TX3) (N := 4) (n := 4) hts inX3 (hts _ q484)
  obtain ⟨c5, i5, k5⟩ := u_known (C := "Minestrata$Fraction") (T := TX4) (N := 6) (n := 6) hts inX4 (hts _ q320)
  obtain ⟨c6, i6, k6⟩ := u_known (C := "Minestrata$Gas") (T := TX5) (N := 13) (n := 13) hts inX5 (hts _ q409)
  obtain ⟨c7, i7, k7⟩ := u_known (C := "Minestrata$Groups") (T := TX6) (N := 3) (n := 3) hts inX6 (hts _ q282)
  obtain ⟨c8, i8, k8⟩ := u_known (C := "Minestrata$Net") (T := TX7) (N := 13) (n := 13) hts inX7 (hts _ q121)
  obtain ⟨c9, i9, k9⟩ := u_known (C := "Minestrata$Radix") (T := TX8) (N := 3) (n := 3) hts inX8 (hts _ q257)
  obtain ⟨c10, i10, k10⟩ := u_known (C := "Minestrata$Sensors") (T := TX9) (N := 3) (n := 3) hts inX9 (hts _ q466)
  obtain ⟨c11, i11, k11⟩ := u_known (C := "Minestrata$Stopes") (T := TX10) (N := 10) (n := 10) hts inX10 (hts _ q203)
  obtain ⟨c12, i12, k12⟩ := u_known (C := "Minestrata") (T := TX11) (N := 18) (n := 18) hts inX11 (hts _ q113)
  obtain ⟨c13, i13, k13⟩ := u_known (C := "MinestrataModel$Air") (T := TX12) (N := 7) (n := 7) hts inX12 (hts _ q1696)
  obtain ⟨c14, i14, k14⟩ := u_known (C := "MinestrataModel$Big") (T := TX13) (N := 2) (n := 2) hts inX13 (hts _ q1711)
  obtain ⟨c15, i15, k15⟩ := u_known (C := "MinestrataModel") (T := TX16) (N := 20) (n := 20) hts inX16 (hts _ q1391)
  obtain ⟨cI, hI⟩ := n_prim (ty := .int) (hts _ q201) (fun _ _ => rfl)
  obtain ⟨cJ, hJ⟩ := n_prim (ty := .long) (hts _ q278) (fun _ _ => rfl)
  obtain ⟨cZ, hZ⟩ := n_prim (ty := .boolean) (hts _ q200) (fun _ _ => rfl)
  obtain ⟨cD, hD⟩ := n_prim (ty := .double) (hts _ q2233) (fun _ _ => rfl)
  obtain ⟨cC, hC⟩ := n_prim (ty := .char) (hts _ q249) (fun _ _ => rfl)
  have oJJ := (hts0 _ (tm1 (List.mem_of_getElem? (i := 210) rfl) : (Jvm.Cond.arrayOver (Jvm.ClassFile.FieldType.array Jvm.ClassFile.FieldType.long)) ∈ lw_tbl))
  obtain ⟨cJJ, hJJ⟩ := n_grid oJJ
  have oZZ := (hts0 _ (tm6 (List.mem_of_getElem? (i := 156) rfl) : (Jvm.Cond.arrayOver (Jvm.ClassFile.FieldType.array Jvm.ClassFile.FieldType.boolean)) ∈ lw_tbl))
  obtain ⟨cZZ, hZZ⟩ := n_grid oZZ
  have oB := (hts0 _ (tm7 (List.mem_of_getElem? (i := 192) rfl) : (Jvm.Cond.arrayOver (Jvm.ClassFile.FieldType.object "MinestrataModel$Big")) ∈ lw_tbl))
  obtain ⟨cB, hB⟩ := n_obj oB
  have oBB := (hts0 _ (tm8 (List.mem_of_getElem? (i := 25) rfl) : (Jvm.Cond.arrayOver (Jvm.ClassFile.FieldType.array (Jvm.ClassFile.FieldType.object "MinestrataModel$Big"))) ∈ lw_tbl))
  obtain ⟨cBB, hBB⟩ := n_grid oBB
  have hAn : ∀ a : Nat, a < s.heap.size → ¬ (fun q : Nat => s.heap.size ≤ q) a := fun a h => Nat.not_le.mpr h
  obtain ⟨tP, hp1, hp2⟩ := va_Tof (ty := .int) (N := 32) (f := PR) (A := fun q : Nat => s.heap.size ≤ q) (by decide) (hs (Jvm.Cond.arrayOf (Jvm.Term.static "Minestrata$Radix" "PRIMES" "[I") .int) (by decide +kernel)) (va_eqt (hs (Jvm.Cond.eq (.length (Jvm.Term.static "Minestrata$Radix" "PRIMES" "[I")) (.int 32)) (by decide +kernel))) (fun j hj => match j, hj with
    | 0, _ => va_eqt (hs (Jvm.Cond.eq (.elem (Jvm.Term.static "Minestrata$Radix" "PRIMES" "[I") (.int 0)) (.int 2147483647)) (by decide +kernel))
    | 1, _ => va_eqt (hs (Jvm.Cond.eq (.elem (Jvm.Term.static "Minestrata$Radix" "PRIMES" "[I") (.int 1)) (.int 2147483629)) (by decide +kernel))
    | 2, _ => va_eqt (hs (Jvm.Cond.eq (.elem (Jvm.Term.static "Minestrata$Radix" "PRIMES" "[I") (.int 2)) (.int 2147483587)) (by decide +kernel))
    | 3, _ => va_eqt (hs (Jvm.Cond.eq (.elem (Jvm.Term.static "Minestrata$Radix" "PRIMES" "[I") (.int 3)) (.int 2147483579)) (by decide +kernel))
    | 4, _ => va_eqt (hs (Jvm.Cond.eq (.elem (Jvm.Term.static "Minestrata$Radix" "PRIMES" "[I") (.int 4)) (.int 2147483563)) (by decide +kernel))
    | 5, _ => va_eqt (hs (Jvm.Cond.eq (.elem (Jvm.Term.static "Minestrata$Radix" "PRIMES" "[I") (.int 5)) (.int 2147483549)) (by decide +kernel))
    | 6, _ => va_eqt (hs (Jvm.Cond.eq (.elem (Jvm.Term.static "Minestrata$Radix" "PRIMES" "[I") (.int 6)) (.int 2147483543)) (by decide +kernel))
    | 7, _ => va_eqt (hs (Jvm.Cond.eq (.elem (Jvm.Term.static "Minestrata$Radix" "PRIMES" "[I") (.int 7)) (.int 2147483497)) (by decide +kernel))
    | 8, _ => va_eqt (hs (Jvm.Cond.eq (.elem (Jvm.Term.static "Minestrata$Radix" "PRIMES" "[I") (.int 8)) (.int 2147483489)) (by decide +kernel))
    | 9, _ => va_eqt (hs (Jvm.Cond.eq (.elem (Jvm.Term.static "Minestrata$Radix" "PRIMES" "[I") (.int 9)) (.int 2147483477)) (by decide +kernel))
    | 10, _ => va_eqt (hs (Jvm.Cond.eq (.elem (Jvm.Term.static "Minestrata$Radix" "PRIMES" "[I") (.int 10)) (.int 2147483423)) (by decide +kernel))
    | 11, _ => va_eqt (hs (Jvm.Cond.eq (.elem (Jvm.Term.static "Minestrata$Radix" "PRIMES" "[I") (.int 11)) (.int 2147483399)) (by decide +kernel))
    | 12, _ => va_eqt (hs (Jvm.Cond.eq (.elem (Jvm.Term.static "Minestrata$Radix" "PRIMES" "[I") (.int 12)) (.int 2147483353)) (by decide +kernel))
    | 13, _ => va_eqt (hs (Jvm.Cond.eq (.elem (Jvm.Term.static "Minestrata$Radix" "PRIMES" "[I") (.int 13)) (.int 2147483323)) (by decide +kernel))
    | 14, _ => va_eqt (hs (Jvm.Cond.eq (.elem (Jvm.Term.static "Minestrata$Radix" "PRIMES" "[I") (.int 14)) (.int 2147483269)) (by decide +kernel))
    | 15, _ => va_eqt (hs (Jvm.Cond.eq (.elem (Jvm.Term.static "Minestrata$Radix" "PRIMES" "[I") (.int 15)) (.int 2147483249)) (by decide +kernel))
    | 16, _ => va_eqt (hs (Jvm.Cond.eq (.elem (Jvm.Term.static "Minestrata$Radix" "PRIMES" "[I") (.int 16)) (.int 2147483237)) (by decide +kernel))
    | 17, _ => va_eqt (hs (Jvm.Cond.eq (.elem (Jvm.Term.static "Minestrata$Radix" "PRIMES" "[I") (.int 17)) (.int 2147483179)) (by decide +kernel))
    | 18, _ => va_eqt (hs (Jvm.Cond.eq (.elem (Jvm.Term.static "Minestrata$Radix" "PRIMES" "[I") (.int 18)) (.int 2147483171)) (by decide +kernel))
    | 19, _ => va_eqt (hs (Jvm.Cond.eq (.elem (Jvm.Term.static "Minestrata$Radix" "PRIMES" "[I") (.int 19)) (.int 2147483137)) (by decide +kernel))
    | 20, _ => va_eqt (hs (Jvm.Cond.eq (.elem (Jvm.Term.static "Minestrata$Radix" "PRIMES" "[I") (.int 20)) (.int 2147483123)) (by decide +kernel))
    | 21, _ => va_eqt (hs (Jvm.Cond.eq (.elem (Jvm.Term.static "Minestrata$Radix" "PRIMES" "[I") (.int 21)) (.int 2147483077)) (by decide +kernel))
    | 22, _ => va_eqt (hs (Jvm.Cond.eq (.elem (Jvm.Term.static "Minestrata$Radix" "PRIMES" "[I") (.int 22)) (.int 2147483069)) (by decide +kernel))
    | 23, _ => va_eqt (hs (Jvm.Cond.eq (.elem (Jvm.Term.static "Minestrata$Radix" "PRIMES" "[I") (.int 23)) (.int 2147483059)) (by decide +kernel))
    | 24, _ => va_eqt (hs (Jvm.Cond.eq (.elem (Jvm.Term.static "Minestrata$Radix" "PRIMES" "[I") (.int 24)) (.int 2147483053)) (by decide +kernel))
    | 25, _ => va_eqt (hs (Jvm.Cond.eq (.elem (Jvm.Term.static "Minestrata$Radix" "PRIMES" "[I") (.int 25)) (.int 2147483033)) (by decide +kernel))
    | 26, _ => va_eqt (hs (Jvm.Cond.eq (.elem (Jvm.Term.static "Minestrata$Radix" "PRIMES" "[I") (.int 26)) (.int 2147483029)) (by decide +kernel))
    | 27, _ => va_eqt (hs (Jvm.Cond.eq (.elem (Jvm.Term.static "Minestrata$Radix" "PRIMES" "[I") (.int 27)) (.int 2147482951)) (by decide +kernel))
    | 28, _ => va_eqt (hs (Jvm.Cond.eq (.elem (Jvm.Term.static "Minestrata$Radix" "PRIMES" "[I") (.int 28)) (.int 2147482949)) (by decide +kernel))
    | 29, _ => va_eqt (hs (Jvm.Cond.eq (.elem (Jvm.Term.static "Minestrata$Radix" "PRIMES" "[I") (.int 29)) (.int 2147482943)) (by decide +kernel))
    | 30, _ => va_eqt (hs (Jvm.Cond.eq (.elem (Jvm.Term.static "Minestrata$Radix" "PRIMES" "[I") (.int 30)) (.int 2147482937)) (by decide +kernel))
    | 31, _ => va_eqt (hs (Jvm.Cond.eq (.elem (Jvm.Term.static "Minestrata$Radix" "PRIMES" "[I") (.int 31)) (.int 2147482921)) (by decide +kernel))
    | k9 + 32, h9 => absurd h9 (by omega)) hAn
  obtain ⟨tE, cellE, he1, -, -⟩ := Term.length_spec (va_eqt (hs (Jvm.Cond.eq (.length (Jvm.Term.static "java/util/ArrayList" "DEFAULTCAPACITY_EMPTY_ELEMENTDATA" "[Ljava/lang/Object;")) (.int 0)) (by decide +kernel)))
  have hz1 := va_Zref (A := fun q : Nat => s.heap.size ≤ q) (hts0 _ (tm3 (List.mem_of_getElem? (i := 45) rfl) : (Jvm.Cond.laysStatic "Minestrata$Radix" "PRIMES" "[I") ∈ lw_tbl)) (hts _ q75) hp1 hAn
  have hz2 := va_Zref (A := fun q : Nat => s.heap.size ≤ q) (hts0 _ (tm6 (List.mem_of_getElem? (i := 139) rfl) : (Jvm.Cond.laysStatic "java/util/ArrayList" "DEFAULTCAPACITY_EMPTY_ELEMENTDATA" "[Ljava/lang/Object;") ∈ lw_tbl)) (hts _ q85) he1 hAn
  have hz3 := vx_Zqof (A := fun q : Nat => s.heap.size ≤ q) (hts0 _ (tm4 (List.mem_of_getElem? (i := 54) rfl) : (Jvm.Cond.laysStatic "java/lang/Throwable" "UNASSIGNED_STACK" "[Ljava/lang/StackTraceElement;") ∈ lw_tbl)) (hts _ q86) (hs (Jvm.Cond.isRef (.static "java/lang/Throwable" "UNASSIGNED_STACK" "[Ljava/lang/StackTraceElement;")) (by decide +kernel)) hAn
  have hz4 := vx_Zqof (A := fun q : Nat => s.heap.size ≤ q) (hts0 _ (tm4 (List.mem_of_getElem? (i := 56) rfl) : (Jvm.Cond.laysStatic "java/lang/Throwable" "SUPPRESSED_SENTINEL" "Ljava/util/List;") ∈ lw_tbl)) (hts _ q86) (hs (Jvm.Cond.isRef (.static "java/lang/Throwable" "SUPPRESSED_SENTINEL" "Ljava/util/List;")) (by decide +kernel)) hAn
  have hf := va_Fw.of (C := "java/util/ArrayList$Itr") (x := hN_x) (y := hN_y) (hts0 _ (tm8 (List.mem_of_getElem? (i := 55) rfl) : (Jvm.Cond.declares ({ cls := "java/util/Iterator", name := "hasNext", desc := "()Z" } : Jvm.MethodName)) ∈ lw_tbl)) (hts0 _ (tm8 (List.mem_of_getElem? (i := 54) rfl) : (Jvm.Cond.interfaceMethod "java/util/Iterator" "java/util/Iterator" "hasNext" "()Z") ∈ lw_tbl)) (hts0 _ (tm8 (List.mem_of_getElem? (i := 60) rfl) : (Jvm.Cond.publicMethod ({ cls := "java/util/ArrayList$Itr", name := "hasNext", desc := "()Z" } : Jvm.MethodName)) ∈ lw_tbl)) (hts0 _ (tm8 (List.mem_of_getElem? (i := 58) rfl) : (Jvm.Cond.unhidden "java/util/ArrayList$Itr" "hasNext" "()Z") ∈ lw_tbl)) (hts0 _ (tm8 (List.mem_of_getElem? (i := 56) rfl) : (Jvm.Cond.castable "java/util/ArrayList$Itr" "java/util/Iterator") ∈ lw_tbl))
  refine ⟨fun k => match k with | 0 => c0 | 1 => c1 | 2 => c2 | 3 => c3 | 4 => c4 | 5 => c5 | 6 => c6 | 7 => c7 | 8 => c8 | 9 => c9 | 10 => c10 | 11 => c11 | 12 => c12 | 13 => c13 | 14 => c14 | 15 => c15 | _ => 0, fun k => match k with | 0 => i0 | 1 => i1 | 2 => i2 | 3 => i3 | 4 => i4 | 5 => i5 | 6 => i6 | 7 => i7 | 8 => i8 | 9 => i9 | 10 => i10 | 11 => i11 | 12 => i12 | 13 => i13 | 14 => i14 | 15 => i15 | _ => fun _ => 0, fun k => match k with | 0 => cI | 1 => cJ | 2 => cZ | 3 => cD | 4 => cC | 5 => cJJ | 6 => cZZ | 7 => cB | 8 => cBB | 20 => tP | 21 => tE | _ => 0, ⟨?_, ?_⟩, ?_, ⟨va_AOA.of oJJ, va_AOA.of oZZ, va_AOA.of oBB, va_AO.of oB⟩, ?_, hf, ⟨hz1, hp2⟩, hz2, hz3, hz4, ?_⟩
  · intro k q9 hq9
    match k, hq9 with
    | 0, hq9 => cases hq9; exact k0
    | 1, hq9 => cases hq9; exact k1
    | 2, hq9 => cases hq9; exact k2
    | 3, hq9 => cases hq9; exact k3
    | 4, hq9 => cases hq9; exact k4
    | 5, hq9 => cases hq9; exact k5
    | 6, hq9 => cases hq9; exact k6
    | 7, hq9 => cases hq9; exact k7
    | 8, hq9 => cases hq9; exact k8
    | 9, hq9 => cases hq9; exact k9
    | 10, hq9 => cases hq9; exact k10
    | 11, hq9 => cases hq9; exact k11
    | 12, hq9 => cases hq9; exact k12
    | 13, hq9 => cases hq9; exact k13
    | 14, hq9 => cases hq9; exact k14
    | 15, hq9 => cases hq9; exact k15
    | k + 16, hq9 => simp [CL] at hq9
  · intro k q9 hq9
    match k, hq9 with
    | 0, hq9 => cases hq9; exact hI
    | 1, hq9 => cases hq9; exact hJ
    | 2, hq9 => cases hq9; exact hZ
    | 3, hq9 => cases hq9; exact hD
    | 4, hq9 => cases hq9; exact hC
    | 5, hq9 => cases hq9; exact hJJ
    | 6, hq9 => cases hq9; exact hZZ
    | 7, hq9 => cases hq9; exact hB
    | 8, hq9 => cases hq9; exact hBB
    | k + 9, hq9 => simp [TY] at hq9
  · exact fun w hw => va_Nw.of (nw_tab (List.mem_filter.mp hw).2) (hts0 w (List.mem_filter.mp hw).1)
  · intro q9 hq9
    simp only [NCL, List.mem_cons, List.not_mem_nil, or_false] at hq9
    rcases hq9 with rfl | rfl | rfl | rfl | rfl
    · exact va_Nc.of (hs (Jvm.Cond.not (.castable "java/lang/IllegalArgumentException" "java/lang/IndexOutOfBoundsException")) (by decide +kernel))
    · exact va_Nc.of (hs (Jvm.Cond.not (.castable "java/lang/IllegalStateException" "java/lang/IllegalArgumentException")) (by decide +kernel))
    · exact va_Nc.of (hs (Jvm.Cond.not (.castable "java/lang/IndexOutOfBoundsException" "java/lang/IllegalArgumentException")) (by decide +kernel))
    · exact va_Nc.of (hs (Jvm.Cond.not (.castable "java/lang/UnsupportedOperationException" "java/lang/IllegalArgumentException")) (by decide +kernel))
    · exact va_Nc.of (hs (Jvm.Cond.not (.castable "java/lang/UnsupportedOperationException" "java/lang/IndexOutOfBoundsException")) (by decide +kernel))
  · exact fun w hw => va_Nw.of (xw_tab (List.mem_filter.mp hw).2) (hts0 w (List.mem_filter.mp hw).1)
