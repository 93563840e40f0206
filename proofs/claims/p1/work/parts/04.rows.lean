section NB2
/-- the array classes that the walk meets -/
abbrev TY (g : Nat → Nat) : List (ClassId × FieldType) := [(g 0, .int), (g 1, .long), (g 2, .boolean), (g 3, .double), (g 4, .char), (g 5, .array .long), (g 6, .array .boolean), (g 7, .object "MinestrataModel$Big"), (g 8, .array (.object "MinestrataModel$Big"))]
def PR (j : Nat) : Value := .int (([2147483647, 2147483629, 2147483587, 2147483579, 2147483563, 2147483549, 2147483543, 2147483497, 2147483489, 2147483477, 2147483423, 2147483399, 2147483353, 2147483323, 2147483269, 2147483249, 2147483237, 2147483179, 2147483171, 2147483137, 2147483123, 2147483077, 2147483069, 2147483059, 2147483053, 2147483033, 2147483029, 2147482951, 2147482949, 2147482943, 2147482937, 2147482921] : List Int32).getD j 0)
abbrev NCL : List (String × String) := [("java/lang/IllegalArgumentException", "java/lang/IndexOutOfBoundsException"), ("java/lang/IllegalStateException", "java/lang/IllegalArgumentException"), ("java/lang/IndexOutOfBoundsException", "java/lang/IllegalArgumentException"), ("java/lang/UnsupportedOperationException", "java/lang/IllegalArgumentException"), ("java/lang/UnsupportedOperationException", "java/lang/IndexOutOfBoundsException")]
abbrev hN_x : MethodName := ⟨"java/util/Iterator", "hasNext", "()Z"⟩
abbrev hN_y : MethodName := ⟨"java/util/ArrayList$Itr", "hasNext", "()Z"⟩
def XW : List Cond := lw_tbl.filter Cond.faceAtom
theorem xw_mem {i : Nat} {w : Cond} (h : lw_tbl[i]? = some w) (g : w.faceAtom = true) : w ∈ XW := List.mem_filter.mpr ⟨List.mem_of_getElem? h, g⟩
theorem xw_tab {w : Cond} (h : w.faceAtom = true) : w.onTables = true := by
  cases w <;> first | rfl | (simp [Cond.faceAtom] at h)
theorem xw_move {s U : State} (hW : s.WarmedH U.vm) {w : Cond} (hw : w.faceAtom = true) (h : va_Nw w s) : va_Nw w U := va_tabs (xw_tab hw) (rfl : (s.setVm U.vm).vm = U.vm) (Cond.faceAtom_setVm hW.alike w hw h)
/-- what of the world never changes: the tables, and statics that nobody writes -/
def EV (dC : Nat → ClassId) (dI : Nat → Nat → Nat) (g : Nat → Nat) (A : Nat → Prop) (U : State) : Prop :=
  va_K (dC, dI) CL (TY g) U ∧ (∀ w ∈ NW, va_Nw w U) ∧ (va_AOA .long U ∧ va_AOA .boolean U ∧ va_AOA (.object "MinestrataModel$Big") U ∧ va_AO "MinestrataModel$Big" U) ∧ (∀ q ∈ NCL, va_Nc q.1 q.2 U) ∧ va_Fw "java/util/ArrayList$Itr" hN_x hN_y U ∧
  (va_Z "Minestrata$Radix" "PRIMES" "[I" (.ref (g 20)) A U U.heap ∧ va_T .int (g 20) 32 PR A U U.heap) ∧
  va_Z "java/util/ArrayList" "DEFAULTCAPACITY_EMPTY_ELEMENTDATA" "[Ljava/lang/Object;" (.ref (g 21)) A U U.heap ∧
  vx_Zq Bundle.tN "UNASSIGNED_STACK" Bundle.steD A U U.heap ∧ vx_Zq Bundle.tN "SUPPRESSED_SENTINEL" Bundle.listD A U U.heap ∧ ∀ w ∈ XW, va_Nw w U
theorem EV.step {dC : Nat → ClassId} {dI : Nat → Nat → Nat} {g : Nat → Nat} {A A1 : Nat → Prop} {s U : State} {H : Heap} {locs : List Loc} (h : EV dC dI g A s) (hS : va_S A s.heap H locs) (hU : U.heap = H) (hW : s.WarmedH U.vm) (hA : ∀ q, A1 q → A q) : EV dC dI g A1 U := by
  subst hU
  obtain ⟨h1, h2, ⟨h3a, h3b, h3c, h3d⟩, h4, h5, ⟨h6, h7⟩, h8, h9, h10, h11⟩ := h
  have ha := hW.alike
  refine ⟨va_K.moved ha h1, fun w hw => nw_move hW (List.mem_filter.mp hw).2 (h2 w hw), ⟨va_AOA.moved ha h3a, va_AOA.moved ha h3b, va_AOA.moved ha h3c, va_AO.moved ha h3d⟩, fun q hq => va_Nc.moved ha (h4 q hq), va_Fw.moved (by decide) ha h5,
    ⟨(va_Z.moved ha (h6.kept hS.2.1)).narrow hA, (va_T.moved ha (h7.kept hS.2.1)).narrow hA⟩, (va_Z.moved ha (h8.kept hS.2.1)).narrow hA, (vx_Zq.moved ha (h9.kept hS.2.1)).narrow hA, (vx_Zq.moved ha (h10.kept hS.2.1)).narrow hA, fun w hw => xw_move hW (List.mem_filter.mp hw).2 (h11 w hw)⟩
theorem EV.blind {dC : Nat → ClassId} {dI : Nat → Nat → Nat} {g : Nat → Nat} {A : Nat → Prop} {U V : State} (h : EV dC dI g A U) (hv : V.vm = U.vm) (hh : V.heap = U.heap) : EV dC dI g A V := by
  refine EV.step (locs := []) h va_S.rf hh ?_ (fun _ q => q)
  rw [hv]
  exact State.WarmedH.refl U
/-- a method's start -/
def nP (dC : Nat → ClassId) (dI : Nat → Nat → Nat) (g : Nat → Nat) (as : List Value) (ws : va_W) (sz : Nat) : Array Value → State → Prop :=
  va_Pc as (fun U => U.heap.size = sz ∧ EV dC dI g (va_A ws sz) U ∧ va_P (dC, dI) CL ws U.heap ∧ va_D (fun _ => True) ws)
/-- a method's end: what it answers, its world, with new addresses -/
def nQ (dC : Nat → ClassId) (dI : Nat → Nat → Nat) (rv : (Nat → Nat) → Option Value) (w2 : (Nat → Nat) → (Nat → Nat) → va_W) (A : Nat → Prop) : Array Value → State → Outcome → State → Prop := fun _ st oc t =>
  (∃ f r : Nat → Nat, oc = .returned (rv f) ∧ va_P (dC, dI) CL (w2 f r) t.heap ∧ va_D A (w2 f r)) ∧ va_F A st t
/-- .. or what it throws -/
def nX (E0 : String) (A : Nat → Prop) : String → State → State → Prop := fun E st t => E = E0 ∧ va_F A st t
theorem nP_blind {dC : Nat → ClassId} {dI : Nat → Nat → Nat} {g : Nat → Nat} {as : List Value} {ws : va_W} {sz : Nat} : FrameBlind (nP dC dI g as ws sz) := by
  intro a U gg mk ⟨h1, h2, h3, h4, h5⟩
  exact ⟨h1, h2, EV.blind h3 rfl rfl, h4, h5⟩
/-- what a body has at its start -/
def nFx (p : Program) (s : State) (m : MethodId) (meth : Method) (c : Code) (cc : ByteArray) (maxL : Nat) (ret : Option FieldType) (y : MethodName) (a : Array Value) : Prop :=
  p.tables.exec = Jvm.exec ∧ c.code = cc ∧ meth.sig.returnType = ret ∧ c.maxLocals = maxL ∧ s.vm.findClass y.cls = some m.cls ∧ (∀ w ∈ AW, w.before a s = true) ∧ meth.locks = false ∧ meth.name = y.name
section NM
variable {l : Launch} {y : MethodName} {cc : ByteArray} {maxL : Nat} {ret : Option FieldType} {rm : Room} {dC : Nat → ClassId} {dI : Nat → Nat → Nat} {g : Nat → Nat} {as : List Value} {ws : va_W} {sz mc ms : Nat}
theorem n_start {w0 : Cond} {p : Program} {e : Env} {s : State} {m : MethodId} {below : List Frame} {meth : Method} {c : Code} {s₁ : State}
    (B : BodyLoose p l y (headSpec (w0 :: AW) rm) cc maxL ret e s m as.toArray below meth c s₁) (hml : c.maxLocals = maxL) : nFx p s m meth c cc maxL ret y as.toArray :=
  ⟨B.exec, B.bytes, B.returns, hml, findClass_of_methodNamed B.named, fun w h => atoms_spec (ws := w0 :: AW) B.pre w (List.mem_cons_of_mem _ h), B.notSynchronized, (name_of_methodNamed B.named B.method).1⟩
theorem n_entry (m : MethodId) {as : List Value} {n : Nat} (h : (lg_sl as).length ≤ n) : ∃ ls : Array Slot, entryFrame m as.toArray n = F0 m 0 ls [] ∧ lv_has ls n (lv_args 0 as) := ⟨_, lg_entry_eq m as n, lv_entry as h⟩
/-- a method that returns -/
theorem n_met (hy : plainFor y = true) (hn : (lg_sl as).length ≤ maxL) (rv : (Nat → Nat) → Option Value) (w2 : (Nat → Nat) → (Nat → Nat) → va_W)
    (body : ∀ (p : Program) (e : Env) (s : State) (m : MethodId) (below : List Frame) (meth : Method) (c : Code) (A : Nat → Prop) (ls : Array Slot), nFx p s m meth c cc maxL ret y as.toArray → EV dC dI g A s → va_P (dC, dI) CL ws s.heap → va_D A ws → (∀ q : Nat, s.heap.size ≤ q → A q) → lv_has ls maxL (lv_args 0 as) →
      W p l e rm s m as.toArray below meth c s.heap [] 0 0 (MQ below (nQ dC dI rv w2 A) as.toArray s mc ms A) (F0 m 0 ls [])) :
    Met l y (Cond.code y cc maxL ret :: AW) rm (nP dC dI g as ws sz) (nQ dC dI rv w2 (va_A ws sz)) mc ms (va_A ws sz) := by
  refine va_MetF (cc := cc) (maxL := maxL) (ret := ret) hy rfl ?_
  intro p e s m args below meth c s₁ B hml hv
  obtain ⟨rfl, hsz, hE, hP, hD0⟩ := hv
  subst hsz
  obtain ⟨ls, e1, hl⟩ := n_entry m hn
  rw [e1]
  exact body p e s m below meth c _ ls (n_start B hml) hE hP hD0.self (fun q h => Or.inr h) hl
/-- .. with a table of handlers -/
theorem n_metW {hh : List (Nat × Nat × Nat × Nat)} (hy : plainName y.cls = true) (hw : Cond.codeWith y cc maxL ret hh ∈ AW) (hn : (lg_sl as).length ≤ maxL) (rv : (Nat → Nat) → Option Value) (w2 : (Nat → Nat) → (Nat → Nat) → va_W)
    (body : ∀ (p : Program) (e : Env) (s : State) (m : MethodId) (below : List Frame) (meth : Method) (c : Code) (A : Nat → Prop) (ls : Array Slot), nFx p s m meth c cc maxL ret y as.toArray → c.exceptionTable.toList = tableOf hh → EV dC dI g A s → va_P (dC, dI) CL ws s.heap → va_D A ws → (∀ q : Nat, s.heap.size ≤ q → A q) → lv_has ls maxL (lv_args 0 as) →
      W p l e rm s m as.toArray below meth c s.heap [] 0 0 (MQ below (nQ dC dI rv w2 A) as.toArray s mc ms A) (F0 m 0 ls [])) :
    Met l y (Cond.codeWith y cc maxL ret hh :: AW) rm (nP dC dI g as ws sz) (nQ dC dI rv w2 (va_A ws sz)) mc ms (va_A ws sz) := by
  refine va_MetW (cc := cc) (maxL := maxL) (ret := ret) (hh := hh) hy rfl ?_
  intro p e s m args below meth c s₁ B hml hv
  obtain ⟨rfl, hsz, hE, hP, hD0⟩ := hv
  subst hsz
  obtain ⟨ls, e1, hl⟩ := n_entry m hn
  rw [e1]
  exact body p e s m below meth c _ ls (n_start B hml) (vx_table (x := y) B ((n_start B hml).2.2.2.2.2.1 _ hw)) hE hP hD0.self (fun q h => Or.inr h) hl
/-- a method that throws -/
theorem n_metX (hy : plainName y.cls = true) (hn : (lg_sl as).length ≤ maxL) (E0 : String)
    (body : ∀ (p : Program) (e : Env) (s : State) (m : MethodId) (below : List Frame) (meth : Method) (c : Code) (A : Nat → Prop) (ls : Array Slot), nFx p s m meth c cc maxL ret y as.toArray → (∀ x ∈ c.exceptionTable.toList, False) → EV dC dI g A s → va_P (dC, dI) CL ws s.heap → va_D A ws → (∀ q : Nat, s.heap.size ≤ q → A q) → lv_has ls maxL (lv_args 0 as) →
      W p l e rm s m as.toArray below meth c s.heap [] 0 0 (vx_MQ below (fun _ _ _ _ => False) (nX E0 A) as.toArray s mc ms A) (F0 m 0 ls [])) :
    vx_Met l y (Cond.code y cc maxL ret :: AW) rm (nP dC dI g as ws sz) (fun _ _ _ _ => False) (nX E0 (va_A ws sz)) mc ms (va_A ws sz) := by
  refine vx_ofW (cc := cc) (maxL := maxL) (ret := ret) hy rfl ?_
  intro p e s m args below meth c s₁ B hml ht hv
  obtain ⟨rfl, hsz, hE, hP, hD0⟩ := hv
  subst hsz
  obtain ⟨ls, e1, hl⟩ := n_entry m hn
  show W p l e rm s m as.toArray below meth c s.heap [] 0 0 _ _
  rw [e1]
  exact body p e s m below meth c _ ls (n_start B hml) ht hE hP hD0.self (fun q h => Or.inr h) hl
end NM
section NR
variable {p : Program} {l : Launch} {e : Env} {R : Room} {s : State} {m : MethodId} {args : Array Value} {below : List Frame} {meth : Method} {c : Code} {H : Heap} {locs : List Loc} {cells slots : Nat} {Q : State → Prop}
variable {cc : ByteArray} {pc : Nat} {ls : Array Slot} {rest : List Value} {dC : Nat → ClassId} {dI : Nat → Nat → Nat} {g : Nat → Nat} {A : Nat → Prop} {ws wc wr : va_W} {nL : Nat} {own C : String}
theorem nt_i {x v : Int32} (h : x = v) (k : W p l e R s m args below meth c H locs cells slots Q (F0 m pc ls (.int v :: rest))) : W p l e R s m args below meth c H locs cells slots Q (F0 m pc ls (.int x :: rest)) := by
  subst h
  exact k
theorem nt_l {x v : Int64} (h : x = v) (k : W p l e R s m args below meth c H locs cells slots Q (F0 m pc ls (.long v :: rest))) : W p l e R s m args below meth c H locs cells slots Q (F0 m pc ls (.long x :: rest)) := by
  subst h
  exact k
theorem nt_v {x v : Value} (h : x = v) (k : W p l e R s m args below meth c H locs cells slots Q (F0 m pc ls (v :: rest))) : W p l e R s m args below meth c H locs cells slots Q (F0 m pc ls (x :: rest)) := by
  subst h
  exact k
/-- a new array of a simple type: its class is the known one -/
theorem n_newa (hx : p.tables.exec = Jvm.exec) (hb : c.code = cc) {atype : ArrayType} {ty : FieldType} (hta : Cond.arrayClass (newarray.typeOf atype) ∈ AW) (hts : ∀ w ∈ AW, w.before args s = true) (hty : newarray.typeOf atype = ty) (hK : va_K (dC, dI) CL (TY g) s) (hP : va_P (dC, dI) CL ws H) (hD : va_D A ws) (hS : va_S A s.heap H locs) (hA : ∀ q : Nat, s.heap.size ≤ q → A q)
    (t0 : Nat) {cT : ClassId} (ht0 : (TY g)[t0]? = some (cT, ty)) (hob : ∀ U : State, ∀ cA : ClassId, va_RA U cA ty = (U.vm.findClass ("[" ++ ty.toString) = some cA))
    {n : Int32} {N' : Nat} {a0 : vp_A} (ha : ∀ cA : ClassId, vp_cell cA a0 = arrV cA N' (fun _ => defaultValue ty)) (hn : ¬ n < 0) (hN : n.toNatClampNeg = N') (hbytes : N' * componentBytes ty ≤ 536870912) (hcells : cells + 1 ≤ R.cells) (hslots : slots + N' ≤ R.slots) (hdg : decode cc pc = .ok (.newarray atype, 2))
    (kk : ∀ (q : Nat) (H1 : Heap), va_P (dC, dI) CL (ws ++ [(q, .inl (cT, a0))]) H1 → va_D A (ws ++ [(q, .inl (cT, a0))]) → va_S A s.heap H1 locs →
      W p l e R s m args below meth c H1 locs (cells + 1) (slots + N') Q (F0 m (pc + 2) ls (.ref q :: rest))) : W p l e R s m args below meth c H locs cells slots Q (F0 m pc ls (.int n :: rest)) := by
  refine va_newa hx hb (atype := atype) (hts _ hta) hty hK hP hD hS hA ha hn hN hbytes hcells hslots hdg (fun q cA H1 hK1 hP1 hD1 hS1 => ?_)
  have h1 := (hK1.2 (TY g).length (cA, ty) (by simp)).2
  have h2 := (hK.2 t0 _ ht0).2
  rw [hob] at h1 h2
  have h3 : cA = cT := Option.some.inj (h1.symm.trans h2)
  subst h3
  exact kk q H1 hP1 hD1 hS1
/-- a new grid: the outer array, of new rows that nobody asks for -/
theorem n_mna (hx : p.tables.exec = Jvm.exec) (hb : c.code = cc) {index : Nat} {ty : FieldType} (hown : s.vm.findClass own = some m.cls) (hts : ∀ w ∈ AW, w.before args s = true) (hcl : Cond.classLink own index ("[" ++ (FieldType.array ty).toString) ∈ AW) (hover : va_AOA ty s) (harr : (Cond.arrayClass ty).before args s = true) (hK : va_K (dC, dI) CL (TY g) s) (hP : va_P (dC, dI) CL ws H) (hD : va_D A ws) (hS : va_S A s.heap H locs) (hA : ∀ q : Nat, s.heap.size ≤ q → A q)
    (t0 : Nat) {cT : ClassId} (ht0 : (TY g)[t0]? = some (cT, .array ty)) {cy : ClassId} (hcy : s.vm.findClass (FieldType.array ty).toString = some cy)
    {n k : Int32} {N' K' : Nat} {z : vp_A} (hn : ¬ n < 0) (hk : ¬ k < 0) (hN : n.toNatClampNeg = N') (hM : k.toNatClampNeg = K')
    (hb1 : N' * 4 ≤ 536870912) (hb2 : K' * componentBytes ty ≤ 536870912) (hb3 : K' ≤ 536870912) (hdf : fits ty (defaultValue ty) = true) (hdd : (defaultValue ty).isDefault = true) (hcells : cells + (1 + N') ≤ R.cells) (hslots : slots + (N' + N' * K') ≤ R.slots) (hz : ∀ c : ClassId, Jvm.Free.Multi.innerC c K' (defaultValue ty) = vp_cell c z) (hdg : decode cc pc = .ok (.multianewarray index 2, 4))
    (kk : ∀ (q : Nat) (r : Nat → Nat) (H1 : Heap), va_P (dC, dI) CL (ws ++ [(q, .inl (cT, N', .inr (.inr (.inr (.inr (fun i => if i < N' then some (r i) else none))))))]) H1 → va_D A (ws ++ [(q, .inl (cT, N', .inr (.inr (.inr (.inr (fun i => if i < N' then some (r i) else none))))))]) → va_S A s.heap H1 locs →
      W p l e R s m args below meth c H1 locs (cells + 1 + N') (slots + N' + N' * K') Q (F0 m (pc + 4) ls (.ref q :: rest))) : W p l e R s m args below meth c H locs cells slots Q (F0 m pc ls (.int k :: .int n :: rest)) := by
  have hP0 : va_P (dC, dI) CL (ws ++ va_pl [] (fun _ => .inr (0, []))) H := by
    show va_P (dC, dI) CL (ws ++ []) H
    rw [List.append_nil]; exact hP
  have hD0 : va_D A (ws ++ va_pl [] (fun _ => .inr (0, []))) := by
    show va_D A (ws ++ [])
    rw [List.append_nil]; exact hD
  refine va_mna (X := ws) (L := []) (f := fun _ => .inr (0, [])) hx hb hown (hts _ hcl) hover harr hcy hK hP0 hD0 hS hA hn hk hN hM hb1 hb2 hb3 hdf hdd hcells hslots hz hdg (fun q r cA H1 hi hni hK1 hP1 hD1 hS1 => ?_)
  have h1 : s.vm.findClass ("[" ++ (FieldType.array ty).toString) = some cA := (hK1.2 (TY g).length (cA, .array ty) (by simp)).2
  have h2 : s.vm.findClass ("[" ++ (FieldType.array ty).toString) = some cT := (hK.2 t0 _ ht0).2
  have h3 : cA = cT := Option.some.inj (h1.symm.trans h2)
  subst h3
  refine kk q r H1 (fun k9 x hk9 => hP1 k9 x ?_) ⟨fun i j x y hi9 hj9 hxy => hD1.1 i j x y ?_ ?_ hxy, fun k9 x hk9 => hD1.2 k9 x ?_⟩ hS1
  · rw [List.getElem?_append_left (List.getElem?_eq_some_iff.mp hk9).1]; exact hk9
  · rw [List.getElem?_append_left (List.getElem?_eq_some_iff.mp hi9).1]; exact hi9
  · rw [List.getElem?_append_left (List.getElem?_eq_some_iff.mp hj9).1]; exact hj9
  · rw [List.getElem?_append_left (List.getElem?_eq_some_iff.mp hk9).1]; exact hk9
/-- a new array of objects -/
theorem n_newq (hx : p.tables.exec = Jvm.exec) (hb : c.code = cc) {index : Nat} (hown : s.vm.findClass own = some m.cls) (hts : ∀ w ∈ AW, w.before args s = true) (hcl : Cond.classLink own index C ∈ AW) (hover : va_AO C s) (hK : va_K (dC, dI) CL (TY g) s) (hP : va_P (dC, dI) CL ws H) (hD : va_D A ws) (hS : va_S A s.heap H locs) (hA : ∀ q : Nat, s.heap.size ≤ q → A q)
    (t0 : Nat) {cT : ClassId} (ht0 : (TY g)[t0]? = some (cT, .object C)) {n : Int32} {N' : Nat} (hn : ¬ n < 0) (hN : n.toNatClampNeg = N') (hbytes : N' * 4 ≤ 536870912) (hcells : cells + 1 ≤ R.cells) (hslots : slots + N' ≤ R.slots) (hdg : decode cc pc = .ok (.anewarray index, 3))
    (kk : ∀ (q : Nat) (H1 : Heap), va_P (dC, dI) CL (ws ++ [(q, .inl (cT, N', .inr (.inr (.inr (.inr (fun _ => none))))))]) H1 → va_D A (ws ++ [(q, .inl (cT, N', .inr (.inr (.inr (.inr (fun _ => none))))))]) → va_S A s.heap H1 locs →
      W p l e R s m args below meth c H1 locs (cells + 1) (slots + N') Q (F0 m (pc + 3) ls (.ref q :: rest))) : W p l e R s m args below meth c H locs cells slots Q (F0 m pc ls (.int n :: rest)) := by
  refine va_newq hx hb hown (hts _ hcl) hover hK hP hD hS hA hn hN hbytes hcells hslots hdg (fun q cA H1 hK1 hP1 hD1 hS1 => ?_)
  obtain ⟨-, -, -, -, -, h1⟩ := (hK1.2 (TY g).length (cA, .object C) (by simp)).2
  obtain ⟨-, -, -, -, -, h2⟩ := (hK.2 t0 _ ht0).2
  have h3 : cA = cT := Option.some.inj (h1.symm.trans h2)
  subst h3
  exact kk q H1 hP1 hD1 hS1
/-- a row out of a grid -/
theorem n_aald (hx : p.tables.exec = Jvm.exec) (hb : c.code = cc) (hK : va_K (dC, dI) CL (TY g) s) (hP : va_P (dC, dI) CL ws H) {a : Nat} (q0 t0 : Nat) {cA : ClassId} {ty : FieldType} {n : Nat} {f : Nat → Option Nat} (ha : ws[q0]? = some (a, .inl (cA, n, .inr (.inr (.inr (.inr f)))))) (ht : (TY g)[t0]? = some (cA, ty)) (hr : ty.isReference = true) {i : Int32} (hin : vp_in i n) {v : Value} (hv : va_rf (f i.toNatClampNeg) = v) (hdg : decode cc pc = .ok (.aaload, 1))
    (kk : W p l e R s m args below meth c H locs cells slots Q (F0 m (pc + 1) ls (v :: rest))) : W p l e R s m args below meth c H locs cells slots Q (F0 m pc ls (.int i :: .ref a :: rest)) := by
  subst hv
  have hlt : i.toNatClampNeg < n := Nat.not_le.mp fun q => hin (Or.inr q)
  exact W.aald (v := va_rf (f i.toNatClampNeg)) (ty := ty) hx hb (hP q0 _ ha) ((hK.2 t0 _ ht).1 n (fun j => va_rf (f j))) hr (fun q => by cases q) (by show ¬ (i < 0 ∨ (arrV _ _ _).slots.size ≤ _); rw [arrV_size]; exact hin) (by show (arrV _ _ _).slots[_]? = _; rw [arrV_read _ _ hlt]) rfl rfl hdg kk
/-- Object's constructor -/
theorem n_oinit (hx : p.tables.exec = Jvm.exec) (hb : c.code = cc) (hml : c.maxLocals = nL) (hown : s.vm.findClass own = some m.cls) (hts : ∀ w ∈ AW, w.before args s = true) {idx : Nat} (w1 : Cond.methodLink own idx Lib.objectInit ∈ AW) (w2 : Cond.instanceMethod Lib.objectInit ∈ AW) (w3 : Cond.code Lib.objectInit ⟨#[0xb1]⟩ 1 none ∈ AW) (hl : ls.size = nL) {a : Nat} (hd : decode cc pc = .ok (.invokespecial idx, 3))
    (hframes : 1 ≤ R.frames) (hlocals : (rest.map fun v => v.category).sum + 12 ≤ R.locals)
    (kk : W p l e R s m args below meth c H locs cells slots Q (F0 m (pc + 3) ls rest)) : W p l e R s m args below meth c H locs cells slots Q (F0 m pc ls (.ref a :: rest)) := by
  refine W.objInit hx hb hown (hts _ w1) (hts _ w2) (hts _ w3) rfl (by rw [hml]; exact hl) rfl hd hframes (by show 2 * 0 + _ + 12 ≤ _; omega) ?_
  exact kk
/-- a callee's start out of the caller's world -/
theorem n_pre {wc : va_W} {as : List Value} (hE : EV dC dI g A s) (hS : va_S A s.heap H locs) (hA : ∀ q : Nat, s.heap.size ≤ q → A q) (hP : va_P (dC, dI) CL ws H) (hD : va_D A ws) (isC : List Nat) (hC : isC.map (fun i => ws[i]?) = wc.map some) (hnd : va_nd isC = true) : PreS s H (nP dC dI g as wc H.size) as := by
  have hF := va_free hD hS hA isC hC
  have hC2 : isC.filterMap (fun i => ws[i]?) = wc := by
    have h9 : ∀ (is : List Nat) (w : va_W), is.map (fun i => ws[i]?) = w.map some → is.filterMap (fun i => ws[i]?) = w := by
      intro is
      induction is with
      | nil => intro w h; cases w with
        | nil => rfl
        | cons x t => cases h
      | cons i t ih => intro w h; cases w with
        | nil => cases h
        | cons x u =>
          rw [List.map_cons, List.map_cons] at h
          injection h with h1 h2
          rw [List.filterMap_cons, h1]
          exact congrArg (x :: ·) (ih u h2)
    exact h9 isC wc hC
  refine ⟨nP_blind, fun U hU hW => ⟨rfl, by rw [hU], EV.step hE hS hU hW hF, by rw [hU]; exact hP.sub isC hC2, (hD.sub isC hnd hC).weaken (fun _ _ _ _ => trivial)⟩⟩
section NC
variable {y : MethodName} {bytes : ByteArray} {maxL n index : Nat} {ret : Option FieldType} {rm : Room} {Qc : Array Value → State → Outcome → State → Prop} {b : Nat} {As : List Value} {st0 : List Value}
/-- what a call has of its caller -/
def nCx (p : Program) (s : State) (m : MethodId) (args : Array Value) (c : Code) (cc : ByteArray) (nL : Nat) (own : String) (dC : Nat → ClassId) (dI : Nat → Nat → Nat) (g : Nat → Nat) (A : Nat → Prop) (ws : va_W) (H : Heap) (locs : List Loc) : Prop :=
  CallFix p m c cc nL s args AW own ∧ EV dC dI g A s ∧ va_S A s.heap H locs ∧ (∀ q : Nat, s.heap.size ≤ q → A q) ∧ va_P (dC, dI) CL ws H ∧ va_D A ws
theorem n_runV (X : nCx p s m args c cc nL own dC dI g A ws H locs) (hM : Met l y (Cond.code y bytes maxL ret :: AW) rm (nP dC dI g (.ref b :: As) wc H.size) Qc rm.cells rm.slots (va_A wc H.size))
    (isC : List Nat) (hC : isC.map (fun i => ws[i]?) = wc.map some) (hnd : va_nd isC = true) (q0 : Nat) {ci : Nat} {fs : List Value} (hrec : ws[q0]? = some (b, .inr (ci, fs))) {T : u_T} {N : Nat} (hc : CL[ci]? = some (C, T, N))
    (w1 : Cond.methodLink own index y ∈ AW) (w2 : Cond.instanceMethod y ∈ AW) (w3 : Cond.selects C y y ∈ AW) (w4 : Cond.initialized C ∈ AW) (w5 : Cond.code y bytes maxL ret ∈ AW)
    (hd : y.cls = C ∧ y.cls ≠ "java/lang/invoke/MethodHandle" ∧ y.cls ≠ "java/lang/invoke/VarHandle" ∧ (parseMethodDescriptor y.desc).map (fun d => d.parameters.length) = some n) (hR : rm.frames + 1 ≤ R.frames ∧ 8 + (maxL + 11) + rm.locals ≤ R.locals) (hf : cells + rm.cells ≤ R.cells ∧ slots + rm.slots ≤ R.slots)
    (hl : ls.size = nL) (hn : As.length = n) (hst : st0 = As.reverse ++ .ref b :: rest) (hW : (rest.map fun v => v.category).sum ≤ 8) (hdg : decode cc pc = .ok (.invokevirtual index, 3)) :
    va_Run p l e R s m args below meth c H locs cells slots rm.cells rm.slots (F0 m pc ls st0) rest (Qc (Value.ref b :: As).toArray) (va_A wc H.size) := by
  obtain ⟨S, hE, hS, hA, hP, hD⟩ := X
  have hpre := n_pre (as := .ref b :: As) hE hS hA hP hD isC hC hnd
  have hr := va_recv (tys := TY g) hE.1 hP hc hrec
  refine va_runV (As := As) (rest := rest) S hM (cwV n S.2.2.2.2 (aw_in (aw_cons w1 (aw_cons w2 (aw_cons w3 (aw_cons w4 (aw_cons w5 aw_self)))))) rfl rfl rfl hd hR) ⟨hpre.1, hr, hpre.2⟩ rfl hn hl hst (lv_room hW) hdg hf
theorem n_runI (X : nCx p s m args c cc nL own dC dI g A ws H locs) (hM : Met l y (Cond.code y bytes maxL none :: AW) rm (nP dC dI g (.ref b :: As) wc H.size) Qc rm.cells rm.slots (va_A wc H.size))
    (isC : List Nat) (hC : isC.map (fun i => ws[i]?) = wc.map some) (hnd : va_nd isC = true)
    (w1 : Cond.methodLink own index y ∈ AW) (w2 : Cond.instanceMethod y ∈ AW) (w4 : Cond.initialized y.cls ∈ AW) (w5 : Cond.code y bytes maxL none ∈ AW) (hy1 : y.name = "<init>")
    (hd : y.cls ≠ "java/lang/invoke/MethodHandle" ∧ y.cls ≠ "java/lang/invoke/VarHandle" ∧ (parseMethodDescriptor y.desc).map (fun d => d.parameters.length) = some n) (hR : rm.frames + 1 ≤ R.frames ∧ 8 + (maxL + 11) + rm.locals ≤ R.locals) (hf : cells + rm.cells ≤ R.cells ∧ slots + rm.slots ≤ R.slots)
    (hl : ls.size = nL) (hn : As.length = n) (hst : st0 = As.reverse ++ .ref b :: rest) (hW : (rest.map fun v => v.category).sum ≤ 8) (hdg : decode cc pc = .ok (.invokespecial index, 3)) :
    va_Run p l e R s m args below meth c H locs cells slots rm.cells rm.slots (F0 m pc ls st0) rest (Qc (Value.ref b :: As).toArray) (va_A wc H.size) := by
  obtain ⟨S, hE, hS, hA, hP, hD⟩ := X
  have hpre := n_pre (as := .ref b :: As) hE hS hA hP hD isC hC hnd
  exact va_runI (As := As) (rest := rest) S hM (cwI n S.2.2.2.2 (aw_in (aw_cons w5 aw_self)) rfl rfl rfl (S.2.2.2.2 _ w4) (S.2.2.2.2 _ w1) (S.2.2.2.2 _ w2) hy1 hd hR) hpre rfl hn hl hst (lv_room hW) hdg hf
theorem n_runIN (X : nCx p s m args c cc nL own dC dI g A ws H locs) (hM : Met l y (Cond.code y bytes maxL none :: AW) rm (nP dC dI g (.ref b :: As) wc H.size) Qc rm.cells rm.slots (va_A wc H.size))
    (isC : List Nat) (hC : isC.map (fun i => ws[i]?) = wc.map some) (hnd : va_nd isC = true) {host : String}
    (w1 : Cond.methodLinkNest own index y host ∈ NW) (w2 : Cond.instanceMethod y ∈ AW) (w4 : Cond.initialized y.cls ∈ AW) (w5 : Cond.code y bytes maxL none ∈ AW) (hy1 : y.name = "<init>")
    (hd : y.cls ≠ "java/lang/invoke/MethodHandle" ∧ y.cls ≠ "java/lang/invoke/VarHandle" ∧ (parseMethodDescriptor y.desc).map (fun d => d.parameters.length) = some n) (hR : rm.frames + 1 ≤ R.frames ∧ 8 + (maxL + 11) + rm.locals ≤ R.locals) (hf : cells + rm.cells ≤ R.cells ∧ slots + rm.slots ≤ R.slots)
    (hl : ls.size = nL) (hn : As.length = n) (hst : st0 = As.reverse ++ .ref b :: rest) (hW : (rest.map fun v => v.category).sum ≤ 8) (hdg : decode cc pc = .ok (.invokespecial index, 3)) :
    va_Run p l e R s m args below meth c H locs cells slots rm.cells rm.slots (F0 m pc ls st0) rest (Qc (Value.ref b :: As).toArray) (va_A wc H.size) := by
  obtain ⟨S, hE, hS, hA, hP, hD⟩ := X
  have hpre := n_pre (as := .ref b :: As) hE hS hA hP hD isC hC hnd
  exact va_runIN (As := As) (rest := rest) S hM ⟨va_cnB n S.2.2.2.2 (aw_in (aw_cons w5 aw_self)) rfl rfl rfl (hE.2.1 _ w1) (S.2.2.2.2 _ w4) hd hR, hy1, S.2.2.2.2 _ w2⟩ hpre rfl hn hl hst (lv_room hW) hdg hf
theorem n_runS (X : nCx p s m args c cc nL own dC dI g A ws H locs) (hM : Met l y (Cond.code y bytes maxL ret :: AW) rm (nP dC dI g As wc H.size) Qc rm.cells rm.slots (va_A wc H.size))
    (isC : List Nat) (hC : isC.map (fun i => ws[i]?) = wc.map some) (hnd : va_nd isC = true)
    (w1 : Cond.methodLink own index y ∈ AW) (w2 : Cond.static y ∈ AW) (w4 : Cond.initialized y.cls ∈ AW) (w5 : Cond.code y bytes maxL ret ∈ AW)
    (hd : y.cls ≠ "java/lang/invoke/MethodHandle" ∧ y.cls ≠ "java/lang/invoke/VarHandle" ∧ (parseMethodDescriptor y.desc).map (fun d => d.parameters.length) = some n) (hR : rm.frames + 1 ≤ R.frames ∧ 8 + (maxL + 11) + rm.locals ≤ R.locals) (hf : cells + rm.cells ≤ R.cells ∧ slots + rm.slots ≤ R.slots)
    (hl : ls.size = nL) (hn : As.length = n) (hst : st0 = As.reverse ++ rest) (hW : (rest.map fun v => v.category).sum ≤ 8) (hdg : decode cc pc = .ok (.invokestatic index, 3)) :
    va_Run p l e R s m args below meth c H locs cells slots rm.cells rm.slots (F0 m pc ls st0) rest (Qc As.toArray) (va_A wc H.size) := by
  obtain ⟨S, hE, hS, hA, hP, hD⟩ := X
  have hpre := n_pre (as := As) hE hS hA hP hD isC hC hnd
  exact va_runS (As := As) (rest := rest) S hM (va_cwS n S.2.2.2.2 (aw_in (aw_cons w1 (aw_cons w2 (aw_cons w4 (aw_cons w5 aw_self))))) rfl rfl rfl hd hR) hpre rfl hn hl hst (lv_room hW) hdg hf
theorem n_runSN (X : nCx p s m args c cc nL own dC dI g A ws H locs) (hM : Met l y (Cond.code y bytes maxL ret :: AW) rm (nP dC dI g As wc H.size) Qc rm.cells rm.slots (va_A wc H.size))
    (isC : List Nat) (hC : isC.map (fun i => ws[i]?) = wc.map some) (hnd : va_nd isC = true) {host : String}
    (w1 : Cond.methodLinkNest own index y host ∈ NW) (w2 : Cond.static y ∈ AW) (w4 : Cond.initialized y.cls ∈ AW) (w5 : Cond.code y bytes maxL ret ∈ AW)
    (hd : y.cls ≠ "java/lang/invoke/MethodHandle" ∧ y.cls ≠ "java/lang/invoke/VarHandle" ∧ (parseMethodDescriptor y.desc).map (fun d => d.parameters.length) = some n) (hR : rm.frames + 1 ≤ R.frames ∧ 8 + (maxL + 11) + rm.locals ≤ R.locals) (hf : cells + rm.cells ≤ R.cells ∧ slots + rm.slots ≤ R.slots)
    (hl : ls.size = nL) (hn : As.length = n) (hst : st0 = As.reverse ++ rest) (hW : (rest.map fun v => v.category).sum ≤ 8) (hdg : decode cc pc = .ok (.invokestatic index, 3)) :
    va_Run p l e R s m args below meth c H locs cells slots rm.cells rm.slots (F0 m pc ls st0) rest (Qc As.toArray) (va_A wc H.size) := by
  obtain ⟨S, hE, hS, hA, hP, hD⟩ := X
  have hpre := n_pre (as := As) hE hS hA hP hD isC hC hnd
  exact va_runSN (As := As) (rest := rest) S hM ⟨va_cnB n S.2.2.2.2 (aw_in (aw_cons w5 aw_self)) rfl rfl rfl (hE.2.1 _ w1) (S.2.2.2.2 _ w4) hd hR, S.2.2.2.2 _ w2, trivial⟩ hpre rfl hn hl hst (lv_room hW) hdg hf
/-- a static method with a table of handlers -/
theorem n_runSW {hh : List (Nat × Nat × Nat × Nat)} (X : nCx p s m args c cc nL own dC dI g A ws H locs) (hM : Met l y (Cond.codeWith y bytes maxL ret hh :: AW) rm (nP dC dI g As wc H.size) Qc rm.cells rm.slots (va_A wc H.size))
    (isC : List Nat) (hC : isC.map (fun i => ws[i]?) = wc.map some) (hnd : va_nd isC = true)
    (w1 : Cond.methodLink own index y ∈ AW) (w2 : Cond.static y ∈ AW) (w4 : Cond.initialized y.cls ∈ AW) (w5 : Cond.codeWith y bytes maxL ret hh ∈ AW)
    (hd : y.cls ≠ "java/lang/invoke/MethodHandle" ∧ y.cls ≠ "java/lang/invoke/VarHandle" ∧ (parseMethodDescriptor y.desc).map (fun d => d.parameters.length) = some n) (hR : rm.frames + 1 ≤ R.frames ∧ 8 + (maxL + 11) + rm.locals ≤ R.locals) (hf : cells + rm.cells ≤ R.cells ∧ slots + rm.slots ≤ R.slots)
    (hl : ls.size = nL) (hn : As.length = n) (hst : st0 = As.reverse ++ rest) (hW : (rest.map fun v => v.category).sum ≤ 8) (hdg : decode cc pc = .ok (.invokestatic index, 3)) :
    va_Run p l e R s m args below meth c H locs cells slots rm.cells rm.slots (F0 m pc ls st0) rest (Qc As.toArray) (va_A wc H.size) := by
  obtain ⟨S, hE, hS, hA, hP, hD⟩ := X
  have hpre := n_pre (as := As) hE hS hA hP hD isC hC hnd
  exact vx_runSW (As := As) (rest := rest) S hM (vx_cwSW n S.2.2.2.2 (aw_in (aw_cons w1 (aw_cons w2 (aw_cons w4 (aw_cons w5 aw_self))))) rfl rfl rfl hd hR) hpre rfl hn hl hst (lv_room hW) hdg hf
/-- a method that throws, called -/
theorem n_runVX {XC : String → State → State → Prop} (X : nCx p s m args c cc nL own dC dI g A ws H locs) (hM : vx_Met l y (Cond.code y bytes maxL ret :: AW) rm (nP dC dI g (.ref b :: As) wc H.size) Qc XC rm.cells rm.slots (va_A wc H.size))
    (isC : List Nat) (hC : isC.map (fun i => ws[i]?) = wc.map some) (hnd : va_nd isC = true) (q0 : Nat) {ci : Nat} {fs : List Value} (hrec : ws[q0]? = some (b, .inr (ci, fs))) {T : u_T} {N : Nat} (hc : CL[ci]? = some (C, T, N))
    (w1 : Cond.methodLink own index y ∈ AW) (w2 : Cond.instanceMethod y ∈ AW) (w3 : Cond.selects C y y ∈ AW) (w4 : Cond.initialized C ∈ AW) (w5 : Cond.code y bytes maxL ret ∈ AW)
    (hd : y.cls = C ∧ y.cls ≠ "java/lang/invoke/MethodHandle" ∧ y.cls ≠ "java/lang/invoke/VarHandle" ∧ (parseMethodDescriptor y.desc).map (fun d => d.parameters.length) = some n) (hR : rm.frames + 1 ≤ R.frames ∧ 8 + (maxL + 11) + rm.locals ≤ R.locals) (hf : cells + rm.cells ≤ R.cells ∧ slots + rm.slots ≤ R.slots)
    (hl : ls.size = nL) (hn : As.length = n) (hst : st0 = As.reverse ++ .ref b :: rest) (hW : (rest.map fun v => v.category).sum ≤ 8) (hdg : decode cc pc = .ok (.invokevirtual index, 3)) :
    vx_Run p l e R s m args below meth c H locs cells slots rm.cells rm.slots (F0 m pc ls st0) rest (Qc (Value.ref b :: As).toArray) XC (va_A wc H.size) := by
  obtain ⟨S, hE, hS, hA, hP, hD⟩ := X
  have hpre := n_pre (as := .ref b :: As) hE hS hA hP hD isC hC hnd
  have hr := va_recv (tys := TY g) hE.1 hP hc hrec
  exact vx_runV (As := As) (rest := rest) S hM (cwV n S.2.2.2.2 (aw_in (aw_cons w1 (aw_cons w2 (aw_cons w3 (aw_cons w4 (aw_cons w5 aw_self)))))) rfl rfl rfl hd hR) ⟨hpre.1, hr, hpre.2⟩ rfl hn hl hst (lv_room hW) hdg hf
/-- Iterator.hasNext() -/
theorem n_runF {count : Nat} (X : nCx p s m args c cc nL own dC dI g A ws H locs) (hM : Met l hN_y (Cond.code hN_y bytes maxL ret :: AW) rm (nP dC dI g (.ref b :: As) wc H.size) Qc rm.cells rm.slots (va_A wc H.size))
    (isC : List Nat) (hC : isC.map (fun i => ws[i]?) = wc.map some) (hnd : va_nd isC = true) (q0 : Nat) {ci : Nat} {fs : List Value} (hrec : ws[q0]? = some (b, .inr (ci, fs))) {T : u_T} {N : Nat} (hc : CL[ci]? = some ("java/util/ArrayList$Itr", T, N))
    (w1 : Cond.methodLink own index hN_x ∈ AW) (w2 : Cond.selects "java/util/ArrayList$Itr" hN_x hN_y ∈ AW) (w3 : Cond.instanceMethod hN_y ∈ AW) (w4 : Cond.initialized hN_y.cls ∈ AW) (w5 : Cond.code hN_y bytes maxL ret ∈ AW)
    (hd : hN_x.cls ≠ "java/lang/invoke/MethodHandle" ∧ hN_x.cls ≠ "java/lang/invoke/VarHandle" ∧ (parseMethodDescriptor hN_x.desc).map (fun d => d.parameters.length) = some n) (hR : rm.frames + 1 ≤ R.frames ∧ 8 + (maxL + 11) + rm.locals ≤ R.locals) (hf : cells + rm.cells ≤ R.cells ∧ slots + rm.slots ≤ R.slots)
    (hl : ls.size = nL) (hn : As.length = n) (hst : st0 = As.reverse ++ .ref b :: rest) (hW : (rest.map fun v => v.category).sum ≤ 8) (hdg : decode cc pc = .ok (.invokeinterface index count, 5)) :
    va_Run5 p l e R s m args below meth c H locs cells slots rm.cells rm.slots (F0 m pc ls st0) rest (Qc (Value.ref b :: As).toArray) (va_A wc H.size) := by
  obtain ⟨S, hE, hS, hA, hP, hD⟩ := X
  have hpre := n_pre (as := .ref b :: As) hE hS hA hP hD isC hC hnd
  have hr := va_recv (tys := TY g) hE.1 hP hc hrec
  exact va_runF (As := As) (rest := rest) (hE.1.1 ci _ hc).2 S hM (va_cwF n S.2.2.2.2 (aw_in (aw_cons w1 (aw_cons w2 (aw_cons w3 (aw_cons w4 (aw_cons w5 aw_self)))))) rfl rfl rfl hE.2.2.2.2.1 hd hR) ⟨hpre.1, hr, hpre.2⟩ rfl hn hl hst (lv_room hW) hdg hf
end NC
/-- behind a call: what it answers, its world beside the rest -/
theorem n_call {a : Array Value} {st0 : List Value} {mc ms : Nat} {rv : (Nat → Nat) → Option Value} {w2 : (Nat → Nat) → (Nat → Nat) → va_W} (X : nCx p s m args c cc nL own dC dI g A ws H locs)
    (hr : va_Run p l e R s m args below meth c H locs cells slots mc ms (F0 m pc ls st0) rest (nQ dC dI rv w2 (va_A wc H.size) a) (va_A wc H.size))
    (isC isR : List Nat) (hC : isC.map (fun i => ws[i]?) = wc.map some) (hR : isR.map (fun i => ws[i]?) = wr.map some) (hn : va_nd isR = true) (hdis : ∀ i ∈ isR, i ∉ isC)
    (kk : ∀ (f r : Nat → Nat) (H1 : Heap) (locs1 : List Loc), va_P (dC, dI) CL (wr ++ w2 f r) H1 → va_D A (wr ++ w2 f r) → va_S A s.heap H1 locs1 → W p l e R s m args below meth c H1 locs1 (cells + mc) (slots + ms) Q (F0 m (pc + 3) ls ((rv f).toList ++ rest))) : W p l e R s m args below meth c H locs cells slots Q (F0 m pc ls st0) := by
  obtain ⟨S, hE, hS, hA, hP, hD⟩ := X
  have hF := va_free hD hS hA isC hC
  intro T hT Xs
  obtain ⟨v, st₀, t, T', L, h0, X', hL, e1, e2, ⟨⟨f, r, hv, hp, hd⟩, hz, hk⟩, st⟩ := hr T hT Xs
  cases hv
  rw [h0] at hz hk
  obtain ⟨hP2, hD2⟩ := va_join (w1 := w2 f r) hP hD isC isR hC hR hn hdis hk hF hp hd
  rw [← e1] at hP2
  obtain ⟨t2, a1, b1⟩ := kk f r T'.heap (locs ++ L) hP2 hD2 ⟨Nat.le_trans hS.1 (by rw [e1]; exact hz), fun q h1 h2 => by rw [e1, hk q (Nat.lt_of_lt_of_le h1 hS.1) (fun z => h2 (hF q z))]; exact hS.2.1 q h1 h2, fun q hq => by
      rcases List.mem_append.mp hq with h | h
      · exact hS.2.2 q h
      · exact hF _ (hL q h)⟩ T' rfl X'
  exact ⟨t2, st t2 a1, b1⟩
theorem n_call5 {a : Array Value} {st0 : List Value} {mc ms : Nat} {rv : (Nat → Nat) → Option Value} {w2 : (Nat → Nat) → (Nat → Nat) → va_W} (X : nCx p s m args c cc nL own dC dI g A ws H locs)
    (hr : va_Run5 p l e R s m args below meth c H locs cells slots mc ms (F0 m pc ls st0) rest (nQ dC dI rv w2 (va_A wc H.size) a) (va_A wc H.size))
    (isC isR : List Nat) (hC : isC.map (fun i => ws[i]?) = wc.map some) (hR : isR.map (fun i => ws[i]?) = wr.map some) (hn : va_nd isR = true) (hdis : ∀ i ∈ isR, i ∉ isC)
    (kk : ∀ (f r : Nat → Nat) (H1 : Heap) (locs1 : List Loc), va_P (dC, dI) CL (wr ++ w2 f r) H1 → va_D A (wr ++ w2 f r) → va_S A s.heap H1 locs1 → W p l e R s m args below meth c H1 locs1 (cells + mc) (slots + ms) Q (F0 m (pc + 5) ls ((rv f).toList ++ rest))) : W p l e R s m args below meth c H locs cells slots Q (F0 m pc ls st0) := by
  obtain ⟨S, hE, hS, hA, hP, hD⟩ := X
  have hF := va_free hD hS hA isC hC
  intro T hT Xs
  obtain ⟨v, st₀, t, T', L, h0, X', hL, e1, e2, ⟨⟨f, r, hv, hp, hd⟩, hz, hk⟩, st⟩ := hr T hT Xs
  cases hv
  rw [h0] at hz hk
  obtain ⟨hP2, hD2⟩ := va_join (w1 := w2 f r) hP hD isC isR hC hR hn hdis hk hF hp hd
  rw [← e1] at hP2
  obtain ⟨t2, a1, b1⟩ := kk f r T'.heap (locs ++ L) hP2 hD2 ⟨Nat.le_trans hS.1 (by rw [e1]; exact hz), fun q h1 h2 => by rw [e1, hk q (Nat.lt_of_lt_of_le h1 hS.1) (fun z => h2 (hF q z))]; exact hS.2.1 q h1 h2, fun q hq => by
      rcases List.mem_append.mp hq with h | h
      · exact hS.2.2 q h
      · exact hF _ (hL q h)⟩ T' rfl X'
  exact ⟨t2, st t2 a1, b1⟩
/-- behind a call that throws -/
theorem n_callX {st0 : List Value} {mc ms : Nat} {E0 : String} (X : nCx p s m args c cc nL own dC dI g A ws H locs)
    (hr : vx_Run p l e R s m args below meth c H locs cells slots mc ms (F0 m pc ls st0) rest (fun _ _ _ => False) (nX E0 (va_A wc H.size)) (va_A wc H.size))
    (isC : List Nat) (hC : isC.map (fun i => ws[i]?) = wc.map some)
    (kx : ∀ (ce : Cell) (q9 : Addr) (H1 : Heap) (locs1 : List Loc), va_S A s.heap H1 locs1 → H1[q9]? = some ce → ce.vm = .none → s.vm.findClass E0 = some ce.cls → vx_W p l e R s m args below meth c H1 locs1 (cells + mc) (slots + ms) Q (F0 m pc ls rest) q9) : W p l e R s m args below meth c H locs cells slots Q (F0 m pc ls st0) := by
  obtain ⟨S, hE, hS, hA, hP, hD⟩ := X
  have hF := va_free hD hS hA isC hC
  intro T hT Xs
  rcases hr T hT Xs with ⟨v, st₀, t, T', L, h0, X', hL, e1, e2, hfa, st⟩ | ⟨q, st₀, t, T', L, E, ce, h0, X', hL, e1, e2, ⟨rfl, hfr⟩, hce, hcv, hcl, st⟩
  · exact hfa.elim
  · obtain ⟨k1, k2, k3⟩ := vx_keep h0 e1 hS (fun q _ h => hF q h) hF hL hfr
    obtain ⟨t2, a1, b1⟩ := kx ce q T'.heap (locs ++ L) k3 (by rw [e1]; exact hce) hcv hcl T' rfl X'
    exact ⟨t2, st.trans a1, b1⟩
/-- the ends -/
theorem n_end {rv : (Nat → Nat) → Option Value} {w2 : (Nat → Nat) → (Nat → Nat) → va_W} (hS : va_S A s.heap H locs) (hP : va_P (dC, dI) CL ws H) (hD : va_D A ws) (is : List Nat) (hnd : va_nd is = true) (f r : Nat → Nat) (hm : is.filterMap (fun i => ws[i]?) = w2 f r) (hm2 : is.map (fun i => ws[i]?) = (w2 f r).map some) {v : Option Value} (hv : rv f = v) : ∀ t : State, t.heap = H → s.WarmedH t.vm → nQ dC dI rv w2 A args s (.returned v) t := by
  intro t ht _
  refine ⟨⟨f, r, by rw [hv], by rw [ht]; exact hP.sub is hm, hD.sub is hnd hm2⟩, hS.F ht⟩
/-- the words of a throw -/
theorem n_hat {own cls : String} {ic : Nat} {names : List String} (ps : List Nat) (h0 : vx_at0 own ic cls names = ps.filterMap (fun i => lw_tbl[i]?)) (h1 : (vx_at0 own ic cls names).all (fun w => goodWord w || w.faceAtom) = true) (hts : ∀ w ∈ AW, w.before args s = true) (hE : EV dC dI g A s) : ∀ w ∈ vx_at0 own ic cls names, w.before args s = true := by
  intro w hw
  have h2 := List.all_eq_true.mp h1 w hw
  rw [Bool.or_eq_true] at h2
  have h3 : w ∈ lw_tbl := by
    rw [h0] at hw
    obtain ⟨i, -, hi⟩ := List.mem_filterMap.mp hw
    exact List.mem_of_getElem? hi
  rcases h2 with h | h
  · exact hts w (List.mem_filter.mpr ⟨h3, h⟩)
  · exact va_Nw.use (xw_tab h) (hE.2.2.2.2.2.2.2.2.2 w (List.mem_filter.mpr ⟨h3, h⟩))
/-- throw new E() -/
theorem n_throw (hx : p.tables.exec = Jvm.exec) (hb : c.code = cc) (hl : l.stackTraces = false) {cls : String} {names : List String} {ik ic mc ms : Nat} (hown : s.vm.findClass own = some m.cls) (hts : ∀ w ∈ AW, w.before args s = true) (hE : EV dC dI g A s) (hS : va_S A s.heap H locs) (hcls : Bundle.fit cls = true) (hnames : ∀ n ∈ names, Bundle.fit n = true)
    (w1 : Cond.classLink own ik cls ∈ AW) (w2 : Cond.initialized cls ∈ AW) (ps : List Nat) (h0 : vx_at0 own ic cls names = ps.filterMap (fun i => lw_tbl[i]?)) (h1 : (vx_at0 own ic cls names).all (fun w => goodWord w || w.faceAtom) = true) (hgood : (Cond.classLink own ik cls :: Cond.initialized cls :: vx_at0 own ic cls names).all vx_ot = true) (hsize : ls.size = c.maxLocals)
    (d0 : decode cc pc = .ok (.new ik, 3)) (d3 : decode cc (pc + 3) = .ok (.dup, 1)) (d4 : decode cc (pc + 4) = .ok (.invokespecial ic, 3)) (d7 : decode cc (pc + 7) = .ok (.athrow, 1)) (hout : ∀ x ∈ c.exceptionTable.toList, False)
    (hRframes : names.length + 3 < R.frames) (hRlocals : (rest.map fun v => v.category).sum + (13 * (names.length + 1) + 42) ≤ R.locals) (hRcells : cells + 1 ≤ R.cells) (hRslots : slots + 6 ≤ R.slots) (hlocks : meth.locks = false) (hc : cells + 1 ≤ mc) (hs : slots + 6 ≤ ms) :
    W p l e R s m args below meth c H locs cells slots (vx_MQ below (fun _ _ _ _ => False) (nX cls A) args s mc ms A) (F0 m pc ls rest) := by
  refine vx_throw0 hx hb hl hown hcls hnames (hts _ w1) (hts _ w2) (n_hat ps h0 h1 hts hE) (fun w hw => List.all_eq_true.mp hgood w hw) hE.2.2.2.2.2.2.2.1 hE.2.2.2.2.2.2.2.2.1 hS hsize d0 d3 d4 d7 (fun x hx9 => (hout x hx9).elim) hRframes hRlocals hRcells hRslots hlocks (fun t _ h2 h3 => ⟨rfl, Nat.le_trans hS.1 h2, fun q h4 h5 => (h3 q (Nat.lt_of_lt_of_le h4 hS.1)).trans (hS.2.1 q h4 h5)⟩) hS.2.2 hc hs
/-- .. caught -/
theorem n_catch {E name : String} {ce : Cell} {q : Addr} (hE : EV dC dI g A s) (hts : ∀ w ∈ AW, w.before args s = true) (hown : s.vm.findClass own = some m.cls) {hh : List (Nat × Nat × Nat × Nat)} (htab : c.exceptionTable.toList = tableOf hh) (pre : List ExceptionTableEntry) (x : ExceptionTableEntry) (suf : List ExceptionTableEntry) (hsplit : tableOf hh = pre ++ x :: suf)
    (hpass : ∀ z ∈ pre, covers z pc = false ∨ (z.catchType ≠ 0 ∧ ∃ nm : String, (Cond.classLink own z.catchType nm).before args s = true ∧ va_Nc E nm s)) (hx : covers x pc = true) (h0 : x.catchType ≠ 0)
    (hlink : Cond.classLink own x.catchType name ∈ AW) (hcast : Cond.castable E name ∈ XW) (hcell : H[q]? = some ce) (hv : ce.vm = .none) (hcl : s.vm.findClass E = some ce.cls)
    (kk : W p l e R s m args below meth c H locs cells slots Q (F0 m x.handlerPc ls [.ref q])) : vx_W p l e R s m args below meth c H locs cells slots Q (F0 m pc ls rest) q :=
  vx_catch hown pre x suf (htab.trans hsplit) hpass hx h0 (hts _ hlink) (va_Nw.use rfl (hE.2.2.2.2.2.2.2.2.2 _ hcast)) hcell hv hcl kk
end NR
end NB2
section NB3
theorem n_lt (a b : Int32) : a < b ↔ a.toInt < b.toInt := Int32.lt_iff_toInt_lt
theorem n_le (a b : Int32) : a ≤ b ↔ a.toInt ≤ b.toInt := Int32.le_iff_toInt_le
theorem n_eq (a b : Int32) : a = b ↔ a.toInt = b.toInt := Int32.toInt_inj.symm
theorem n_inner (c : ClassId) (K : Nat) (dv : Value) : Jvm.Free.Multi.innerC c K dv = arrV c K (fun _ => dv) := arrV_new c K dv
theorem n_arrc {s : State} {cA : ClassId} {C : String} {args : Array Value} (h : va_RA s cA (.object C)) : (Cond.arrayClass (.object C)).before args s = true := by
  obtain ⟨kA, comp, h1, h2, -, h4⟩ := h
  simp [Cond.before, Cond.holds, Cond.value, h4, h1, h2]
theorem n_fcq {s : State} {cA : ClassId} {C : String} (h : va_RA s cA (.object C)) : s.vm.findClass (FieldType.array (.object C)).toString = some cA := by
  obtain ⟨-, -, -, -, -, h4⟩ := h
  exact h4
theorem n_end0 {args : Array Value} {s : State} {H : Heap} {locs : List Loc} {A : Nat → Prop} {dC : Nat → ClassId} {dI : Nat → Nat → Nat} {rv : (Nat → Nat) → Option Value} {w2 : (Nat → Nat) → (Nat → Nat) → va_W} (hS : va_S A s.heap H locs) (f : Nat → Nat) {v : Option Value} (hv : rv f = v) (hw : w2 f f = []) : ∀ t : State, t.heap = H → s.WarmedH t.vm → nQ dC dI rv w2 A args s (.returned v) t := by
  intro t ht _
  refine ⟨⟨f, f, by rw [hv], ?_, ?_⟩, hS.F ht⟩
  · rw [hw]; exact fun k q h => nomatch h
  · rw [hw]; exact ⟨(fun i j p q h => nomatch h), (fun k q h => nomatch h)⟩
theorem n_prim {s : State} {args : Array Value} {ty : FieldType} (h : (Cond.arrayClass ty).before args s = true) (hob : ∀ U : State, ∀ cA : ClassId, va_RA U cA ty = (U.vm.findClass ("[" ++ ty.toString) = some cA)) : ∃ cA : ClassId, ArrOfT s cA ty ∧ va_RA s cA ty := by
  obtain ⟨cA, kA, comp, h1, h2, h3⟩ := Cond.arrayClass_spec h
  exact ⟨cA, fun n z => ⟨fun k h => (by cases h), kA, h2, comp, h3⟩, by rw [hob]; exact h1⟩
theorem n_grid {s : State} {args : Array Value} {ty : FieldType} (h : (Cond.arrayOver (.array ty)).before args s = true) : ∃ cA : ClassId, ArrOfT s cA (.array ty) ∧ va_RA s cA (.array ty) := by
  obtain ⟨comp, cA, kA, -, -, h2, h3, h4⟩ := Jvm.Stand.arrayOver_specB h
  exact ⟨cA, fun n z => ⟨fun k h => (by cases h), kA, h2, comp, h3⟩, h4⟩
theorem n_obj {s : State} {args : Array Value} {C : String} (h : (Cond.arrayOver (.object C)).before args s = true) : ∃ cA : ClassId, ArrOfT s cA (.object C) ∧ va_RA s cA (.object C) := by
  obtain ⟨comp, cA, kA, h1, -, h2, h3, h4⟩ := Cond.arrayOver_spec h
  exact ⟨cA, fun n z => ⟨fun k h => (by cases h), kA, h2, comp, h3⟩, kA, comp, h2, h3, h1, h4⟩
end NB3
