section NB1
/-- the good words of the tables: one list for all methods -/
def AW : List Cond := lw_tbl.filter goodWord
theorem aw_mem {i : Nat} {w : Cond} (h : lw_tbl[i]? = some w) (g : goodWord w = true) : w ∈ AW := List.mem_filter.mpr ⟨List.mem_of_getElem? h, g⟩
theorem aw_good {w : Cond} (h : w ∈ AW) : goodWord w = true := (List.mem_filter.mp h).2
theorem aw_tbl {w : Cond} (h : w ∈ AW) : w ∈ lw_tbl := (List.mem_filter.mp h).1
theorem aw_in {ws : List Cond} (h : ∀ w ∈ ws, w ∈ AW) : GoodIn AW ws := fun w hw => ⟨h w hw, good_of_word (aw_good (h w hw))⟩
theorem aw_cons {c : Cond} {ws : List Cond} (hc : c ∈ AW) (h : ∀ w ∈ ws, w ∈ AW) : ∀ w ∈ c :: ws, w ∈ AW := fun w hw => (List.mem_cons.mp hw).elim (fun e => e ▸ hc) (h w)
theorem aw_self : ∀ w ∈ AW, w ∈ AW := fun _ h => h
/-- the words of nest mates -/
def nw_is : Cond → Bool
  | .fieldLinkNest _ _ _ _ _ _ => true
  | .methodLinkNest _ _ _ _ => true
  | _ => false
def NW : List Cond := lw_tbl.filter nw_is
theorem nw_mem {i : Nat} {w : Cond} (h : lw_tbl[i]? = some w) (g : nw_is w = true) : w ∈ NW := List.mem_filter.mpr ⟨List.mem_of_getElem? h, g⟩
theorem nw_tab {w : Cond} (h : nw_is w = true) : w.onTables = true := by
  cases w <;> first | rfl | (simp [nw_is] at h)
theorem nw_move {s U : State} (hW : s.WarmedH U.vm) {w : Cond} (hw : nw_is w = true) (h : va_Nw w s) : va_Nw w U := by
  cases w <;> first | exact va_Nw.warmF hW h | exact va_Nw.warmM hW h | (simp [nw_is] at hw)
/-- an array over arrays -/
def va_AOA (ty : FieldType) (U : State) : Prop := (Cond.arrayOver (.array ty)).before #[] U = true
theorem va_AOA.use {ty : FieldType} {A : Array Value} {U : State} (h : va_AOA ty U) : (Cond.arrayOver (.array ty)).before A U = true := h
theorem va_AOA.of {ty : FieldType} {A : Array Value} {U : State} (h : (Cond.arrayOver (.array ty)).before A U = true) : va_AOA ty U := h
theorem va_AOA.moved {ty : FieldType} {u U : State} (hvm : u.vm.Alike U.vm) (h : va_AOA ty u) : va_AOA ty U := Jvm.Stand.arrayOver_alikeB hvm h
end NB1
/-! ===== BEGIN new T[n][m]: the outer array a place, the inner ones among the pooled ===== -/
/-- f, but v at every address of l -/
def vr_up {α : Type} (f : Nat → α) (l : List Nat) (v : α) : Nat → α := fun a => if a ∈ l then v else f a
theorem vr_up_in {α : Type} {f : Nat → α} {l : List Nat} {v : α} {a : Nat} (h : a ∈ l) : vr_up f l v a = v := if_pos h
theorem vr_up_ne {α : Type} {f : Nat → α} {l : List Nat} {v : α} {a : Nat} (h : a ∉ l) : vr_up f l v a = f a := if_neg h
theorem vr_rows {L l : List Nat} {f : Nat → va_E} {e : va_E} (h : ∀ a, a ∈ l → a ∉ L) : va_pl L f ++ l.map (fun a => (a, e)) = va_pl (L ++ l) (vr_up f l e) := by
  unfold va_pl
  rw [List.map_append]
  congr 1
  · apply List.map_congr_left
    intro a ha
    rw [vr_up_ne (fun q => h a q ha)]
  · apply List.map_congr_left
    intro a ha
    rw [vr_up_in ha]
theorem vr_lay {X rows : va_W} {x : Nat × va_E} {pl : va_W} {D : va_G} {cl : List vw_C} {H : Heap} (hP : va_P D cl (((X ++ pl) ++ [x]) ++ rows) H) : va_P D cl ((X ++ [x]) ++ (pl ++ rows)) H := by
  rw [List.append_assoc (X ++ pl)] at hP
  have h := va_P.swap hP
  rw [← List.append_assoc X] at h
  have h2 := va_P.swap h
  rw [List.append_assoc (X ++ [x])] at h2
  exact h2
theorem vr_layD {X rows : va_W} {x : Nat × va_E} {pl : va_W} {A : Nat → Prop} (hD : va_D A (((X ++ pl) ++ [x]) ++ rows)) : va_D A ((X ++ [x]) ++ (pl ++ rows)) := by
  rw [List.append_assoc (X ++ pl)] at hD
  have h := va_D.swap hD
  rw [← List.append_assoc X] at h
  have h2 := va_D.swap h
  rw [List.append_assoc (X ++ [x])] at h2
  exact h2
theorem vr_outer (c : ClassId) (N h0 : Nat) : ∀ i : Nat, Jvm.Free.Multi.outerC c N h0 i = arrV c N (fun j => va_rf (if j < i then some (h0 + 1 + j) else none))
  | 0 => by
    show ({ cls := c, slots := Array.replicate N .null, vm := .none } : Cell) = _
    rw [arrV_new]
    refine congrArg (arrV c N) (funext fun j => ?_)
    simp [va_rf]
  | i + 1 => by
    show (Jvm.Free.Multi.outerC c N h0 i).setSlot i (.ref (h0 + 1 + i)) = _
    rw [vr_outer c N h0 i, arrV_store]
    refine congrArg (arrV c N) (funext fun j => ?_)
    by_cases e : j = i
    · subst e
      simp [updV, va_rf]
    · by_cases h : j < i
      · simp [updV, e, h, Nat.lt_succ_of_lt h]
      · simp [updV, e, h, show ¬ j < i + 1 by omega]
section VGM
variable {p : Program} {l : Launch} {e : Env} {R : Room} {s : State} {m : MethodId} {args : Array Value} {below : List Frame} {meth : Method} {c : Code} {H : Heap} {locs : List Loc} {cells slots : Nat} {Q : State → Prop}
variable {cc : ByteArray} {pc : Nat} {ls : Array Slot} {rest : List Value} {D : va_G} {cl : List vw_C} {A : Nat → Prop} {a : Nat} {tys : List (ClassId × FieldType)} {ws : va_W} {H0 : Heap}
theorem va_mna {X : va_W} {L : List Nat} {f : Nat → va_E} {cc : ByteArray} (hexec : p.tables.exec = Jvm.exec) (hb : c.code = cc) {own : String} {index : Nat} {ty : FieldType} {cy : ClassId} (hown : s.vm.findClass own = some m.cls) (hclink : (Cond.classLink own index ("[" ++ (FieldType.array ty).toString)).before args s = true) (hover : va_AOA ty s) (harr : (Cond.arrayClass ty).before args s = true) (hcy : s.vm.findClass (FieldType.array ty).toString = some cy)
    (hK : va_K D cl tys s) (hP : va_P D cl (X ++ va_pl L f) H) (hD : va_D A (X ++ va_pl L f)) (hS : va_S A H0 H locs) (hA : ∀ q, H0.size ≤ q → A q) {n k : Int32} {N' K' : Nat} {z : vp_A} (hn : ¬ n < 0) (hk : ¬ k < 0) (hN : n.toNatClampNeg = N') (hM : k.toNatClampNeg = K')
    (hb1 : N' * 4 ≤ 536870912) (hb2 : K' * componentBytes ty ≤ 536870912) (hb3 : K' ≤ 536870912) (hdf : fits ty (defaultValue ty) = true) (hdd : (defaultValue ty).isDefault = true) (hcells : cells + (1 + N') ≤ R.cells) (hslots : slots + (N' + N' * K') ≤ R.slots) (hz : ∀ c : ClassId, Jvm.Free.Multi.innerC c K' (defaultValue ty) = vp_cell c z) (hdg : decode cc pc = .ok (.multianewarray index 2, 4))
    (kk : ∀ (q : Nat) (r : Nat → Nat) (cA : ClassId) (H1 : Heap), (∀ i j : Nat, i < N' → j < N' → r i = r j → i = j) → (∀ i : Nat, i < N' → r i ∉ L) → va_K D cl (tys ++ [(cA, .array ty)]) s →
      va_P D cl ((X ++ [(q, .inl (cA, N', .inr (.inr (.inr (.inr (fun i => if i < N' then some (r i) else none))))))]) ++ va_pl (L ++ (List.range N').map r) (vr_up f ((List.range N').map r) (.inl (cy, z)))) H1 → va_D A ((X ++ [(q, .inl (cA, N', .inr (.inr (.inr (.inr (fun i => if i < N' then some (r i) else none))))))]) ++ va_pl (L ++ (List.range N').map r) (vr_up f ((List.range N').map r) (.inl (cy, z)))) → va_S A H0 H1 locs →
      W p l e R s m args below meth c H1 locs (cells + 1 + N') (slots + N' + N' * K') Q (F0 m (pc + 4) ls (.ref q :: rest))) : W p l e R s m args below meth c H locs cells slots Q (F0 m pc ls (.int k :: .int n :: rest)) := by
  subst hN
  subst hM
  intro T hT Xs
  obtain ⟨vm₁, cA, comp, -, fA, fC, hO, -, X', step⟩ := Xs.multianewarray2F hexec hown hclink (va_AOA.use hover) harr (g := F0 m pc ls (.int k :: .int n :: rest)) rfl (by rw [hb]; exact hdg) rfl hn hk hb1 hb2 hb3 hdf hdd hcells hslots
  have ec : some cy = some comp := hcy.symm.trans fC
  cases ec
  generalize hF : Jvm.Free.Multi.fill (T.setVm vm₁) cA cy n.toNatClampNeg k.toNatClampNeg (defaultValue ty) n.toNatClampNeg = F at X' step
  have hTh : (T.setVm vm₁).heap = H := hT
  obtain ⟨f1, f2, -, -⟩ := Jvm.Free.Multi.fill_facts (T.setVm vm₁) cA cy n.toNatClampNeg k.toNatClampNeg (defaultValue ty) n.toNatClampNeg
  rw [hF, hTh] at f1 f2
  have hold : ∀ x : Nat, x < H.size → F.heap[x]? = H[x]? := fun x hx => by
    have := Jvm.Free.Multi.fill_old (T.setVm vm₁) cA cy n.toNatClampNeg k.toNatClampNeg (defaultValue ty) (a := x) (by rw [hTh]; exact hx) n.toNatClampNeg
    rw [hF, hTh] at this
    exact this
  have hrow : ∀ j : Nat, j < n.toNatClampNeg → F.heap[H.size + 1 + j]? = some (vp_cell cy z) := fun j hj => by
    have := Jvm.Free.Multi.fill_inner (T.setVm vm₁) cA cy n.toNatClampNeg k.toNatClampNeg (defaultValue ty) n.toNatClampNeg j hj
    rw [hF, hTh, hz] at this
    exact this
  have hout : Jvm.Free.Multi.outerC cA n.toNatClampNeg H.size n.toNatClampNeg = vp_cell cA (n.toNatClampNeg, .inr (.inr (.inr (.inr (fun i => if i < n.toNatClampNeg then some (H.size + 1 + i) else none))))) := by
    rw [vp_cell_q]
    exact vr_outer cA n.toNatClampNeg H.size n.toNatClampNeg
  rw [hout] at f2
  have hlt : ∀ a, a ∈ L → a < H.size := fun a ha => by
    obtain ⟨k9, hk9⟩ := va_pl_get (X := X) (f := f) ha
    exact (hP k9 _ hk9).lt
  have hnl : ∀ i : Nat, i < n.toNatClampNeg → H.size + 1 + i ∉ L := fun i _ h => by
    have := hlt _ h
    omega
  have hnm : ∀ a, a ∈ (List.range n.toNatClampNeg).map (fun i => H.size + 1 + i) → a ∉ L := fun a ha h => by
    obtain ⟨i, -, rfl⟩ := List.mem_map.mp ha
    have := hlt _ h
    omega
  have hP0 : va_P D cl (X ++ va_pl L f) F.heap := hP.kept (fun k9 x hx => hold x.1 ((hP k9 x hx).lt))
  have hP1 : va_P D cl ((X ++ va_pl L f) ++ [(H.size, .inl (cA, n.toNatClampNeg, .inr (.inr (.inr (.inr (fun i => if i < n.toNatClampNeg then some (H.size + 1 + i) else none))))))]) F.heap := hP0.app (fun k9 x hx => by
    have h0 : k9 < 1 := (List.getElem?_eq_some_iff.mp hx).1
    rw [show k9 = 0 by omega] at hx
    cases hx
    exact f2)
  have hP2 : va_P D cl (((X ++ va_pl L f) ++ [(H.size, .inl (cA, n.toNatClampNeg, .inr (.inr (.inr (.inr (fun i => if i < n.toNatClampNeg then some (H.size + 1 + i) else none))))))]) ++ ((List.range n.toNatClampNeg).map (fun i => H.size + 1 + i)).map (fun a => (a, .inl (cy, z)))) F.heap := hP1.app (fun k9 x hx => by
    obtain ⟨a, ha, rfl⟩ := List.mem_map.mp (List.mem_of_getElem? hx)
    obtain ⟨i, hi, rfl⟩ := List.mem_map.mp ha
    exact hrow i (List.mem_range.mp hi))
  have hD2 : va_D A (((X ++ va_pl L f) ++ [(H.size, .inl (cA, n.toNatClampNeg, .inr (.inr (.inr (.inr (fun i => if i < n.toNatClampNeg then some (H.size + 1 + i) else none))))))]) ++ ((List.range n.toNatClampNeg).map (fun i => H.size + 1 + i)).map (fun a => (a, .inl (cy, z)))) := by
    have hD1 := hD.push (e := .inl (cA, n.toNatClampNeg, .inr (.inr (.inr (.inr (fun i => if i < n.toNatClampNeg then some (H.size + 1 + i) else none)))))) hP rfl (hA _ hS.1)
    generalize hW1 : (X ++ va_pl L f) ++ [(H.size, .inl (cA, n.toNatClampNeg, .inr (.inr (.inr (.inr (fun i => if i < n.toNatClampNeg then some (H.size + 1 + i) else none))))))] = W1 at hD1 hP1 ⊢
    have hle : ∀ (k9 : Nat) (x : Nat × va_E), W1[k9]? = some x → x.1 ≤ H.size := fun k9 x hx => by
      rw [← hW1] at hx
      by_cases hl : k9 < (X ++ va_pl L f).length
      · rw [List.getElem?_append_left hl] at hx
        exact Nat.le_of_lt ((hP k9 x hx).lt)
      · rw [List.getElem?_append_right (by omega)] at hx
        have h0 : k9 - (X ++ va_pl L f).length < 1 := (List.getElem?_eq_some_iff.mp hx).1
        rw [show k9 - (X ++ va_pl L f).length = 0 by omega] at hx
        cases hx
        exact Nat.le_refl _
    have hr : ∀ (k9 : Nat) (x : Nat × va_E), (((List.range n.toNatClampNeg).map (fun i => H.size + 1 + i)).map (fun a => ((a, .inl (cy, z)) : Nat × va_E)))[k9]? = some x → x.1 = H.size + 1 + k9 := fun k9 x hx => by
      rw [List.getElem?_map, List.getElem?_map] at hx
      by_cases h9 : k9 < n.toNatClampNeg
      · rw [List.getElem?_range h9] at hx
        cases hx
        rfl
      · have hn0 : (List.range n.toNatClampNeg)[k9]? = none := List.getElem?_eq_none (by rw [List.length_range]; omega)
        rw [hn0] at hx
        cases hx
    refine ⟨fun i j x y hi hj hxy => ?_, fun k9 x hx => ?_⟩
    · by_cases h1 : i < W1.length <;> by_cases h2 : j < W1.length
      · rw [List.getElem?_append_left h1] at hi
        rw [List.getElem?_append_left h2] at hj
        exact hD1.1 i j x y hi hj hxy
      · rw [List.getElem?_append_left h1] at hi
        rw [List.getElem?_append_right (by omega)] at hj
        have := hle _ _ hi
        have := hr _ _ hj
        omega
      · rw [List.getElem?_append_right (by omega)] at hi
        rw [List.getElem?_append_left h2] at hj
        have := hle _ _ hj
        have := hr _ _ hi
        omega
      · rw [List.getElem?_append_right (by omega)] at hi hj
        have := hr _ _ hi
        have := hr _ _ hj
        omega
    · by_cases h1 : k9 < W1.length
      · rw [List.getElem?_append_left h1] at hx
        exact hD1.2 k9 x hx
      · rw [List.getElem?_append_right (by omega)] at hx
        have := hr _ _ hx
        exact hA _ (by have := hS.1; omega)
  have hAr : ArrOfT s cA (.array ty) := fun N9 z9 => by
    obtain ⟨-, k9, hk9, cm9, hkk9⟩ := (hO 0 0 0).1
    exact ⟨(fun q hq => by cases hq), k9, hk9, cm9, hkk9⟩
  have hK2 : va_K D cl (tys ++ [(cA, .array ty)]) s := ⟨hK.1, fun k9 x hx => by
    by_cases hl : k9 < tys.length
    · rw [List.getElem?_append_left hl] at hx
      exact hK.2 k9 x hx
    · rw [List.getElem?_append_right (by omega)] at hx
      have h0 : k9 - tys.length < 1 := (List.getElem?_eq_some_iff.mp hx).1
      rw [show k9 - tys.length = 0 by omega] at hx
      cases hx
      exact ⟨hAr, fA⟩⟩
  obtain ⟨t, a1, b1⟩ := kk H.size (fun i => H.size + 1 + i) cA F.heap (fun i j _ _ h => by have h9 : H.size + 1 + i = H.size + 1 + j := h; omega) hnl hK2 (by rw [← vr_rows hnm]; exact vr_lay hP2) (by rw [← vr_rows hnm]; exact vr_layD hD2) ⟨by rw [f1]; have := hS.1; omega, fun x h1 h2 => (hold x (Nat.lt_of_lt_of_le h1 hS.1)).trans (hS.2.1 x h1 h2), hS.2.2⟩ F rfl X'
  refine ⟨t, step t ?_, b1⟩
  have e : T.heap.size = H.size := by rw [hT]
  rw [e]
  exact a1
end VGM
def TJx35411 : u_T := fun k => match k with
  | 0 => ("java/util/ArrayList$Itr", "cursor", "I", false)
  | 1 => ("java/util/ArrayList$Itr", "lastRet", "I", false)
  | 2 => ("java/util/ArrayList$Itr", "expectedModCount", "I", false)
  | _ => ("java/util/ArrayList$Itr", "this$0", "Ljava/util/ArrayList;", true)
def tyJx35411 : Nat → FieldType := fun k => match k with
  | 0 => .int
  | 1 => .int
  | 2 => .int
  | _ => .object "java/util/ArrayList"
theorem nmJx35411 : ∀ a, a < 4 → ∀ b, b < 4 → a ≠ b → (TJx35411 a).2.1 ≠ (TJx35411 b).2.1 := by decide +kernel
theorem tyJx35411_ok : ∀ k, k < 4 → parseFieldDescriptor (TJx35411 k).2.2.1 = some (tyJx35411 k) := by decide +kernel
def TJx4a65c : u_T := fun k => match k with
  | 0 => ("java/util/AbstractList", "modCount", "I", false)
  | 1 => ("java/util/ArrayList", "elementData", "[Ljava/lang/Object;", false)
  | _ => ("java/util/ArrayList", "size", "I", false)
def tyJx4a65c : Nat → FieldType := fun k => match k with
  | 0 => .int
  | 1 => .array (.object "java/lang/Object")
  | _ => .int
theorem nmJx4a65c : ∀ a, a < 3 → ∀ b, b < 3 → a ≠ b → (TJx4a65c a).2.1 ≠ (TJx4a65c b).2.1 := by decide +kernel
theorem tyJx4a65c_ok : ∀ k, k < 3 → parseFieldDescriptor (TJx4a65c k).2.2.1 = some (tyJx4a65c k) := by decide +kernel
def TX0 : u_T := fun k => match k with
  | 0 => ("Minestrata$Air", "radix", "LMinestrata$Radix;", true)
  | 1 => ("Minestrata$Air", "divisor", "[J", true)
  | 2 => ("Minestrata$Air", "flowTimes", "[[J", true)
  | 3 => ("Minestrata$Air", "flowTold", "[I", true)
  | 4 => ("Minestrata$Air", "flowSign", "[I", true)
  | 5 => ("Minestrata$Air", "pressureTold", "[I", true)
  | 6 => ("Minestrata$Air", "divisorBits", "I", false)
  | 7 => ("Minestrata$Air", "pressureTimes", "[[J", true)
  | 8 => ("Minestrata$Air", "groups", "LMinestrata$Groups;", true)
  | 9 => ("Minestrata$Air", "equations", "LMinestrata$Equations;", true)
  | 10 => ("Minestrata$Air", "fraction", "LMinestrata$Fraction;", true)
  | 11 => ("Minestrata$Air", "equationOf", "[I", true)
  | 12 => ("Minestrata$Air", "fixed", "[I", true)
  | 13 => ("Minestrata$Air", "conductance", "[J", true)
  | 14 => ("Minestrata$Air", "unknowns", "I", false)
  | _ => ("Minestrata$Air", "tried", "I", false)
def tyX0 : Nat → FieldType := fun k => match k with
  | 0 => .object "Minestrata$Radix"
  | 1 => .array .long
  | 2 => .array (.array .long)
  | 3 => .array .int
  | 4 => .array .int
  | 5 => .array .int
  | 6 => .int
  | 7 => .array (.array .long)
  | 8 => .object "Minestrata$Groups"
  | 9 => .object "Minestrata$Equations"
  | 10 => .object "Minestrata$Fraction"
  | 11 => .array .int
  | 12 => .array .int
  | 13 => .array .long
  | 14 => .int
  | _ => .int
theorem nmX0 : ∀ a, a < 16 → ∀ b, b < 16 → a ≠ b → (TX0 a).2.1 ≠ (TX0 b).2.1 := by decide +kernel
theorem tyX0_ok : ∀ k, k < 16 → parseFieldDescriptor (TX0 k).2.2.1 = some (tyX0 k) := by decide +kernel
def TX2 : u_T := fun k => match k with
  | 0 => ("Minestrata$Equations", "row", "[[J", true)
  | _ => ("Minestrata$Equations", "prime", "J", false)
def tyX2 : Nat → FieldType := fun k => match k with
  | 0 => .array (.array .long)
  | _ => .long
theorem nmX2 : ∀ a, a < 2 → ∀ b, b < 2 → a ≠ b → (TX2 a).2.1 ≠ (TX2 b).2.1 := by decide +kernel
theorem tyX2_ok : ∀ k, k < 2 → parseFieldDescriptor (TX2 k).2.2.1 = some (tyX2 k) := by decide +kernel
def TX3 : u_T := fun k => match k with
  | 0 => ("Minestrata$Escape", "groups", "LMinestrata$Groups;", true)
  | 1 => ("Minestrata$Escape", "used", "[I", true)
  | 2 => ("Minestrata$Escape", "cameBy", "[I", true)
  | _ => ("Minestrata$Escape", "line", "[I", true)
def tyX3 : Nat → FieldType := fun k => match k with
  | 0 => .object "Minestrata$Groups"
  | 1 => .array .int
  | 2 => .array .int
  | _ => .array .int
theorem nmX3 : ∀ a, a < 4 → ∀ b, b < 4 → a ≠ b → (TX3 a).2.1 ≠ (TX3 b).2.1 := by decide +kernel
theorem tyX3_ok : ∀ k, k < 4 → parseFieldDescriptor (TX3 k).2.2.1 = some (tyX3 k) := by decide +kernel
def TX4 : u_T := fun k => match k with
  | 0 => ("Minestrata$Fraction", "above", "[J", true)
  | 1 => ("Minestrata$Fraction", "below", "[J", true)
  | 2 => ("Minestrata$Fraction", "isExact", "Z", false)
  | 3 => ("Minestrata$Fraction", "isNegative", "Z", false)
  | 4 => ("Minestrata$Fraction", "digit", "[J", true)
  | _ => ("Minestrata$Fraction", "divisor", "[J", true)
def tyX4 : Nat → FieldType := fun k => match k with
  | 0 => .array .long
  | 1 => .array .long
  | 2 => .boolean
  | 3 => .boolean
  | 4 => .array .long
  | _ => .array .long
theorem nmX4 : ∀ a, a < 6 → ∀ b, b < 6 → a ≠ b → (TX4 a).2.1 ≠ (TX4 b).2.1 := by decide +kernel
theorem tyX4_ok : ∀ k, k < 6 → parseFieldDescriptor (TX4 k).2.2.1 = some (tyX4 k) := by decide +kernel
def TX5 : u_T := fun k => match k with
  | 0 => ("Minestrata$Gas", "thousandths", "[I", true)
  | 1 => ("Minestrata$Gas", "full", "[Z", true)
  | 2 => ("Minestrata$Gas", "isMore", "[Z", true)
  | 3 => ("Minestrata$Gas", "carries", "[Z", true)
  | 4 => ("Minestrata$Gas", "equationOf", "[I", true)
  | 5 => ("Minestrata$Gas", "from", "[I", true)
  | 6 => ("Minestrata$Gas", "to", "[I", true)
  | 7 => ("Minestrata$Gas", "groups", "LMinestrata$Groups;", true)
  | 8 => ("Minestrata$Gas", "equations", "LMinestrata$Equations;", true)
  | 9 => ("Minestrata$Gas", "radix", "LMinestrata$Radix;", true)
  | 10 => ("Minestrata$Gas", "fraction", "LMinestrata$Fraction;", true)
  | 11 => ("Minestrata$Gas", "gasTimes", "[[J", true)
  | _ => ("Minestrata$Gas", "unknowns", "I", false)
def tyX5 : Nat → FieldType := fun k => match k with
  | 0 => .array .int
  | 1 => .array .boolean
  | 2 => .array .boolean
  | 3 => .array .boolean
  | 4 => .array .int
  | 5 => .array .int
  | 6 => .array .int
  | 7 => .object "Minestrata$Groups"
  | 8 => .object "Minestrata$Equations"
  | 9 => .object "Minestrata$Radix"
  | 10 => .object "Minestrata$Fraction"
  | 11 => .array (.array .long)
  | _ => .int
theorem nmX5 : ∀ a, a < 13 → ∀ b, b < 13 → a ≠ b → (TX5 a).2.1 ≠ (TX5 b).2.1 := by decide +kernel
theorem tyX5_ok : ∀ k, k < 13 → parseFieldDescriptor (TX5 k).2.2.1 = some (tyX5 k) := by decide +kernel
def TX6 : u_T := fun k => match k with
  | 0 => ("Minestrata$Groups", "chosen", "[Z", true)
  | 1 => ("Minestrata$Groups", "lowest", "[I", true)
  | _ => ("Minestrata$Groups", "atSurface", "[Z", true)
def tyX6 : Nat → FieldType := fun k => match k with
  | 0 => .array .boolean
  | 1 => .array .int
  | _ => .array .boolean
theorem nmX6 : ∀ a, a < 3 → ∀ b, b < 3 → a ≠ b → (TX6 a).2.1 ≠ (TX6 b).2.1 := by decide +kernel
theorem tyX6_ok : ∀ k, k < 3 → parseFieldDescriptor (TX6 k).2.2.1 = some (tyX6 k) := by decide +kernel
def TX7 : u_T := fun k => match k with
  | 0 => ("Minestrata$Net", "junctions", "I", false)
  | 1 => ("Minestrata$Net", "surface", "[Z", true)
  | 2 => ("Minestrata$Net", "draught", "[I", true)
  | 3 => ("Minestrata$Net", "source", "[I", true)
  | 4 => ("Minestrata$Net", "powerOff", "[Z", true)
  | 5 => ("Minestrata$Net", "roads", "I", false)
  | 6 => ("Minestrata$Net", "first", "[I", true)
  | 7 => ("Minestrata$Net", "second", "[I", true)
  | 8 => ("Minestrata$Net", "resistance", "[I", true)
  | 9 => ("Minestrata$Net", "door", "[Z", true)
  | 10 => ("Minestrata$Net", "closed", "[Z", true)
  | 11 => ("Minestrata$Net", "blocked", "[Z", true)
  | _ => ("Minestrata$Net", "fan", "[I", true)
def tyX7 : Nat → FieldType := fun k => match k with
  | 0 => .int
  | 1 => .array .boolean
  | 2 => .array .int
  | 3 => .array .int
  | 4 => .array .boolean
  | 5 => .int
  | 6 => .array .int
  | 7 => .array .int
  | 8 => .array .int
  | 9 => .array .boolean
  | 10 => .array .boolean
  | 11 => .array .boolean
  | _ => .array .int
theorem nmX7 : ∀ a, a < 13 → ∀ b, b < 13 → a ≠ b → (TX7 a).2.1 ≠ (TX7 b).2.1 := by decide +kernel
theorem tyX7_ok : ∀ k, k < 13 → parseFieldDescriptor (TX7 k).2.2.1 = some (tyX7 k) := by decide +kernel
def TX8 : u_T := fun k => match k with
  | 0 => ("Minestrata$Radix", "size", "I", false)
  | 1 => ("Minestrata$Radix", "prime", "[J", true)
  | _ => ("Minestrata$Radix", "weight", "[J", true)
def tyX8 : Nat → FieldType := fun k => match k with
  | 0 => .int
  | 1 => .array .long
  | _ => .array .long
theorem nmX8 : ∀ a, a < 3 → ∀ b, b < 3 → a ≠ b → (TX8 a).2.1 ≠ (TX8 b).2.1 := by decide +kernel
theorem tyX8_ok : ∀ k, k < 3 → parseFieldDescriptor (TX8 k).2.2.1 = some (tyX8 k) := by decide +kernel
def TX9 : u_T := fun k => match k with
  | 0 => ("Minestrata$Sensors", "present", "[Z", true)
  | 1 => ("Minestrata$Sensors", "drift", "[I", true)
  | _ => ("Minestrata$Sensors", "rightAt", "[I", true)
def tyX9 : Nat → FieldType := fun k => match k with
  | 0 => .array .boolean
  | 1 => .array .int
  | _ => .array .int
theorem nmX9 : ∀ a, a < 3 → ∀ b, b < 3 → a ≠ b → (TX9 a).2.1 ≠ (TX9 b).2.1 := by decide +kernel
theorem tyX9_ok : ∀ k, k < 3 → parseFieldDescriptor (TX9 k).2.2.1 = some (tyX9 k) := by decide +kernel
def TX10 : u_T := fun k => match k with
  | 0 => ("Minestrata$Stopes", "count", "I", false)
  | 1 => ("Minestrata$Stopes", "junction", "[I", true)
  | 2 => ("Minestrata$Stopes", "tons", "[I", true)
  | 3 => ("Minestrata$Stopes", "grade", "[I", true)
  | 4 => ("Minestrata$Stopes", "load", "[I", true)
  | 5 => ("Minestrata$Stopes", "state", "[C", true)
  | 6 => ("Minestrata$Stopes", "pile", "[I", true)
  | 7 => ("Minestrata$Stopes", "delivered", "[I", true)
  | 8 => ("Minestrata$Stopes", "strength", "[I", true)
  | _ => ("Minestrata$Stopes", "neighbours", "[I", true)
def tyX10 : Nat → FieldType := fun k => match k with
  | 0 => .int
  | 1 => .array .int
  | 2 => .array .int
  | 3 => .array .int
  | 4 => .array .int
  | 5 => .array .char
  | 6 => .array .int
  | 7 => .array .int
  | 8 => .array .int
  | _ => .array .int
theorem nmX10 : ∀ a, a < 10 → ∀ b, b < 10 → a ≠ b → (TX10 a).2.1 ≠ (TX10 b).2.1 := by decide +kernel
theorem tyX10_ok : ∀ k, k < 10 → parseFieldDescriptor (TX10 k).2.2.1 = some (tyX10 k) := by decide +kernel
def TX11 : u_T := fun k => match k with
  | 0 => ("Minestrata", "net", "LMinestrata$Net;", true)
  | 1 => ("Minestrata", "netBefore", "LMinestrata$Net;", true)
  | 2 => ("Minestrata", "stopes", "LMinestrata$Stopes;", true)
  | 3 => ("Minestrata", "stopesBefore", "LMinestrata$Stopes;", true)
  | 4 => ("Minestrata", "air", "LMinestrata$Air;", true)
  | 5 => ("Minestrata", "gases", "LMinestrata$Gas;", true)
  | 6 => ("Minestrata", "sensors", "LMinestrata$Sensors;", true)
  | 7 => ("Minestrata", "escape", "LMinestrata$Escape;", true)
  | 8 => ("Minestrata", "blend", "LMinestrata$Blend;", false)
  | 9 => ("Minestrata", "good", "[Z", true)
  | 10 => ("Minestrata", "place", "[I", true)
  | 11 => ("Minestrata", "persons", "I", false)
  | 12 => ("Minestrata", "limit", "I", false)
  | 13 => ("Minestrata", "shifts", "I", false)
  | 14 => ("Minestrata", "refusals", "I", false)
  | 15 => ("Minestrata", "refuser", "I", false)
  | 16 => ("Minestrata", "penaltySum", "J", false)
  | _ => ("Minestrata", "stale", "Z", false)
def tyX11 : Nat → FieldType := fun k => match k with
  | 0 => .object "Minestrata$Net"
  | 1 => .object "Minestrata$Net"
  | 2 => .object "Minestrata$Stopes"
  | 3 => .object "Minestrata$Stopes"
  | 4 => .object "Minestrata$Air"
  | 5 => .object "Minestrata$Gas"
  | 6 => .object "Minestrata$Sensors"
  | 7 => .object "Minestrata$Escape"
  | 8 => .object "Minestrata$Blend"
  | 9 => .array .boolean
  | 10 => .array .int
  | 11 => .int
  | 12 => .int
  | 13 => .int
  | 14 => .int
  | 15 => .int
  | 16 => .long
  | _ => .boolean
theorem nmX11 : ∀ a, a < 18 → ∀ b, b < 18 → a ≠ b → (TX11 a).2.1 ≠ (TX11 b).2.1 := by decide +kernel
theorem tyX11_ok : ∀ k, k < 18 → parseFieldDescriptor (TX11 k).2.2.1 = some (tyX11 k) := by decide +kernel
def TX12 : u_T := fun k => match k with
  | 0 => ("MinestrataModel$Air", "pressures", "[LMinestrataModel$Big;", true)
  | 1 => ("MinestrataModel$Air", "flows", "[LMinestrataModel$Big;", true)
  | 2 => ("MinestrataModel$Air", "gas", "[LMinestrataModel$Big;", true)
  | 3 => ("MinestrataModel$Air", "over", "LMinestrataModel$Big;", false)
  | 4 => ("MinestrataModel$Air", "gasOver", "LMinestrataModel$Big;", false)
  | 5 => ("MinestrataModel$Air", "isFull", "[Z", true)
  | _ => ("MinestrataModel$Air", "this$0", "LMinestrataModel;", true)
def tyX12 : Nat → FieldType := fun k => match k with
  | 0 => .array (.object "MinestrataModel$Big")
  | 1 => .array (.object "MinestrataModel$Big")
  | 2 => .array (.object "MinestrataModel$Big")
  | 3 => .object "MinestrataModel$Big"
  | 4 => .object "MinestrataModel$Big"
  | 5 => .array .boolean
  | _ => .object "MinestrataModel"
theorem nmX12 : ∀ a, a < 7 → ∀ b, b < 7 → a ≠ b → (TX12 a).2.1 ≠ (TX12 b).2.1 := by decide +kernel
theorem tyX12_ok : ∀ k, k < 7 → parseFieldDescriptor (TX12 k).2.2.1 = some (tyX12 k) := by decide +kernel
def TX13 : u_T := fun k => match k with
  | 0 => ("MinestrataModel$Big", "limbs", "[I", true)
  | _ => ("MinestrataModel$Big", "isLess", "Z", true)
def tyX13 : Nat → FieldType := fun k => match k with
  | 0 => .array .int
  | _ => .boolean
theorem nmX13 : ∀ a, a < 2 → ∀ b, b < 2 → a ≠ b → (TX13 a).2.1 ≠ (TX13 b).2.1 := by decide +kernel
theorem tyX13_ok : ∀ k, k < 2 → parseFieldDescriptor (TX13 k).2.2.1 = some (tyX13 k) := by decide +kernel
def TX16 : u_T := fun k => match k with
  | 0 => ("MinestrataModel", "thrown", "I", false)
  | 1 => ("MinestrataModel", "junctions", "I", false)
  | 2 => ("MinestrataModel", "limit", "I", false)
  | 3 => ("MinestrataModel", "refusals", "I", false)
  | 4 => ("MinestrataModel", "shifts", "I", false)
  | 5 => ("MinestrataModel", "isSurface", "[Z", true)
  | 6 => ("MinestrataModel", "hasSensor", "[Z", true)
  | 7 => ("MinestrataModel", "isOff", "[Z", true)
  | 8 => ("MinestrataModel", "draughts", "[I", true)
  | 9 => ("MinestrataModel", "sources", "[I", true)
  | 10 => ("MinestrataModel", "drifts", "[I", true)
  | 11 => ("MinestrataModel", "since", "[I", true)
  | 12 => ("MinestrataModel", "roads", "Ljava/util/ArrayList;", false)
  | 13 => ("MinestrataModel", "stopes", "Ljava/util/ArrayList;", false)
  | 14 => ("MinestrataModel", "areJoined", "[[Z", true)
  | 15 => ("MinestrataModel", "people", "Ljava/util/ArrayList;", true)
  | 16 => ("MinestrataModel", "air", "LMinestrataModel$Air;", false)
  | 17 => ("MinestrataModel", "refusedBy", "I", false)
  | 18 => ("MinestrataModel", "delivered", "[I", true)
  | _ => ("MinestrataModel", "penalties", "J", false)
def tyX16 : Nat → FieldType := fun k => match k with
  | 0 => .int
  | 1 => .int
  | 2 => .int
  | 3 => .int
  | 4 => .int
  | 5 => .array .boolean
  | 6 => .array .boolean
  | 7 => .array .boolean
  | 8 => .array .int
  | 9 => .array .int
  | 10 => .array .int
  | 11 => .array .int
  | 12 => .object "java/util/ArrayList"
  | 13 => .object "java/util/ArrayList"
  | 14 => .array (.array .boolean)
  | 15 => .object "java/util/ArrayList"
  | 16 => .object "MinestrataModel$Air"
  | 17 => .int
  | 18 => .array .int
  | _ => .long
theorem nmX16 : ∀ a, a < 20 → ∀ b, b < 20 → a ≠ b → (TX16 a).2.1 ≠ (TX16 b).2.1 := by decide +kernel
theorem tyX16_ok : ∀ k, k < 20 → parseFieldDescriptor (TX16 k).2.2.1 = some (tyX16 k) := by decide +kernel
abbrev CL : List vw_C := [("java/util/ArrayList$Itr", TJx35411, 4), ("java/util/ArrayList", TJx4a65c, 3), ("Minestrata$Air", TX0, 16), ("Minestrata$Equations", TX2, 2), ("Minestrata$Escape", TX3, 4), ("Minestrata$Fraction", TX4, 6), ("Minestrata$Gas", TX5, 13), ("Minestrata$Groups", TX6, 3), ("Minestrata$Net", TX7, 13), ("Minestrata$Radix", TX8, 3), ("Minestrata$Sensors", TX9, 3), ("Minestrata$Stopes", TX10, 10), ("Minestrata", TX11, 18), ("MinestrataModel$Air", TX12, 7), ("MinestrataModel$Big", TX13, 2), ("MinestrataModel", TX16, 20)]
theorem inJx35411 : ∀ w ∈ u_ws "java/util/ArrayList$Itr" TJx35411 4, w ∈ AW := by
  intro w hw
  have h1 : w ∈ lw_tbl := (show ∀ w ∈ u_ws "java/util/ArrayList$Itr" TJx35411 4, w ∈ lw_tbl by decide +kernel) w hw
  have h2 : goodWord w = true := (show ∀ w ∈ u_ws "java/util/ArrayList$Itr" TJx35411 4, goodWord w = true by decide +kernel) w hw
  exact List.mem_filter.mpr ⟨h1, h2⟩
theorem inJx4a65c : ∀ w ∈ u_ws "java/util/ArrayList" TJx4a65c 3, w ∈ AW := by
  intro w hw
  have h1 : w ∈ lw_tbl := (show ∀ w ∈ u_ws "java/util/ArrayList" TJx4a65c 3, w ∈ lw_tbl by decide +kernel) w hw
  have h2 : goodWord w = true := (show ∀ w ∈ u_ws "java/util/ArrayList" TJx4a65c 3, goodWord w = true by decide +kernel) w hw
  exact List.mem_filter.mpr ⟨h1, h2⟩
theorem inX0 : ∀ w ∈ u_ws "Minestrata$Air" TX0 16, w ∈ AW := by
  intro w hw
  have h1 : w ∈ lw_tbl := (show ∀ w ∈ u_ws "Minestrata$Air" TX0 16, w ∈ lw_tbl by decide +kernel) w hw
  have h2 : goodWord w = true := (show ∀ w ∈ u_ws "Minestrata$Air" TX0 16, goodWord w = true by decide +kernel) w hw
  exact List.mem_filter.mpr ⟨h1, h2⟩
theorem inX2 : ∀ w ∈ u_ws "Minestrata$Equations" TX2 2, w ∈ AW := by
  intro w hw
  have h1 : w ∈ lw_tbl := (show ∀ w ∈ u_ws "Minestrata$Equations" TX2 2, w ∈ lw_tbl by decide +kernel) w hw
  have h2 : goodWord w = true := (show ∀ w ∈ u_ws "Minestrata$Equations" TX2 2, goodWord w = true by decide +kernel) w hw
  exact List.mem_filter.mpr ⟨h1, h2⟩
theorem inX3 : ∀ w ∈ u_ws "Minestrata$Escape" TX3 4, w ∈ AW := by
  intro w hw
  have h1 : w ∈ lw_tbl := (show ∀ w ∈ u_ws "Minestrata$Escape" TX3 4, w ∈ lw_tbl by decide +kernel) w hw
  have h2 : goodWord w = true := (show ∀ w ∈ u_ws "Minestrata$Escape" TX3 4, goodWord w = true by decide +kernel) w hw
  exact List.mem_filter.mpr ⟨h1, h2⟩
theorem inX4 : ∀ w ∈ u_ws "Minestrata$Fraction" TX4 6, w ∈ AW := by
  intro w hw
  have h1 : w ∈ lw_tbl := (show ∀ w ∈ u_ws "Minestrata$Fraction" TX4 6, w ∈ lw_tbl by decide +kernel) w hw
  have h2 : goodWord w = true := (show ∀ w ∈ u_ws "Minestrata$Fraction" TX4 6, goodWord w = true by decide +kernel) w hw
  exact List.mem_filter.mpr ⟨h1, h2⟩
theorem inX5 : ∀ w ∈ u_ws "Minestrata$Gas" TX5 13, w ∈ AW := by
  intro w hw
  have h1 : w ∈ lw_tbl := (show ∀ w ∈ u_ws "Minestrata$Gas" TX5 13, w ∈ lw_tbl by decide +kernel) w hw
  have h2 : goodWord w = true := (show ∀ w ∈ u_ws "Minestrata$Gas" TX5 13, goodWord w = true by decide +kernel) w hw
  exact List.mem_filter.mpr ⟨h1, h2⟩
theorem inX6 : ∀ w ∈ u_ws "Minestrata$Groups" TX6 3, w ∈ AW := by
  intro w hw
  have h1 : w ∈ lw_tbl := (show ∀ w ∈ u_ws "Minestrata$Groups" TX6 3, w ∈ lw_tbl by decide +kernel) w hw
  have h2 : goodWord w = true := (show ∀ w ∈ u_ws "Minestrata$Groups" TX6 3, goodWord w = true by decide +kernel) w hw
  exact List.mem_filter.mpr ⟨h1, h2⟩
theorem inX7 : ∀ w ∈ u_ws "Minestrata$Net" TX7 13, w ∈ AW := by
  intro w hw
  have h1 : w ∈ lw_tbl := (show ∀ w ∈ u_ws "Minestrata$Net" TX7 13, w ∈ lw_tbl by decide +kernel) w hw
  have h2 : goodWord w = true := (show ∀ w ∈ u_ws "Minestrata$Net" TX7 13, goodWord w = true by decide +kernel) w hw
  exact List.mem_filter.mpr ⟨h1, h2⟩
theorem inX8 : ∀ w ∈ u_ws "Minestrata$Radix" TX8 3, w ∈ AW := by
  intro w hw
  have h1 : w ∈ lw_tbl := (show ∀ w ∈ u_ws "Minestrata$Radix" TX8 3, w ∈ lw_tbl by decide +kernel) w hw
  have h2 : goodWord w = true := (show ∀ w ∈ u_ws "Minestrata$Radix" TX8 3, goodWord w = true by decide +kernel) w hw
  exact List.mem_filter.mpr ⟨h1, h2⟩
theorem inX9 : ∀ w ∈ u_ws "Minestrata$Sensors" TX9 3, w ∈ AW := by
  intro w hw
  have h1 : w ∈ lw_tbl := (show ∀ w ∈ u_ws "Minestrata$Sensors" TX9 3, w ∈ lw_tbl by decide +kernel) w hw
  have h2 : goodWord w = true := (show ∀ w ∈ u_ws "Minestrata$Sensors" TX9 3, goodWord w = true by decide +kernel) w hw
  exact List.mem_filter.mpr ⟨h1, h2⟩
theorem inX10 : ∀ w ∈ u_ws "Minestrata$Stopes" TX10 10, w ∈ AW := by
  intro w hw
  have h1 : w ∈ lw_tbl := (show ∀ w ∈ u_ws "Minestrata$Stopes" TX10 10, w ∈ lw_tbl by decide +kernel) w hw
  have h2 : goodWord w = true := (show ∀ w ∈ u_ws "Minestrata$Stopes" TX10 10, goodWord w = true by decide +kernel) w hw
  exact List.mem_filter.mpr ⟨h1, h2⟩
theorem inX11 : ∀ w ∈ u_ws "Minestrata" TX11 18, w ∈ AW := by
  intro w hw
  have h1 : w ∈ lw_tbl := (show ∀ w ∈ u_ws "Minestrata" TX11 18, w ∈ lw_tbl by decide +kernel) w hw
  have h2 : goodWord w = true := (show ∀ w ∈ u_ws "Minestrata" TX11 18, goodWord w = true by decide +kernel) w hw
  exact List.mem_filter.mpr ⟨h1, h2⟩
theorem inX12 : ∀ w ∈ u_ws "MinestrataModel$Air" TX12 7, w ∈ AW := by
  intro w hw
  have h1 : w ∈ lw_tbl := (show ∀ w ∈ u_ws "MinestrataModel$Air" TX12 7, w ∈ lw_tbl by decide +kernel) w hw
  have h2 : goodWord w = true := (show ∀ w ∈ u_ws "MinestrataModel$Air" TX12 7, goodWord w = true by decide +kernel) w hw
  exact List.mem_filter.mpr ⟨h1, h2⟩
theorem inX13 : ∀ w ∈ u_ws "MinestrataModel$Big" TX13 2, w ∈ AW := by
  intro w hw
  have h1 : w ∈ lw_tbl := (show ∀ w ∈ u_ws "MinestrataModel$Big" TX13 2, w ∈ lw_tbl by decide +kernel) w hw
  have h2 : goodWord w = true := (show ∀ w ∈ u_ws "MinestrataModel$Big" TX13 2, goodWord w = true by decide +kernel) w hw
  exact List.mem_filter.mpr ⟨h1, h2⟩
theorem inX16 : ∀ w ∈ u_ws "MinestrataModel" TX16 20, w ∈ AW := by
  intro w hw
  have h1 : w ∈ lw_tbl := (show ∀ w ∈ u_ws "MinestrataModel" TX16 20, w ∈ lw_tbl by decide +kernel) w hw
  have h2 : goodWord w = true := (show ∀ w ∈ u_ws "MinestrataModel" TX16 20, goodWord w = true by decide +kernel) w hw
  exact List.mem_filter.mpr ⟨h1, h2⟩
