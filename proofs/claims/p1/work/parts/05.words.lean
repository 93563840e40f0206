set_option maxRecDepth 20000
section NT1
theorem tm1 {w : Cond} (h : w ∈ tables_1_1) : w ∈ lw_tbl := List.mem_append_right _ (List.mem_append_left _ h)
theorem at1 {i : Nat} {w : Cond} (h : tables_1_1[i]? = some w) (g : goodWord w = true) : w ∈ AW := List.mem_filter.mpr ⟨tm1 (List.mem_of_getElem? h), g⟩
theorem bt1 {i : Nat} {w : Cond} (h : tables_1_1[i]? = some w) (g : nw_is w = true) : w ∈ NW := List.mem_filter.mpr ⟨tm1 (List.mem_of_getElem? h), g⟩
theorem ct1 {i : Nat} {w : Cond} (h : tables_1_1[i]? = some w) (g : w.faceAtom = true) : w ∈ XW := List.mem_filter.mpr ⟨tm1 (List.mem_of_getElem? h), g⟩
theorem tm2 {w : Cond} (h : w ∈ tables_1_2) : w ∈ lw_tbl := List.mem_append_right _ (List.mem_append_right _ (List.mem_append_left _ h))
theorem at2 {i : Nat} {w : Cond} (h : tables_1_2[i]? = some w) (g : goodWord w = true) : w ∈ AW := List.mem_filter.mpr ⟨tm2 (List.mem_of_getElem? h), g⟩
theorem bt2 {i : Nat} {w : Cond} (h : tables_1_2[i]? = some w) (g : nw_is w = true) : w ∈ NW := List.mem_filter.mpr ⟨tm2 (List.mem_of_getElem? h), g⟩
theorem ct2 {i : Nat} {w : Cond} (h : tables_1_2[i]? = some w) (g : w.faceAtom = true) : w ∈ XW := List.mem_filter.mpr ⟨tm2 (List.mem_of_getElem? h), g⟩
theorem tm3 {w : Cond} (h : w ∈ tables_1_3) : w ∈ lw_tbl := List.mem_append_right _ (List.mem_append_right _ (List.mem_append_right _ (List.mem_append_left _ h)))
theorem at3 {i : Nat} {w : Cond} (h : tables_1_3[i]? = some w) (g : goodWord w = true) : w ∈ AW := List.mem_filter.mpr ⟨tm3 (List.mem_of_getElem? h), g⟩
theorem bt3 {i : Nat} {w : Cond} (h : tables_1_3[i]? = some w) (g : nw_is w = true) : w ∈ NW := List.mem_filter.mpr ⟨tm3 (List.mem_of_getElem? h), g⟩
theorem ct3 {i : Nat} {w : Cond} (h : tables_1_3[i]? = some w) (g : w.faceAtom = true) : w ∈ XW := List.mem_filter.mpr ⟨tm3 (List.mem_of_getElem? h), g⟩
theorem tm4 {w : Cond} (h : w ∈ tables_1_4) : w ∈ lw_tbl := List.mem_append_right _ (List.mem_append_right _ (List.mem_append_right _ (List.mem_append_right _ (List.mem_append_left _ h))))
theorem at4 {i : Nat} {w : Cond} (h : tables_1_4[i]? = some w) (g : goodWord w = true) : w ∈ AW := List.mem_filter.mpr ⟨tm4 (List.mem_of_getElem? h), g⟩
theorem bt4 {i : Nat} {w : Cond} (h : tables_1_4[i]? = some w) (g : nw_is w = true) : w ∈ NW := List.mem_filter.mpr ⟨tm4 (List.mem_of_getElem? h), g⟩
theorem ct4 {i : Nat} {w : Cond} (h : tables_1_4[i]? = some w) (g : w.faceAtom = true) : w ∈ XW := List.mem_filter.mpr ⟨tm4 (List.mem_of_getElem? h), g⟩
theorem tm5 {w : Cond} (h : w ∈ tables_1_5) : w ∈ lw_tbl := List.mem_append_right _ (List.mem_append_right _ (List.mem_append_right _ (List.mem_append_right _ (List.mem_append_right _ (List.mem_append_left _ h)))))
theorem at5 {i : Nat} {w : Cond} (h : tables_1_5[i]? = some w) (g : goodWord w = true) : w ∈ AW := List.mem_filter.mpr ⟨tm5 (List.mem_of_getElem? h), g⟩
theorem bt5 {i : Nat} {w : Cond} (h : tables_1_5[i]? = some w) (g : nw_is w = true) : w ∈ NW := List.mem_filter.mpr ⟨tm5 (List.mem_of_getElem? h), g⟩
theorem ct5 {i : Nat} {w : Cond} (h : tables_1_5[i]? = some w) (g : w.faceAtom = true) : w ∈ XW := List.mem_filter.mpr ⟨tm5 (List.mem_of_getElem? h), g⟩
theorem tm6 {w : Cond} (h : w ∈ tables_1_6) : w ∈ lw_tbl := List.mem_append_right _ (List.mem_append_right _ (List.mem_append_right _ (List.mem_append_right _ (List.mem_append_right _ (List.mem_append_right _ (List.mem_append_left _ h))))))
theorem at6 {i : Nat} {w : Cond} (h : tables_1_6[i]? = some w) (g : goodWord w = true) : w ∈ AW := List.mem_filter.mpr ⟨tm6 (List.mem_of_getElem? h), g⟩
theorem bt6 {i : Nat} {w : Cond} (h : tables_1_6[i]? = some w) (g : nw_is w = true) : w ∈ NW := List.mem_filter.mpr ⟨tm6 (List.mem_of_getElem? h), g⟩
theorem ct6 {i : Nat} {w : Cond} (h : tables_1_6[i]? = some w) (g : w.faceAtom = true) : w ∈ XW := List.mem_filter.mpr ⟨tm6 (List.mem_of_getElem? h), g⟩
theorem tm7 {w : Cond} (h : w ∈ tables_1_7) : w ∈ lw_tbl := List.mem_append_right _ (List.mem_append_right _ (List.mem_append_right _ (List.mem_append_right _ (List.mem_append_right _ (List.mem_append_right _ (List.mem_append_right _ (List.mem_append_left _ h)))))))
theorem at7 {i : Nat} {w : Cond} (h : tables_1_7[i]? = some w) (g : goodWord w = true) : w ∈ AW := List.mem_filter.mpr ⟨tm7 (List.mem_of_getElem? h), g⟩
theorem bt7 {i : Nat} {w : Cond} (h : tables_1_7[i]? = some w) (g : nw_is w = true) : w ∈ NW := List.mem_filter.mpr ⟨tm7 (List.mem_of_getElem? h), g⟩
theorem ct7 {i : Nat} {w : Cond} (h : tables_1_7[i]? = some w) (g : w.faceAtom = true) : w ∈ XW := List.mem_filter.mpr ⟨tm7 (List.mem_of_getElem? h), g⟩
theorem tm8 {w : Cond} (h : w ∈ tables_1_8) : w ∈ lw_tbl := List.mem_append_right _ (List.mem_append_right _ (List.mem_append_right _ (List.mem_append_right _ (List.mem_append_right _ (List.mem_append_right _ (List.mem_append_right _ (List.mem_append_right _ (List.mem_append_left _ h))))))))
theorem at8 {i : Nat} {w : Cond} (h : tables_1_8[i]? = some w) (g : goodWord w = true) : w ∈ AW := List.mem_filter.mpr ⟨tm8 (List.mem_of_getElem? h), g⟩
theorem bt8 {i : Nat} {w : Cond} (h : tables_1_8[i]? = some w) (g : nw_is w = true) : w ∈ NW := List.mem_filter.mpr ⟨tm8 (List.mem_of_getElem? h), g⟩
theorem ct8 {i : Nat} {w : Cond} (h : tables_1_8[i]? = some w) (g : w.faceAtom = true) : w ∈ XW := List.mem_filter.mpr ⟨tm8 (List.mem_of_getElem? h), g⟩
theorem tm9 {w : Cond} (h : w ∈ tables_1_9) : w ∈ lw_tbl := List.mem_append_right _ (List.mem_append_right _ (List.mem_append_right _ (List.mem_append_right _ (List.mem_append_right _ (List.mem_append_right _ (List.mem_append_right _ (List.mem_append_right _ (List.mem_append_right _ (List.mem_append_left _ h)))))))))
theorem at9 {i : Nat} {w : Cond} (h : tables_1_9[i]? = some w) (g : goodWord w = true) : w ∈ AW := List.mem_filter.mpr ⟨tm9 (List.mem_of_getElem? h), g⟩
theorem bt9 {i : Nat} {w : Cond} (h : tables_1_9[i]? = some w) (g : nw_is w = true) : w ∈ NW := List.mem_filter.mpr ⟨tm9 (List.mem_of_getElem? h), g⟩
theorem ct9 {i : Nat} {w : Cond} (h : tables_1_9[i]? = some w) (g : w.faceAtom = true) : w ∈ XW := List.mem_filter.mpr ⟨tm9 (List.mem_of_getElem? h), g⟩
theorem tm10 {w : Cond} (h : w ∈ tables_1_10) : w ∈ lw_tbl := List.mem_append_right _ (List.mem_append_right _ (List.mem_append_right _ (List.mem_append_right _ (List.mem_append_right _ (List.mem_append_right _ (List.mem_append_right _ (List.mem_append_right _ (List.mem_append_right _ (List.mem_append_right _ (h))))))))))
theorem at10 {i : Nat} {w : Cond} (h : tables_1_10[i]? = some w) (g : goodWord w = true) : w ∈ AW := List.mem_filter.mpr ⟨tm10 (List.mem_of_getElem? h), g⟩
theorem bt10 {i : Nat} {w : Cond} (h : tables_1_10[i]? = some w) (g : nw_is w = true) : w ∈ NW := List.mem_filter.mpr ⟨tm10 (List.mem_of_getElem? h), g⟩
theorem ct10 {i : Nat} {w : Cond} (h : tables_1_10[i]? = some w) (g : w.faceAtom = true) : w ∈ XW := List.mem_filter.mpr ⟨tm10 (List.mem_of_getElem? h), g⟩
theorem at0 {i : Nat} {w : Cond} (h : (k2_sels lw_privs)[i]? = some w) (g : goodWord w = true) : w ∈ AW := List.mem_filter.mpr ⟨List.mem_append_left _ (List.mem_of_getElem? h), g⟩
end NT1
theorem q0 : (Jvm.Cond.selects "Minestrata" ({ cls := "Minestrata", name := "refresh", desc := "()V" } : Jvm.MethodName) ({ cls := "Minestrata", name := "refresh", desc := "()V" } : Jvm.MethodName)) ∈ AW := at0 (i := 0) rfl rfl
theorem q1 : (Jvm.Cond.selects "Minestrata$Air" ({ cls := "Minestrata$Air", name := "findUnknowns", desc := "(LMinestrata$Net;)V" } : Jvm.MethodName) ({ cls := "Minestrata$Air", name := "findUnknowns", desc := "(LMinestrata$Net;)V" } : Jvm.MethodName)) ∈ AW := at0 (i := 1) rfl rfl
theorem q2 : (Jvm.Cond.selects "Minestrata$Air" ({ cls := "Minestrata$Air", name := "solveModulo", desc := "(LMinestrata$Net;J)J" } : Jvm.MethodName) ({ cls := "Minestrata$Air", name := "solveModulo", desc := "(LMinestrata$Net;J)J" } : Jvm.MethodName)) ∈ AW := at0 (i := 2) rfl rfl
theorem q6 : (Jvm.Cond.selects "Minestrata$Air" ({ cls := "Minestrata$Air", name := "keep", desc := "(LMinestrata$Net;JJ)V" } : Jvm.MethodName) ({ cls := "Minestrata$Air", name := "keep", desc := "(LMinestrata$Net;JJ)V" } : Jvm.MethodName)) ∈ AW := at0 (i := 6) rfl rfl
theorem q7 : (Jvm.Cond.selects "Minestrata$Air" ({ cls := "Minestrata$Air", name := "tell", desc := "(LMinestrata$Net;)V" } : Jvm.MethodName) ({ cls := "Minestrata$Air", name := "tell", desc := "(LMinestrata$Net;)V" } : Jvm.MethodName)) ∈ AW := at0 (i := 7) rfl rfl
theorem q11 : (Jvm.Cond.selects "Minestrata$Gas" ({ cls := "Minestrata$Gas", name := "findWays", desc := "(LMinestrata$Net;LMinestrata$Air;)V" } : Jvm.MethodName) ({ cls := "Minestrata$Gas", name := "findWays", desc := "(LMinestrata$Net;LMinestrata$Air;)V" } : Jvm.MethodName)) ∈ AW := at0 (i := 11) rfl rfl
theorem q12 : (Jvm.Cond.selects "Minestrata$Gas" ({ cls := "Minestrata$Gas", name := "findFull", desc := "(LMinestrata$Net;)V" } : Jvm.MethodName) ({ cls := "Minestrata$Gas", name := "findFull", desc := "(LMinestrata$Net;)V" } : Jvm.MethodName)) ∈ AW := at0 (i := 12) rfl rfl
theorem q13 : (Jvm.Cond.selects "Minestrata$Gas" ({ cls := "Minestrata$Gas", name := "findCarriers", desc := "(LMinestrata$Net;)V" } : Jvm.MethodName) ({ cls := "Minestrata$Gas", name := "findCarriers", desc := "(LMinestrata$Net;)V" } : Jvm.MethodName)) ∈ AW := at0 (i := 13) rfl rfl
theorem q22 : (Jvm.Cond.selects "Minestrata" ({ cls := "Minestrata", name := "hasStepTarget", desc := "(CI)Z" } : Jvm.MethodName) ({ cls := "Minestrata", name := "hasStepTarget", desc := "(CI)Z" } : Jvm.MethodName)) ∈ AW := at0 (i := 22) rfl rfl
theorem q31 : (Jvm.Cond.selects "Minestrata" ({ cls := "Minestrata", name := "hasPerson", desc := "(I)Z" } : Jvm.MethodName) ({ cls := "Minestrata", name := "hasPerson", desc := "(I)Z" } : Jvm.MethodName)) ∈ AW := at0 (i := 31) rfl rfl
theorem q39 : (Jvm.Cond.selects "MinestrataModel" ({ cls := "MinestrataModel", name := "fails", desc := "(I)I" } : Jvm.MethodName) ({ cls := "MinestrataModel", name := "fails", desc := "(I)I" } : Jvm.MethodName)) ∈ AW := at0 (i := 39) rfl rfl
theorem q40 : (Jvm.Cond.selects "MinestrataModel" ({ cls := "MinestrataModel", name := "tells", desc := "(I)I" } : Jvm.MethodName) ({ cls := "MinestrataModel", name := "tells", desc := "(I)I" } : Jvm.MethodName)) ∈ AW := at0 (i := 40) rfl rfl
theorem q41 : (Jvm.Cond.selects "MinestrataModel" ({ cls := "MinestrataModel", name := "isJunction", desc := "(I)Z" } : Jvm.MethodName) ({ cls := "MinestrataModel", name := "isJunction", desc := "(I)Z" } : Jvm.MethodName)) ∈ AW := at0 (i := 41) rfl rfl
theorem q45 : (Jvm.Cond.selects "MinestrataModel" ({ cls := "MinestrataModel", name := "isStope", desc := "(I)Z" } : Jvm.MethodName) ({ cls := "MinestrataModel", name := "isStope", desc := "(I)Z" } : Jvm.MethodName)) ∈ AW := at0 (i := 45) rfl rfl
theorem q46 : (Jvm.Cond.selects "MinestrataModel" ({ cls := "MinestrataModel", name := "now", desc := "()LMinestrataModel$Air;" } : Jvm.MethodName) ({ cls := "MinestrataModel", name := "now", desc := "()LMinestrataModel$Air;" } : Jvm.MethodName)) ∈ AW := at0 (i := 46) rfl rfl
theorem q47 : (Jvm.Cond.selects "MinestrataModel$Air" ({ cls := "MinestrataModel$Air", name := "pressures", desc := "()V" } : Jvm.MethodName) ({ cls := "MinestrataModel$Air", name := "pressures", desc := "()V" } : Jvm.MethodName)) ∈ AW := at0 (i := 47) rfl rfl
theorem q48 : (Jvm.Cond.selects "MinestrataModel$Air" ({ cls := "MinestrataModel$Air", name := "groups", desc := "(Z)[I" } : Jvm.MethodName) ({ cls := "MinestrataModel$Air", name := "groups", desc := "(Z)[I" } : Jvm.MethodName)) ∈ AW := at0 (i := 48) rfl rfl
theorem q50 : (Jvm.Cond.selects "MinestrataModel$Air" ({ cls := "MinestrataModel$Air", name := "haveSurface", desc := "([I)[Z" } : Jvm.MethodName) ({ cls := "MinestrataModel$Air", name := "haveSurface", desc := "([I)[Z" } : Jvm.MethodName)) ∈ AW := at0 (i := 50) rfl rfl
theorem q51 : (Jvm.Cond.selects "MinestrataModel$Air" ({ cls := "MinestrataModel$Air", name := "empty", desc := "(I)[[LMinestrataModel$Big;" } : Jvm.MethodName) ({ cls := "MinestrataModel$Air", name := "empty", desc := "(I)[[LMinestrataModel$Big;" } : Jvm.MethodName)) ∈ AW := at0 (i := 51) rfl rfl
theorem q54 : (Jvm.Cond.selects "MinestrataModel$Air" ({ cls := "MinestrataModel$Air", name := "flows", desc := "()V" } : Jvm.MethodName) ({ cls := "MinestrataModel$Air", name := "flows", desc := "()V" } : Jvm.MethodName)) ∈ AW := at0 (i := 54) rfl rfl
theorem q55 : (Jvm.Cond.selects "MinestrataModel$Air" ({ cls := "MinestrataModel$Air", name := "gases", desc := "()V" } : Jvm.MethodName) ({ cls := "MinestrataModel$Air", name := "gases", desc := "()V" } : Jvm.MethodName)) ∈ AW := at0 (i := 55) rfl rfl
theorem q62 : (Jvm.Cond.selects "MinestrataModel" ({ cls := "MinestrataModel", name := "isPerson", desc := "(I)Z" } : Jvm.MethodName) ({ cls := "MinestrataModel", name := "isPerson", desc := "(I)Z" } : Jvm.MethodName)) ∈ AW := at0 (i := 62) rfl rfl
theorem q63 : (Jvm.Cond.selects "MinestrataModel" ({ cls := "MinestrataModel", name := "isThere", desc := "(CI)Z" } : Jvm.MethodName) ({ cls := "MinestrataModel", name := "isThere", desc := "(CI)Z" } : Jvm.MethodName)) ∈ AW := at0 (i := 63) rfl rfl
theorem q70 : (Jvm.Cond.initialized "MinestrataLaw") ∈ AW := at1 (i := 0) rfl rfl
theorem q71 : (Jvm.Cond.initialized "Minestrata") ∈ AW := at1 (i := 1) rfl rfl
theorem q72 : (Jvm.Cond.initialized "Minestrata$Net") ∈ AW := at1 (i := 2) rfl rfl
theorem q73 : (Jvm.Cond.initialized "Minestrata$Stopes") ∈ AW := at1 (i := 3) rfl rfl
theorem q74 : (Jvm.Cond.initialized "Minestrata$Air") ∈ AW := at1 (i := 4) rfl rfl
theorem q75 : (Jvm.Cond.initialized "Minestrata$Radix") ∈ AW := at1 (i := 5) rfl rfl
theorem q76 : (Jvm.Cond.initialized "Minestrata$Groups") ∈ AW := at1 (i := 6) rfl rfl
theorem q77 : (Jvm.Cond.initialized "Minestrata$Equations") ∈ AW := at1 (i := 7) rfl rfl
theorem q78 : (Jvm.Cond.initialized "Minestrata$Fraction") ∈ AW := at1 (i := 8) rfl rfl
theorem q79 : (Jvm.Cond.initialized "Minestrata$Gas") ∈ AW := at1 (i := 9) rfl rfl
theorem q80 : (Jvm.Cond.initialized "Minestrata$Sensors") ∈ AW := at1 (i := 10) rfl rfl
theorem q81 : (Jvm.Cond.initialized "Minestrata$Escape") ∈ AW := at1 (i := 11) rfl rfl
theorem q82 : (Jvm.Cond.initialized "MinestrataModel") ∈ AW := at1 (i := 12) rfl rfl
theorem q83 : (Jvm.Cond.initialized "java/util/AbstractCollection") ∈ AW := at1 (i := 13) rfl rfl
theorem q84 : (Jvm.Cond.initialized "java/util/AbstractList") ∈ AW := at1 (i := 14) rfl rfl
theorem q85 : (Jvm.Cond.initialized "java/util/ArrayList") ∈ AW := at1 (i := 15) rfl rfl
theorem q86 : (Jvm.Cond.initialized "java/lang/Throwable") ∈ AW := at1 (i := 16) rfl rfl
theorem q89 : (Jvm.Cond.initialized "java/lang/IllegalArgumentException") ∈ AW := at1 (i := 19) rfl rfl
theorem q91 : (Jvm.Cond.initialized "java/lang/IndexOutOfBoundsException") ∈ AW := at1 (i := 21) rfl rfl
theorem q96 : (Jvm.Cond.initialized "java/lang/Math") ∈ AW := at1 (i := 26) rfl rfl
theorem q97 : (Jvm.Cond.initialized "java/util/Arrays") ∈ AW := at1 (i := 27) rfl rfl
theorem q98 : (Jvm.Cond.initialized "java/lang/System") ∈ AW := at1 (i := 28) rfl rfl
theorem q100 : (Jvm.Cond.initialized "java/util/NoSuchElementException") ∈ AW := at1 (i := 30) rfl rfl
theorem q101 : (Jvm.Cond.initialized "MinestrataModel$Air") ∈ AW := at1 (i := 31) rfl rfl
theorem q102 : (Jvm.Cond.initialized "MinestrataModel$Big") ∈ AW := at1 (i := 32) rfl rfl
theorem q105 : (Jvm.Cond.initialized "java/util/ArrayList$Itr") ∈ AW := at1 (i := 35) rfl rfl
theorem q106 : (Jvm.Cond.initialized "java/lang/UnsupportedOperationException") ∈ AW := at1 (i := 36) rfl rfl
theorem q111 : (Jvm.Cond.initialized "java/lang/ArithmeticException") ∈ AW := at1 (i := 41) rfl rfl
theorem q112 : (Jvm.Cond.classLink "MinestrataLaw" (8 : Nat) "Minestrata") ∈ AW := at1 (i := 42) rfl rfl
theorem q113 : (Jvm.Cond.instantiable "Minestrata" (18 : Nat)) ∈ AW := at1 (i := 43) rfl rfl
theorem q114 : (Jvm.Cond.methodLink "MinestrataLaw" (126 : Nat) ({ cls := "Minestrata", name := "<init>", desc := "()V" } : Jvm.MethodName)) ∈ AW := at1 (i := 44) rfl rfl
theorem q115 : (Jvm.Cond.instanceMethod ({ cls := "Minestrata", name := "<init>", desc := "()V" } : Jvm.MethodName)) ∈ AW := at1 (i := 45) rfl rfl
theorem q116 : (Jvm.Cond.code ({ cls := "Minestrata", name := "<init>", desc := "()V" } : Jvm.MethodName) prog_1_method_1_code (1 : Nat) (Option.none : Option Jvm.ClassFile.FieldType)) ∈ AW := at1 (i := 46) rfl rfl
theorem q117 : (Jvm.Cond.methodLink "Minestrata" (1 : Nat) ({ cls := "java/lang/Object", name := "<init>", desc := "()V" } : Jvm.MethodName)) ∈ AW := at1 (i := 47) rfl rfl
theorem q118 : (Jvm.Cond.instanceMethod ({ cls := "java/lang/Object", name := "<init>", desc := "()V" } : Jvm.MethodName)) ∈ AW := at1 (i := 48) rfl rfl
theorem q119 : (Jvm.Cond.code ({ cls := "java/lang/Object", name := "<init>", desc := "()V" } : Jvm.MethodName) object_method_1_code (1 : Nat) (Option.none : Option Jvm.ClassFile.FieldType)) ∈ AW := at1 (i := 49) rfl rfl
theorem q120 : (Jvm.Cond.classLink "Minestrata" (7 : Nat) "Minestrata$Net") ∈ AW := at1 (i := 50) rfl rfl
theorem q121 : (Jvm.Cond.instantiable "Minestrata$Net" (13 : Nat)) ∈ AW := at1 (i := 51) rfl rfl
theorem q123 : (Jvm.Cond.instanceMethod ({ cls := "Minestrata$Net", name := "<init>", desc := "()V" } : Jvm.MethodName)) ∈ AW := at1 (i := 53) rfl rfl
theorem q124 : (Jvm.Cond.code ({ cls := "Minestrata$Net", name := "<init>", desc := "()V" } : Jvm.MethodName) prog_9_method_1_code (1 : Nat) (Option.none : Option Jvm.ClassFile.FieldType)) ∈ AW := at1 (i := 54) rfl rfl
theorem q125 : (Jvm.Cond.methodLink "Minestrata$Net" (3 : Nat) ({ cls := "java/lang/Object", name := "<init>", desc := "()V" } : Jvm.MethodName)) ∈ AW := at1 (i := 55) rfl rfl
theorem q126 : (Jvm.Cond.fieldLink "Minestrata$Groups" (22 : Nat) "Minestrata$Net" "junctions" "I") ∈ AW := at1 (i := 56) rfl rfl
theorem q127 : (Jvm.Cond.fieldLink "Minestrata$Net" (46 : Nat) "Minestrata$Net" "junctions" "I") ∈ AW := at1 (i := 57) rfl rfl
theorem q128 : (Jvm.Cond.fieldLink "Minestrata" (87 : Nat) "Minestrata$Net" "junctions" "I") ∈ AW := at1 (i := 58) rfl rfl
theorem q129 : (Jvm.Cond.fieldLink "Minestrata$Air" (103 : Nat) "Minestrata$Net" "junctions" "I") ∈ AW := at1 (i := 59) rfl rfl
theorem q130 : (Jvm.Cond.fieldLink "Minestrata$Gas" (122 : Nat) "Minestrata$Net" "junctions" "I") ∈ AW := at1 (i := 60) rfl rfl
theorem q132 : (Jvm.Cond.fieldLink "Minestrata$Net" (9 : Nat) "Minestrata$Net" "surface" "[Z") ∈ AW := at1 (i := 62) rfl rfl
theorem q138 : (Jvm.Cond.fieldLink "Minestrata$Net" (15 : Nat) "Minestrata$Net" "draught" "[I") ∈ AW := at1 (i := 68) rfl rfl
theorem q141 : (Jvm.Cond.fieldLink "Minestrata$Net" (19 : Nat) "Minestrata$Net" "source" "[I") ∈ AW := at1 (i := 71) rfl rfl
theorem q144 : (Jvm.Cond.fieldLink "Minestrata$Net" (22 : Nat) "Minestrata$Net" "powerOff" "[Z") ∈ AW := at1 (i := 74) rfl rfl
theorem q148 : (Jvm.Cond.fieldLink "Minestrata$Net" (50 : Nat) "Minestrata$Net" "roads" "I") ∈ AW := at1 (i := 78) rfl rfl
theorem q150 : (Jvm.Cond.fieldLink "Minestrata$Gas" (102 : Nat) "Minestrata$Net" "roads" "I") ∈ AW := at1 (i := 80) rfl rfl
theorem q151 : (Jvm.Cond.fieldLink "Minestrata$Air" (108 : Nat) "Minestrata$Net" "roads" "I") ∈ AW := at1 (i := 81) rfl rfl
theorem q152 : (Jvm.Cond.fieldLink "Minestrata$Net" (25 : Nat) "Minestrata$Net" "first" "[I") ∈ AW := at1 (i := 82) rfl rfl
theorem q157 : (Jvm.Cond.fieldLink "Minestrata$Net" (28 : Nat) "Minestrata$Net" "second" "[I") ∈ AW := at1 (i := 87) rfl rfl
theorem q162 : (Jvm.Cond.fieldLink "Minestrata$Net" (31 : Nat) "Minestrata$Net" "resistance" "[I") ∈ AW := at1 (i := 92) rfl rfl
theorem q164 : (Jvm.Cond.fieldLink "Minestrata$Net" (34 : Nat) "Minestrata$Net" "door" "[Z") ∈ AW := at1 (i := 94) rfl rfl
theorem q166 : (Jvm.Cond.fieldLink "Minestrata$Net" (37 : Nat) "Minestrata$Net" "closed" "[Z") ∈ AW := at1 (i := 96) rfl rfl
theorem q168 : (Jvm.Cond.fieldLink "Minestrata$Net" (40 : Nat) "Minestrata$Net" "blocked" "[Z") ∈ AW := at1 (i := 98) rfl rfl
theorem q171 : (Jvm.Cond.fieldLink "Minestrata$Net" (43 : Nat) "Minestrata$Net" "fan" "[I") ∈ AW := at1 (i := 101) rfl rfl
theorem q200 : (Jvm.Cond.arrayClass Jvm.ClassFile.FieldType.boolean) ∈ AW := at1 (i := 130) rfl rfl
theorem q201 : (Jvm.Cond.arrayClass Jvm.ClassFile.FieldType.int) ∈ AW := at1 (i := 131) rfl rfl
theorem q202 : (Jvm.Cond.classLink "Minestrata" (19 : Nat) "Minestrata$Stopes") ∈ AW := at1 (i := 132) rfl rfl
theorem q203 : (Jvm.Cond.instantiable "Minestrata$Stopes" (10 : Nat)) ∈ AW := at1 (i := 133) rfl rfl
theorem q205 : (Jvm.Cond.instanceMethod ({ cls := "Minestrata$Stopes", name := "<init>", desc := "()V" } : Jvm.MethodName)) ∈ AW := at1 (i := 135) rfl rfl
theorem q206 : (Jvm.Cond.code ({ cls := "Minestrata$Stopes", name := "<init>", desc := "()V" } : Jvm.MethodName) prog_12_method_1_code (1 : Nat) (Option.none : Option Jvm.ClassFile.FieldType)) ∈ AW := at1 (i := 136) rfl rfl
theorem q207 : (Jvm.Cond.methodLink "Minestrata$Stopes" (3 : Nat) ({ cls := "java/lang/Object", name := "<init>", desc := "()V" } : Jvm.MethodName)) ∈ AW := at1 (i := 137) rfl rfl
theorem q208 : (Jvm.Cond.fieldLink "Minestrata$Stopes" (40 : Nat) "Minestrata$Stopes" "count" "I") ∈ AW := at1 (i := 138) rfl rfl
theorem q210 : (Jvm.Cond.fieldLink "Minestrata" (114 : Nat) "Minestrata$Stopes" "count" "I") ∈ AW := at1 (i := 140) rfl rfl
theorem q211 : (Jvm.Cond.fieldLink "Minestrata$Stopes" (9 : Nat) "Minestrata$Stopes" "junction" "[I") ∈ AW := at1 (i := 141) rfl rfl
theorem q213 : (Jvm.Cond.fieldLink "Minestrata$Stopes" (15 : Nat) "Minestrata$Stopes" "tons" "[I") ∈ AW := at1 (i := 143) rfl rfl
theorem q215 : (Jvm.Cond.fieldLink "Minestrata$Stopes" (18 : Nat) "Minestrata$Stopes" "grade" "[I") ∈ AW := at1 (i := 145) rfl rfl
theorem q217 : (Jvm.Cond.fieldLink "Minestrata$Stopes" (21 : Nat) "Minestrata$Stopes" "load" "[I") ∈ AW := at1 (i := 147) rfl rfl
theorem q219 : (Jvm.Cond.fieldLink "Minestrata$Stopes" (24 : Nat) "Minestrata$Stopes" "state" "[C") ∈ AW := at1 (i := 149) rfl rfl
theorem q221 : (Jvm.Cond.fieldLink "Minestrata$Stopes" (28 : Nat) "Minestrata$Stopes" "pile" "[I") ∈ AW := at1 (i := 151) rfl rfl
theorem q224 : (Jvm.Cond.fieldLink "Minestrata$Stopes" (31 : Nat) "Minestrata$Stopes" "delivered" "[I") ∈ AW := at1 (i := 154) rfl rfl
theorem q226 : (Jvm.Cond.fieldLink "Minestrata$Stopes" (34 : Nat) "Minestrata$Stopes" "strength" "[I") ∈ AW := at1 (i := 156) rfl rfl
theorem q227 : (Jvm.Cond.fieldLink "Minestrata$Stopes" (37 : Nat) "Minestrata$Stopes" "neighbours" "[I") ∈ AW := at1 (i := 157) rfl rfl
theorem q249 : (Jvm.Cond.arrayClass Jvm.ClassFile.FieldType.char) ∈ AW := at1 (i := 179) rfl rfl
theorem q250 : (Jvm.Cond.classLink "Minestrata" (29 : Nat) "Minestrata$Air") ∈ AW := at1 (i := 180) rfl rfl
theorem q251 : (Jvm.Cond.instantiable "Minestrata$Air" (16 : Nat)) ∈ AW := at1 (i := 181) rfl rfl
theorem q253 : (Jvm.Cond.instanceMethod ({ cls := "Minestrata$Air", name := "<init>", desc := "()V" } : Jvm.MethodName)) ∈ AW := at1 (i := 183) rfl rfl
theorem q254 : (Jvm.Cond.code ({ cls := "Minestrata$Air", name := "<init>", desc := "()V" } : Jvm.MethodName) prog_2_method_1_code (1 : Nat) (Option.none : Option Jvm.ClassFile.FieldType)) ∈ AW := at1 (i := 184) rfl rfl
theorem q255 : (Jvm.Cond.methodLink "Minestrata$Air" (3 : Nat) ({ cls := "java/lang/Object", name := "<init>", desc := "()V" } : Jvm.MethodName)) ∈ AW := at1 (i := 185) rfl rfl
theorem q256 : (Jvm.Cond.classLink "Minestrata$Air" (9 : Nat) "Minestrata$Radix") ∈ AW := at1 (i := 186) rfl rfl
theorem q257 : (Jvm.Cond.instantiable "Minestrata$Radix" (3 : Nat)) ∈ AW := at1 (i := 187) rfl rfl
theorem q259 : (Jvm.Cond.instanceMethod ({ cls := "Minestrata$Radix", name := "<init>", desc := "()V" } : Jvm.MethodName)) ∈ AW := at1 (i := 189) rfl rfl
theorem q260 : (Jvm.Cond.code ({ cls := "Minestrata$Radix", name := "<init>", desc := "()V" } : Jvm.MethodName) prog_10_method_1_code (1 : Nat) (Option.none : Option Jvm.ClassFile.FieldType)) ∈ AW := at1 (i := 190) rfl rfl
theorem q261 : (Jvm.Cond.methodLink "Minestrata$Radix" (1 : Nat) ({ cls := "java/lang/Object", name := "<init>", desc := "()V" } : Jvm.MethodName)) ∈ AW := at1 (i := 191) rfl rfl
theorem q262 : (Jvm.Cond.fieldLink "Minestrata$Radix" (16 : Nat) "Minestrata$Radix" "size" "I") ∈ AW := at1 (i := 192) rfl rfl
theorem q263 : (Jvm.Cond.fieldLink "Minestrata$Air" (74 : Nat) "Minestrata$Radix" "size" "I") ∈ AW := at1 (i := 193) rfl rfl
theorem q265 : (Jvm.Cond.fieldLink "Minestrata$Fraction" (28 : Nat) "Minestrata$Radix" "size" "I") ∈ AW := at1 (i := 195) rfl rfl
theorem q266 : (Jvm.Cond.fieldLink "Minestrata$Radix" (9 : Nat) "Minestrata$Radix" "prime" "[J") ∈ AW := at1 (i := 196) rfl rfl
theorem q270 : (Jvm.Cond.fieldLink "Minestrata$Radix" (13 : Nat) "Minestrata$Radix" "weight" "[J") ∈ AW := at1 (i := 200) rfl rfl
theorem q278 : (Jvm.Cond.arrayClass Jvm.ClassFile.FieldType.long) ∈ AW := at1 (i := 208) rfl rfl
theorem q279 : Cond.classLink "Minestrata$Air" 22 ("[" ++ (FieldType.array .long).toString) ∈ AW := at1 (i := 209) (by decide +kernel) (by decide +kernel)
theorem q281 : (Jvm.Cond.classLink "Minestrata$Air" (40 : Nat) "Minestrata$Groups") ∈ AW := at1 (i := 211) rfl rfl
theorem q282 : (Jvm.Cond.instantiable "Minestrata$Groups" (3 : Nat)) ∈ AW := at1 (i := 212) rfl rfl
theorem q284 : (Jvm.Cond.instanceMethod ({ cls := "Minestrata$Groups", name := "<init>", desc := "()V" } : Jvm.MethodName)) ∈ AW := at1 (i := 214) rfl rfl
theorem q285 : (Jvm.Cond.code ({ cls := "Minestrata$Groups", name := "<init>", desc := "()V" } : Jvm.MethodName) prog_8_method_1_code (1 : Nat) (Option.none : Option Jvm.ClassFile.FieldType)) ∈ AW := at1 (i := 215) rfl rfl
theorem q286 : (Jvm.Cond.methodLink "Minestrata$Groups" (3 : Nat) ({ cls := "java/lang/Object", name := "<init>", desc := "()V" } : Jvm.MethodName)) ∈ AW := at1 (i := 216) rfl rfl
theorem q287 : (Jvm.Cond.fieldLink "Minestrata$Groups" (9 : Nat) "Minestrata$Groups" "chosen" "[Z") ∈ AW := at1 (i := 217) rfl rfl
theorem q291 : (Jvm.Cond.fieldLink "Minestrata$Groups" (15 : Nat) "Minestrata$Groups" "lowest" "[I") ∈ AW := at1 (i := 221) rfl rfl
theorem q294 : (Jvm.Cond.fieldLink "Minestrata$Groups" (19 : Nat) "Minestrata$Groups" "atSurface" "[Z") ∈ AW := at1 (i := 224) rfl rfl
theorem q302 : (Jvm.Cond.classLink "Minestrata$Air" (47 : Nat) "Minestrata$Equations") ∈ AW := at1 (i := 232) rfl rfl
theorem q303 : (Jvm.Cond.instantiable "Minestrata$Equations" (2 : Nat)) ∈ AW := at1 (i := 233) rfl rfl
theorem q305 : (Jvm.Cond.instanceMethod ({ cls := "Minestrata$Equations", name := "<init>", desc := "()V" } : Jvm.MethodName)) ∈ AW := at1 (i := 235) rfl rfl
theorem q306 : (Jvm.Cond.code ({ cls := "Minestrata$Equations", name := "<init>", desc := "()V" } : Jvm.MethodName) prog_4_method_1_code (1 : Nat) (Option.none : Option Jvm.ClassFile.FieldType)) ∈ AW := at1 (i := 236) rfl rfl
theorem q307 : (Jvm.Cond.methodLink "Minestrata$Equations" (3 : Nat) ({ cls := "java/lang/Object", name := "<init>", desc := "()V" } : Jvm.MethodName)) ∈ AW := at1 (i := 237) rfl rfl
theorem q308 : Cond.classLink "Minestrata$Equations" 9 ("[" ++ (FieldType.array .long).toString) ∈ AW := at1 (i := 238) (by decide +kernel) (by decide +kernel)
theorem q309 : (Jvm.Cond.constantLong "Minestrata$Equations" (16 : Nat) (2 : Int64)) ∈ AW := at1 (i := 239) rfl rfl
theorem q310 : (Jvm.Cond.fieldLink "Minestrata$Equations" (11 : Nat) "Minestrata$Equations" "row" "[[J") ∈ AW := at2 (i := 0) rfl rfl
theorem q313 : (Jvm.Cond.fieldLink "Minestrata$Equations" (18 : Nat) "Minestrata$Equations" "prime" "J") ∈ AW := at2 (i := 3) rfl rfl
theorem q319 : (Jvm.Cond.classLink "Minestrata$Air" (54 : Nat) "Minestrata$Fraction") ∈ AW := at2 (i := 9) rfl rfl
theorem q320 : (Jvm.Cond.instantiable "Minestrata$Fraction" (6 : Nat)) ∈ AW := at2 (i := 10) rfl rfl
theorem q322 : (Jvm.Cond.instanceMethod ({ cls := "Minestrata$Fraction", name := "<init>", desc := "()V" } : Jvm.MethodName)) ∈ AW := at2 (i := 12) rfl rfl
theorem q323 : (Jvm.Cond.code ({ cls := "Minestrata$Fraction", name := "<init>", desc := "()V" } : Jvm.MethodName) prog_6_method_1_code (1 : Nat) (Option.none : Option Jvm.ClassFile.FieldType)) ∈ AW := at2 (i := 13) rfl rfl
theorem q324 : (Jvm.Cond.methodLink "Minestrata$Fraction" (1 : Nat) ({ cls := "java/lang/Object", name := "<init>", desc := "()V" } : Jvm.MethodName)) ∈ AW := at2 (i := 14) rfl rfl
theorem q325 : (Jvm.Cond.fieldLink "Minestrata$Fraction" (9 : Nat) "Minestrata$Fraction" "above" "[J") ∈ AW := at2 (i := 15) rfl rfl
theorem q328 : (Jvm.Cond.fieldLink "Minestrata$Fraction" (15 : Nat) "Minestrata$Fraction" "below" "[J") ∈ AW := at2 (i := 18) rfl rfl
theorem q330 : (Jvm.Cond.fieldLink "Minestrata$Air" (182 : Nat) "Minestrata$Fraction" "below" "[J") ∈ AW := at2 (i := 20) rfl rfl
theorem q336 : (Jvm.Cond.fieldLink "Minestrata$Fraction" (18 : Nat) "Minestrata$Fraction" "digit" "[J") ∈ AW := at2 (i := 26) rfl rfl
theorem q337 : (Jvm.Cond.fieldLink "Minestrata$Fraction" (21 : Nat) "Minestrata$Fraction" "divisor" "[J") ∈ AW := at2 (i := 27) rfl rfl
theorem q351 : (Jvm.Cond.fieldLink "Minestrata$Air" (12 : Nat) "Minestrata$Air" "radix" "LMinestrata$Radix;") ∈ AW := at2 (i := 41) rfl rfl
theorem q353 : (Jvm.Cond.fieldLink "Minestrata$Air" (18 : Nat) "Minestrata$Air" "divisor" "[J") ∈ AW := at2 (i := 43) rfl rfl
theorem q355 : (Jvm.Cond.fieldLink "Minestrata$Air" (24 : Nat) "Minestrata$Air" "flowTimes" "[[J") ∈ AW := at2 (i := 45) rfl rfl
theorem q357 : (Jvm.Cond.fieldLink "Minestrata$Air" (27 : Nat) "Minestrata$Air" "flowTold" "[I") ∈ AW := at2 (i := 47) rfl rfl
theorem q360 : (Jvm.Cond.fieldLink "Minestrata$Air" (31 : Nat) "Minestrata$Air" "flowSign" "[I") ∈ AW := at2 (i := 50) rfl rfl
theorem q362 : (Jvm.Cond.fieldLink "Minestrata$Air" (34 : Nat) "Minestrata$Air" "pressureTold" "[I") ∈ AW := at2 (i := 52) rfl rfl
theorem q365 : (Jvm.Cond.fieldLink "Minestrata$Air" (193 : Nat) "Minestrata$Air" "divisorBits" "I") ∈ AW := at2 (i := 55) rfl rfl
theorem q366 : (Jvm.Cond.fieldLink "Minestrata$Air" (37 : Nat) "Minestrata$Air" "pressureTimes" "[[J") ∈ AW := at2 (i := 56) rfl rfl
theorem q367 : (Jvm.Cond.fieldLink "Minestrata$Air" (43 : Nat) "Minestrata$Air" "groups" "LMinestrata$Groups;") ∈ AW := at2 (i := 57) rfl rfl
theorem q368 : (Jvm.Cond.fieldLink "Minestrata$Air" (50 : Nat) "Minestrata$Air" "equations" "LMinestrata$Equations;") ∈ AW := at2 (i := 58) rfl rfl
theorem q369 : (Jvm.Cond.fieldLink "Minestrata$Air" (57 : Nat) "Minestrata$Air" "fraction" "LMinestrata$Fraction;") ∈ AW := at2 (i := 59) rfl rfl
theorem q370 : (Jvm.Cond.fieldLink "Minestrata$Air" (61 : Nat) "Minestrata$Air" "equationOf" "[I") ∈ AW := at2 (i := 60) rfl rfl
theorem q371 : (Jvm.Cond.fieldLink "Minestrata$Air" (64 : Nat) "Minestrata$Air" "fixed" "[I") ∈ AW := at2 (i := 61) rfl rfl
theorem q372 : (Jvm.Cond.fieldLink "Minestrata$Air" (67 : Nat) "Minestrata$Air" "conductance" "[J") ∈ AW := at2 (i := 62) rfl rfl
theorem q373 : (Jvm.Cond.fieldLink "Minestrata$Air" (134 : Nat) "Minestrata$Air" "unknowns" "I") ∈ AW := at2 (i := 63) rfl rfl
theorem q374 : (Jvm.Cond.fieldLink "Minestrata$Air" (78 : Nat) "Minestrata$Air" "tried" "I") ∈ AW := at2 (i := 64) rfl rfl
theorem q408 : (Jvm.Cond.classLink "Minestrata" (36 : Nat) "Minestrata$Gas") ∈ AW := at2 (i := 98) rfl rfl
theorem q409 : (Jvm.Cond.instantiable "Minestrata$Gas" (13 : Nat)) ∈ AW := at2 (i := 99) rfl rfl
theorem q411 : (Jvm.Cond.instanceMethod ({ cls := "Minestrata$Gas", name := "<init>", desc := "()V" } : Jvm.MethodName)) ∈ AW := at2 (i := 101) rfl rfl
theorem q412 : (Jvm.Cond.code ({ cls := "Minestrata$Gas", name := "<init>", desc := "()V" } : Jvm.MethodName) prog_7_method_1_code (1 : Nat) (Option.none : Option Jvm.ClassFile.FieldType)) ∈ AW := at2 (i := 102) rfl rfl
theorem q413 : (Jvm.Cond.methodLink "Minestrata$Gas" (3 : Nat) ({ cls := "java/lang/Object", name := "<init>", desc := "()V" } : Jvm.MethodName)) ∈ AW := at2 (i := 103) rfl rfl
theorem q414 : (Jvm.Cond.classLink "Minestrata$Gas" (34 : Nat) "Minestrata$Groups") ∈ AW := at2 (i := 104) rfl rfl
theorem q416 : (Jvm.Cond.classLink "Minestrata$Gas" (41 : Nat) "Minestrata$Equations") ∈ AW := at2 (i := 106) rfl rfl
theorem q418 : (Jvm.Cond.classLink "Minestrata$Gas" (48 : Nat) "Minestrata$Radix") ∈ AW := at2 (i := 108) rfl rfl
theorem q420 : (Jvm.Cond.classLink "Minestrata$Gas" (55 : Nat) "Minestrata$Fraction") ∈ AW := at2 (i := 110) rfl rfl
theorem q422 : Cond.classLink "Minestrata$Gas" 62 ("[" ++ (FieldType.array .long).toString) ∈ AW := at2 (i := 112) (by decide +kernel) (by decide +kernel)
theorem q423 : (Jvm.Cond.fieldLink "Minestrata$Gas" (9 : Nat) "Minestrata$Gas" "thousandths" "[I") ∈ AW := at2 (i := 113) rfl rfl
theorem q425 : (Jvm.Cond.fieldLink "Minestrata$Gas" (15 : Nat) "Minestrata$Gas" "full" "[Z") ∈ AW := at2 (i := 115) rfl rfl
theorem q427 : (Jvm.Cond.fieldLink "Minestrata$Gas" (19 : Nat) "Minestrata$Gas" "isMore" "[Z") ∈ AW := at2 (i := 117) rfl rfl
theorem q428 : (Jvm.Cond.fieldLink "Minestrata$Gas" (22 : Nat) "Minestrata$Gas" "carries" "[Z") ∈ AW := at2 (i := 118) rfl rfl
theorem q429 : (Jvm.Cond.fieldLink "Minestrata$Gas" (25 : Nat) "Minestrata$Gas" "equationOf" "[I") ∈ AW := at2 (i := 119) rfl rfl
theorem q430 : (Jvm.Cond.fieldLink "Minestrata$Gas" (28 : Nat) "Minestrata$Gas" "from" "[I") ∈ AW := at2 (i := 120) rfl rfl
theorem q431 : (Jvm.Cond.fieldLink "Minestrata$Gas" (31 : Nat) "Minestrata$Gas" "to" "[I") ∈ AW := at2 (i := 121) rfl rfl
theorem q432 : (Jvm.Cond.fieldLink "Minestrata$Gas" (37 : Nat) "Minestrata$Gas" "groups" "LMinestrata$Groups;") ∈ AW := at2 (i := 122) rfl rfl
theorem q433 : (Jvm.Cond.fieldLink "Minestrata$Gas" (44 : Nat) "Minestrata$Gas" "equations" "LMinestrata$Equations;") ∈ AW := at2 (i := 123) rfl rfl
theorem q434 : (Jvm.Cond.fieldLink "Minestrata$Gas" (51 : Nat) "Minestrata$Gas" "radix" "LMinestrata$Radix;") ∈ AW := at2 (i := 124) rfl rfl
theorem q435 : (Jvm.Cond.fieldLink "Minestrata$Gas" (58 : Nat) "Minestrata$Gas" "fraction" "LMinestrata$Fraction;") ∈ AW := at2 (i := 125) rfl rfl
theorem q436 : (Jvm.Cond.fieldLink "Minestrata$Gas" (64 : Nat) "Minestrata$Gas" "gasTimes" "[[J") ∈ AW := at2 (i := 126) rfl rfl
theorem q437 : (Jvm.Cond.fieldLink "Minestrata$Gas" (78 : Nat) "Minestrata$Gas" "unknowns" "I") ∈ AW := at2 (i := 127) rfl rfl
theorem q465 : (Jvm.Cond.classLink "Minestrata" (43 : Nat) "Minestrata$Sensors") ∈ AW := at2 (i := 155) rfl rfl
theorem q466 : (Jvm.Cond.instantiable "Minestrata$Sensors" (3 : Nat)) ∈ AW := at2 (i := 156) rfl rfl
theorem q468 : (Jvm.Cond.instanceMethod ({ cls := "Minestrata$Sensors", name := "<init>", desc := "()V" } : Jvm.MethodName)) ∈ AW := at2 (i := 158) rfl rfl
theorem q469 : (Jvm.Cond.code ({ cls := "Minestrata$Sensors", name := "<init>", desc := "()V" } : Jvm.MethodName) prog_11_method_1_code (1 : Nat) (Option.none : Option Jvm.ClassFile.FieldType)) ∈ AW := at2 (i := 159) rfl rfl
theorem q470 : (Jvm.Cond.methodLink "Minestrata$Sensors" (3 : Nat) ({ cls := "java/lang/Object", name := "<init>", desc := "()V" } : Jvm.MethodName)) ∈ AW := at2 (i := 160) rfl rfl
theorem q471 : (Jvm.Cond.fieldLink "Minestrata$Sensors" (9 : Nat) "Minestrata$Sensors" "present" "[Z") ∈ AW := at2 (i := 161) rfl rfl
theorem q473 : (Jvm.Cond.fieldLink "Minestrata$Sensors" (15 : Nat) "Minestrata$Sensors" "drift" "[I") ∈ AW := at2 (i := 163) rfl rfl
theorem q474 : (Jvm.Cond.fieldLink "Minestrata$Sensors" (19 : Nat) "Minestrata$Sensors" "rightAt" "[I") ∈ AW := at2 (i := 164) rfl rfl
theorem q483 : (Jvm.Cond.classLink "Minestrata" (50 : Nat) "Minestrata$Escape") ∈ AW := at2 (i := 173) rfl rfl
theorem q484 : (Jvm.Cond.instantiable "Minestrata$Escape" (4 : Nat)) ∈ AW := at2 (i := 174) rfl rfl
theorem q486 : (Jvm.Cond.instanceMethod ({ cls := "Minestrata$Escape", name := "<init>", desc := "()V" } : Jvm.MethodName)) ∈ AW := at2 (i := 176) rfl rfl
theorem q487 : (Jvm.Cond.code ({ cls := "Minestrata$Escape", name := "<init>", desc := "()V" } : Jvm.MethodName) prog_5_method_1_code (1 : Nat) (Option.none : Option Jvm.ClassFile.FieldType)) ∈ AW := at2 (i := 177) rfl rfl
theorem q488 : (Jvm.Cond.methodLink "Minestrata$Escape" (3 : Nat) ({ cls := "java/lang/Object", name := "<init>", desc := "()V" } : Jvm.MethodName)) ∈ AW := at2 (i := 178) rfl rfl
theorem q489 : (Jvm.Cond.classLink "Minestrata$Escape" (9 : Nat) "Minestrata$Groups") ∈ AW := at2 (i := 179) rfl rfl
theorem q491 : (Jvm.Cond.fieldLink "Minestrata$Escape" (12 : Nat) "Minestrata$Escape" "groups" "LMinestrata$Groups;") ∈ AW := at2 (i := 181) rfl rfl
theorem q492 : (Jvm.Cond.fieldLink "Minestrata$Escape" (18 : Nat) "Minestrata$Escape" "used" "[I") ∈ AW := at2 (i := 182) rfl rfl
theorem q493 : (Jvm.Cond.fieldLink "Minestrata$Escape" (22 : Nat) "Minestrata$Escape" "cameBy" "[I") ∈ AW := at2 (i := 183) rfl rfl
theorem q494 : (Jvm.Cond.fieldLink "Minestrata$Escape" (25 : Nat) "Minestrata$Escape" "line" "[I") ∈ AW := at2 (i := 184) rfl rfl
theorem q504 : (Jvm.Cond.fieldLink "Minestrata" (10 : Nat) "Minestrata" "net" "LMinestrata$Net;") ∈ AW := at2 (i := 194) rfl rfl
theorem q505 : (Jvm.Cond.fieldLink "Minestrata" (16 : Nat) "Minestrata" "netBefore" "LMinestrata$Net;") ∈ AW := at2 (i := 195) rfl rfl
theorem q506 : (Jvm.Cond.fieldLink "Minestrata" (22 : Nat) "Minestrata" "stopes" "LMinestrata$Stopes;") ∈ AW := at2 (i := 196) rfl rfl
theorem q507 : (Jvm.Cond.fieldLink "Minestrata" (26 : Nat) "Minestrata" "stopesBefore" "LMinestrata$Stopes;") ∈ AW := at2 (i := 197) rfl rfl
theorem q508 : (Jvm.Cond.fieldLink "Minestrata" (32 : Nat) "Minestrata" "air" "LMinestrata$Air;") ∈ AW := at2 (i := 198) rfl rfl
theorem q509 : (Jvm.Cond.fieldLink "Minestrata" (39 : Nat) "Minestrata" "gases" "LMinestrata$Gas;") ∈ AW := at2 (i := 199) rfl rfl
theorem q510 : (Jvm.Cond.fieldLink "Minestrata" (46 : Nat) "Minestrata" "sensors" "LMinestrata$Sensors;") ∈ AW := at2 (i := 200) rfl rfl
theorem q511 : (Jvm.Cond.fieldLink "Minestrata" (53 : Nat) "Minestrata" "escape" "LMinestrata$Escape;") ∈ AW := at2 (i := 201) rfl rfl
theorem q512 : (Jvm.Cond.fieldLink "Minestrata" (57 : Nat) "Minestrata" "blend" "LMinestrata$Blend;") ∈ AW := at2 (i := 202) rfl rfl
theorem q513 : (Jvm.Cond.fieldLink "Minestrata" (61 : Nat) "Minestrata" "good" "[Z") ∈ AW := at2 (i := 203) rfl rfl
theorem q514 : (Jvm.Cond.fieldLink "Minestrata" (65 : Nat) "Minestrata" "place" "[I") ∈ AW := at2 (i := 204) rfl rfl
theorem q515 : (Jvm.Cond.fieldLink "Minestrata" (209 : Nat) "Minestrata" "persons" "I") ∈ AW := at2 (i := 205) rfl rfl
theorem q516 : (Jvm.Cond.fieldLink "Minestrata" (69 : Nat) "Minestrata" "limit" "I") ∈ AW := at2 (i := 206) rfl rfl
theorem q517 : (Jvm.Cond.fieldLink "Minestrata" (128 : Nat) "Minestrata" "shifts" "I") ∈ AW := at2 (i := 207) rfl rfl
theorem q518 : (Jvm.Cond.fieldLink "Minestrata" (185 : Nat) "Minestrata" "refusals" "I") ∈ AW := at2 (i := 208) rfl rfl
theorem q519 : (Jvm.Cond.fieldLink "Minestrata" (73 : Nat) "Minestrata" "refuser" "I") ∈ AW := at2 (i := 209) rfl rfl
theorem q520 : (Jvm.Cond.fieldLink "Minestrata" (259 : Nat) "Minestrata" "penaltySum" "J") ∈ AW := at2 (i := 210) rfl rfl
theorem q521 : (Jvm.Cond.fieldLink "Minestrata" (76 : Nat) "Minestrata" "stale" "Z") ∈ AW := at2 (i := 211) rfl rfl
theorem q559 : (Jvm.Cond.methodLink "MinestrataLaw" (169 : Nat) ({ cls := "Minestrata", name := "shift", desc := "()I" } : Jvm.MethodName)) ∈ AW := at3 (i := 9) rfl rfl
theorem q560 : (Jvm.Cond.instanceMethod ({ cls := "Minestrata", name := "shift", desc := "()I" } : Jvm.MethodName)) ∈ AW := at3 (i := 10) rfl rfl
theorem q561 : (Jvm.Cond.selects "Minestrata" ({ cls := "Minestrata", name := "shift", desc := "()I" } : Jvm.MethodName) ({ cls := "Minestrata", name := "shift", desc := "()I" } : Jvm.MethodName)) ∈ AW := at3 (i := 11) rfl rfl
theorem q562 : (Jvm.Cond.code ({ cls := "Minestrata", name := "shift", desc := "()I" } : Jvm.MethodName) prog_1_method_11_code (3 : Nat) (Option.some Jvm.ClassFile.FieldType.int)) ∈ AW := at3 (i := 12) rfl rfl
theorem q563 : (Jvm.Cond.methodLink "Minestrata" (139 : Nat) ({ cls := "Minestrata", name := "refresh", desc := "()V" } : Jvm.MethodName)) ∈ AW := at3 (i := 13) rfl rfl
theorem q565 : (Jvm.Cond.instanceMethod ({ cls := "Minestrata", name := "refresh", desc := "()V" } : Jvm.MethodName)) ∈ AW := at3 (i := 15) rfl rfl
theorem q566 : (Jvm.Cond.code ({ cls := "Minestrata", name := "refresh", desc := "()V" } : Jvm.MethodName) prog_1_method_40_code (2 : Nat) (Option.none : Option Jvm.ClassFile.FieldType)) ∈ AW := at3 (i := 16) rfl rfl
theorem q567 : (Jvm.Cond.methodLink "Minestrata" (276 : Nat) ({ cls := "Minestrata$Air", name := "find", desc := "(LMinestrata$Net;)V" } : Jvm.MethodName)) ∈ AW := at3 (i := 17) rfl rfl
theorem q568 : (Jvm.Cond.instanceMethod ({ cls := "Minestrata$Air", name := "find", desc := "(LMinestrata$Net;)V" } : Jvm.MethodName)) ∈ AW := at3 (i := 18) rfl rfl
theorem q569 : (Jvm.Cond.selects "Minestrata$Air" ({ cls := "Minestrata$Air", name := "find", desc := "(LMinestrata$Net;)V" } : Jvm.MethodName) ({ cls := "Minestrata$Air", name := "find", desc := "(LMinestrata$Net;)V" } : Jvm.MethodName)) ∈ AW := at3 (i := 19) rfl rfl
theorem q570 : (Jvm.Cond.code ({ cls := "Minestrata$Air", name := "find", desc := "(LMinestrata$Net;)V" } : Jvm.MethodName) prog_2_method_2_code (2 : Nat) (Option.none : Option Jvm.ClassFile.FieldType)) ∈ AW := at3 (i := 20) rfl rfl
theorem q571 : (Jvm.Cond.methodLink "Minestrata$Air" (70 : Nat) ({ cls := "Minestrata$Air", name := "findUnknowns", desc := "(LMinestrata$Net;)V" } : Jvm.MethodName)) ∈ AW := at3 (i := 21) rfl rfl
theorem q573 : (Jvm.Cond.instanceMethod ({ cls := "Minestrata$Air", name := "findUnknowns", desc := "(LMinestrata$Net;)V" } : Jvm.MethodName)) ∈ AW := at3 (i := 23) rfl rfl
theorem q574 : (Jvm.Cond.code ({ cls := "Minestrata$Air", name := "findUnknowns", desc := "(LMinestrata$Net;)V" } : Jvm.MethodName) prog_2_method_5_code (4 : Nat) (Option.none : Option Jvm.ClassFile.FieldType)) ∈ AW := at3 (i := 24) rfl rfl
theorem q579 : (Jvm.Cond.methodLink "Minestrata$Air" (131 : Nat) ({ cls := "Minestrata$Groups", name := "gather", desc := "(LMinestrata$Net;)V" } : Jvm.MethodName)) ∈ AW := at3 (i := 29) rfl rfl
theorem q580 : (Jvm.Cond.instanceMethod ({ cls := "Minestrata$Groups", name := "gather", desc := "(LMinestrata$Net;)V" } : Jvm.MethodName)) ∈ AW := at3 (i := 30) rfl rfl
theorem q581 : (Jvm.Cond.selects "Minestrata$Groups" ({ cls := "Minestrata$Groups", name := "gather", desc := "(LMinestrata$Net;)V" } : Jvm.MethodName) ({ cls := "Minestrata$Groups", name := "gather", desc := "(LMinestrata$Net;)V" } : Jvm.MethodName)) ∈ AW := at3 (i := 31) rfl rfl
theorem q582 : (Jvm.Cond.code ({ cls := "Minestrata$Groups", name := "gather", desc := "(LMinestrata$Net;)V" } : Jvm.MethodName) prog_8_method_2_code (5 : Nat) (Option.none : Option Jvm.ClassFile.FieldType)) ∈ AW := at3 (i := 32) rfl rfl
theorem q584 : Cond.static Lib.Math.min.name ∈ AW := at3 (i := 34) (by decide +kernel) (by decide +kernel)
theorem q585 : Cond.code Lib.Math.min.name Lib.Math.min.code 2 (some .int) ∈ AW := at3 (i := 35) (by decide +kernel) (by decide +kernel)
theorem q590 : (Jvm.Cond.methodLink "Minestrata$Air" (81 : Nat) ({ cls := "Minestrata$Air", name := "reach", desc := "(LMinestrata$Net;I)Z" } : Jvm.MethodName)) ∈ AW := at3 (i := 40) rfl rfl
theorem q591 : (Jvm.Cond.instanceMethod ({ cls := "Minestrata$Air", name := "reach", desc := "(LMinestrata$Net;I)Z" } : Jvm.MethodName)) ∈ AW := at3 (i := 41) rfl rfl
theorem q592 : (Jvm.Cond.selects "Minestrata$Air" ({ cls := "Minestrata$Air", name := "reach", desc := "(LMinestrata$Net;I)Z" } : Jvm.MethodName) ({ cls := "Minestrata$Air", name := "reach", desc := "(LMinestrata$Net;I)Z" } : Jvm.MethodName)) ∈ AW := at3 (i := 42) rfl rfl
theorem q593 : (Jvm.Cond.code ({ cls := "Minestrata$Air", name := "reach", desc := "(LMinestrata$Net;I)Z" } : Jvm.MethodName) prog_2_method_3_code (6 : Nat) (Option.some Jvm.ClassFile.FieldType.boolean)) ∈ AW := at3 (i := 43) rfl rfl
theorem q594 : (Jvm.Cond.fieldLink "Minestrata$Air" (88 : Nat) "Minestrata$Radix" "PRIMES" "[I") ∈ AW := at3 (i := 44) rfl rfl
theorem q596 : (Jvm.Cond.methodLink "Minestrata$Air" (91 : Nat) ({ cls := "Minestrata$Air", name := "solveModulo", desc := "(LMinestrata$Net;J)J" } : Jvm.MethodName)) ∈ AW := at3 (i := 46) rfl rfl
theorem q598 : (Jvm.Cond.instanceMethod ({ cls := "Minestrata$Air", name := "solveModulo", desc := "(LMinestrata$Net;J)J" } : Jvm.MethodName)) ∈ AW := at3 (i := 48) rfl rfl
theorem q599 : (Jvm.Cond.code ({ cls := "Minestrata$Air", name := "solveModulo", desc := "(LMinestrata$Net;J)J" } : Jvm.MethodName) prog_2_method_6_code (7 : Nat) (Option.some Jvm.ClassFile.FieldType.long)) ∈ AW := at3 (i := 49) rfl rfl
theorem q600 : (Jvm.Cond.constantLong "Minestrata$Air" (146 : Nat) (2 : Int64)) ∈ AW := at3 (i := 50) rfl rfl
theorem q601 : (Jvm.Cond.methodLink "Minestrata$Air" (148 : Nat) ({ cls := "Minestrata$Equations", name := "begin", desc := "(IJ)V" } : Jvm.MethodName)) ∈ AW := at3 (i := 51) rfl rfl
theorem q602 : (Jvm.Cond.instanceMethod ({ cls := "Minestrata$Equations", name := "begin", desc := "(IJ)V" } : Jvm.MethodName)) ∈ AW := at3 (i := 52) rfl rfl
theorem q603 : (Jvm.Cond.selects "Minestrata$Equations" ({ cls := "Minestrata$Equations", name := "begin", desc := "(IJ)V" } : Jvm.MethodName) ({ cls := "Minestrata$Equations", name := "begin", desc := "(IJ)V" } : Jvm.MethodName)) ∈ AW := at3 (i := 53) rfl rfl
theorem q604 : (Jvm.Cond.code ({ cls := "Minestrata$Equations", name := "begin", desc := "(IJ)V" } : Jvm.MethodName) prog_4_method_2_code (6 : Nat) (Option.none : Option Jvm.ClassFile.FieldType)) ∈ AW := at3 (i := 54) rfl rfl
theorem q605 : Cond.methodLink "Minestrata$Equations" 22 Lib.MathLoose.max_long.x ∈ AW := at3 (i := 55) (by decide +kernel) (by decide +kernel)
theorem q606 : Cond.static Lib.MathLoose.max_long.x ∈ AW := at3 (i := 56) (by decide +kernel) (by decide +kernel)
theorem q607 : Cond.code Lib.MathLoose.max_long.x Lib.MathLoose.max_long.code 4 (some .long) ∈ AW := at3 (i := 57) (by decide +kernel) (by decide +kernel)
theorem q609 : (Jvm.Cond.static ({ cls := "Minestrata$Radix", name := "inverse", desc := "(JJ)J" } : Jvm.MethodName)) ∈ AW := at3 (i := 59) rfl rfl
theorem q610 : (Jvm.Cond.code ({ cls := "Minestrata$Radix", name := "inverse", desc := "(JJ)J" } : Jvm.MethodName) prog_10_method_4_code (19 : Nat) (Option.some Jvm.ClassFile.FieldType.long)) ∈ AW := at3 (i := 60) rfl rfl
theorem q611 : (Jvm.Cond.constantLong "Minestrata$Radix" (20 : Nat) (2 : Int64)) ∈ AW := at3 (i := 61) rfl rfl
theorem q612 : (Jvm.Cond.methodLink "Minestrata$Radix" (26 : Nat) ({ cls := "java/lang/Math", name := "floorMod", desc := "(JJ)J" } : Jvm.MethodName)) ∈ AW := at3 (i := 62) rfl rfl
theorem q613 : (Jvm.Cond.static ({ cls := "java/lang/Math", name := "floorMod", desc := "(JJ)J" } : Jvm.MethodName)) ∈ AW := at3 (i := 63) rfl rfl
theorem q614 : (Jvm.Cond.code ({ cls := "java/lang/Math", name := "floorMod", desc := "(JJ)J" } : Jvm.MethodName) prog_31_method_52_code (6 : Nat) (Option.some Jvm.ClassFile.FieldType.long)) ∈ AW := at3 (i := 64) rfl rfl
theorem q628 : (Jvm.Cond.methodLink "Minestrata$Air" (167 : Nat) ({ cls := "Minestrata$Equations", name := "solve", desc := "(I)J" } : Jvm.MethodName)) ∈ AW := at3 (i := 78) rfl rfl
theorem q629 : (Jvm.Cond.instanceMethod ({ cls := "Minestrata$Equations", name := "solve", desc := "(I)J" } : Jvm.MethodName)) ∈ AW := at3 (i := 79) rfl rfl
theorem q630 : (Jvm.Cond.selects "Minestrata$Equations" ({ cls := "Minestrata$Equations", name := "solve", desc := "(I)J" } : Jvm.MethodName) ({ cls := "Minestrata$Equations", name := "solve", desc := "(I)J" } : Jvm.MethodName)) ∈ AW := at3 (i := 80) rfl rfl
theorem q631 : (Jvm.Cond.code ({ cls := "Minestrata$Equations", name := "solve", desc := "(I)J" } : Jvm.MethodName) prog_4_method_4_code (9 : Nat) (Option.some Jvm.ClassFile.FieldType.long)) ∈ AW := at3 (i := 81) rfl rfl
theorem q641 : (Jvm.Cond.methodLink "Minestrata$Air" (95 : Nat) ({ cls := "Minestrata$Air", name := "keep", desc := "(LMinestrata$Net;JJ)V" } : Jvm.MethodName)) ∈ AW := at3 (i := 91) rfl rfl
theorem q643 : (Jvm.Cond.instanceMethod ({ cls := "Minestrata$Air", name := "keep", desc := "(LMinestrata$Net;JJ)V" } : Jvm.MethodName)) ∈ AW := at3 (i := 93) rfl rfl
theorem q644 : (Jvm.Cond.code ({ cls := "Minestrata$Air", name := "keep", desc := "(LMinestrata$Net;JJ)V" } : Jvm.MethodName) prog_2_method_8_code (12 : Nat) (Option.none : Option Jvm.ClassFile.FieldType)) ∈ AW := at3 (i := 94) rfl rfl
theorem q646 : (Jvm.Cond.methodLink "Minestrata$Air" (99 : Nat) ({ cls := "Minestrata$Radix", name := "add", desc := "(J)V" } : Jvm.MethodName)) ∈ AW := at3 (i := 96) rfl rfl
theorem q647 : (Jvm.Cond.instanceMethod ({ cls := "Minestrata$Radix", name := "add", desc := "(J)V" } : Jvm.MethodName)) ∈ AW := at3 (i := 97) rfl rfl
theorem q648 : (Jvm.Cond.selects "Minestrata$Radix" ({ cls := "Minestrata$Radix", name := "add", desc := "(J)V" } : Jvm.MethodName) ({ cls := "Minestrata$Radix", name := "add", desc := "(J)V" } : Jvm.MethodName)) ∈ AW := at3 (i := 98) rfl rfl
theorem q649 : (Jvm.Cond.code ({ cls := "Minestrata$Radix", name := "add", desc := "(J)V" } : Jvm.MethodName) prog_10_method_2_code (6 : Nat) (Option.none : Option Jvm.ClassFile.FieldType)) ∈ AW := at3 (i := 99) rfl rfl
theorem q650 : (Jvm.Cond.methodLink "Minestrata$Radix" (22 : Nat) ({ cls := "Minestrata$Radix", name := "inverse", desc := "(JJ)J" } : Jvm.MethodName)) ∈ AW := at3 (i := 100) rfl rfl
theorem q651 : (Jvm.Cond.methodLink "Minestrata$Air" (85 : Nat) ({ cls := "Minestrata$Air", name := "tell", desc := "(LMinestrata$Net;)V" } : Jvm.MethodName)) ∈ AW := at3 (i := 101) rfl rfl
theorem q653 : (Jvm.Cond.instanceMethod ({ cls := "Minestrata$Air", name := "tell", desc := "(LMinestrata$Net;)V" } : Jvm.MethodName)) ∈ AW := at3 (i := 103) rfl rfl
theorem q654 : (Jvm.Cond.code ({ cls := "Minestrata$Air", name := "tell", desc := "(LMinestrata$Net;)V" } : Jvm.MethodName) prog_2_method_9_code (4 : Nat) (Option.none : Option Jvm.ClassFile.FieldType)) ∈ AW := at3 (i := 104) rfl rfl
theorem q655 : (Jvm.Cond.methodLink "Minestrata$Air" (185 : Nat) ({ cls := "Minestrata$Fraction", name := "readBelow", desc := "(LMinestrata$Radix;)V" } : Jvm.MethodName)) ∈ AW := at3 (i := 105) rfl rfl
theorem q656 : (Jvm.Cond.instanceMethod ({ cls := "Minestrata$Fraction", name := "readBelow", desc := "(LMinestrata$Radix;)V" } : Jvm.MethodName)) ∈ AW := at3 (i := 106) rfl rfl
theorem q657 : (Jvm.Cond.selects "Minestrata$Fraction" ({ cls := "Minestrata$Fraction", name := "readBelow", desc := "(LMinestrata$Radix;)V" } : Jvm.MethodName) ({ cls := "Minestrata$Fraction", name := "readBelow", desc := "(LMinestrata$Radix;)V" } : Jvm.MethodName)) ∈ AW := at3 (i := 107) rfl rfl
theorem q658 : (Jvm.Cond.code ({ cls := "Minestrata$Fraction", name := "readBelow", desc := "(LMinestrata$Radix;)V" } : Jvm.MethodName) prog_6_method_2_code (2 : Nat) (Option.none : Option Jvm.ClassFile.FieldType)) ∈ AW := at3 (i := 108) rfl rfl
theorem q659 : (Jvm.Cond.methodLink "Minestrata$Fraction" (24 : Nat) ({ cls := "Minestrata$Radix", name := "findDigits", desc := "([J[J)V" } : Jvm.MethodName)) ∈ AW := at3 (i := 109) rfl rfl
theorem q660 : (Jvm.Cond.instanceMethod ({ cls := "Minestrata$Radix", name := "findDigits", desc := "([J[J)V" } : Jvm.MethodName)) ∈ AW := at3 (i := 110) rfl rfl
theorem q661 : (Jvm.Cond.selects "Minestrata$Radix" ({ cls := "Minestrata$Radix", name := "findDigits", desc := "([J[J)V" } : Jvm.MethodName) ({ cls := "Minestrata$Radix", name := "findDigits", desc := "([J[J)V" } : Jvm.MethodName)) ∈ AW := at3 (i := 111) rfl rfl
theorem q662 : (Jvm.Cond.code ({ cls := "Minestrata$Radix", name := "findDigits", desc := "([J[J)V" } : Jvm.MethodName) prog_10_method_3_code (7 : Nat) (Option.none : Option Jvm.ClassFile.FieldType)) ∈ AW := at3 (i := 112) rfl rfl
theorem q663 : (Jvm.Cond.methodLink "Minestrata$Air" (189 : Nat) ({ cls := "Minestrata$Fraction", name := "bitsBelow", desc := "(LMinestrata$Radix;)I" } : Jvm.MethodName)) ∈ AW := at3 (i := 113) rfl rfl
theorem q664 : (Jvm.Cond.instanceMethod ({ cls := "Minestrata$Fraction", name := "bitsBelow", desc := "(LMinestrata$Radix;)I" } : Jvm.MethodName)) ∈ AW := at3 (i := 114) rfl rfl
theorem q665 : (Jvm.Cond.selects "Minestrata$Fraction" ({ cls := "Minestrata$Fraction", name := "bitsBelow", desc := "(LMinestrata$Radix;)I" } : Jvm.MethodName) ({ cls := "Minestrata$Fraction", name := "bitsBelow", desc := "(LMinestrata$Radix;)I" } : Jvm.MethodName)) ∈ AW := at3 (i := 115) rfl rfl
theorem q666 : (Jvm.Cond.code ({ cls := "Minestrata$Fraction", name := "bitsBelow", desc := "(LMinestrata$Radix;)I" } : Jvm.MethodName) prog_6_method_3_code (4 : Nat) (Option.some Jvm.ClassFile.FieldType.int)) ∈ AW := at3 (i := 116) rfl rfl
theorem q667 : (Jvm.Cond.methodLink "Minestrata$Fraction" (32 : Nat) ({ cls := "Minestrata$Radix", name := "bitLength", desc := "(J)I" } : Jvm.MethodName)) ∈ AW := at3 (i := 117) rfl rfl
theorem q668 : (Jvm.Cond.static ({ cls := "Minestrata$Radix", name := "bitLength", desc := "(J)I" } : Jvm.MethodName)) ∈ AW := at3 (i := 118) rfl rfl
theorem q669 : (Jvm.Cond.code ({ cls := "Minestrata$Radix", name := "bitLength", desc := "(J)I" } : Jvm.MethodName) prog_10_method_5_code (4 : Nat) (Option.some Jvm.ClassFile.FieldType.int)) ∈ AW := at3 (i := 119) rfl rfl
theorem q690 : (Jvm.Cond.methodLink "Minestrata" (279 : Nat) ({ cls := "Minestrata$Gas", name := "find", desc := "(LMinestrata$Net;LMinestrata$Air;)V" } : Jvm.MethodName)) ∈ AW := at3 (i := 140) rfl rfl
theorem q691 : (Jvm.Cond.instanceMethod ({ cls := "Minestrata$Gas", name := "find", desc := "(LMinestrata$Net;LMinestrata$Air;)V" } : Jvm.MethodName)) ∈ AW := at3 (i := 141) rfl rfl
theorem q692 : (Jvm.Cond.selects "Minestrata$Gas" ({ cls := "Minestrata$Gas", name := "find", desc := "(LMinestrata$Net;LMinestrata$Air;)V" } : Jvm.MethodName) ({ cls := "Minestrata$Gas", name := "find", desc := "(LMinestrata$Net;LMinestrata$Air;)V" } : Jvm.MethodName)) ∈ AW := at3 (i := 142) rfl rfl
theorem q693 : (Jvm.Cond.code ({ cls := "Minestrata$Gas", name := "find", desc := "(LMinestrata$Net;LMinestrata$Air;)V" } : Jvm.MethodName) prog_7_method_2_code (5 : Nat) (Option.none : Option Jvm.ClassFile.FieldType)) ∈ AW := at3 (i := 143) rfl rfl
theorem q694 : (Jvm.Cond.methodLink "Minestrata$Gas" (67 : Nat) ({ cls := "Minestrata$Gas", name := "findWays", desc := "(LMinestrata$Net;LMinestrata$Air;)V" } : Jvm.MethodName)) ∈ AW := at3 (i := 144) rfl rfl
theorem q696 : (Jvm.Cond.instanceMethod ({ cls := "Minestrata$Gas", name := "findWays", desc := "(LMinestrata$Net;LMinestrata$Air;)V" } : Jvm.MethodName)) ∈ AW := at3 (i := 146) rfl rfl
theorem q697 : (Jvm.Cond.code ({ cls := "Minestrata$Gas", name := "findWays", desc := "(LMinestrata$Net;LMinestrata$Air;)V" } : Jvm.MethodName) prog_7_method_4_code (5 : Nat) (Option.none : Option Jvm.ClassFile.FieldType)) ∈ AW := at3 (i := 147) rfl rfl
theorem q698 : (Jvm.Cond.methodLink "Minestrata$Gas" (119 : Nat) ({ cls := "Minestrata$Groups", name := "gather", desc := "(LMinestrata$Net;)V" } : Jvm.MethodName)) ∈ AW := at3 (i := 148) rfl rfl
theorem q699 : (Jvm.Cond.methodLink "Minestrata$Gas" (71 : Nat) ({ cls := "Minestrata$Gas", name := "findFull", desc := "(LMinestrata$Net;)V" } : Jvm.MethodName)) ∈ AW := at3 (i := 149) rfl rfl
theorem q701 : (Jvm.Cond.instanceMethod ({ cls := "Minestrata$Gas", name := "findFull", desc := "(LMinestrata$Net;)V" } : Jvm.MethodName)) ∈ AW := at3 (i := 151) rfl rfl
theorem q702 : (Jvm.Cond.code ({ cls := "Minestrata$Gas", name := "findFull", desc := "(LMinestrata$Net;)V" } : Jvm.MethodName) prog_7_method_5_code (4 : Nat) (Option.none : Option Jvm.ClassFile.FieldType)) ∈ AW := at3 (i := 152) rfl rfl
theorem q704 : (Jvm.Cond.methodLink "Minestrata$Gas" (75 : Nat) ({ cls := "Minestrata$Gas", name := "findCarriers", desc := "(LMinestrata$Net;)V" } : Jvm.MethodName)) ∈ AW := at3 (i := 154) rfl rfl
theorem q706 : (Jvm.Cond.instanceMethod ({ cls := "Minestrata$Gas", name := "findCarriers", desc := "(LMinestrata$Net;)V" } : Jvm.MethodName)) ∈ AW := at3 (i := 156) rfl rfl
theorem q707 : (Jvm.Cond.code ({ cls := "Minestrata$Gas", name := "findCarriers", desc := "(LMinestrata$Net;)V" } : Jvm.MethodName) prog_7_method_6_code (4 : Nat) (Option.none : Option Jvm.ClassFile.FieldType)) ∈ AW := at3 (i := 157) rfl rfl
theorem q744 : (Jvm.Cond.methodLink "Minestrata" (191 : Nat) ({ cls := "Minestrata$Stopes", name := "setFillings", desc := "()V" } : Jvm.MethodName)) ∈ AW := at3 (i := 194) rfl rfl
theorem q745 : (Jvm.Cond.instanceMethod ({ cls := "Minestrata$Stopes", name := "setFillings", desc := "()V" } : Jvm.MethodName)) ∈ AW := at3 (i := 195) rfl rfl
theorem q746 : (Jvm.Cond.selects "Minestrata$Stopes" ({ cls := "Minestrata$Stopes", name := "setFillings", desc := "()V" } : Jvm.MethodName) ({ cls := "Minestrata$Stopes", name := "setFillings", desc := "()V" } : Jvm.MethodName)) ∈ AW := at3 (i := 196) rfl rfl
theorem q747 : (Jvm.Cond.code ({ cls := "Minestrata$Stopes", name := "setFillings", desc := "()V" } : Jvm.MethodName) prog_12_method_10_code (2 : Nat) (Option.none : Option Jvm.ClassFile.FieldType)) ∈ AW := at3 (i := 197) rfl rfl
theorem q748 : (Jvm.Cond.methodLink "MinestrataLaw" (234 : Nat) ({ cls := "Minestrata", name := "refused", desc := "()I" } : Jvm.MethodName)) ∈ AW := at3 (i := 198) rfl rfl
theorem q749 : (Jvm.Cond.instanceMethod ({ cls := "Minestrata", name := "refused", desc := "()I" } : Jvm.MethodName)) ∈ AW := at3 (i := 199) rfl rfl
theorem q750 : (Jvm.Cond.selects "Minestrata" ({ cls := "Minestrata", name := "refused", desc := "()I" } : Jvm.MethodName) ({ cls := "Minestrata", name := "refused", desc := "()I" } : Jvm.MethodName)) ∈ AW := at3 (i := 200) rfl rfl
theorem q751 : (Jvm.Cond.code ({ cls := "Minestrata", name := "refused", desc := "()I" } : Jvm.MethodName) prog_1_method_32_code (1 : Nat) (Option.some Jvm.ClassFile.FieldType.int)) ∈ AW := at3 (i := 201) rfl rfl
theorem q752 : (Jvm.Cond.methodLink "MinestrataLaw" (238 : Nat) ({ cls := "Minestrata", name := "people", desc := "()I" } : Jvm.MethodName)) ∈ AW := at3 (i := 202) rfl rfl
theorem q753 : (Jvm.Cond.instanceMethod ({ cls := "Minestrata", name := "people", desc := "()I" } : Jvm.MethodName)) ∈ AW := at3 (i := 203) rfl rfl
theorem q754 : (Jvm.Cond.selects "Minestrata" ({ cls := "Minestrata", name := "people", desc := "()I" } : Jvm.MethodName) ({ cls := "Minestrata", name := "people", desc := "()I" } : Jvm.MethodName)) ∈ AW := at3 (i := 204) rfl rfl
theorem q755 : (Jvm.Cond.code ({ cls := "Minestrata", name := "people", desc := "()I" } : Jvm.MethodName) prog_1_method_33_code (1 : Nat) (Option.some Jvm.ClassFile.FieldType.int)) ∈ AW := at3 (i := 205) rfl rfl
theorem q756 : (Jvm.Cond.methodLink "MinestrataLaw" (242 : Nat) ({ cls := "Minestrata", name := "penalties", desc := "()J" } : Jvm.MethodName)) ∈ AW := at3 (i := 206) rfl rfl
theorem q757 : (Jvm.Cond.instanceMethod ({ cls := "Minestrata", name := "penalties", desc := "()J" } : Jvm.MethodName)) ∈ AW := at3 (i := 207) rfl rfl
theorem q758 : (Jvm.Cond.selects "Minestrata" ({ cls := "Minestrata", name := "penalties", desc := "()J" } : Jvm.MethodName) ({ cls := "Minestrata", name := "penalties", desc := "()J" } : Jvm.MethodName)) ∈ AW := at3 (i := 208) rfl rfl
theorem q759 : (Jvm.Cond.code ({ cls := "Minestrata", name := "penalties", desc := "()J" } : Jvm.MethodName) prog_1_method_34_code (1 : Nat) (Option.some Jvm.ClassFile.FieldType.long)) ∈ AW := at3 (i := 209) rfl rfl
theorem q760 : (Jvm.Cond.methodLink "MinestrataLaw" (254 : Nat) ({ cls := "Minestrata", name := "isSound", desc := "()Z" } : Jvm.MethodName)) ∈ AW := at3 (i := 210) rfl rfl
theorem q761 : (Jvm.Cond.instanceMethod ({ cls := "Minestrata", name := "isSound", desc := "()Z" } : Jvm.MethodName)) ∈ AW := at3 (i := 211) rfl rfl
theorem q762 : (Jvm.Cond.selects "Minestrata" ({ cls := "Minestrata", name := "isSound", desc := "()Z" } : Jvm.MethodName) ({ cls := "Minestrata", name := "isSound", desc := "()Z" } : Jvm.MethodName)) ∈ AW := at3 (i := 212) rfl rfl
theorem q763 : (Jvm.Cond.code ({ cls := "Minestrata", name := "isSound", desc := "()Z" } : Jvm.MethodName) prog_1_method_37_code (2 : Nat) (Option.some Jvm.ClassFile.FieldType.boolean)) ∈ AW := at3 (i := 213) rfl rfl
theorem q793 : (Jvm.Cond.methodLink "Minestrata" (269 : Nat) ({ cls := "Minestrata$Air", name := "isBalanced", desc := "(LMinestrata$Net;)Z" } : Jvm.MethodName)) ∈ AW := at4 (i := 3) rfl rfl
theorem q794 : (Jvm.Cond.instanceMethod ({ cls := "Minestrata$Air", name := "isBalanced", desc := "(LMinestrata$Net;)Z" } : Jvm.MethodName)) ∈ AW := at4 (i := 4) rfl rfl
theorem q795 : (Jvm.Cond.selects "Minestrata$Air" ({ cls := "Minestrata$Air", name := "isBalanced", desc := "(LMinestrata$Net;)Z" } : Jvm.MethodName) ({ cls := "Minestrata$Air", name := "isBalanced", desc := "(LMinestrata$Net;)Z" } : Jvm.MethodName)) ∈ AW := at4 (i := 5) rfl rfl
theorem q796 : (Jvm.Cond.code ({ cls := "Minestrata$Air", name := "isBalanced", desc := "(LMinestrata$Net;)Z" } : Jvm.MethodName) prog_2_method_4_code (7 : Nat) (Option.some Jvm.ClassFile.FieldType.boolean)) ∈ AW := at4 (i := 6) rfl rfl
theorem q797 : (Jvm.Cond.methodLink "Minestrata" (273 : Nat) ({ cls := "Minestrata$Stopes", name := "firstOverloaded", desc := "()I" } : Jvm.MethodName)) ∈ AW := at4 (i := 7) rfl rfl
theorem q798 : (Jvm.Cond.instanceMethod ({ cls := "Minestrata$Stopes", name := "firstOverloaded", desc := "()I" } : Jvm.MethodName)) ∈ AW := at4 (i := 8) rfl rfl
theorem q799 : (Jvm.Cond.selects "Minestrata$Stopes" ({ cls := "Minestrata$Stopes", name := "firstOverloaded", desc := "()I" } : Jvm.MethodName) ({ cls := "Minestrata$Stopes", name := "firstOverloaded", desc := "()I" } : Jvm.MethodName)) ∈ AW := at4 (i := 9) rfl rfl
theorem q800 : (Jvm.Cond.code ({ cls := "Minestrata$Stopes", name := "firstOverloaded", desc := "()I" } : Jvm.MethodName) prog_12_method_11_code (2 : Nat) (Option.some Jvm.ClassFile.FieldType.int)) ∈ AW := at4 (i := 10) rfl rfl
theorem q805 : (Jvm.Cond.methodLink "MinestrataLaw" (130 : Nat) ({ cls := "MinestrataLaw", name := "addJunction", desc := "(LMinestrata;ZI[J)I" } : Jvm.MethodName)) ∈ AW := at4 (i := 15) rfl rfl
theorem q806 : (Jvm.Cond.static ({ cls := "MinestrataLaw", name := "addJunction", desc := "(LMinestrata;ZI[J)I" } : Jvm.MethodName)) ∈ AW := at4 (i := 16) rfl rfl
theorem q807 : (Jvm.Cond.codeWith ({ cls := "MinestrataLaw", name := "addJunction", desc := "(LMinestrata;ZI[J)I" } : Jvm.MethodName) method_3_code (5 : Nat) (Option.some Jvm.ClassFile.FieldType.int) [((0 : Nat), (10 : Nat), (13 : Nat), (13 : Nat)), ((0 : Nat), (10 : Nat), (17 : Nat), (15 : Nat))]) ∈ AW := at4 (i := 17) rfl rfl
theorem q808 : (Jvm.Cond.classLink "MinestrataLaw" (13 : Nat) "java/lang/IllegalArgumentException") ∈ AW := at4 (i := 18) rfl rfl
theorem q810 : (Jvm.Cond.methodLink "MinestrataLaw" (7 : Nat) ({ cls := "Minestrata", name := "addJunction", desc := "(ZI)I" } : Jvm.MethodName)) ∈ AW := at4 (i := 20) rfl rfl
theorem q811 : (Jvm.Cond.instanceMethod ({ cls := "Minestrata", name := "addJunction", desc := "(ZI)I" } : Jvm.MethodName)) ∈ AW := at4 (i := 21) rfl rfl
theorem q812 : (Jvm.Cond.selects "Minestrata" ({ cls := "Minestrata", name := "addJunction", desc := "(ZI)I" } : Jvm.MethodName) ({ cls := "Minestrata", name := "addJunction", desc := "(ZI)I" } : Jvm.MethodName)) ∈ AW := at4 (i := 22) rfl rfl
theorem q813 : (Jvm.Cond.code ({ cls := "Minestrata", name := "addJunction", desc := "(ZI)I" } : Jvm.MethodName) prog_1_method_2_code (3 : Nat) (Option.some Jvm.ClassFile.FieldType.int)) ∈ AW := at4 (i := 23) rfl rfl
theorem q814 : (Jvm.Cond.methodLink "Minestrata" (80 : Nat) ({ cls := "Minestrata", name := "isWithin", desc := "(III)Z" } : Jvm.MethodName)) ∈ AW := at4 (i := 24) rfl rfl
theorem q815 : (Jvm.Cond.static ({ cls := "Minestrata", name := "isWithin", desc := "(III)Z" } : Jvm.MethodName)) ∈ AW := at4 (i := 25) rfl rfl
theorem q816 : (Jvm.Cond.code ({ cls := "Minestrata", name := "isWithin", desc := "(III)Z" } : Jvm.MethodName) prog_1_method_38_code (3 : Nat) (Option.some Jvm.ClassFile.FieldType.boolean)) ∈ AW := at4 (i := 26) rfl rfl
theorem q817 : (Jvm.Cond.classLink "Minestrata" (84 : Nat) "java/lang/IllegalArgumentException") ∈ AW := at4 (i := 27) rfl rfl
theorem q900 : (Jvm.Cond.methodLink "Minestrata" (93 : Nat) ({ cls := "Minestrata$Net", name := "putJunction", desc := "(ZI)I" } : Jvm.MethodName)) ∈ AW := at4 (i := 110) rfl rfl
theorem q901 : (Jvm.Cond.instanceMethod ({ cls := "Minestrata$Net", name := "putJunction", desc := "(ZI)I" } : Jvm.MethodName)) ∈ AW := at4 (i := 111) rfl rfl
theorem q902 : (Jvm.Cond.selects "Minestrata$Net" ({ cls := "Minestrata$Net", name := "putJunction", desc := "(ZI)I" } : Jvm.MethodName) ({ cls := "Minestrata$Net", name := "putJunction", desc := "(ZI)I" } : Jvm.MethodName)) ∈ AW := at4 (i := 112) rfl rfl
theorem q903 : (Jvm.Cond.code ({ cls := "Minestrata$Net", name := "putJunction", desc := "(ZI)I" } : Jvm.MethodName) prog_9_method_4_code (3 : Nat) (Option.some Jvm.ClassFile.FieldType.int)) ∈ AW := at4 (i := 113) rfl rfl
theorem q904 : (Jvm.Cond.methodLink "MinestrataLaw" (139 : Nat) ({ cls := "MinestrataLaw", name := "addRoad", desc := "(LMinestrata;IIIZ[J)I" } : Jvm.MethodName)) ∈ AW := at4 (i := 114) rfl rfl
theorem q905 : (Jvm.Cond.static ({ cls := "MinestrataLaw", name := "addRoad", desc := "(LMinestrata;IIIZ[J)I" } : Jvm.MethodName)) ∈ AW := at4 (i := 115) rfl rfl
theorem q906 : (Jvm.Cond.codeWith ({ cls := "MinestrataLaw", name := "addRoad", desc := "(LMinestrata;IIIZ[J)I" } : Jvm.MethodName) method_4_code (7 : Nat) (Option.some Jvm.ClassFile.FieldType.int) [((0 : Nat), (14 : Nat), (17 : Nat), (21 : Nat)), ((0 : Nat), (14 : Nat), (21 : Nat), (13 : Nat)), ((0 : Nat), (14 : Nat), (25 : Nat), (15 : Nat))]) ∈ AW := at4 (i := 116) rfl rfl
theorem q907 : (Jvm.Cond.classLink "MinestrataLaw" (21 : Nat) "java/lang/IndexOutOfBoundsException") ∈ AW := at4 (i := 117) rfl rfl
theorem q940 : (Jvm.Cond.methodLink "MinestrataLaw" (17 : Nat) ({ cls := "Minestrata", name := "addRoad", desc := "(IIIZ)I" } : Jvm.MethodName)) ∈ AW := at4 (i := 150) rfl rfl
theorem q941 : (Jvm.Cond.instanceMethod ({ cls := "Minestrata", name := "addRoad", desc := "(IIIZ)I" } : Jvm.MethodName)) ∈ AW := at4 (i := 151) rfl rfl
theorem q942 : (Jvm.Cond.selects "Minestrata" ({ cls := "Minestrata", name := "addRoad", desc := "(IIIZ)I" } : Jvm.MethodName) ({ cls := "Minestrata", name := "addRoad", desc := "(IIIZ)I" } : Jvm.MethodName)) ∈ AW := at4 (i := 152) rfl rfl
theorem q943 : (Jvm.Cond.code ({ cls := "Minestrata", name := "addRoad", desc := "(IIIZ)I" } : Jvm.MethodName) prog_1_method_3_code (5 : Nat) (Option.some Jvm.ClassFile.FieldType.int)) ∈ AW := at4 (i := 153) rfl rfl
theorem q944 : (Jvm.Cond.methodLink "Minestrata" (97 : Nat) ({ cls := "Minestrata$Net", name := "hasJunction", desc := "(I)Z" } : Jvm.MethodName)) ∈ AW := at4 (i := 154) rfl rfl
theorem q945 : (Jvm.Cond.instanceMethod ({ cls := "Minestrata$Net", name := "hasJunction", desc := "(I)Z" } : Jvm.MethodName)) ∈ AW := at4 (i := 155) rfl rfl
theorem q946 : (Jvm.Cond.selects "Minestrata$Net" ({ cls := "Minestrata$Net", name := "hasJunction", desc := "(I)Z" } : Jvm.MethodName) ({ cls := "Minestrata$Net", name := "hasJunction", desc := "(I)Z" } : Jvm.MethodName)) ∈ AW := at4 (i := 156) rfl rfl
theorem q947 : (Jvm.Cond.code ({ cls := "Minestrata$Net", name := "hasJunction", desc := "(I)Z" } : Jvm.MethodName) prog_9_method_2_code (2 : Nat) (Option.some Jvm.ClassFile.FieldType.boolean)) ∈ AW := at4 (i := 157) rfl rfl
theorem q948 : (Jvm.Cond.classLink "Minestrata" (101 : Nat) "java/lang/IndexOutOfBoundsException") ∈ AW := at4 (i := 158) rfl rfl
theorem q967 : (Jvm.Cond.methodLink "MinestrataLaw" (143 : Nat) ({ cls := "MinestrataLaw", name := "addStope", desc := "(LMinestrata;IIII[J)I" } : Jvm.MethodName)) ∈ AW := at4 (i := 177) rfl rfl
theorem q968 : (Jvm.Cond.static ({ cls := "MinestrataLaw", name := "addStope", desc := "(LMinestrata;IIII[J)I" } : Jvm.MethodName)) ∈ AW := at4 (i := 178) rfl rfl
theorem q969 : (Jvm.Cond.codeWith ({ cls := "MinestrataLaw", name := "addStope", desc := "(LMinestrata;IIII[J)I" } : Jvm.MethodName) method_5_code (7 : Nat) (Option.some Jvm.ClassFile.FieldType.int) [((0 : Nat), (14 : Nat), (17 : Nat), (21 : Nat)), ((0 : Nat), (14 : Nat), (21 : Nat), (13 : Nat)), ((0 : Nat), (14 : Nat), (25 : Nat), (15 : Nat))]) ∈ AW := at4 (i := 179) rfl rfl
theorem q970 : (Jvm.Cond.methodLink "MinestrataLaw" (23 : Nat) ({ cls := "Minestrata", name := "addStope", desc := "(IIII)I" } : Jvm.MethodName)) ∈ AW := at4 (i := 180) rfl rfl
theorem q971 : (Jvm.Cond.instanceMethod ({ cls := "Minestrata", name := "addStope", desc := "(IIII)I" } : Jvm.MethodName)) ∈ AW := at4 (i := 181) rfl rfl
theorem q972 : (Jvm.Cond.selects "Minestrata" ({ cls := "Minestrata", name := "addStope", desc := "(IIII)I" } : Jvm.MethodName) ({ cls := "Minestrata", name := "addStope", desc := "(IIII)I" } : Jvm.MethodName)) ∈ AW := at4 (i := 182) rfl rfl
theorem q973 : (Jvm.Cond.code ({ cls := "Minestrata", name := "addStope", desc := "(IIII)I" } : Jvm.MethodName) prog_1_method_4_code (5 : Nat) (Option.some Jvm.ClassFile.FieldType.int)) ∈ AW := at4 (i := 183) rfl rfl
theorem q978 : (Jvm.Cond.methodLink "MinestrataLaw" (147 : Nat) ({ cls := "MinestrataLaw", name := "join", desc := "(LMinestrata;II[J)I" } : Jvm.MethodName)) ∈ AW := at4 (i := 188) rfl rfl
theorem q979 : (Jvm.Cond.static ({ cls := "MinestrataLaw", name := "join", desc := "(LMinestrata;II[J)I" } : Jvm.MethodName)) ∈ AW := at4 (i := 189) rfl rfl
theorem q980 : (Jvm.Cond.codeWith ({ cls := "MinestrataLaw", name := "join", desc := "(LMinestrata;II[J)I" } : Jvm.MethodName) method_6_code (5 : Nat) (Option.some Jvm.ClassFile.FieldType.int) [((0 : Nat), (17 : Nat), (20 : Nat), (21 : Nat)), ((0 : Nat), (17 : Nat), (24 : Nat), (13 : Nat))]) ∈ AW := at4 (i := 190) rfl rfl
theorem q981 : (Jvm.Cond.methodLink "MinestrataLaw" (27 : Nat) ({ cls := "Minestrata", name := "join", desc := "(II)Z" } : Jvm.MethodName)) ∈ AW := at4 (i := 191) rfl rfl
theorem q982 : (Jvm.Cond.instanceMethod ({ cls := "Minestrata", name := "join", desc := "(II)Z" } : Jvm.MethodName)) ∈ AW := at4 (i := 192) rfl rfl
theorem q983 : (Jvm.Cond.selects "Minestrata" ({ cls := "Minestrata", name := "join", desc := "(II)Z" } : Jvm.MethodName) ({ cls := "Minestrata", name := "join", desc := "(II)Z" } : Jvm.MethodName)) ∈ AW := at4 (i := 193) rfl rfl
theorem q984 : (Jvm.Cond.code ({ cls := "Minestrata", name := "join", desc := "(II)Z" } : Jvm.MethodName) prog_1_method_5_code (3 : Nat) (Option.some Jvm.ClassFile.FieldType.boolean)) ∈ AW := at4 (i := 194) rfl rfl
theorem q985 : (Jvm.Cond.methodLink "Minestrata" (121 : Nat) ({ cls := "Minestrata$Stopes", name := "has", desc := "(I)Z" } : Jvm.MethodName)) ∈ AW := at4 (i := 195) rfl rfl
theorem q986 : (Jvm.Cond.instanceMethod ({ cls := "Minestrata$Stopes", name := "has", desc := "(I)Z" } : Jvm.MethodName)) ∈ AW := at4 (i := 196) rfl rfl
theorem q987 : (Jvm.Cond.selects "Minestrata$Stopes" ({ cls := "Minestrata$Stopes", name := "has", desc := "(I)Z" } : Jvm.MethodName) ({ cls := "Minestrata$Stopes", name := "has", desc := "(I)Z" } : Jvm.MethodName)) ∈ AW := at4 (i := 197) rfl rfl
theorem q988 : (Jvm.Cond.code ({ cls := "Minestrata$Stopes", name := "has", desc := "(I)Z" } : Jvm.MethodName) prog_12_method_2_code (2 : Nat) (Option.some Jvm.ClassFile.FieldType.boolean)) ∈ AW := at4 (i := 198) rfl rfl
theorem q997 : (Jvm.Cond.methodLink "MinestrataLaw" (151 : Nat) ({ cls := "MinestrataLaw", name := "setLimit", desc := "(LMinestrata;I[J)I" } : Jvm.MethodName)) ∈ AW := at4 (i := 207) rfl rfl
theorem q998 : (Jvm.Cond.static ({ cls := "MinestrataLaw", name := "setLimit", desc := "(LMinestrata;I[J)I" } : Jvm.MethodName)) ∈ AW := at4 (i := 208) rfl rfl
theorem q999 : (Jvm.Cond.codeWith ({ cls := "MinestrataLaw", name := "setLimit", desc := "(LMinestrata;I[J)I" } : Jvm.MethodName) method_7_code (4 : Nat) (Option.some Jvm.ClassFile.FieldType.int) [((0 : Nat), (9 : Nat), (12 : Nat), (13 : Nat))]) ∈ AW := at4 (i := 209) rfl rfl
theorem q1000 : (Jvm.Cond.methodLink "MinestrataLaw" (31 : Nat) ({ cls := "Minestrata", name := "setLimit", desc := "(I)I" } : Jvm.MethodName)) ∈ AW := at4 (i := 210) rfl rfl
theorem q1001 : (Jvm.Cond.instanceMethod ({ cls := "Minestrata", name := "setLimit", desc := "(I)I" } : Jvm.MethodName)) ∈ AW := at4 (i := 211) rfl rfl
theorem q1002 : (Jvm.Cond.selects "Minestrata" ({ cls := "Minestrata", name := "setLimit", desc := "(I)I" } : Jvm.MethodName) ({ cls := "Minestrata", name := "setLimit", desc := "(I)I" } : Jvm.MethodName)) ∈ AW := at4 (i := 212) rfl rfl
theorem q1003 : (Jvm.Cond.code ({ cls := "Minestrata", name := "setLimit", desc := "(I)I" } : Jvm.MethodName) prog_1_method_6_code (3 : Nat) (Option.some Jvm.ClassFile.FieldType.int)) ∈ AW := at4 (i := 213) rfl rfl
theorem q1004 : (Jvm.Cond.methodLink "MinestrataLaw" (155 : Nat) ({ cls := "MinestrataLaw", name := "setSensor", desc := "(LMinestrata;II[J)I" } : Jvm.MethodName)) ∈ AW := at4 (i := 214) rfl rfl
theorem q1005 : (Jvm.Cond.static ({ cls := "MinestrataLaw", name := "setSensor", desc := "(LMinestrata;II[J)I" } : Jvm.MethodName)) ∈ AW := at4 (i := 215) rfl rfl
theorem q1006 : (Jvm.Cond.codeWith ({ cls := "MinestrataLaw", name := "setSensor", desc := "(LMinestrata;II[J)I" } : Jvm.MethodName) method_8_code (5 : Nat) (Option.some Jvm.ClassFile.FieldType.int) [((0 : Nat), (17 : Nat), (20 : Nat), (21 : Nat)), ((0 : Nat), (17 : Nat), (24 : Nat), (13 : Nat))]) ∈ AW := at4 (i := 216) rfl rfl
theorem q1007 : (Jvm.Cond.methodLink "MinestrataLaw" (35 : Nat) ({ cls := "Minestrata", name := "setSensor", desc := "(II)Z" } : Jvm.MethodName)) ∈ AW := at4 (i := 217) rfl rfl
theorem q1008 : (Jvm.Cond.instanceMethod ({ cls := "Minestrata", name := "setSensor", desc := "(II)Z" } : Jvm.MethodName)) ∈ AW := at4 (i := 218) rfl rfl
theorem q1009 : (Jvm.Cond.selects "Minestrata" ({ cls := "Minestrata", name := "setSensor", desc := "(II)Z" } : Jvm.MethodName) ({ cls := "Minestrata", name := "setSensor", desc := "(II)Z" } : Jvm.MethodName)) ∈ AW := at4 (i := 219) rfl rfl
theorem q1010 : (Jvm.Cond.code ({ cls := "Minestrata", name := "setSensor", desc := "(II)Z" } : Jvm.MethodName) prog_1_method_7_code (3 : Nat) (Option.some Jvm.ClassFile.FieldType.boolean)) ∈ AW := at4 (i := 220) rfl rfl
theorem q1015 : (Jvm.Cond.methodLink "MinestrataLaw" (158 : Nat) ({ cls := "MinestrataLaw", name := "setRight", desc := "(LMinestrata;I[J)I" } : Jvm.MethodName)) ∈ AW := at4 (i := 225) rfl rfl
theorem q1016 : (Jvm.Cond.static ({ cls := "MinestrataLaw", name := "setRight", desc := "(LMinestrata;I[J)I" } : Jvm.MethodName)) ∈ AW := at4 (i := 226) rfl rfl
theorem q1017 : (Jvm.Cond.codeWith ({ cls := "MinestrataLaw", name := "setRight", desc := "(LMinestrata;I[J)I" } : Jvm.MethodName) method_9_code (4 : Nat) (Option.some Jvm.ClassFile.FieldType.int) [((0 : Nat), (9 : Nat), (12 : Nat), (21 : Nat)), ((0 : Nat), (9 : Nat), (15 : Nat), (41 : Nat))]) ∈ AW := at4 (i := 227) rfl rfl
theorem q1018 : (Jvm.Cond.classLink "MinestrataLaw" (41 : Nat) "java/util/NoSuchElementException") ∈ AW := at4 (i := 228) rfl rfl
theorem q1019 : (Jvm.Cond.methodLink "MinestrataLaw" (38 : Nat) ({ cls := "Minestrata", name := "setRight", desc := "(I)I" } : Jvm.MethodName)) ∈ AW := at4 (i := 229) rfl rfl
theorem q1020 : (Jvm.Cond.instanceMethod ({ cls := "Minestrata", name := "setRight", desc := "(I)I" } : Jvm.MethodName)) ∈ AW := at4 (i := 230) rfl rfl
theorem q1021 : (Jvm.Cond.selects "Minestrata" ({ cls := "Minestrata", name := "setRight", desc := "(I)I" } : Jvm.MethodName) ({ cls := "Minestrata", name := "setRight", desc := "(I)I" } : Jvm.MethodName)) ∈ AW := at4 (i := 231) rfl rfl
theorem q1022 : (Jvm.Cond.code ({ cls := "Minestrata", name := "setRight", desc := "(I)I" } : Jvm.MethodName) prog_1_method_8_code (3 : Nat) (Option.some Jvm.ClassFile.FieldType.int)) ∈ AW := at4 (i := 232) rfl rfl
theorem q1023 : (Jvm.Cond.classLink "Minestrata" (136 : Nat) "java/util/NoSuchElementException") ∈ AW := at4 (i := 233) rfl rfl
theorem q1038 : (Jvm.Cond.methodLink "MinestrataLaw" (161 : Nat) ({ cls := "MinestrataLaw", name := "step", desc := "(LMinestrata;CII[J)I" } : Jvm.MethodName)) ∈ AW := at5 (i := 8) rfl rfl
theorem q1039 : (Jvm.Cond.static ({ cls := "MinestrataLaw", name := "step", desc := "(LMinestrata;CII[J)I" } : Jvm.MethodName)) ∈ AW := at5 (i := 9) rfl rfl
theorem q1040 : (Jvm.Cond.codeWith ({ cls := "MinestrataLaw", name := "step", desc := "(LMinestrata;CII[J)I" } : Jvm.MethodName) method_10_code (6 : Nat) (Option.some Jvm.ClassFile.FieldType.int) [((0 : Nat), (12 : Nat), (15 : Nat), (13 : Nat)), ((0 : Nat), (12 : Nat), (19 : Nat), (21 : Nat)), ((0 : Nat), (12 : Nat), (23 : Nat), (47 : Nat))]) ∈ AW := at5 (i := 10) rfl rfl
theorem q1041 : (Jvm.Cond.classLink "MinestrataLaw" (47 : Nat) "java/lang/UnsupportedOperationException") ∈ AW := at5 (i := 11) rfl rfl
theorem q1042 : (Jvm.Cond.methodLink "MinestrataLaw" (43 : Nat) ({ cls := "Minestrata", name := "step", desc := "(CII)C" } : Jvm.MethodName)) ∈ AW := at5 (i := 12) rfl rfl
theorem q1043 : (Jvm.Cond.instanceMethod ({ cls := "Minestrata", name := "step", desc := "(CII)C" } : Jvm.MethodName)) ∈ AW := at5 (i := 13) rfl rfl
theorem q1044 : (Jvm.Cond.selects "Minestrata" ({ cls := "Minestrata", name := "step", desc := "(CII)C" } : Jvm.MethodName) ({ cls := "Minestrata", name := "step", desc := "(CII)C" } : Jvm.MethodName)) ∈ AW := at5 (i := 14) rfl rfl
theorem q1045 : (Jvm.Cond.code ({ cls := "Minestrata", name := "step", desc := "(CII)C" } : Jvm.MethodName) prog_1_method_9_code (5 : Nat) (Option.some Jvm.ClassFile.FieldType.char)) ∈ AW := at5 (i := 15) rfl rfl
theorem q1046 : (Jvm.Cond.methodLink "Minestrata" (152 : Nat) ({ cls := "Minestrata", name := "isStepValue", desc := "(CI)Z" } : Jvm.MethodName)) ∈ AW := at5 (i := 16) rfl rfl
theorem q1047 : (Jvm.Cond.static ({ cls := "Minestrata", name := "isStepValue", desc := "(CI)Z" } : Jvm.MethodName)) ∈ AW := at5 (i := 17) rfl rfl
theorem q1048 : (Jvm.Cond.code ({ cls := "Minestrata", name := "isStepValue", desc := "(CI)Z" } : Jvm.MethodName) prog_1_method_44_code (2 : Nat) (Option.some Jvm.ClassFile.FieldType.boolean)) ∈ AW := at5 (i := 18) rfl rfl
theorem q1049 : (Jvm.Cond.methodLink "Minestrata" (156 : Nat) ({ cls := "Minestrata", name := "hasStepTarget", desc := "(CI)Z" } : Jvm.MethodName)) ∈ AW := at5 (i := 19) rfl rfl
theorem q1051 : (Jvm.Cond.instanceMethod ({ cls := "Minestrata", name := "hasStepTarget", desc := "(CI)Z" } : Jvm.MethodName)) ∈ AW := at5 (i := 21) rfl rfl
theorem q1052 : (Jvm.Cond.code ({ cls := "Minestrata", name := "hasStepTarget", desc := "(CI)Z" } : Jvm.MethodName) prog_1_method_45_code (3 : Nat) (Option.some Jvm.ClassFile.FieldType.boolean)) ∈ AW := at5 (i := 22) rfl rfl
theorem q1053 : (Jvm.Cond.methodLink "Minestrata" (194 : Nat) ({ cls := "Minestrata$Net", name := "hasRoad", desc := "(I)Z" } : Jvm.MethodName)) ∈ AW := at5 (i := 23) rfl rfl
theorem q1054 : (Jvm.Cond.instanceMethod ({ cls := "Minestrata$Net", name := "hasRoad", desc := "(I)Z" } : Jvm.MethodName)) ∈ AW := at5 (i := 24) rfl rfl
theorem q1055 : (Jvm.Cond.selects "Minestrata$Net" ({ cls := "Minestrata$Net", name := "hasRoad", desc := "(I)Z" } : Jvm.MethodName) ({ cls := "Minestrata$Net", name := "hasRoad", desc := "(I)Z" } : Jvm.MethodName)) ∈ AW := at5 (i := 25) rfl rfl
theorem q1056 : (Jvm.Cond.code ({ cls := "Minestrata$Net", name := "hasRoad", desc := "(I)Z" } : Jvm.MethodName) prog_9_method_3_code (2 : Nat) (Option.some Jvm.ClassFile.FieldType.boolean)) ∈ AW := at5 (i := 26) rfl rfl
theorem q1069 : (Jvm.Cond.classLink "Minestrata" (163 : Nat) "java/lang/UnsupportedOperationException") ∈ AW := at5 (i := 39) rfl rfl
theorem q1137 : (Jvm.Cond.methodLink "MinestrataLaw" (165 : Nat) ({ cls := "MinestrataLaw", name := "refusedBy", desc := "(LMinestrata;[J)I" } : Jvm.MethodName)) ∈ AW := at5 (i := 107) rfl rfl
theorem q1138 : (Jvm.Cond.static ({ cls := "MinestrataLaw", name := "refusedBy", desc := "(LMinestrata;[J)I" } : Jvm.MethodName)) ∈ AW := at5 (i := 108) rfl rfl
theorem q1139 : (Jvm.Cond.codeWith ({ cls := "MinestrataLaw", name := "refusedBy", desc := "(LMinestrata;[J)I" } : Jvm.MethodName) method_11_code (3 : Nat) (Option.some Jvm.ClassFile.FieldType.int) [((0 : Nat), (8 : Nat), (11 : Nat), (41 : Nat))]) ∈ AW := at5 (i := 109) rfl rfl
theorem q1140 : (Jvm.Cond.methodLink "MinestrataLaw" (49 : Nat) ({ cls := "Minestrata", name := "refusedBy", desc := "()I" } : Jvm.MethodName)) ∈ AW := at5 (i := 110) rfl rfl
theorem q1141 : (Jvm.Cond.instanceMethod ({ cls := "Minestrata", name := "refusedBy", desc := "()I" } : Jvm.MethodName)) ∈ AW := at5 (i := 111) rfl rfl
theorem q1142 : (Jvm.Cond.selects "Minestrata" ({ cls := "Minestrata", name := "refusedBy", desc := "()I" } : Jvm.MethodName) ({ cls := "Minestrata", name := "refusedBy", desc := "()I" } : Jvm.MethodName)) ∈ AW := at5 (i := 112) rfl rfl
theorem q1143 : (Jvm.Cond.code ({ cls := "Minestrata", name := "refusedBy", desc := "()I" } : Jvm.MethodName) prog_1_method_10_code (1 : Nat) (Option.some Jvm.ClassFile.FieldType.int)) ∈ AW := at5 (i := 113) rfl rfl
theorem q1144 : (Jvm.Cond.methodLink "MinestrataLaw" (173 : Nat) ({ cls := "MinestrataLaw", name := "flow", desc := "(LMinestrata;I[J)I" } : Jvm.MethodName)) ∈ AW := at5 (i := 114) rfl rfl
theorem q1145 : (Jvm.Cond.static ({ cls := "MinestrataLaw", name := "flow", desc := "(LMinestrata;I[J)I" } : Jvm.MethodName)) ∈ AW := at5 (i := 115) rfl rfl
theorem q1146 : (Jvm.Cond.codeWith ({ cls := "MinestrataLaw", name := "flow", desc := "(LMinestrata;I[J)I" } : Jvm.MethodName) method_12_code (4 : Nat) (Option.some Jvm.ClassFile.FieldType.int) [((0 : Nat), (9 : Nat), (12 : Nat), (21 : Nat))]) ∈ AW := at5 (i := 116) rfl rfl
theorem q1147 : (Jvm.Cond.methodLink "MinestrataLaw" (53 : Nat) ({ cls := "Minestrata", name := "flow", desc := "(I)I" } : Jvm.MethodName)) ∈ AW := at5 (i := 117) rfl rfl
theorem q1148 : (Jvm.Cond.instanceMethod ({ cls := "Minestrata", name := "flow", desc := "(I)I" } : Jvm.MethodName)) ∈ AW := at5 (i := 118) rfl rfl
theorem q1149 : (Jvm.Cond.selects "Minestrata" ({ cls := "Minestrata", name := "flow", desc := "(I)I" } : Jvm.MethodName) ({ cls := "Minestrata", name := "flow", desc := "(I)I" } : Jvm.MethodName)) ∈ AW := at5 (i := 119) rfl rfl
theorem q1150 : (Jvm.Cond.code ({ cls := "Minestrata", name := "flow", desc := "(I)I" } : Jvm.MethodName) prog_1_method_12_code (2 : Nat) (Option.some Jvm.ClassFile.FieldType.int)) ∈ AW := at5 (i := 120) rfl rfl
theorem q1151 : (Jvm.Cond.methodLink "MinestrataLaw" (176 : Nat) ({ cls := "MinestrataLaw", name := "pressure", desc := "(LMinestrata;I[J)I" } : Jvm.MethodName)) ∈ AW := at5 (i := 121) rfl rfl
theorem q1152 : (Jvm.Cond.static ({ cls := "MinestrataLaw", name := "pressure", desc := "(LMinestrata;I[J)I" } : Jvm.MethodName)) ∈ AW := at5 (i := 122) rfl rfl
theorem q1153 : (Jvm.Cond.codeWith ({ cls := "MinestrataLaw", name := "pressure", desc := "(LMinestrata;I[J)I" } : Jvm.MethodName) method_13_code (4 : Nat) (Option.some Jvm.ClassFile.FieldType.int) [((0 : Nat), (9 : Nat), (12 : Nat), (21 : Nat))]) ∈ AW := at5 (i := 123) rfl rfl
theorem q1154 : (Jvm.Cond.methodLink "MinestrataLaw" (56 : Nat) ({ cls := "Minestrata", name := "pressure", desc := "(I)I" } : Jvm.MethodName)) ∈ AW := at5 (i := 124) rfl rfl
theorem q1155 : (Jvm.Cond.instanceMethod ({ cls := "Minestrata", name := "pressure", desc := "(I)I" } : Jvm.MethodName)) ∈ AW := at5 (i := 125) rfl rfl
theorem q1156 : (Jvm.Cond.selects "Minestrata" ({ cls := "Minestrata", name := "pressure", desc := "(I)I" } : Jvm.MethodName) ({ cls := "Minestrata", name := "pressure", desc := "(I)I" } : Jvm.MethodName)) ∈ AW := at5 (i := 126) rfl rfl
theorem q1157 : (Jvm.Cond.code ({ cls := "Minestrata", name := "pressure", desc := "(I)I" } : Jvm.MethodName) prog_1_method_13_code (2 : Nat) (Option.some Jvm.ClassFile.FieldType.int)) ∈ AW := at5 (i := 127) rfl rfl
theorem q1158 : (Jvm.Cond.methodLink "MinestrataLaw" (179 : Nat) ({ cls := "MinestrataLaw", name := "gas", desc := "(LMinestrata;I[J)I" } : Jvm.MethodName)) ∈ AW := at5 (i := 128) rfl rfl
theorem q1159 : (Jvm.Cond.static ({ cls := "MinestrataLaw", name := "gas", desc := "(LMinestrata;I[J)I" } : Jvm.MethodName)) ∈ AW := at5 (i := 129) rfl rfl
theorem q1160 : (Jvm.Cond.codeWith ({ cls := "MinestrataLaw", name := "gas", desc := "(LMinestrata;I[J)I" } : Jvm.MethodName) method_14_code (4 : Nat) (Option.some Jvm.ClassFile.FieldType.int) [((0 : Nat), (9 : Nat), (12 : Nat), (21 : Nat))]) ∈ AW := at5 (i := 130) rfl rfl
theorem q1161 : (Jvm.Cond.methodLink "MinestrataLaw" (59 : Nat) ({ cls := "Minestrata", name := "gas", desc := "(I)I" } : Jvm.MethodName)) ∈ AW := at5 (i := 131) rfl rfl
theorem q1162 : (Jvm.Cond.instanceMethod ({ cls := "Minestrata", name := "gas", desc := "(I)I" } : Jvm.MethodName)) ∈ AW := at5 (i := 132) rfl rfl
theorem q1163 : (Jvm.Cond.selects "Minestrata" ({ cls := "Minestrata", name := "gas", desc := "(I)I" } : Jvm.MethodName) ({ cls := "Minestrata", name := "gas", desc := "(I)I" } : Jvm.MethodName)) ∈ AW := at5 (i := 133) rfl rfl
theorem q1164 : (Jvm.Cond.code ({ cls := "Minestrata", name := "gas", desc := "(I)I" } : Jvm.MethodName) prog_1_method_14_code (2 : Nat) (Option.some Jvm.ClassFile.FieldType.int)) ∈ AW := at5 (i := 134) rfl rfl
theorem q1165 : (Jvm.Cond.methodLink "MinestrataLaw" (182 : Nat) ({ cls := "MinestrataLaw", name := "isFull", desc := "(LMinestrata;I[J)I" } : Jvm.MethodName)) ∈ AW := at5 (i := 135) rfl rfl
theorem q1166 : (Jvm.Cond.static ({ cls := "MinestrataLaw", name := "isFull", desc := "(LMinestrata;I[J)I" } : Jvm.MethodName)) ∈ AW := at5 (i := 136) rfl rfl
theorem q1167 : (Jvm.Cond.codeWith ({ cls := "MinestrataLaw", name := "isFull", desc := "(LMinestrata;I[J)I" } : Jvm.MethodName) method_15_code (4 : Nat) (Option.some Jvm.ClassFile.FieldType.int) [((0 : Nat), (16 : Nat), (19 : Nat), (21 : Nat))]) ∈ AW := at5 (i := 137) rfl rfl
theorem q1168 : (Jvm.Cond.methodLink "MinestrataLaw" (62 : Nat) ({ cls := "Minestrata", name := "isFull", desc := "(I)Z" } : Jvm.MethodName)) ∈ AW := at5 (i := 138) rfl rfl
theorem q1169 : (Jvm.Cond.instanceMethod ({ cls := "Minestrata", name := "isFull", desc := "(I)Z" } : Jvm.MethodName)) ∈ AW := at5 (i := 139) rfl rfl
theorem q1170 : (Jvm.Cond.selects "Minestrata" ({ cls := "Minestrata", name := "isFull", desc := "(I)Z" } : Jvm.MethodName) ({ cls := "Minestrata", name := "isFull", desc := "(I)Z" } : Jvm.MethodName)) ∈ AW := at5 (i := 140) rfl rfl
theorem q1171 : (Jvm.Cond.code ({ cls := "Minestrata", name := "isFull", desc := "(I)Z" } : Jvm.MethodName) prog_1_method_15_code (2 : Nat) (Option.some Jvm.ClassFile.FieldType.boolean)) ∈ AW := at5 (i := 141) rfl rfl
theorem q1172 : (Jvm.Cond.methodLink "MinestrataLaw" (185 : Nat) ({ cls := "MinestrataLaw", name := "isGood", desc := "(LMinestrata;I[J)I" } : Jvm.MethodName)) ∈ AW := at5 (i := 142) rfl rfl
theorem q1173 : (Jvm.Cond.static ({ cls := "MinestrataLaw", name := "isGood", desc := "(LMinestrata;I[J)I" } : Jvm.MethodName)) ∈ AW := at5 (i := 143) rfl rfl
theorem q1174 : (Jvm.Cond.codeWith ({ cls := "MinestrataLaw", name := "isGood", desc := "(LMinestrata;I[J)I" } : Jvm.MethodName) method_16_code (4 : Nat) (Option.some Jvm.ClassFile.FieldType.int) [((0 : Nat), (16 : Nat), (19 : Nat), (21 : Nat))]) ∈ AW := at5 (i := 144) rfl rfl
theorem q1175 : (Jvm.Cond.methodLink "MinestrataLaw" (66 : Nat) ({ cls := "Minestrata", name := "isGood", desc := "(I)Z" } : Jvm.MethodName)) ∈ AW := at5 (i := 145) rfl rfl
theorem q1176 : (Jvm.Cond.instanceMethod ({ cls := "Minestrata", name := "isGood", desc := "(I)Z" } : Jvm.MethodName)) ∈ AW := at5 (i := 146) rfl rfl
theorem q1177 : (Jvm.Cond.selects "Minestrata" ({ cls := "Minestrata", name := "isGood", desc := "(I)Z" } : Jvm.MethodName) ({ cls := "Minestrata", name := "isGood", desc := "(I)Z" } : Jvm.MethodName)) ∈ AW := at5 (i := 147) rfl rfl
theorem q1178 : (Jvm.Cond.code ({ cls := "Minestrata", name := "isGood", desc := "(I)Z" } : Jvm.MethodName) prog_1_method_16_code (2 : Nat) (Option.some Jvm.ClassFile.FieldType.boolean)) ∈ AW := at5 (i := 148) rfl rfl
theorem q1179 : (Jvm.Cond.methodLink "MinestrataLaw" (188 : Nat) ({ cls := "MinestrataLaw", name := "reading", desc := "(LMinestrata;I[J)I" } : Jvm.MethodName)) ∈ AW := at5 (i := 149) rfl rfl
theorem q1180 : (Jvm.Cond.static ({ cls := "MinestrataLaw", name := "reading", desc := "(LMinestrata;I[J)I" } : Jvm.MethodName)) ∈ AW := at5 (i := 150) rfl rfl
theorem q1181 : (Jvm.Cond.codeWith ({ cls := "MinestrataLaw", name := "reading", desc := "(LMinestrata;I[J)I" } : Jvm.MethodName) method_17_code (4 : Nat) (Option.some Jvm.ClassFile.FieldType.int) [((0 : Nat), (9 : Nat), (12 : Nat), (21 : Nat)), ((0 : Nat), (9 : Nat), (15 : Nat), (41 : Nat))]) ∈ AW := at5 (i := 151) rfl rfl
theorem q1182 : (Jvm.Cond.methodLink "MinestrataLaw" (69 : Nat) ({ cls := "Minestrata", name := "reading", desc := "(I)I" } : Jvm.MethodName)) ∈ AW := at5 (i := 152) rfl rfl
theorem q1183 : (Jvm.Cond.instanceMethod ({ cls := "Minestrata", name := "reading", desc := "(I)I" } : Jvm.MethodName)) ∈ AW := at5 (i := 153) rfl rfl
theorem q1184 : (Jvm.Cond.selects "Minestrata" ({ cls := "Minestrata", name := "reading", desc := "(I)I" } : Jvm.MethodName) ({ cls := "Minestrata", name := "reading", desc := "(I)I" } : Jvm.MethodName)) ∈ AW := at5 (i := 154) rfl rfl
theorem q1185 : (Jvm.Cond.code ({ cls := "Minestrata", name := "reading", desc := "(I)I" } : Jvm.MethodName) prog_1_method_17_code (2 : Nat) (Option.some Jvm.ClassFile.FieldType.int)) ∈ AW := at5 (i := 155) rfl rfl
theorem q1186 : (Jvm.Cond.methodLink "MinestrataLaw" (191 : Nat) ({ cls := "MinestrataLaw", name := "hasPower", desc := "(LMinestrata;I[J)I" } : Jvm.MethodName)) ∈ AW := at5 (i := 156) rfl rfl
theorem q1187 : (Jvm.Cond.static ({ cls := "MinestrataLaw", name := "hasPower", desc := "(LMinestrata;I[J)I" } : Jvm.MethodName)) ∈ AW := at5 (i := 157) rfl rfl
theorem q1188 : (Jvm.Cond.codeWith ({ cls := "MinestrataLaw", name := "hasPower", desc := "(LMinestrata;I[J)I" } : Jvm.MethodName) method_18_code (4 : Nat) (Option.some Jvm.ClassFile.FieldType.int) [((0 : Nat), (16 : Nat), (19 : Nat), (21 : Nat))]) ∈ AW := at5 (i := 158) rfl rfl
theorem q1189 : (Jvm.Cond.methodLink "MinestrataLaw" (72 : Nat) ({ cls := "Minestrata", name := "hasPower", desc := "(I)Z" } : Jvm.MethodName)) ∈ AW := at5 (i := 159) rfl rfl
theorem q1190 : (Jvm.Cond.instanceMethod ({ cls := "Minestrata", name := "hasPower", desc := "(I)Z" } : Jvm.MethodName)) ∈ AW := at5 (i := 160) rfl rfl
theorem q1191 : (Jvm.Cond.selects "Minestrata" ({ cls := "Minestrata", name := "hasPower", desc := "(I)Z" } : Jvm.MethodName) ({ cls := "Minestrata", name := "hasPower", desc := "(I)Z" } : Jvm.MethodName)) ∈ AW := at5 (i := 161) rfl rfl
theorem q1192 : (Jvm.Cond.code ({ cls := "Minestrata", name := "hasPower", desc := "(I)Z" } : Jvm.MethodName) prog_1_method_18_code (2 : Nat) (Option.some Jvm.ClassFile.FieldType.boolean)) ∈ AW := at5 (i := 162) rfl rfl
theorem q1193 : (Jvm.Cond.methodLink "MinestrataLaw" (194 : Nat) ({ cls := "MinestrataLaw", name := "come", desc := "(LMinestrata;I[J)I" } : Jvm.MethodName)) ∈ AW := at5 (i := 163) rfl rfl
theorem q1194 : (Jvm.Cond.static ({ cls := "MinestrataLaw", name := "come", desc := "(LMinestrata;I[J)I" } : Jvm.MethodName)) ∈ AW := at5 (i := 164) rfl rfl
theorem q1195 : (Jvm.Cond.codeWith ({ cls := "MinestrataLaw", name := "come", desc := "(LMinestrata;I[J)I" } : Jvm.MethodName) method_19_code (4 : Nat) (Option.some Jvm.ClassFile.FieldType.int) [((0 : Nat), (9 : Nat), (12 : Nat), (21 : Nat)), ((0 : Nat), (9 : Nat), (15 : Nat), (47 : Nat)), ((0 : Nat), (9 : Nat), (18 : Nat), (15 : Nat))]) ∈ AW := at5 (i := 165) rfl rfl
theorem q1196 : (Jvm.Cond.methodLink "MinestrataLaw" (75 : Nat) ({ cls := "Minestrata", name := "come", desc := "(I)I" } : Jvm.MethodName)) ∈ AW := at5 (i := 166) rfl rfl
theorem q1197 : (Jvm.Cond.instanceMethod ({ cls := "Minestrata", name := "come", desc := "(I)I" } : Jvm.MethodName)) ∈ AW := at5 (i := 167) rfl rfl
theorem q1198 : (Jvm.Cond.selects "Minestrata" ({ cls := "Minestrata", name := "come", desc := "(I)I" } : Jvm.MethodName) ({ cls := "Minestrata", name := "come", desc := "(I)I" } : Jvm.MethodName)) ∈ AW := at5 (i := 168) rfl rfl
theorem q1199 : (Jvm.Cond.code ({ cls := "Minestrata", name := "come", desc := "(I)I" } : Jvm.MethodName) prog_1_method_19_code (2 : Nat) (Option.some Jvm.ClassFile.FieldType.int)) ∈ AW := at5 (i := 169) rfl rfl
theorem q1200 : (Jvm.Cond.methodLink "MinestrataLaw" (197 : Nat) ({ cls := "MinestrataLaw", name := "walk", desc := "(LMinestrata;II[J)I" } : Jvm.MethodName)) ∈ AW := at5 (i := 170) rfl rfl
theorem q1201 : (Jvm.Cond.static ({ cls := "MinestrataLaw", name := "walk", desc := "(LMinestrata;II[J)I" } : Jvm.MethodName)) ∈ AW := at5 (i := 171) rfl rfl
theorem q1202 : (Jvm.Cond.codeWith ({ cls := "MinestrataLaw", name := "walk", desc := "(LMinestrata;II[J)I" } : Jvm.MethodName) method_20_code (5 : Nat) (Option.some Jvm.ClassFile.FieldType.int) [((0 : Nat), (17 : Nat), (20 : Nat), (21 : Nat)), ((0 : Nat), (17 : Nat), (24 : Nat), (47 : Nat))]) ∈ AW := at5 (i := 172) rfl rfl
theorem q1203 : (Jvm.Cond.methodLink "MinestrataLaw" (78 : Nat) ({ cls := "Minestrata", name := "walk", desc := "(II)Z" } : Jvm.MethodName)) ∈ AW := at5 (i := 173) rfl rfl
theorem q1204 : (Jvm.Cond.instanceMethod ({ cls := "Minestrata", name := "walk", desc := "(II)Z" } : Jvm.MethodName)) ∈ AW := at5 (i := 174) rfl rfl
theorem q1205 : (Jvm.Cond.selects "Minestrata" ({ cls := "Minestrata", name := "walk", desc := "(II)Z" } : Jvm.MethodName) ({ cls := "Minestrata", name := "walk", desc := "(II)Z" } : Jvm.MethodName)) ∈ AW := at5 (i := 175) rfl rfl
theorem q1206 : (Jvm.Cond.code ({ cls := "Minestrata", name := "walk", desc := "(II)Z" } : Jvm.MethodName) prog_1_method_20_code (4 : Nat) (Option.some Jvm.ClassFile.FieldType.boolean)) ∈ AW := at5 (i := 176) rfl rfl
theorem q1207 : (Jvm.Cond.methodLink "Minestrata" (212 : Nat) ({ cls := "Minestrata", name := "hasPerson", desc := "(I)Z" } : Jvm.MethodName)) ∈ AW := at5 (i := 177) rfl rfl
theorem q1209 : (Jvm.Cond.instanceMethod ({ cls := "Minestrata", name := "hasPerson", desc := "(I)Z" } : Jvm.MethodName)) ∈ AW := at5 (i := 179) rfl rfl
theorem q1210 : (Jvm.Cond.code ({ cls := "Minestrata", name := "hasPerson", desc := "(I)Z" } : Jvm.MethodName) prog_1_method_39_code (2 : Nat) (Option.some Jvm.ClassFile.FieldType.boolean)) ∈ AW := at5 (i := 180) rfl rfl
theorem q1212 : (Jvm.Cond.methodLink "MinestrataLaw" (200 : Nat) ({ cls := "MinestrataLaw", name := "whereIs", desc := "(LMinestrata;I[J)I" } : Jvm.MethodName)) ∈ AW := at5 (i := 182) rfl rfl
theorem q1213 : (Jvm.Cond.static ({ cls := "MinestrataLaw", name := "whereIs", desc := "(LMinestrata;I[J)I" } : Jvm.MethodName)) ∈ AW := at5 (i := 183) rfl rfl
theorem q1214 : (Jvm.Cond.codeWith ({ cls := "MinestrataLaw", name := "whereIs", desc := "(LMinestrata;I[J)I" } : Jvm.MethodName) method_21_code (4 : Nat) (Option.some Jvm.ClassFile.FieldType.int) [((0 : Nat), (9 : Nat), (12 : Nat), (21 : Nat))]) ∈ AW := at5 (i := 184) rfl rfl
theorem q1215 : (Jvm.Cond.methodLink "MinestrataLaw" (81 : Nat) ({ cls := "Minestrata", name := "whereIs", desc := "(I)I" } : Jvm.MethodName)) ∈ AW := at5 (i := 185) rfl rfl
theorem q1216 : (Jvm.Cond.instanceMethod ({ cls := "Minestrata", name := "whereIs", desc := "(I)I" } : Jvm.MethodName)) ∈ AW := at5 (i := 186) rfl rfl
theorem q1217 : (Jvm.Cond.selects "Minestrata" ({ cls := "Minestrata", name := "whereIs", desc := "(I)I" } : Jvm.MethodName) ({ cls := "Minestrata", name := "whereIs", desc := "(I)I" } : Jvm.MethodName)) ∈ AW := at5 (i := 187) rfl rfl
theorem q1218 : (Jvm.Cond.code ({ cls := "Minestrata", name := "whereIs", desc := "(I)I" } : Jvm.MethodName) prog_1_method_21_code (2 : Nat) (Option.some Jvm.ClassFile.FieldType.int)) ∈ AW := at5 (i := 188) rfl rfl
theorem q1219 : (Jvm.Cond.methodLink "MinestrataLaw" (203 : Nat) ({ cls := "MinestrataLaw", name := "isSafe", desc := "(LMinestrata;I[J)I" } : Jvm.MethodName)) ∈ AW := at5 (i := 189) rfl rfl
theorem q1220 : (Jvm.Cond.static ({ cls := "MinestrataLaw", name := "isSafe", desc := "(LMinestrata;I[J)I" } : Jvm.MethodName)) ∈ AW := at5 (i := 190) rfl rfl
theorem q1221 : (Jvm.Cond.codeWith ({ cls := "MinestrataLaw", name := "isSafe", desc := "(LMinestrata;I[J)I" } : Jvm.MethodName) method_22_code (4 : Nat) (Option.some Jvm.ClassFile.FieldType.int) [((0 : Nat), (16 : Nat), (19 : Nat), (21 : Nat))]) ∈ AW := at5 (i := 191) rfl rfl
theorem q1222 : (Jvm.Cond.methodLink "MinestrataLaw" (84 : Nat) ({ cls := "Minestrata", name := "isSafe", desc := "(I)Z" } : Jvm.MethodName)) ∈ AW := at5 (i := 192) rfl rfl
theorem q1223 : (Jvm.Cond.instanceMethod ({ cls := "Minestrata", name := "isSafe", desc := "(I)Z" } : Jvm.MethodName)) ∈ AW := at5 (i := 193) rfl rfl
theorem q1224 : (Jvm.Cond.selects "Minestrata" ({ cls := "Minestrata", name := "isSafe", desc := "(I)Z" } : Jvm.MethodName) ({ cls := "Minestrata", name := "isSafe", desc := "(I)Z" } : Jvm.MethodName)) ∈ AW := at5 (i := 194) rfl rfl
theorem q1225 : (Jvm.Cond.code ({ cls := "Minestrata", name := "isSafe", desc := "(I)Z" } : Jvm.MethodName) prog_1_method_22_code (2 : Nat) (Option.some Jvm.ClassFile.FieldType.boolean)) ∈ AW := at5 (i := 195) rfl rfl
theorem q1226 : (Jvm.Cond.methodLink "MinestrataLaw" (206 : Nat) ({ cls := "MinestrataLaw", name := "isSafeAnew", desc := "(LMinestrata;I[J)I" } : Jvm.MethodName)) ∈ AW := at5 (i := 196) rfl rfl
theorem q1227 : (Jvm.Cond.static ({ cls := "MinestrataLaw", name := "isSafeAnew", desc := "(LMinestrata;I[J)I" } : Jvm.MethodName)) ∈ AW := at5 (i := 197) rfl rfl
theorem q1228 : (Jvm.Cond.codeWith ({ cls := "MinestrataLaw", name := "isSafeAnew", desc := "(LMinestrata;I[J)I" } : Jvm.MethodName) method_23_code (4 : Nat) (Option.some Jvm.ClassFile.FieldType.int) [((0 : Nat), (16 : Nat), (19 : Nat), (21 : Nat))]) ∈ AW := at5 (i := 198) rfl rfl
theorem q1229 : (Jvm.Cond.methodLink "MinestrataLaw" (87 : Nat) ({ cls := "Minestrata", name := "isSafeAnew", desc := "(I)Z" } : Jvm.MethodName)) ∈ AW := at5 (i := 199) rfl rfl
theorem q1230 : (Jvm.Cond.instanceMethod ({ cls := "Minestrata", name := "isSafeAnew", desc := "(I)Z" } : Jvm.MethodName)) ∈ AW := at5 (i := 200) rfl rfl
theorem q1231 : (Jvm.Cond.selects "Minestrata" ({ cls := "Minestrata", name := "isSafeAnew", desc := "(I)Z" } : Jvm.MethodName) ({ cls := "Minestrata", name := "isSafeAnew", desc := "(I)Z" } : Jvm.MethodName)) ∈ AW := at5 (i := 201) rfl rfl
theorem q1232 : (Jvm.Cond.code ({ cls := "Minestrata", name := "isSafeAnew", desc := "(I)Z" } : Jvm.MethodName) prog_1_method_23_code (2 : Nat) (Option.some Jvm.ClassFile.FieldType.boolean)) ∈ AW := at5 (i := 202) rfl rfl
theorem q1233 : (Jvm.Cond.methodLink "MinestrataLaw" (209 : Nat) ({ cls := "MinestrataLaw", name := "ways", desc := "(LMinestrata;I[J)I" } : Jvm.MethodName)) ∈ AW := at5 (i := 203) rfl rfl
theorem q1234 : (Jvm.Cond.static ({ cls := "MinestrataLaw", name := "ways", desc := "(LMinestrata;I[J)I" } : Jvm.MethodName)) ∈ AW := at5 (i := 204) rfl rfl
theorem q1235 : (Jvm.Cond.codeWith ({ cls := "MinestrataLaw", name := "ways", desc := "(LMinestrata;I[J)I" } : Jvm.MethodName) method_24_code (4 : Nat) (Option.some Jvm.ClassFile.FieldType.int) [((0 : Nat), (9 : Nat), (12 : Nat), (21 : Nat))]) ∈ AW := at5 (i := 205) rfl rfl
theorem q1236 : (Jvm.Cond.methodLink "MinestrataLaw" (90 : Nat) ({ cls := "Minestrata", name := "ways", desc := "(I)I" } : Jvm.MethodName)) ∈ AW := at5 (i := 206) rfl rfl
theorem q1237 : (Jvm.Cond.instanceMethod ({ cls := "Minestrata", name := "ways", desc := "(I)I" } : Jvm.MethodName)) ∈ AW := at5 (i := 207) rfl rfl
theorem q1238 : (Jvm.Cond.selects "Minestrata" ({ cls := "Minestrata", name := "ways", desc := "(I)I" } : Jvm.MethodName) ({ cls := "Minestrata", name := "ways", desc := "(I)I" } : Jvm.MethodName)) ∈ AW := at5 (i := 208) rfl rfl
theorem q1239 : (Jvm.Cond.code ({ cls := "Minestrata", name := "ways", desc := "(I)I" } : Jvm.MethodName) prog_1_method_24_code (2 : Nat) (Option.some Jvm.ClassFile.FieldType.int)) ∈ AW := at5 (i := 209) rfl rfl
theorem q1240 : (Jvm.Cond.methodLink "MinestrataLaw" (212 : Nat) ({ cls := "MinestrataLaw", name := "tons", desc := "(LMinestrata;I[J)I" } : Jvm.MethodName)) ∈ AW := at5 (i := 210) rfl rfl
theorem q1241 : (Jvm.Cond.static ({ cls := "MinestrataLaw", name := "tons", desc := "(LMinestrata;I[J)I" } : Jvm.MethodName)) ∈ AW := at5 (i := 211) rfl rfl
theorem q1242 : (Jvm.Cond.codeWith ({ cls := "MinestrataLaw", name := "tons", desc := "(LMinestrata;I[J)I" } : Jvm.MethodName) method_25_code (4 : Nat) (Option.some Jvm.ClassFile.FieldType.int) [((0 : Nat), (9 : Nat), (12 : Nat), (21 : Nat))]) ∈ AW := at5 (i := 212) rfl rfl
theorem q1243 : (Jvm.Cond.methodLink "MinestrataLaw" (93 : Nat) ({ cls := "Minestrata", name := "tons", desc := "(I)I" } : Jvm.MethodName)) ∈ AW := at5 (i := 213) rfl rfl
theorem q1244 : (Jvm.Cond.instanceMethod ({ cls := "Minestrata", name := "tons", desc := "(I)I" } : Jvm.MethodName)) ∈ AW := at5 (i := 214) rfl rfl
theorem q1245 : (Jvm.Cond.selects "Minestrata" ({ cls := "Minestrata", name := "tons", desc := "(I)I" } : Jvm.MethodName) ({ cls := "Minestrata", name := "tons", desc := "(I)I" } : Jvm.MethodName)) ∈ AW := at5 (i := 215) rfl rfl
theorem q1246 : (Jvm.Cond.code ({ cls := "Minestrata", name := "tons", desc := "(I)I" } : Jvm.MethodName) prog_1_method_25_code (2 : Nat) (Option.some Jvm.ClassFile.FieldType.int)) ∈ AW := at5 (i := 216) rfl rfl
theorem q1247 : (Jvm.Cond.methodLink "MinestrataLaw" (215 : Nat) ({ cls := "MinestrataLaw", name := "load", desc := "(LMinestrata;I[J)I" } : Jvm.MethodName)) ∈ AW := at5 (i := 217) rfl rfl
theorem q1248 : (Jvm.Cond.static ({ cls := "MinestrataLaw", name := "load", desc := "(LMinestrata;I[J)I" } : Jvm.MethodName)) ∈ AW := at5 (i := 218) rfl rfl
theorem q1249 : (Jvm.Cond.codeWith ({ cls := "MinestrataLaw", name := "load", desc := "(LMinestrata;I[J)I" } : Jvm.MethodName) method_26_code (4 : Nat) (Option.some Jvm.ClassFile.FieldType.int) [((0 : Nat), (9 : Nat), (12 : Nat), (21 : Nat))]) ∈ AW := at5 (i := 219) rfl rfl
theorem q1250 : (Jvm.Cond.methodLink "MinestrataLaw" (96 : Nat) ({ cls := "Minestrata", name := "load", desc := "(I)I" } : Jvm.MethodName)) ∈ AW := at5 (i := 220) rfl rfl
theorem q1251 : (Jvm.Cond.instanceMethod ({ cls := "Minestrata", name := "load", desc := "(I)I" } : Jvm.MethodName)) ∈ AW := at5 (i := 221) rfl rfl
theorem q1252 : (Jvm.Cond.selects "Minestrata" ({ cls := "Minestrata", name := "load", desc := "(I)I" } : Jvm.MethodName) ({ cls := "Minestrata", name := "load", desc := "(I)I" } : Jvm.MethodName)) ∈ AW := at5 (i := 222) rfl rfl
theorem q1253 : (Jvm.Cond.code ({ cls := "Minestrata", name := "load", desc := "(I)I" } : Jvm.MethodName) prog_1_method_26_code (2 : Nat) (Option.some Jvm.ClassFile.FieldType.int)) ∈ AW := at5 (i := 223) rfl rfl
theorem q1254 : (Jvm.Cond.methodLink "MinestrataLaw" (218 : Nat) ({ cls := "MinestrataLaw", name := "stateOf", desc := "(LMinestrata;I[J)I" } : Jvm.MethodName)) ∈ AW := at5 (i := 224) rfl rfl
theorem q1255 : (Jvm.Cond.static ({ cls := "MinestrataLaw", name := "stateOf", desc := "(LMinestrata;I[J)I" } : Jvm.MethodName)) ∈ AW := at5 (i := 225) rfl rfl
theorem q1256 : (Jvm.Cond.codeWith ({ cls := "MinestrataLaw", name := "stateOf", desc := "(LMinestrata;I[J)I" } : Jvm.MethodName) method_27_code (4 : Nat) (Option.some Jvm.ClassFile.FieldType.int) [((0 : Nat), (9 : Nat), (12 : Nat), (21 : Nat))]) ∈ AW := at5 (i := 226) rfl rfl
theorem q1257 : (Jvm.Cond.methodLink "MinestrataLaw" (99 : Nat) ({ cls := "Minestrata", name := "stateOf", desc := "(I)C" } : Jvm.MethodName)) ∈ AW := at5 (i := 227) rfl rfl
theorem q1258 : (Jvm.Cond.instanceMethod ({ cls := "Minestrata", name := "stateOf", desc := "(I)C" } : Jvm.MethodName)) ∈ AW := at5 (i := 228) rfl rfl
theorem q1259 : (Jvm.Cond.selects "Minestrata" ({ cls := "Minestrata", name := "stateOf", desc := "(I)C" } : Jvm.MethodName) ({ cls := "Minestrata", name := "stateOf", desc := "(I)C" } : Jvm.MethodName)) ∈ AW := at5 (i := 229) rfl rfl
theorem q1260 : (Jvm.Cond.code ({ cls := "Minestrata", name := "stateOf", desc := "(I)C" } : Jvm.MethodName) prog_1_method_27_code (2 : Nat) (Option.some Jvm.ClassFile.FieldType.char)) ∈ AW := at5 (i := 230) rfl rfl
theorem q1261 : (Jvm.Cond.methodLink "MinestrataLaw" (221 : Nat) ({ cls := "MinestrataLaw", name := "pile", desc := "(LMinestrata;I[J)I" } : Jvm.MethodName)) ∈ AW := at5 (i := 231) rfl rfl
theorem q1262 : (Jvm.Cond.static ({ cls := "MinestrataLaw", name := "pile", desc := "(LMinestrata;I[J)I" } : Jvm.MethodName)) ∈ AW := at5 (i := 232) rfl rfl
theorem q1263 : (Jvm.Cond.codeWith ({ cls := "MinestrataLaw", name := "pile", desc := "(LMinestrata;I[J)I" } : Jvm.MethodName) method_28_code (4 : Nat) (Option.some Jvm.ClassFile.FieldType.int) [((0 : Nat), (9 : Nat), (12 : Nat), (21 : Nat))]) ∈ AW := at5 (i := 233) rfl rfl
theorem q1264 : (Jvm.Cond.methodLink "MinestrataLaw" (103 : Nat) ({ cls := "Minestrata", name := "pile", desc := "(I)I" } : Jvm.MethodName)) ∈ AW := at5 (i := 234) rfl rfl
theorem q1265 : (Jvm.Cond.instanceMethod ({ cls := "Minestrata", name := "pile", desc := "(I)I" } : Jvm.MethodName)) ∈ AW := at5 (i := 235) rfl rfl
theorem q1266 : (Jvm.Cond.selects "Minestrata" ({ cls := "Minestrata", name := "pile", desc := "(I)I" } : Jvm.MethodName) ({ cls := "Minestrata", name := "pile", desc := "(I)I" } : Jvm.MethodName)) ∈ AW := at5 (i := 236) rfl rfl
theorem q1267 : (Jvm.Cond.code ({ cls := "Minestrata", name := "pile", desc := "(I)I" } : Jvm.MethodName) prog_1_method_28_code (2 : Nat) (Option.some Jvm.ClassFile.FieldType.int)) ∈ AW := at5 (i := 237) rfl rfl
theorem q1268 : (Jvm.Cond.methodLink "MinestrataLaw" (224 : Nat) ({ cls := "MinestrataLaw", name := "deliver", desc := "(LMinestrata;III[J)I" } : Jvm.MethodName)) ∈ AW := at5 (i := 238) rfl rfl
theorem q1269 : (Jvm.Cond.static ({ cls := "MinestrataLaw", name := "deliver", desc := "(LMinestrata;III[J)I" } : Jvm.MethodName)) ∈ AW := at5 (i := 239) rfl rfl
theorem q1270 : (Jvm.Cond.codeWith ({ cls := "MinestrataLaw", name := "deliver", desc := "(LMinestrata;III[J)I" } : Jvm.MethodName) method_29_code (6 : Nat) (Option.some Jvm.ClassFile.FieldType.int) [((0 : Nat), (12 : Nat), (15 : Nat), (13 : Nat)), ((0 : Nat), (12 : Nat), (19 : Nat), (47 : Nat))]) ∈ AW := at6 (i := 0) rfl rfl
theorem q1271 : (Jvm.Cond.methodLink "MinestrataLaw" (106 : Nat) ({ cls := "Minestrata", name := "deliver", desc := "(III)I" } : Jvm.MethodName)) ∈ AW := at6 (i := 1) rfl rfl
theorem q1272 : (Jvm.Cond.instanceMethod ({ cls := "Minestrata", name := "deliver", desc := "(III)I" } : Jvm.MethodName)) ∈ AW := at6 (i := 2) rfl rfl
theorem q1273 : (Jvm.Cond.selects "Minestrata" ({ cls := "Minestrata", name := "deliver", desc := "(III)I" } : Jvm.MethodName) ({ cls := "Minestrata", name := "deliver", desc := "(III)I" } : Jvm.MethodName)) ∈ AW := at6 (i := 3) rfl rfl
theorem q1274 : (Jvm.Cond.code ({ cls := "Minestrata", name := "deliver", desc := "(III)I" } : Jvm.MethodName) prog_1_method_29_code (6 : Nat) (Option.some Jvm.ClassFile.FieldType.int)) ∈ AW := at6 (i := 4) rfl rfl
theorem q1275 : (Jvm.Cond.methodLink "Minestrata" (245 : Nat) ({ cls := "Minestrata$Stopes", name := "tonsOnPiles", desc := "()I" } : Jvm.MethodName)) ∈ AW := at6 (i := 5) rfl rfl
theorem q1276 : (Jvm.Cond.instanceMethod ({ cls := "Minestrata$Stopes", name := "tonsOnPiles", desc := "()I" } : Jvm.MethodName)) ∈ AW := at6 (i := 6) rfl rfl
theorem q1277 : (Jvm.Cond.selects "Minestrata$Stopes" ({ cls := "Minestrata$Stopes", name := "tonsOnPiles", desc := "()I" } : Jvm.MethodName) ({ cls := "Minestrata$Stopes", name := "tonsOnPiles", desc := "()I" } : Jvm.MethodName)) ∈ AW := at6 (i := 7) rfl rfl
theorem q1278 : (Jvm.Cond.code ({ cls := "Minestrata$Stopes", name := "tonsOnPiles", desc := "()I" } : Jvm.MethodName) prog_12_method_7_code (3 : Nat) (Option.some Jvm.ClassFile.FieldType.int)) ∈ AW := at6 (i := 8) rfl rfl
theorem q1342 : (Jvm.Cond.methodLink "MinestrataLaw" (228 : Nat) ({ cls := "MinestrataLaw", name := "delivered", desc := "(LMinestrata;I[J)I" } : Jvm.MethodName)) ∈ AW := at6 (i := 72) rfl rfl
theorem q1343 : (Jvm.Cond.static ({ cls := "MinestrataLaw", name := "delivered", desc := "(LMinestrata;I[J)I" } : Jvm.MethodName)) ∈ AW := at6 (i := 73) rfl rfl
theorem q1344 : (Jvm.Cond.codeWith ({ cls := "MinestrataLaw", name := "delivered", desc := "(LMinestrata;I[J)I" } : Jvm.MethodName) method_30_code (4 : Nat) (Option.some Jvm.ClassFile.FieldType.int) [((0 : Nat), (9 : Nat), (12 : Nat), (21 : Nat))]) ∈ AW := at6 (i := 74) rfl rfl
theorem q1345 : (Jvm.Cond.methodLink "MinestrataLaw" (110 : Nat) ({ cls := "Minestrata", name := "delivered", desc := "(I)I" } : Jvm.MethodName)) ∈ AW := at6 (i := 75) rfl rfl
theorem q1346 : (Jvm.Cond.instanceMethod ({ cls := "Minestrata", name := "delivered", desc := "(I)I" } : Jvm.MethodName)) ∈ AW := at6 (i := 76) rfl rfl
theorem q1347 : (Jvm.Cond.selects "Minestrata" ({ cls := "Minestrata", name := "delivered", desc := "(I)I" } : Jvm.MethodName) ({ cls := "Minestrata", name := "delivered", desc := "(I)I" } : Jvm.MethodName)) ∈ AW := at6 (i := 77) rfl rfl
theorem q1348 : (Jvm.Cond.code ({ cls := "Minestrata", name := "delivered", desc := "(I)I" } : Jvm.MethodName) prog_1_method_30_code (2 : Nat) (Option.some Jvm.ClassFile.FieldType.int)) ∈ AW := at6 (i := 78) rfl rfl
theorem q1349 : (Jvm.Cond.methodLink "MinestrataLaw" (231 : Nat) ({ cls := "MinestrataLaw", name := "isBlocked", desc := "(LMinestrata;I[J)I" } : Jvm.MethodName)) ∈ AW := at6 (i := 79) rfl rfl
theorem q1350 : (Jvm.Cond.static ({ cls := "MinestrataLaw", name := "isBlocked", desc := "(LMinestrata;I[J)I" } : Jvm.MethodName)) ∈ AW := at6 (i := 80) rfl rfl
theorem q1351 : (Jvm.Cond.codeWith ({ cls := "MinestrataLaw", name := "isBlocked", desc := "(LMinestrata;I[J)I" } : Jvm.MethodName) method_31_code (4 : Nat) (Option.some Jvm.ClassFile.FieldType.int) [((0 : Nat), (16 : Nat), (19 : Nat), (21 : Nat))]) ∈ AW := at6 (i := 81) rfl rfl
theorem q1352 : (Jvm.Cond.methodLink "MinestrataLaw" (113 : Nat) ({ cls := "Minestrata", name := "isBlocked", desc := "(I)Z" } : Jvm.MethodName)) ∈ AW := at6 (i := 82) rfl rfl
theorem q1353 : (Jvm.Cond.instanceMethod ({ cls := "Minestrata", name := "isBlocked", desc := "(I)Z" } : Jvm.MethodName)) ∈ AW := at6 (i := 83) rfl rfl
theorem q1354 : (Jvm.Cond.selects "Minestrata" ({ cls := "Minestrata", name := "isBlocked", desc := "(I)Z" } : Jvm.MethodName) ({ cls := "Minestrata", name := "isBlocked", desc := "(I)Z" } : Jvm.MethodName)) ∈ AW := at6 (i := 84) rfl rfl
theorem q1355 : (Jvm.Cond.code ({ cls := "Minestrata", name := "isBlocked", desc := "(I)Z" } : Jvm.MethodName) prog_1_method_31_code (2 : Nat) (Option.some Jvm.ClassFile.FieldType.boolean)) ∈ AW := at6 (i := 85) rfl rfl
theorem q1356 : (Jvm.Cond.methodLink "MinestrataLaw" (247 : Nat) ({ cls := "MinestrataLaw", name := "goodShare", desc := "(LMinestrata;[D)I" } : Jvm.MethodName)) ∈ AW := at6 (i := 86) rfl rfl
theorem q1357 : (Jvm.Cond.static ({ cls := "MinestrataLaw", name := "goodShare", desc := "(LMinestrata;[D)I" } : Jvm.MethodName)) ∈ AW := at6 (i := 87) rfl rfl
theorem q1358 : (Jvm.Cond.codeWith ({ cls := "MinestrataLaw", name := "goodShare", desc := "(LMinestrata;[D)I" } : Jvm.MethodName) method_32_code (3 : Nat) (Option.some Jvm.ClassFile.FieldType.int) [((0 : Nat), (8 : Nat), (11 : Nat), (120 : Nat))]) ∈ AW := at6 (i := 88) rfl rfl
theorem q1359 : (Jvm.Cond.classLink "MinestrataLaw" (120 : Nat) "java/lang/ArithmeticException") ∈ AW := at6 (i := 89) rfl rfl
theorem q1373 : (Jvm.Cond.methodLink "MinestrataLaw" (116 : Nat) ({ cls := "Minestrata", name := "goodShare", desc := "()F" } : Jvm.MethodName)) ∈ AW := at6 (i := 103) rfl rfl
theorem q1374 : (Jvm.Cond.instanceMethod ({ cls := "Minestrata", name := "goodShare", desc := "()F" } : Jvm.MethodName)) ∈ AW := at6 (i := 104) rfl rfl
theorem q1375 : (Jvm.Cond.selects "Minestrata" ({ cls := "Minestrata", name := "goodShare", desc := "()F" } : Jvm.MethodName) ({ cls := "Minestrata", name := "goodShare", desc := "()F" } : Jvm.MethodName)) ∈ AW := at6 (i := 105) rfl rfl
theorem q1376 : (Jvm.Cond.code ({ cls := "Minestrata", name := "goodShare", desc := "()F" } : Jvm.MethodName) prog_1_method_35_code (3 : Nat) (Option.some Jvm.ClassFile.FieldType.float)) ∈ AW := at6 (i := 106) rfl rfl
theorem q1377 : (Jvm.Cond.classLink "Minestrata" (263 : Nat) "java/lang/ArithmeticException") ∈ AW := at6 (i := 107) rfl rfl
theorem q1382 : (Jvm.Cond.methodLink "MinestrataLaw" (251 : Nat) ({ cls := "MinestrataLaw", name := "meanLoad", desc := "(LMinestrata;[D)I" } : Jvm.MethodName)) ∈ AW := at6 (i := 112) rfl rfl
theorem q1383 : (Jvm.Cond.static ({ cls := "MinestrataLaw", name := "meanLoad", desc := "(LMinestrata;[D)I" } : Jvm.MethodName)) ∈ AW := at6 (i := 113) rfl rfl
theorem q1384 : (Jvm.Cond.codeWith ({ cls := "MinestrataLaw", name := "meanLoad", desc := "(LMinestrata;[D)I" } : Jvm.MethodName) method_33_code (3 : Nat) (Option.some Jvm.ClassFile.FieldType.int) [((0 : Nat), (7 : Nat), (10 : Nat), (120 : Nat))]) ∈ AW := at6 (i := 114) rfl rfl
theorem q1385 : (Jvm.Cond.methodLink "MinestrataLaw" (122 : Nat) ({ cls := "Minestrata", name := "meanLoad", desc := "()D" } : Jvm.MethodName)) ∈ AW := at6 (i := 115) rfl rfl
theorem q1386 : (Jvm.Cond.instanceMethod ({ cls := "Minestrata", name := "meanLoad", desc := "()D" } : Jvm.MethodName)) ∈ AW := at6 (i := 116) rfl rfl
theorem q1387 : (Jvm.Cond.selects "Minestrata" ({ cls := "Minestrata", name := "meanLoad", desc := "()D" } : Jvm.MethodName) ({ cls := "Minestrata", name := "meanLoad", desc := "()D" } : Jvm.MethodName)) ∈ AW := at6 (i := 117) rfl rfl
theorem q1388 : (Jvm.Cond.code ({ cls := "Minestrata", name := "meanLoad", desc := "()D" } : Jvm.MethodName) prog_1_method_36_code (4 : Nat) (Option.some Jvm.ClassFile.FieldType.double)) ∈ AW := at6 (i := 118) rfl rfl
theorem q1390 : (Jvm.Cond.classLink "MinestrataLaw" (127 : Nat) "MinestrataModel") ∈ AW := at6 (i := 120) rfl rfl
theorem q1391 : (Jvm.Cond.instantiable "MinestrataModel" (20 : Nat)) ∈ AW := at6 (i := 121) rfl rfl
theorem q1392 : (Jvm.Cond.methodLink "MinestrataLaw" (129 : Nat) ({ cls := "MinestrataModel", name := "<init>", desc := "()V" } : Jvm.MethodName)) ∈ AW := at6 (i := 122) rfl rfl
theorem q1393 : (Jvm.Cond.instanceMethod ({ cls := "MinestrataModel", name := "<init>", desc := "()V" } : Jvm.MethodName)) ∈ AW := at6 (i := 123) rfl rfl
theorem q1394 : (Jvm.Cond.code ({ cls := "MinestrataModel", name := "<init>", desc := "()V" } : Jvm.MethodName) prog_14_method_1_code (1 : Nat) (Option.none : Option Jvm.ClassFile.FieldType)) ∈ AW := at6 (i := 124) rfl rfl
theorem q1395 : (Jvm.Cond.methodLink "MinestrataModel" (1 : Nat) ({ cls := "java/lang/Object", name := "<init>", desc := "()V" } : Jvm.MethodName)) ∈ AW := at6 (i := 125) rfl rfl
theorem q1396 : (Jvm.Cond.classLink "MinestrataModel" (36 : Nat) "java/util/ArrayList") ∈ AW := at6 (i := 126) rfl rfl
theorem q1397 : (Jvm.Cond.instantiable "java/util/ArrayList" (3 : Nat)) ∈ AW := at6 (i := 127) rfl rfl
theorem q1398 : (Jvm.Cond.methodLink "MinestrataModel" (38 : Nat) ({ cls := "java/util/ArrayList", name := "<init>", desc := "()V" } : Jvm.MethodName)) ∈ AW := at6 (i := 128) rfl rfl
theorem q1399 : (Jvm.Cond.instanceMethod ({ cls := "java/util/ArrayList", name := "<init>", desc := "()V" } : Jvm.MethodName)) ∈ AW := at6 (i := 129) rfl rfl
theorem q1400 : (Jvm.Cond.code ({ cls := "java/util/ArrayList", name := "<init>", desc := "()V" } : Jvm.MethodName) prog_42_method_2_code (1 : Nat) (Option.none : Option Jvm.ClassFile.FieldType)) ∈ AW := at6 (i := 130) rfl rfl
theorem q1401 : (Jvm.Cond.methodLink "java/util/ArrayList" (1 : Nat) ({ cls := "java/util/AbstractList", name := "<init>", desc := "()V" } : Jvm.MethodName)) ∈ AW := at6 (i := 131) rfl rfl
theorem q1402 : (Jvm.Cond.instanceMethod ({ cls := "java/util/AbstractList", name := "<init>", desc := "()V" } : Jvm.MethodName)) ∈ AW := at6 (i := 132) rfl rfl
theorem q1403 : (Jvm.Cond.code ({ cls := "java/util/AbstractList", name := "<init>", desc := "()V" } : Jvm.MethodName) prog_41_method_1_code (1 : Nat) (Option.none : Option Jvm.ClassFile.FieldType)) ∈ AW := at6 (i := 133) rfl rfl
theorem q1404 : (Jvm.Cond.methodLink "java/util/AbstractList" (1 : Nat) ({ cls := "java/util/AbstractCollection", name := "<init>", desc := "()V" } : Jvm.MethodName)) ∈ AW := at6 (i := 134) rfl rfl
theorem q1405 : (Jvm.Cond.instanceMethod ({ cls := "java/util/AbstractCollection", name := "<init>", desc := "()V" } : Jvm.MethodName)) ∈ AW := at6 (i := 135) rfl rfl
theorem q1406 : (Jvm.Cond.code ({ cls := "java/util/AbstractCollection", name := "<init>", desc := "()V" } : Jvm.MethodName) prog_40_method_1_code (1 : Nat) (Option.none : Option Jvm.ClassFile.FieldType)) ∈ AW := at6 (i := 136) rfl rfl
theorem q1407 : (Jvm.Cond.methodLink "java/util/AbstractCollection" (1 : Nat) ({ cls := "java/lang/Object", name := "<init>", desc := "()V" } : Jvm.MethodName)) ∈ AW := at6 (i := 137) rfl rfl
theorem q1408 : (Jvm.Cond.fieldLink "java/util/ArrayList" (39 : Nat) "java/util/ArrayList" "DEFAULTCAPACITY_EMPTY_ELEMENTDATA" "[Ljava/lang/Object;") ∈ AW := at6 (i := 138) rfl rfl
theorem q1410 : (Jvm.Cond.fieldLink "java/util/ArrayList" (9 : Nat) "java/util/ArrayList" "elementData" "[Ljava/lang/Object;") ∈ AW := at6 (i := 140) rfl rfl
theorem q1413 : (Jvm.Cond.fieldLink "java/util/ArrayList" (48 : Nat) "java/util/ArrayList" "size" "I") ∈ AW := at6 (i := 143) rfl rfl
theorem q1414 : (Jvm.Cond.fieldLink "java/util/AbstractList" (7 : Nat) "java/util/AbstractList" "modCount" "I") ∈ AW := at6 (i := 144) rfl rfl
theorem q1415 : (Jvm.Cond.fieldLink "java/util/ArrayList$Itr" (17 : Nat) "java/util/ArrayList" "modCount" "I") ∈ AW := at6 (i := 145) rfl rfl
theorem q1416 : (Jvm.Cond.sameField "java/util/ArrayList" "java/util/AbstractList" "modCount" "I") ∈ AW := at6 (i := 146) rfl rfl
theorem q1425 : Cond.classLink "MinestrataModel" 46 ("[" ++ (FieldType.array .boolean).toString) ∈ AW := at6 (i := 155) (by decide +kernel) (by decide +kernel)
theorem q1427 : (Jvm.Cond.fieldLink "MinestrataModel" (60 : Nat) "MinestrataModel" "thrown" "I") ∈ AW := at6 (i := 157) rfl rfl
theorem q1429 : (Jvm.Cond.fieldLink "MinestrataModel" (83 : Nat) "MinestrataModel" "junctions" "I") ∈ AW := at6 (i := 159) rfl rfl
theorem q1430 : (Jvm.Cond.fieldLink "MinestrataModel" (7 : Nat) "MinestrataModel" "limit" "I") ∈ AW := at6 (i := 160) rfl rfl
theorem q1432 : (Jvm.Cond.fieldLink "MinestrataModel" (299 : Nat) "MinestrataModel" "refusals" "I") ∈ AW := at6 (i := 162) rfl rfl
theorem q1433 : (Jvm.Cond.fieldLink "MinestrataModel" (167 : Nat) "MinestrataModel" "shifts" "I") ∈ AW := at6 (i := 163) rfl rfl
theorem q1434 : (Jvm.Cond.fieldLink "MinestrataModel" (13 : Nat) "MinestrataModel" "isSurface" "[Z") ∈ AW := at6 (i := 164) rfl rfl
theorem q1436 : (Jvm.Cond.fieldLink "MinestrataModel" (17 : Nat) "MinestrataModel" "hasSensor" "[Z") ∈ AW := at6 (i := 166) rfl rfl
theorem q1437 : (Jvm.Cond.fieldLink "MinestrataModel" (20 : Nat) "MinestrataModel" "isOff" "[Z") ∈ AW := at6 (i := 167) rfl rfl
theorem q1439 : (Jvm.Cond.fieldLink "MinestrataModel" (23 : Nat) "MinestrataModel" "draughts" "[I") ∈ AW := at6 (i := 169) rfl rfl
theorem q1441 : (Jvm.Cond.fieldLink "MinestrataModel" (27 : Nat) "MinestrataModel" "sources" "[I") ∈ AW := at6 (i := 171) rfl rfl
theorem q1443 : (Jvm.Cond.fieldLink "MinestrataModel" (30 : Nat) "MinestrataModel" "drifts" "[I") ∈ AW := at6 (i := 173) rfl rfl
theorem q1444 : (Jvm.Cond.fieldLink "MinestrataModel" (33 : Nat) "MinestrataModel" "since" "[I") ∈ AW := at6 (i := 174) rfl rfl
theorem q1445 : (Jvm.Cond.fieldLink "MinestrataModel" (39 : Nat) "MinestrataModel" "roads" "Ljava/util/ArrayList;") ∈ AW := at6 (i := 175) rfl rfl
theorem q1447 : (Jvm.Cond.fieldLink "MinestrataModel" (43 : Nat) "MinestrataModel" "stopes" "Ljava/util/ArrayList;") ∈ AW := at6 (i := 177) rfl rfl
theorem q1448 : (Jvm.Cond.fieldLink "MinestrataModel" (48 : Nat) "MinestrataModel" "areJoined" "[[Z") ∈ AW := at6 (i := 178) rfl rfl
theorem q1449 : (Jvm.Cond.fieldLink "MinestrataModel" (51 : Nat) "MinestrataModel" "people" "Ljava/util/ArrayList;") ∈ AW := at6 (i := 179) rfl rfl
theorem q1450 : (Jvm.Cond.fieldLink "MinestrataModel" (94 : Nat) "MinestrataModel" "air" "LMinestrataModel$Air;") ∈ AW := at6 (i := 180) rfl rfl
theorem q1451 : (Jvm.Cond.fieldLink "MinestrataModel" (54 : Nat) "MinestrataModel" "refusedBy" "I") ∈ AW := at6 (i := 181) rfl rfl
theorem q1452 : (Jvm.Cond.fieldLink "MinestrataModel" (57 : Nat) "MinestrataModel" "delivered" "[I") ∈ AW := at6 (i := 182) rfl rfl
theorem q1453 : (Jvm.Cond.fieldLink "MinestrataModel" (367 : Nat) "MinestrataModel" "penalties" "J") ∈ AW := at6 (i := 183) rfl rfl
theorem q1495 : (Jvm.Cond.methodLink "MinestrataLaw" (136 : Nat) ({ cls := "MinestrataModel", name := "thrown", desc := "()I" } : Jvm.MethodName)) ∈ AW := at6 (i := 225) rfl rfl
theorem q1496 : (Jvm.Cond.instanceMethod ({ cls := "MinestrataModel", name := "thrown", desc := "()I" } : Jvm.MethodName)) ∈ AW := at6 (i := 226) rfl rfl
theorem q1497 : (Jvm.Cond.selects "MinestrataModel" ({ cls := "MinestrataModel", name := "thrown", desc := "()I" } : Jvm.MethodName) ({ cls := "MinestrataModel", name := "thrown", desc := "()I" } : Jvm.MethodName)) ∈ AW := at6 (i := 227) rfl rfl
theorem q1498 : (Jvm.Cond.code ({ cls := "MinestrataModel", name := "thrown", desc := "()I" } : Jvm.MethodName) prog_14_method_2_code (1 : Nat) (Option.some Jvm.ClassFile.FieldType.int)) ∈ AW := at6 (i := 228) rfl rfl
theorem q1499 : (Jvm.Cond.methodLink "MinestrataLaw" (135 : Nat) ({ cls := "MinestrataModel", name := "addJunction", desc := "(ZI)I" } : Jvm.MethodName)) ∈ AW := at6 (i := 229) rfl rfl
theorem q1500 : (Jvm.Cond.instanceMethod ({ cls := "MinestrataModel", name := "addJunction", desc := "(ZI)I" } : Jvm.MethodName)) ∈ AW := at6 (i := 230) rfl rfl
theorem q1501 : (Jvm.Cond.selects "MinestrataModel" ({ cls := "MinestrataModel", name := "addJunction", desc := "(ZI)I" } : Jvm.MethodName) ({ cls := "MinestrataModel", name := "addJunction", desc := "(ZI)I" } : Jvm.MethodName)) ∈ AW := at6 (i := 231) rfl rfl
theorem q1502 : (Jvm.Cond.code ({ cls := "MinestrataModel", name := "addJunction", desc := "(ZI)I" } : Jvm.MethodName) prog_14_method_8_code (3 : Nat) (Option.some Jvm.ClassFile.FieldType.int)) ∈ AW := at6 (i := 232) rfl rfl
theorem q1503 : (Jvm.Cond.methodLink "MinestrataModel" (86 : Nat) ({ cls := "MinestrataModel", name := "in", desc := "(III)Z" } : Jvm.MethodName)) ∈ AW := at6 (i := 233) rfl rfl
theorem q1504 : (Jvm.Cond.static ({ cls := "MinestrataModel", name := "in", desc := "(III)Z" } : Jvm.MethodName)) ∈ AW := at6 (i := 234) rfl rfl
theorem q1505 : (Jvm.Cond.code ({ cls := "MinestrataModel", name := "in", desc := "(III)Z" } : Jvm.MethodName) prog_14_method_3_code (3 : Nat) (Option.some Jvm.ClassFile.FieldType.boolean)) ∈ AW := at6 (i := 235) rfl rfl
theorem q1506 : (Jvm.Cond.methodLink "MinestrataModel" (90 : Nat) ({ cls := "MinestrataModel", name := "fails", desc := "(I)I" } : Jvm.MethodName)) ∈ AW := at6 (i := 236) rfl rfl
theorem q1508 : (Jvm.Cond.instanceMethod ({ cls := "MinestrataModel", name := "fails", desc := "(I)I" } : Jvm.MethodName)) ∈ AW := at6 (i := 238) rfl rfl
theorem q1509 : (Jvm.Cond.code ({ cls := "MinestrataModel", name := "fails", desc := "(I)I" } : Jvm.MethodName) prog_14_method_4_code (2 : Nat) (Option.some Jvm.ClassFile.FieldType.int)) ∈ AW := at6 (i := 239) rfl rfl
theorem q1510 : (Jvm.Cond.methodLink "MinestrataModel" (98 : Nat) ({ cls := "MinestrataModel", name := "tells", desc := "(I)I" } : Jvm.MethodName)) ∈ AW := at7 (i := 0) rfl rfl
theorem q1512 : (Jvm.Cond.instanceMethod ({ cls := "MinestrataModel", name := "tells", desc := "(I)I" } : Jvm.MethodName)) ∈ AW := at7 (i := 2) rfl rfl
theorem q1513 : (Jvm.Cond.code ({ cls := "MinestrataModel", name := "tells", desc := "(I)I" } : Jvm.MethodName) prog_14_method_5_code (2 : Nat) (Option.some Jvm.ClassFile.FieldType.int)) ∈ AW := at7 (i := 3) rfl rfl
theorem q1514 : (Jvm.Cond.methodLink "MinestrataLaw" (142 : Nat) ({ cls := "MinestrataModel", name := "addRoad", desc := "(IIIZ)I" } : Jvm.MethodName)) ∈ AW := at7 (i := 4) rfl rfl
theorem q1515 : (Jvm.Cond.instanceMethod ({ cls := "MinestrataModel", name := "addRoad", desc := "(IIIZ)I" } : Jvm.MethodName)) ∈ AW := at7 (i := 5) rfl rfl
theorem q1516 : (Jvm.Cond.selects "MinestrataModel" ({ cls := "MinestrataModel", name := "addRoad", desc := "(IIIZ)I" } : Jvm.MethodName) ({ cls := "MinestrataModel", name := "addRoad", desc := "(IIIZ)I" } : Jvm.MethodName)) ∈ AW := at7 (i := 6) rfl rfl
theorem q1517 : (Jvm.Cond.code ({ cls := "MinestrataModel", name := "addRoad", desc := "(IIIZ)I" } : Jvm.MethodName) prog_14_method_9_code (5 : Nat) (Option.some Jvm.ClassFile.FieldType.int)) ∈ AW := at7 (i := 7) rfl rfl
theorem q1518 : (Jvm.Cond.methodLink "MinestrataModel" (101 : Nat) ({ cls := "MinestrataModel", name := "isJunction", desc := "(I)Z" } : Jvm.MethodName)) ∈ AW := at7 (i := 8) rfl rfl
theorem q1520 : (Jvm.Cond.instanceMethod ({ cls := "MinestrataModel", name := "isJunction", desc := "(I)Z" } : Jvm.MethodName)) ∈ AW := at7 (i := 10) rfl rfl
theorem q1521 : (Jvm.Cond.code ({ cls := "MinestrataModel", name := "isJunction", desc := "(I)Z" } : Jvm.MethodName) prog_14_method_7_code (2 : Nat) (Option.some Jvm.ClassFile.FieldType.boolean)) ∈ AW := at7 (i := 11) rfl rfl
theorem q1522 : (Jvm.Cond.methodLink "MinestrataModel" (105 : Nat) ({ cls := "java/util/ArrayList", name := "size", desc := "()I" } : Jvm.MethodName)) ∈ AW := at7 (i := 12) rfl rfl
theorem q1523 : (Jvm.Cond.instanceMethod ({ cls := "java/util/ArrayList", name := "size", desc := "()I" } : Jvm.MethodName)) ∈ AW := at7 (i := 13) rfl rfl
theorem q1524 : (Jvm.Cond.selects "java/util/ArrayList" ({ cls := "java/util/ArrayList", name := "size", desc := "()I" } : Jvm.MethodName) ({ cls := "java/util/ArrayList", name := "size", desc := "()I" } : Jvm.MethodName)) ∈ AW := at7 (i := 14) rfl rfl
theorem q1525 : (Jvm.Cond.code ({ cls := "java/util/ArrayList", name := "size", desc := "()I" } : Jvm.MethodName) prog_42_method_8_code (1 : Nat) (Option.some Jvm.ClassFile.FieldType.int)) ∈ AW := at7 (i := 15) rfl rfl
theorem q1630 : Cond.methodLink "java/util/Arrays" 304 Lib.Math.min.name ∈ AW := at7 (i := 120) (by decide +kernel) (by decide +kernel)
theorem q1631 : (Jvm.Cond.methodLink "java/util/Arrays" (150 : Nat) ({ cls := "java/lang/System", name := "arraycopy", desc := "(Ljava/lang/Object;ILjava/lang/Object;II)V" } : Jvm.MethodName)) ∈ AW := at7 (i := 121) rfl rfl
theorem q1632 : (Jvm.Cond.static ({ cls := "java/lang/System", name := "arraycopy", desc := "(Ljava/lang/Object;ILjava/lang/Object;II)V" } : Jvm.MethodName)) ∈ AW := at7 (i := 122) rfl rfl
theorem q1633 : (Jvm.Cond.native ({ cls := "java/lang/System", name := "arraycopy", desc := "(Ljava/lang/Object;ILjava/lang/Object;II)V" } : Jvm.MethodName)) ∈ AW := at7 (i := 123) rfl rfl
theorem q1636 : (Jvm.Cond.methodLink "MinestrataLaw" (146 : Nat) ({ cls := "MinestrataModel", name := "addStope", desc := "(IIII)I" } : Jvm.MethodName)) ∈ AW := at7 (i := 126) rfl rfl
theorem q1637 : (Jvm.Cond.instanceMethod ({ cls := "MinestrataModel", name := "addStope", desc := "(IIII)I" } : Jvm.MethodName)) ∈ AW := at7 (i := 127) rfl rfl
theorem q1638 : (Jvm.Cond.selects "MinestrataModel" ({ cls := "MinestrataModel", name := "addStope", desc := "(IIII)I" } : Jvm.MethodName) ({ cls := "MinestrataModel", name := "addStope", desc := "(IIII)I" } : Jvm.MethodName)) ∈ AW := at7 (i := 128) rfl rfl
theorem q1639 : (Jvm.Cond.code ({ cls := "MinestrataModel", name := "addStope", desc := "(IIII)I" } : Jvm.MethodName) prog_14_method_11_code (5 : Nat) (Option.some Jvm.ClassFile.FieldType.int)) ∈ AW := at7 (i := 129) rfl rfl
theorem q1675 : (Jvm.Cond.methodLink "MinestrataLaw" (150 : Nat) ({ cls := "MinestrataModel", name := "join", desc := "(II)Z" } : Jvm.MethodName)) ∈ AW := at7 (i := 165) rfl rfl
theorem q1676 : (Jvm.Cond.instanceMethod ({ cls := "MinestrataModel", name := "join", desc := "(II)Z" } : Jvm.MethodName)) ∈ AW := at7 (i := 166) rfl rfl
theorem q1677 : (Jvm.Cond.selects "MinestrataModel" ({ cls := "MinestrataModel", name := "join", desc := "(II)Z" } : Jvm.MethodName) ({ cls := "MinestrataModel", name := "join", desc := "(II)Z" } : Jvm.MethodName)) ∈ AW := at7 (i := 167) rfl rfl
theorem q1678 : (Jvm.Cond.code ({ cls := "MinestrataModel", name := "join", desc := "(II)Z" } : Jvm.MethodName) prog_14_method_12_code (4 : Nat) (Option.some Jvm.ClassFile.FieldType.boolean)) ∈ AW := at7 (i := 168) rfl rfl
theorem q1679 : (Jvm.Cond.methodLink "MinestrataModel" (123 : Nat) ({ cls := "MinestrataModel", name := "isStope", desc := "(I)Z" } : Jvm.MethodName)) ∈ AW := at7 (i := 169) rfl rfl
theorem q1681 : (Jvm.Cond.instanceMethod ({ cls := "MinestrataModel", name := "isStope", desc := "(I)Z" } : Jvm.MethodName)) ∈ AW := at7 (i := 171) rfl rfl
theorem q1682 : (Jvm.Cond.code ({ cls := "MinestrataModel", name := "isStope", desc := "(I)Z" } : Jvm.MethodName) prog_14_method_10_code (2 : Nat) (Option.some Jvm.ClassFile.FieldType.boolean)) ∈ AW := at7 (i := 172) rfl rfl
theorem q1683 : (Jvm.Cond.methodLink "MinestrataLaw" (154 : Nat) ({ cls := "MinestrataModel", name := "setLimit", desc := "(I)I" } : Jvm.MethodName)) ∈ AW := at7 (i := 173) rfl rfl
theorem q1684 : (Jvm.Cond.instanceMethod ({ cls := "MinestrataModel", name := "setLimit", desc := "(I)I" } : Jvm.MethodName)) ∈ AW := at7 (i := 174) rfl rfl
theorem q1685 : (Jvm.Cond.selects "MinestrataModel" ({ cls := "MinestrataModel", name := "setLimit", desc := "(I)I" } : Jvm.MethodName) ({ cls := "MinestrataModel", name := "setLimit", desc := "(I)I" } : Jvm.MethodName)) ∈ AW := at7 (i := 175) rfl rfl
theorem q1686 : (Jvm.Cond.code ({ cls := "MinestrataModel", name := "setLimit", desc := "(I)I" } : Jvm.MethodName) prog_14_method_13_code (3 : Nat) (Option.some Jvm.ClassFile.FieldType.int)) ∈ AW := at7 (i := 176) rfl rfl
theorem q1687 : (Jvm.Cond.methodLink "MinestrataLaw" (175 : Nat) ({ cls := "MinestrataModel", name := "flow", desc := "(I)I" } : Jvm.MethodName)) ∈ AW := at7 (i := 177) rfl rfl
theorem q1688 : (Jvm.Cond.instanceMethod ({ cls := "MinestrataModel", name := "flow", desc := "(I)I" } : Jvm.MethodName)) ∈ AW := at7 (i := 178) rfl rfl
theorem q1689 : (Jvm.Cond.selects "MinestrataModel" ({ cls := "MinestrataModel", name := "flow", desc := "(I)I" } : Jvm.MethodName) ({ cls := "MinestrataModel", name := "flow", desc := "(I)I" } : Jvm.MethodName)) ∈ AW := at7 (i := 179) rfl rfl
theorem q1690 : (Jvm.Cond.code ({ cls := "MinestrataModel", name := "flow", desc := "(I)I" } : Jvm.MethodName) prog_14_method_15_code (2 : Nat) (Option.some Jvm.ClassFile.FieldType.int)) ∈ AW := at7 (i := 180) rfl rfl
theorem q1691 : (Jvm.Cond.methodLink "MinestrataModel" (131 : Nat) ({ cls := "MinestrataModel", name := "now", desc := "()LMinestrataModel$Air;" } : Jvm.MethodName)) ∈ AW := at7 (i := 181) rfl rfl
theorem q1693 : (Jvm.Cond.instanceMethod ({ cls := "MinestrataModel", name := "now", desc := "()LMinestrataModel$Air;" } : Jvm.MethodName)) ∈ AW := at7 (i := 183) rfl rfl
theorem q1694 : (Jvm.Cond.code ({ cls := "MinestrataModel", name := "now", desc := "()LMinestrataModel$Air;" } : Jvm.MethodName) prog_14_method_14_code (1 : Nat) (Option.some (Jvm.ClassFile.FieldType.object "MinestrataModel$Air"))) ∈ AW := at7 (i := 184) rfl rfl
theorem q1695 : (Jvm.Cond.classLink "MinestrataModel" (126 : Nat) "MinestrataModel$Air") ∈ AW := at7 (i := 185) rfl rfl
theorem q1696 : (Jvm.Cond.instantiable "MinestrataModel$Air" (7 : Nat)) ∈ AW := at7 (i := 186) rfl rfl
theorem q1697 : (Jvm.Cond.methodLink "MinestrataModel" (128 : Nat) ({ cls := "MinestrataModel$Air", name := "<init>", desc := "(LMinestrataModel;)V" } : Jvm.MethodName)) ∈ AW := at7 (i := 187) rfl rfl
theorem q1698 : (Jvm.Cond.instanceMethod ({ cls := "MinestrataModel$Air", name := "<init>", desc := "(LMinestrataModel;)V" } : Jvm.MethodName)) ∈ AW := at7 (i := 188) rfl rfl
theorem q1699 : (Jvm.Cond.code ({ cls := "MinestrataModel$Air", name := "<init>", desc := "(LMinestrataModel;)V" } : Jvm.MethodName) prog_15_method_1_code (2 : Nat) (Option.none : Option Jvm.ClassFile.FieldType)) ∈ AW := at7 (i := 189) rfl rfl
theorem q1700 : (Jvm.Cond.methodLink "MinestrataModel$Air" (9 : Nat) ({ cls := "java/lang/Object", name := "<init>", desc := "()V" } : Jvm.MethodName)) ∈ AW := at7 (i := 190) rfl rfl
theorem q1701 : (Jvm.Cond.classLink "MinestrataModel$Air" (15 : Nat) "MinestrataModel$Big") ∈ AW := at7 (i := 191) rfl rfl
theorem q1703 : (Jvm.Cond.methodLink "MinestrataModel$Air" (27 : Nat) ({ cls := "MinestrataModel$Big", name := "of", desc := "(J)LMinestrataModel$Big;" } : Jvm.MethodName)) ∈ AW := at7 (i := 193) rfl rfl
theorem q1704 : (Jvm.Cond.static ({ cls := "MinestrataModel$Big", name := "of", desc := "(J)LMinestrataModel$Big;" } : Jvm.MethodName)) ∈ AW := at7 (i := 194) rfl rfl
theorem q1705 : (Jvm.Cond.code ({ cls := "MinestrataModel$Big", name := "of", desc := "(J)LMinestrataModel$Big;" } : Jvm.MethodName) prog_16_method_2_code (6 : Nat) (Option.some (Jvm.ClassFile.FieldType.object "MinestrataModel$Big"))) ∈ AW := at7 (i := 195) rfl rfl
theorem q1706 : Cond.methodLink "MinestrataModel$Big" 23 Lib.MathLoose.abs_long.x ∈ AW := at7 (i := 196) (by decide +kernel) (by decide +kernel)
theorem q1707 : Cond.static Lib.MathLoose.abs_long.x ∈ AW := at7 (i := 197) (by decide +kernel) (by decide +kernel)
theorem q1708 : Cond.code Lib.MathLoose.abs_long.x Lib.MathLoose.abs_long.code 2 (some .long) ∈ AW := at7 (i := 198) (by decide +kernel) (by decide +kernel)
theorem q1709 : (Jvm.Cond.constantLong "MinestrataModel$Big" (29 : Nat) (10000 : Int64)) ∈ AW := at7 (i := 199) rfl rfl
theorem q1710 : (Jvm.Cond.classLink "MinestrataModel$Big" (14 : Nat) "MinestrataModel$Big") ∈ AW := at7 (i := 200) rfl rfl
theorem q1711 : (Jvm.Cond.instantiable "MinestrataModel$Big" (2 : Nat)) ∈ AW := at7 (i := 201) rfl rfl
theorem q1712 : (Jvm.Cond.methodLink "MinestrataModel$Big" (31 : Nat) ({ cls := "MinestrataModel$Big", name := "<init>", desc := "([IZ)V" } : Jvm.MethodName)) ∈ AW := at7 (i := 202) rfl rfl
theorem q1713 : (Jvm.Cond.instanceMethod ({ cls := "MinestrataModel$Big", name := "<init>", desc := "([IZ)V" } : Jvm.MethodName)) ∈ AW := at7 (i := 203) rfl rfl
theorem q1714 : (Jvm.Cond.code ({ cls := "MinestrataModel$Big", name := "<init>", desc := "([IZ)V" } : Jvm.MethodName) prog_16_method_1_code (4 : Nat) (Option.none : Option Jvm.ClassFile.FieldType)) ∈ AW := at7 (i := 204) rfl rfl
theorem q1715 : (Jvm.Cond.methodLink "MinestrataModel$Big" (1 : Nat) ({ cls := "java/lang/Object", name := "<init>", desc := "()V" } : Jvm.MethodName)) ∈ AW := at7 (i := 205) rfl rfl
theorem q1716 : (Jvm.Cond.methodLink "MinestrataModel$Big" (7 : Nat) ({ cls := "java/util/Arrays", name := "copyOf", desc := "([II)[I" } : Jvm.MethodName)) ∈ AW := at7 (i := 206) rfl rfl
theorem q1717 : (Jvm.Cond.static ({ cls := "java/util/Arrays", name := "copyOf", desc := "([II)[I" } : Jvm.MethodName)) ∈ AW := at7 (i := 207) rfl rfl
theorem q1718 : (Jvm.Cond.code ({ cls := "java/util/Arrays", name := "copyOf", desc := "([II)[I" } : Jvm.MethodName) prog_44_method_123_code (3 : Nat) (Option.some (Jvm.ClassFile.FieldType.array Jvm.ClassFile.FieldType.int))) ∈ AW := at7 (i := 208) rfl rfl
theorem q1726 : (Jvm.Cond.fieldLink "MinestrataModel$Big" (13 : Nat) "MinestrataModel$Big" "limbs" "[I") ∈ AW := at7 (i := 216) rfl rfl
theorem q1727 : (Jvm.Cond.fieldLink "MinestrataModel$Big" (19 : Nat) "MinestrataModel$Big" "isLess" "Z") ∈ AW := at7 (i := 217) rfl rfl
theorem q1733 : (Jvm.Cond.methodLink "MinestrataModel$Air" (39 : Nat) ({ cls := "MinestrataModel$Air", name := "pressures", desc := "()V" } : Jvm.MethodName)) ∈ AW := at7 (i := 223) rfl rfl
theorem q1735 : (Jvm.Cond.instanceMethod ({ cls := "MinestrataModel$Air", name := "pressures", desc := "()V" } : Jvm.MethodName)) ∈ AW := at7 (i := 225) rfl rfl
theorem q1736 : (Jvm.Cond.code ({ cls := "MinestrataModel$Air", name := "pressures", desc := "()V" } : Jvm.MethodName) prog_15_method_6_code (8 : Nat) (Option.none : Option Jvm.ClassFile.FieldType)) ∈ AW := at7 (i := 226) rfl rfl
theorem q1737 : (Jvm.Cond.methodLink "MinestrataModel$Air" (102 : Nat) ({ cls := "MinestrataModel$Air", name := "groups", desc := "(Z)[I" } : Jvm.MethodName)) ∈ AW := at7 (i := 227) rfl rfl
theorem q1739 : (Jvm.Cond.instanceMethod ({ cls := "MinestrataModel$Air", name := "groups", desc := "(Z)[I" } : Jvm.MethodName)) ∈ AW := at7 (i := 229) rfl rfl
theorem q1740 : (Jvm.Cond.code ({ cls := "MinestrataModel$Air", name := "groups", desc := "(Z)[I" } : Jvm.MethodName) prog_15_method_4_code (7 : Nat) (Option.some (Jvm.ClassFile.FieldType.array Jvm.ClassFile.FieldType.int))) ∈ AW := at7 (i := 230) rfl rfl
theorem q1741 : (Jvm.Cond.methodLink "MinestrataModel$Air" (72 : Nat) ({ cls := "java/util/ArrayList", name := "size", desc := "()I" } : Jvm.MethodName)) ∈ AW := at7 (i := 231) rfl rfl
theorem q1766 : (Jvm.Cond.methodLink "MinestrataModel$Air" (106 : Nat) ({ cls := "MinestrataModel$Air", name := "haveSurface", desc := "([I)[Z" } : Jvm.MethodName)) ∈ AW := at8 (i := 16) rfl rfl
theorem q1768 : (Jvm.Cond.instanceMethod ({ cls := "MinestrataModel$Air", name := "haveSurface", desc := "([I)[Z" } : Jvm.MethodName)) ∈ AW := at8 (i := 18) rfl rfl
theorem q1769 : (Jvm.Cond.code ({ cls := "MinestrataModel$Air", name := "haveSurface", desc := "([I)[Z" } : Jvm.MethodName) prog_15_method_5_code (4 : Nat) (Option.some (Jvm.ClassFile.FieldType.array Jvm.ClassFile.FieldType.boolean))) ∈ AW := at8 (i := 19) rfl rfl
theorem q1770 : (Jvm.Cond.methodLink "MinestrataModel$Air" (110 : Nat) ({ cls := "MinestrataModel$Air", name := "empty", desc := "(I)[[LMinestrataModel$Big;" } : Jvm.MethodName)) ∈ AW := at8 (i := 20) rfl rfl
theorem q1772 : (Jvm.Cond.instanceMethod ({ cls := "MinestrataModel$Air", name := "empty", desc := "(I)[[LMinestrataModel$Big;" } : Jvm.MethodName)) ∈ AW := at8 (i := 22) rfl rfl
theorem q1773 : (Jvm.Cond.code ({ cls := "MinestrataModel$Air", name := "empty", desc := "(I)[[LMinestrataModel$Big;" } : Jvm.MethodName) prog_15_method_7_code (7 : Nat) (Option.some (Jvm.ClassFile.FieldType.array (Jvm.ClassFile.FieldType.array (Jvm.ClassFile.FieldType.object "MinestrataModel$Big"))))) ∈ AW := at8 (i := 23) rfl rfl
theorem q1774 : Cond.classLink "MinestrataModel$Air" 158 ("[" ++ (FieldType.array (.object "MinestrataModel$Big")).toString) ∈ AW := at8 (i := 24) (by decide +kernel) (by decide +kernel)
theorem q1779 : (Jvm.Cond.methodLink "MinestrataModel$Air" (114 : Nat) ({ cls := "java/util/ArrayList", name := "iterator", desc := "()Ljava/util/Iterator;" } : Jvm.MethodName)) ∈ AW := at8 (i := 29) rfl rfl
theorem q1780 : (Jvm.Cond.instanceMethod ({ cls := "java/util/ArrayList", name := "iterator", desc := "()Ljava/util/Iterator;" } : Jvm.MethodName)) ∈ AW := at8 (i := 30) rfl rfl
theorem q1781 : (Jvm.Cond.selects "java/util/ArrayList" ({ cls := "java/util/ArrayList", name := "iterator", desc := "()Ljava/util/Iterator;" } : Jvm.MethodName) ({ cls := "java/util/ArrayList", name := "iterator", desc := "()Ljava/util/Iterator;" } : Jvm.MethodName)) ∈ AW := at8 (i := 31) rfl rfl
theorem q1782 : (Jvm.Cond.code ({ cls := "java/util/ArrayList", name := "iterator", desc := "()Ljava/util/Iterator;" } : Jvm.MethodName) prog_42_method_55_code (1 : Nat) (Option.some (Jvm.ClassFile.FieldType.object "java/util/Iterator"))) ∈ AW := at8 (i := 32) rfl rfl
theorem q1783 : (Jvm.Cond.classLink "java/util/ArrayList" (267 : Nat) "java/util/ArrayList$Itr") ∈ AW := at8 (i := 33) rfl rfl
theorem q1784 : (Jvm.Cond.instantiable "java/util/ArrayList$Itr" (4 : Nat)) ∈ AW := at8 (i := 34) rfl rfl
theorem q1785 : (Jvm.Cond.methodLink "java/util/ArrayList" (269 : Nat) ({ cls := "java/util/ArrayList$Itr", name := "<init>", desc := "(Ljava/util/ArrayList;)V" } : Jvm.MethodName)) ∈ AW := at8 (i := 35) rfl rfl
theorem q1786 : (Jvm.Cond.instanceMethod ({ cls := "java/util/ArrayList$Itr", name := "<init>", desc := "(Ljava/util/ArrayList;)V" } : Jvm.MethodName)) ∈ AW := at8 (i := 36) rfl rfl
theorem q1787 : (Jvm.Cond.code ({ cls := "java/util/ArrayList$Itr", name := "<init>", desc := "(Ljava/util/ArrayList;)V" } : Jvm.MethodName) prog_43_method_1_code (2 : Nat) (Option.none : Option Jvm.ClassFile.FieldType)) ∈ AW := at8 (i := 37) rfl rfl
theorem q1788 : (Jvm.Cond.methodLink "java/util/ArrayList$Itr" (7 : Nat) ({ cls := "java/lang/Object", name := "<init>", desc := "()V" } : Jvm.MethodName)) ∈ AW := at8 (i := 38) rfl rfl
theorem q1789 : (Jvm.Cond.fieldLink "java/util/ArrayList$Itr" (25 : Nat) "java/util/ArrayList$Itr" "cursor" "I") ∈ AW := at8 (i := 39) rfl rfl
theorem q1790 : (Jvm.Cond.fieldLink "java/util/ArrayList$Itr" (13 : Nat) "java/util/ArrayList$Itr" "lastRet" "I") ∈ AW := at8 (i := 40) rfl rfl
theorem q1791 : (Jvm.Cond.fieldLink "java/util/ArrayList$Itr" (22 : Nat) "java/util/ArrayList$Itr" "expectedModCount" "I") ∈ AW := at8 (i := 41) rfl rfl
theorem q1792 : (Jvm.Cond.fieldLink "java/util/ArrayList$Itr" (1 : Nat) "java/util/ArrayList$Itr" "this$0" "Ljava/util/ArrayList;") ∈ AW := at8 (i := 42) rfl rfl
theorem q1803 : (Jvm.Cond.methodLink "MinestrataModel$Air" (118 : Nat) ({ cls := "java/util/Iterator", name := "hasNext", desc := "()Z" } : Jvm.MethodName)) ∈ AW := at8 (i := 53) rfl rfl
theorem q1807 : (Jvm.Cond.selects "java/util/ArrayList$Itr" ({ cls := "java/util/Iterator", name := "hasNext", desc := "()Z" } : Jvm.MethodName) ({ cls := "java/util/ArrayList$Itr", name := "hasNext", desc := "()Z" } : Jvm.MethodName)) ∈ AW := at8 (i := 57) rfl rfl
theorem q1809 : (Jvm.Cond.instanceMethod ({ cls := "java/util/ArrayList$Itr", name := "hasNext", desc := "()Z" } : Jvm.MethodName)) ∈ AW := at8 (i := 59) rfl rfl
theorem q1811 : (Jvm.Cond.code ({ cls := "java/util/ArrayList$Itr", name := "hasNext", desc := "()Z" } : Jvm.MethodName) prog_43_method_2_code (1 : Nat) (Option.some Jvm.ClassFile.FieldType.boolean)) ∈ AW := at8 (i := 61) rfl rfl
theorem q1868 : (Jvm.Cond.static ({ cls := "MinestrataModel", name := "solves", desc := "([[LMinestrataModel$Big;)V" } : Jvm.MethodName)) ∈ AW := at8 (i := 118) rfl rfl
theorem q1869 : (Jvm.Cond.code ({ cls := "MinestrataModel", name := "solves", desc := "([[LMinestrataModel$Big;)V" } : Jvm.MethodName) prog_14_method_6_code (9 : Nat) (Option.none : Option Jvm.ClassFile.FieldType)) ∈ AW := at8 (i := 119) rfl rfl
theorem q1870 : (Jvm.Cond.methodLink "MinestrataModel" (63 : Nat) ({ cls := "MinestrataModel$Big", name := "of", desc := "(J)LMinestrataModel$Big;" } : Jvm.MethodName)) ∈ AW := at8 (i := 120) rfl rfl
theorem q1891 : (Jvm.Cond.methodLink "MinestrataModel$Air" (41 : Nat) ({ cls := "MinestrataModel$Air", name := "flows", desc := "()V" } : Jvm.MethodName)) ∈ AW := at8 (i := 141) rfl rfl
theorem q1893 : (Jvm.Cond.instanceMethod ({ cls := "MinestrataModel$Air", name := "flows", desc := "()V" } : Jvm.MethodName)) ∈ AW := at8 (i := 143) rfl rfl
theorem q1894 : (Jvm.Cond.code ({ cls := "MinestrataModel$Air", name := "flows", desc := "()V" } : Jvm.MethodName) prog_15_method_9_code (3 : Nat) (Option.none : Option Jvm.ClassFile.FieldType)) ∈ AW := at8 (i := 144) rfl rfl
theorem q1895 : (Jvm.Cond.methodLink "MinestrataModel$Air" (43 : Nat) ({ cls := "MinestrataModel$Air", name := "gases", desc := "()V" } : Jvm.MethodName)) ∈ AW := at8 (i := 145) rfl rfl
theorem q1897 : (Jvm.Cond.instanceMethod ({ cls := "MinestrataModel$Air", name := "gases", desc := "()V" } : Jvm.MethodName)) ∈ AW := at8 (i := 147) rfl rfl
theorem q1898 : (Jvm.Cond.code ({ cls := "MinestrataModel$Air", name := "gases", desc := "()V" } : Jvm.MethodName) prog_15_method_10_code (12 : Nat) (Option.none : Option Jvm.ClassFile.FieldType)) ∈ AW := at8 (i := 148) rfl rfl
theorem q1904 : (Jvm.Cond.fieldLink "MinestrataModel$Air" (17 : Nat) "MinestrataModel$Air" "pressures" "[LMinestrataModel$Big;") ∈ AW := at8 (i := 154) rfl rfl
theorem q1906 : (Jvm.Cond.fieldLink "MinestrataModel$Air" (21 : Nat) "MinestrataModel$Air" "flows" "[LMinestrataModel$Big;") ∈ AW := at8 (i := 156) rfl rfl
theorem q1908 : (Jvm.Cond.fieldLink "MinestrataModel$Air" (24 : Nat) "MinestrataModel$Air" "gas" "[LMinestrataModel$Big;") ∈ AW := at8 (i := 158) rfl rfl
theorem q1909 : (Jvm.Cond.fieldLink "MinestrataModel$Air" (142 : Nat) "MinestrataModel$Air" "over" "LMinestrataModel$Big;") ∈ AW := at8 (i := 159) rfl rfl
theorem q1911 : (Jvm.Cond.fieldLink "MinestrataModel$Air" (31 : Nat) "MinestrataModel$Air" "gasOver" "LMinestrataModel$Big;") ∈ AW := at8 (i := 161) rfl rfl
theorem q1912 : (Jvm.Cond.fieldLink "MinestrataModel$Air" (35 : Nat) "MinestrataModel$Air" "isFull" "[Z") ∈ AW := at8 (i := 162) rfl rfl
theorem q1914 : (Jvm.Cond.fieldLink "MinestrataModel$Air" (3 : Nat) "MinestrataModel$Air" "this$0" "LMinestrataModel;") ∈ AW := at8 (i := 164) rfl rfl
theorem q1945 : (Jvm.Cond.methodLink "MinestrataLaw" (178 : Nat) ({ cls := "MinestrataModel", name := "pressure", desc := "(I)I" } : Jvm.MethodName)) ∈ AW := at8 (i := 195) rfl rfl
theorem q1946 : (Jvm.Cond.instanceMethod ({ cls := "MinestrataModel", name := "pressure", desc := "(I)I" } : Jvm.MethodName)) ∈ AW := at8 (i := 196) rfl rfl
theorem q1947 : (Jvm.Cond.selects "MinestrataModel" ({ cls := "MinestrataModel", name := "pressure", desc := "(I)I" } : Jvm.MethodName) ({ cls := "MinestrataModel", name := "pressure", desc := "(I)I" } : Jvm.MethodName)) ∈ AW := at8 (i := 197) rfl rfl
theorem q1948 : (Jvm.Cond.code ({ cls := "MinestrataModel", name := "pressure", desc := "(I)I" } : Jvm.MethodName) prog_14_method_16_code (2 : Nat) (Option.some Jvm.ClassFile.FieldType.int)) ∈ AW := at8 (i := 198) rfl rfl
theorem q1949 : (Jvm.Cond.methodLink "MinestrataLaw" (181 : Nat) ({ cls := "MinestrataModel", name := "gas", desc := "(I)I" } : Jvm.MethodName)) ∈ AW := at8 (i := 199) rfl rfl
theorem q1950 : (Jvm.Cond.instanceMethod ({ cls := "MinestrataModel", name := "gas", desc := "(I)I" } : Jvm.MethodName)) ∈ AW := at8 (i := 200) rfl rfl
theorem q1951 : (Jvm.Cond.selects "MinestrataModel" ({ cls := "MinestrataModel", name := "gas", desc := "(I)I" } : Jvm.MethodName) ({ cls := "MinestrataModel", name := "gas", desc := "(I)I" } : Jvm.MethodName)) ∈ AW := at8 (i := 201) rfl rfl
theorem q1952 : (Jvm.Cond.code ({ cls := "MinestrataModel", name := "gas", desc := "(I)I" } : Jvm.MethodName) prog_14_method_17_code (2 : Nat) (Option.some Jvm.ClassFile.FieldType.int)) ∈ AW := at8 (i := 202) rfl rfl
theorem q1960 : (Jvm.Cond.methodLink "MinestrataLaw" (184 : Nat) ({ cls := "MinestrataModel", name := "isFull", desc := "(I)Z" } : Jvm.MethodName)) ∈ AW := at8 (i := 210) rfl rfl
theorem q1961 : (Jvm.Cond.instanceMethod ({ cls := "MinestrataModel", name := "isFull", desc := "(I)Z" } : Jvm.MethodName)) ∈ AW := at8 (i := 211) rfl rfl
theorem q1962 : (Jvm.Cond.selects "MinestrataModel" ({ cls := "MinestrataModel", name := "isFull", desc := "(I)Z" } : Jvm.MethodName) ({ cls := "MinestrataModel", name := "isFull", desc := "(I)Z" } : Jvm.MethodName)) ∈ AW := at8 (i := 212) rfl rfl
theorem q1963 : (Jvm.Cond.code ({ cls := "MinestrataModel", name := "isFull", desc := "(I)Z" } : Jvm.MethodName) prog_14_method_18_code (2 : Nat) (Option.some Jvm.ClassFile.FieldType.boolean)) ∈ AW := at8 (i := 213) rfl rfl
theorem q1964 : (Jvm.Cond.methodLink "MinestrataLaw" (187 : Nat) ({ cls := "MinestrataModel", name := "isGood", desc := "(I)Z" } : Jvm.MethodName)) ∈ AW := at8 (i := 214) rfl rfl
theorem q1965 : (Jvm.Cond.instanceMethod ({ cls := "MinestrataModel", name := "isGood", desc := "(I)Z" } : Jvm.MethodName)) ∈ AW := at8 (i := 215) rfl rfl
theorem q1966 : (Jvm.Cond.selects "MinestrataModel" ({ cls := "MinestrataModel", name := "isGood", desc := "(I)Z" } : Jvm.MethodName) ({ cls := "MinestrataModel", name := "isGood", desc := "(I)Z" } : Jvm.MethodName)) ∈ AW := at8 (i := 216) rfl rfl
theorem q1967 : (Jvm.Cond.code ({ cls := "MinestrataModel", name := "isGood", desc := "(I)Z" } : Jvm.MethodName) prog_14_method_19_code (2 : Nat) (Option.some Jvm.ClassFile.FieldType.boolean)) ∈ AW := at8 (i := 217) rfl rfl
theorem q1977 : (Jvm.Cond.methodLink "MinestrataLaw" (157 : Nat) ({ cls := "MinestrataModel", name := "setSensor", desc := "(II)Z" } : Jvm.MethodName)) ∈ AW := at8 (i := 227) rfl rfl
theorem q1978 : (Jvm.Cond.instanceMethod ({ cls := "MinestrataModel", name := "setSensor", desc := "(II)Z" } : Jvm.MethodName)) ∈ AW := at8 (i := 228) rfl rfl
theorem q1979 : (Jvm.Cond.selects "MinestrataModel" ({ cls := "MinestrataModel", name := "setSensor", desc := "(II)Z" } : Jvm.MethodName) ({ cls := "MinestrataModel", name := "setSensor", desc := "(II)Z" } : Jvm.MethodName)) ∈ AW := at8 (i := 229) rfl rfl
theorem q1980 : (Jvm.Cond.code ({ cls := "MinestrataModel", name := "setSensor", desc := "(II)Z" } : Jvm.MethodName) prog_14_method_21_code (4 : Nat) (Option.some Jvm.ClassFile.FieldType.boolean)) ∈ AW := at8 (i := 230) rfl rfl
theorem q1981 : (Jvm.Cond.methodLink "MinestrataLaw" (160 : Nat) ({ cls := "MinestrataModel", name := "setRight", desc := "(I)I" } : Jvm.MethodName)) ∈ AW := at8 (i := 231) rfl rfl
theorem q1982 : (Jvm.Cond.instanceMethod ({ cls := "MinestrataModel", name := "setRight", desc := "(I)I" } : Jvm.MethodName)) ∈ AW := at8 (i := 232) rfl rfl
theorem q1983 : (Jvm.Cond.selects "MinestrataModel" ({ cls := "MinestrataModel", name := "setRight", desc := "(I)I" } : Jvm.MethodName) ({ cls := "MinestrataModel", name := "setRight", desc := "(I)I" } : Jvm.MethodName)) ∈ AW := at8 (i := 233) rfl rfl
theorem q1984 : (Jvm.Cond.code ({ cls := "MinestrataModel", name := "setRight", desc := "(I)I" } : Jvm.MethodName) prog_14_method_22_code (3 : Nat) (Option.some Jvm.ClassFile.FieldType.int)) ∈ AW := at8 (i := 234) rfl rfl
theorem q1990 : (Jvm.Cond.methodLink "MinestrataLaw" (190 : Nat) ({ cls := "MinestrataModel", name := "reading", desc := "(I)I" } : Jvm.MethodName)) ∈ AW := at9 (i := 0) rfl rfl
theorem q1991 : (Jvm.Cond.instanceMethod ({ cls := "MinestrataModel", name := "reading", desc := "(I)I" } : Jvm.MethodName)) ∈ AW := at9 (i := 1) rfl rfl
theorem q1992 : (Jvm.Cond.selects "MinestrataModel" ({ cls := "MinestrataModel", name := "reading", desc := "(I)I" } : Jvm.MethodName) ({ cls := "MinestrataModel", name := "reading", desc := "(I)I" } : Jvm.MethodName)) ∈ AW := at9 (i := 2) rfl rfl
theorem q1993 : (Jvm.Cond.code ({ cls := "MinestrataModel", name := "reading", desc := "(I)I" } : Jvm.MethodName) prog_14_method_23_code (2 : Nat) (Option.some Jvm.ClassFile.FieldType.int)) ∈ AW := at9 (i := 3) rfl rfl
theorem q1994 : (Jvm.Cond.methodLink "MinestrataLaw" (193 : Nat) ({ cls := "MinestrataModel", name := "hasPower", desc := "(I)Z" } : Jvm.MethodName)) ∈ AW := at9 (i := 4) rfl rfl
theorem q1995 : (Jvm.Cond.instanceMethod ({ cls := "MinestrataModel", name := "hasPower", desc := "(I)Z" } : Jvm.MethodName)) ∈ AW := at9 (i := 5) rfl rfl
theorem q1996 : (Jvm.Cond.selects "MinestrataModel" ({ cls := "MinestrataModel", name := "hasPower", desc := "(I)Z" } : Jvm.MethodName) ({ cls := "MinestrataModel", name := "hasPower", desc := "(I)Z" } : Jvm.MethodName)) ∈ AW := at9 (i := 6) rfl rfl
theorem q1997 : (Jvm.Cond.code ({ cls := "MinestrataModel", name := "hasPower", desc := "(I)Z" } : Jvm.MethodName) prog_14_method_24_code (2 : Nat) (Option.some Jvm.ClassFile.FieldType.boolean)) ∈ AW := at9 (i := 7) rfl rfl
theorem q1998 : (Jvm.Cond.methodLink "MinestrataLaw" (172 : Nat) ({ cls := "MinestrataModel", name := "shift", desc := "()I" } : Jvm.MethodName)) ∈ AW := at9 (i := 8) rfl rfl
theorem q1999 : (Jvm.Cond.instanceMethod ({ cls := "MinestrataModel", name := "shift", desc := "()I" } : Jvm.MethodName)) ∈ AW := at9 (i := 9) rfl rfl
theorem q2000 : (Jvm.Cond.selects "MinestrataModel" ({ cls := "MinestrataModel", name := "shift", desc := "()I" } : Jvm.MethodName) ({ cls := "MinestrataModel", name := "shift", desc := "()I" } : Jvm.MethodName)) ∈ AW := at9 (i := 10) rfl rfl
theorem q2001 : (Jvm.Cond.code ({ cls := "MinestrataModel", name := "shift", desc := "()I" } : Jvm.MethodName) prog_14_method_25_code (3 : Nat) (Option.some Jvm.ClassFile.FieldType.int)) ∈ AW := at9 (i := 11) rfl rfl
theorem q2002 : (Jvm.Cond.methodLink "MinestrataModel" (179 : Nat) ({ cls := "java/util/ArrayList", name := "iterator", desc := "()Ljava/util/Iterator;" } : Jvm.MethodName)) ∈ AW := at9 (i := 12) rfl rfl
theorem q2004 : (Jvm.Cond.methodLink "MinestrataModel" (183 : Nat) ({ cls := "java/util/Iterator", name := "hasNext", desc := "()Z" } : Jvm.MethodName)) ∈ AW := at9 (i := 14) rfl rfl
theorem q2007 : (Jvm.Cond.methodLink "MinestrataLaw" (196 : Nat) ({ cls := "MinestrataModel", name := "come", desc := "(I)I" } : Jvm.MethodName)) ∈ AW := at9 (i := 17) rfl rfl
theorem q2008 : (Jvm.Cond.instanceMethod ({ cls := "MinestrataModel", name := "come", desc := "(I)I" } : Jvm.MethodName)) ∈ AW := at9 (i := 18) rfl rfl
theorem q2009 : (Jvm.Cond.selects "MinestrataModel" ({ cls := "MinestrataModel", name := "come", desc := "(I)I" } : Jvm.MethodName) ({ cls := "MinestrataModel", name := "come", desc := "(I)I" } : Jvm.MethodName)) ∈ AW := at9 (i := 19) rfl rfl
theorem q2010 : (Jvm.Cond.code ({ cls := "MinestrataModel", name := "come", desc := "(I)I" } : Jvm.MethodName) prog_14_method_30_code (2 : Nat) (Option.some Jvm.ClassFile.FieldType.int)) ∈ AW := at9 (i := 20) rfl rfl
theorem q2074 : (Jvm.Cond.methodLink "MinestrataLaw" (199 : Nat) ({ cls := "MinestrataModel", name := "walk", desc := "(II)Z" } : Jvm.MethodName)) ∈ AW := at9 (i := 84) rfl rfl
theorem q2075 : (Jvm.Cond.instanceMethod ({ cls := "MinestrataModel", name := "walk", desc := "(II)Z" } : Jvm.MethodName)) ∈ AW := at9 (i := 85) rfl rfl
theorem q2076 : (Jvm.Cond.selects "MinestrataModel" ({ cls := "MinestrataModel", name := "walk", desc := "(II)Z" } : Jvm.MethodName) ({ cls := "MinestrataModel", name := "walk", desc := "(II)Z" } : Jvm.MethodName)) ∈ AW := at9 (i := 86) rfl rfl
theorem q2077 : (Jvm.Cond.code ({ cls := "MinestrataModel", name := "walk", desc := "(II)Z" } : Jvm.MethodName) prog_14_method_32_code (5 : Nat) (Option.some Jvm.ClassFile.FieldType.boolean)) ∈ AW := at9 (i := 87) rfl rfl
theorem q2078 : (Jvm.Cond.methodLink "MinestrataModel" (248 : Nat) ({ cls := "MinestrataModel", name := "isPerson", desc := "(I)Z" } : Jvm.MethodName)) ∈ AW := at9 (i := 88) rfl rfl
theorem q2080 : (Jvm.Cond.instanceMethod ({ cls := "MinestrataModel", name := "isPerson", desc := "(I)Z" } : Jvm.MethodName)) ∈ AW := at9 (i := 90) rfl rfl
theorem q2081 : (Jvm.Cond.code ({ cls := "MinestrataModel", name := "isPerson", desc := "(I)Z" } : Jvm.MethodName) prog_14_method_31_code (2 : Nat) (Option.some Jvm.ClassFile.FieldType.boolean)) ∈ AW := at9 (i := 91) rfl rfl
theorem q2086 : (Jvm.Cond.methodLink "MinestrataLaw" (202 : Nat) ({ cls := "MinestrataModel", name := "whereIs", desc := "(I)I" } : Jvm.MethodName)) ∈ AW := at9 (i := 96) rfl rfl
theorem q2087 : (Jvm.Cond.instanceMethod ({ cls := "MinestrataModel", name := "whereIs", desc := "(I)I" } : Jvm.MethodName)) ∈ AW := at9 (i := 97) rfl rfl
theorem q2088 : (Jvm.Cond.selects "MinestrataModel" ({ cls := "MinestrataModel", name := "whereIs", desc := "(I)I" } : Jvm.MethodName) ({ cls := "MinestrataModel", name := "whereIs", desc := "(I)I" } : Jvm.MethodName)) ∈ AW := at9 (i := 98) rfl rfl
theorem q2089 : (Jvm.Cond.code ({ cls := "MinestrataModel", name := "whereIs", desc := "(I)I" } : Jvm.MethodName) prog_14_method_33_code (2 : Nat) (Option.some Jvm.ClassFile.FieldType.int)) ∈ AW := at9 (i := 99) rfl rfl
theorem q2090 : (Jvm.Cond.methodLink "MinestrataLaw" (205 : Nat) ({ cls := "MinestrataModel", name := "isSafe", desc := "(I)Z" } : Jvm.MethodName)) ∈ AW := at9 (i := 100) rfl rfl
theorem q2091 : (Jvm.Cond.instanceMethod ({ cls := "MinestrataModel", name := "isSafe", desc := "(I)Z" } : Jvm.MethodName)) ∈ AW := at9 (i := 101) rfl rfl
theorem q2092 : (Jvm.Cond.selects "MinestrataModel" ({ cls := "MinestrataModel", name := "isSafe", desc := "(I)Z" } : Jvm.MethodName) ({ cls := "MinestrataModel", name := "isSafe", desc := "(I)Z" } : Jvm.MethodName)) ∈ AW := at9 (i := 102) rfl rfl
theorem q2093 : (Jvm.Cond.code ({ cls := "MinestrataModel", name := "isSafe", desc := "(I)Z" } : Jvm.MethodName) prog_14_method_34_code (2 : Nat) (Option.some Jvm.ClassFile.FieldType.boolean)) ∈ AW := at9 (i := 103) rfl rfl
theorem q2094 : (Jvm.Cond.methodLink "MinestrataLaw" (208 : Nat) ({ cls := "MinestrataModel", name := "isSafeAnew", desc := "(I)Z" } : Jvm.MethodName)) ∈ AW := at9 (i := 104) rfl rfl
theorem q2095 : (Jvm.Cond.instanceMethod ({ cls := "MinestrataModel", name := "isSafeAnew", desc := "(I)Z" } : Jvm.MethodName)) ∈ AW := at9 (i := 105) rfl rfl
theorem q2096 : (Jvm.Cond.selects "MinestrataModel" ({ cls := "MinestrataModel", name := "isSafeAnew", desc := "(I)Z" } : Jvm.MethodName) ({ cls := "MinestrataModel", name := "isSafeAnew", desc := "(I)Z" } : Jvm.MethodName)) ∈ AW := at9 (i := 106) rfl rfl
theorem q2097 : (Jvm.Cond.code ({ cls := "MinestrataModel", name := "isSafeAnew", desc := "(I)Z" } : Jvm.MethodName) prog_14_method_35_code (2 : Nat) (Option.some Jvm.ClassFile.FieldType.boolean)) ∈ AW := at9 (i := 107) rfl rfl
theorem q2098 : (Jvm.Cond.methodLink "MinestrataModel" (255 : Nat) ({ cls := "MinestrataModel", name := "isSafe", desc := "(I)Z" } : Jvm.MethodName)) ∈ AW := at9 (i := 108) rfl rfl
theorem q2099 : (Jvm.Cond.methodLink "MinestrataLaw" (211 : Nat) ({ cls := "MinestrataModel", name := "ways", desc := "(I)I" } : Jvm.MethodName)) ∈ AW := at9 (i := 109) rfl rfl
theorem q2100 : (Jvm.Cond.instanceMethod ({ cls := "MinestrataModel", name := "ways", desc := "(I)I" } : Jvm.MethodName)) ∈ AW := at9 (i := 110) rfl rfl
theorem q2101 : (Jvm.Cond.selects "MinestrataModel" ({ cls := "MinestrataModel", name := "ways", desc := "(I)I" } : Jvm.MethodName) ({ cls := "MinestrataModel", name := "ways", desc := "(I)I" } : Jvm.MethodName)) ∈ AW := at9 (i := 111) rfl rfl
theorem q2102 : (Jvm.Cond.code ({ cls := "MinestrataModel", name := "ways", desc := "(I)I" } : Jvm.MethodName) prog_14_method_36_code (2 : Nat) (Option.some Jvm.ClassFile.FieldType.int)) ∈ AW := at9 (i := 112) rfl rfl
theorem q2103 : (Jvm.Cond.methodLink "MinestrataLaw" (164 : Nat) ({ cls := "MinestrataModel", name := "step", desc := "(CII)C" } : Jvm.MethodName)) ∈ AW := at9 (i := 113) rfl rfl
theorem q2104 : (Jvm.Cond.instanceMethod ({ cls := "MinestrataModel", name := "step", desc := "(CII)C" } : Jvm.MethodName)) ∈ AW := at9 (i := 114) rfl rfl
theorem q2105 : (Jvm.Cond.selects "MinestrataModel" ({ cls := "MinestrataModel", name := "step", desc := "(CII)C" } : Jvm.MethodName) ({ cls := "MinestrataModel", name := "step", desc := "(CII)C" } : Jvm.MethodName)) ∈ AW := at9 (i := 115) rfl rfl
theorem q2106 : (Jvm.Cond.code ({ cls := "MinestrataModel", name := "step", desc := "(CII)C" } : Jvm.MethodName) prog_14_method_41_code (9 : Nat) (Option.some Jvm.ClassFile.FieldType.char)) ∈ AW := at9 (i := 116) rfl rfl
theorem q2107 : (Jvm.Cond.methodLink "MinestrataModel" (273 : Nat) ({ cls := "MinestrataModel", name := "isValue", desc := "(CI)Z" } : Jvm.MethodName)) ∈ AW := at9 (i := 117) rfl rfl
theorem q2108 : (Jvm.Cond.static ({ cls := "MinestrataModel", name := "isValue", desc := "(CI)Z" } : Jvm.MethodName)) ∈ AW := at9 (i := 118) rfl rfl
theorem q2109 : (Jvm.Cond.code ({ cls := "MinestrataModel", name := "isValue", desc := "(CI)Z" } : Jvm.MethodName) prog_14_method_37_code (2 : Nat) (Option.some Jvm.ClassFile.FieldType.boolean)) ∈ AW := at9 (i := 119) rfl rfl
theorem q2110 : (Jvm.Cond.methodLink "MinestrataModel" (277 : Nat) ({ cls := "MinestrataModel", name := "isThere", desc := "(CI)Z" } : Jvm.MethodName)) ∈ AW := at9 (i := 120) rfl rfl
theorem q2112 : (Jvm.Cond.instanceMethod ({ cls := "MinestrataModel", name := "isThere", desc := "(CI)Z" } : Jvm.MethodName)) ∈ AW := at9 (i := 122) rfl rfl
theorem q2113 : (Jvm.Cond.code ({ cls := "MinestrataModel", name := "isThere", desc := "(CI)Z" } : Jvm.MethodName) prog_14_method_38_code (3 : Nat) (Option.some Jvm.ClassFile.FieldType.boolean)) ∈ AW := at9 (i := 123) rfl rfl
theorem q2153 : (Jvm.Cond.methodLink "MinestrataLaw" (168 : Nat) ({ cls := "MinestrataModel", name := "refusedBy", desc := "()I" } : Jvm.MethodName)) ∈ AW := at9 (i := 163) rfl rfl
theorem q2154 : (Jvm.Cond.instanceMethod ({ cls := "MinestrataModel", name := "refusedBy", desc := "()I" } : Jvm.MethodName)) ∈ AW := at9 (i := 164) rfl rfl
theorem q2155 : (Jvm.Cond.selects "MinestrataModel" ({ cls := "MinestrataModel", name := "refusedBy", desc := "()I" } : Jvm.MethodName) ({ cls := "MinestrataModel", name := "refusedBy", desc := "()I" } : Jvm.MethodName)) ∈ AW := at9 (i := 165) rfl rfl
theorem q2156 : (Jvm.Cond.code ({ cls := "MinestrataModel", name := "refusedBy", desc := "()I" } : Jvm.MethodName) prog_14_method_45_code (1 : Nat) (Option.some Jvm.ClassFile.FieldType.int)) ∈ AW := at9 (i := 166) rfl rfl
theorem q2157 : (Jvm.Cond.methodLink "MinestrataLaw" (214 : Nat) ({ cls := "MinestrataModel", name := "tons", desc := "(I)I" } : Jvm.MethodName)) ∈ AW := at9 (i := 167) rfl rfl
theorem q2158 : (Jvm.Cond.instanceMethod ({ cls := "MinestrataModel", name := "tons", desc := "(I)I" } : Jvm.MethodName)) ∈ AW := at9 (i := 168) rfl rfl
theorem q2159 : (Jvm.Cond.selects "MinestrataModel" ({ cls := "MinestrataModel", name := "tons", desc := "(I)I" } : Jvm.MethodName) ({ cls := "MinestrataModel", name := "tons", desc := "(I)I" } : Jvm.MethodName)) ∈ AW := at9 (i := 169) rfl rfl
theorem q2160 : (Jvm.Cond.code ({ cls := "MinestrataModel", name := "tons", desc := "(I)I" } : Jvm.MethodName) prog_14_method_46_code (2 : Nat) (Option.some Jvm.ClassFile.FieldType.int)) ∈ AW := at9 (i := 170) rfl rfl
theorem q2161 : (Jvm.Cond.methodLink "MinestrataLaw" (217 : Nat) ({ cls := "MinestrataModel", name := "load", desc := "(I)I" } : Jvm.MethodName)) ∈ AW := at9 (i := 171) rfl rfl
theorem q2162 : (Jvm.Cond.instanceMethod ({ cls := "MinestrataModel", name := "load", desc := "(I)I" } : Jvm.MethodName)) ∈ AW := at9 (i := 172) rfl rfl
theorem q2163 : (Jvm.Cond.selects "MinestrataModel" ({ cls := "MinestrataModel", name := "load", desc := "(I)I" } : Jvm.MethodName) ({ cls := "MinestrataModel", name := "load", desc := "(I)I" } : Jvm.MethodName)) ∈ AW := at9 (i := 173) rfl rfl
theorem q2164 : (Jvm.Cond.code ({ cls := "MinestrataModel", name := "load", desc := "(I)I" } : Jvm.MethodName) prog_14_method_47_code (2 : Nat) (Option.some Jvm.ClassFile.FieldType.int)) ∈ AW := at9 (i := 174) rfl rfl
theorem q2165 : (Jvm.Cond.methodLink "MinestrataLaw" (220 : Nat) ({ cls := "MinestrataModel", name := "stateOf", desc := "(I)C" } : Jvm.MethodName)) ∈ AW := at9 (i := 175) rfl rfl
theorem q2166 : (Jvm.Cond.instanceMethod ({ cls := "MinestrataModel", name := "stateOf", desc := "(I)C" } : Jvm.MethodName)) ∈ AW := at9 (i := 176) rfl rfl
theorem q2167 : (Jvm.Cond.selects "MinestrataModel" ({ cls := "MinestrataModel", name := "stateOf", desc := "(I)C" } : Jvm.MethodName) ({ cls := "MinestrataModel", name := "stateOf", desc := "(I)C" } : Jvm.MethodName)) ∈ AW := at9 (i := 177) rfl rfl
theorem q2168 : (Jvm.Cond.code ({ cls := "MinestrataModel", name := "stateOf", desc := "(I)C" } : Jvm.MethodName) prog_14_method_48_code (2 : Nat) (Option.some Jvm.ClassFile.FieldType.char)) ∈ AW := at9 (i := 178) rfl rfl
theorem q2169 : (Jvm.Cond.methodLink "MinestrataLaw" (223 : Nat) ({ cls := "MinestrataModel", name := "pile", desc := "(I)I" } : Jvm.MethodName)) ∈ AW := at9 (i := 179) rfl rfl
theorem q2170 : (Jvm.Cond.instanceMethod ({ cls := "MinestrataModel", name := "pile", desc := "(I)I" } : Jvm.MethodName)) ∈ AW := at9 (i := 180) rfl rfl
theorem q2171 : (Jvm.Cond.selects "MinestrataModel" ({ cls := "MinestrataModel", name := "pile", desc := "(I)I" } : Jvm.MethodName) ({ cls := "MinestrataModel", name := "pile", desc := "(I)I" } : Jvm.MethodName)) ∈ AW := at9 (i := 181) rfl rfl
theorem q2172 : (Jvm.Cond.code ({ cls := "MinestrataModel", name := "pile", desc := "(I)I" } : Jvm.MethodName) prog_14_method_49_code (2 : Nat) (Option.some Jvm.ClassFile.FieldType.int)) ∈ AW := at9 (i := 182) rfl rfl
theorem q2173 : (Jvm.Cond.methodLink "MinestrataLaw" (227 : Nat) ({ cls := "MinestrataModel", name := "deliver", desc := "(III)I" } : Jvm.MethodName)) ∈ AW := at9 (i := 183) rfl rfl
theorem q2174 : (Jvm.Cond.instanceMethod ({ cls := "MinestrataModel", name := "deliver", desc := "(III)I" } : Jvm.MethodName)) ∈ AW := at9 (i := 184) rfl rfl
theorem q2175 : (Jvm.Cond.selects "MinestrataModel" ({ cls := "MinestrataModel", name := "deliver", desc := "(III)I" } : Jvm.MethodName) ({ cls := "MinestrataModel", name := "deliver", desc := "(III)I" } : Jvm.MethodName)) ∈ AW := at9 (i := 185) rfl rfl
theorem q2176 : (Jvm.Cond.code ({ cls := "MinestrataModel", name := "deliver", desc := "(III)I" } : Jvm.MethodName) prog_14_method_53_code (19 : Nat) (Option.some Jvm.ClassFile.FieldType.int)) ∈ AW := at9 (i := 186) rfl rfl
theorem q2201 : (Jvm.Cond.methodLink "MinestrataLaw" (230 : Nat) ({ cls := "MinestrataModel", name := "delivered", desc := "(I)I" } : Jvm.MethodName)) ∈ AW := at9 (i := 211) rfl rfl
theorem q2202 : (Jvm.Cond.instanceMethod ({ cls := "MinestrataModel", name := "delivered", desc := "(I)I" } : Jvm.MethodName)) ∈ AW := at9 (i := 212) rfl rfl
theorem q2203 : (Jvm.Cond.selects "MinestrataModel" ({ cls := "MinestrataModel", name := "delivered", desc := "(I)I" } : Jvm.MethodName) ({ cls := "MinestrataModel", name := "delivered", desc := "(I)I" } : Jvm.MethodName)) ∈ AW := at9 (i := 213) rfl rfl
theorem q2204 : (Jvm.Cond.code ({ cls := "MinestrataModel", name := "delivered", desc := "(I)I" } : Jvm.MethodName) prog_14_method_55_code (2 : Nat) (Option.some Jvm.ClassFile.FieldType.int)) ∈ AW := at9 (i := 214) rfl rfl
theorem q2205 : (Jvm.Cond.methodLink "MinestrataLaw" (233 : Nat) ({ cls := "MinestrataModel", name := "isBlocked", desc := "(I)Z" } : Jvm.MethodName)) ∈ AW := at9 (i := 215) rfl rfl
theorem q2206 : (Jvm.Cond.instanceMethod ({ cls := "MinestrataModel", name := "isBlocked", desc := "(I)Z" } : Jvm.MethodName)) ∈ AW := at9 (i := 216) rfl rfl
theorem q2207 : (Jvm.Cond.selects "MinestrataModel" ({ cls := "MinestrataModel", name := "isBlocked", desc := "(I)Z" } : Jvm.MethodName) ({ cls := "MinestrataModel", name := "isBlocked", desc := "(I)Z" } : Jvm.MethodName)) ∈ AW := at9 (i := 217) rfl rfl
theorem q2208 : (Jvm.Cond.code ({ cls := "MinestrataModel", name := "isBlocked", desc := "(I)Z" } : Jvm.MethodName) prog_14_method_56_code (2 : Nat) (Option.some Jvm.ClassFile.FieldType.boolean)) ∈ AW := at9 (i := 218) rfl rfl
theorem q2209 : (Jvm.Cond.methodLink "MinestrataLaw" (237 : Nat) ({ cls := "MinestrataModel", name := "refused", desc := "()I" } : Jvm.MethodName)) ∈ AW := at9 (i := 219) rfl rfl
theorem q2210 : (Jvm.Cond.instanceMethod ({ cls := "MinestrataModel", name := "refused", desc := "()I" } : Jvm.MethodName)) ∈ AW := at9 (i := 220) rfl rfl
theorem q2211 : (Jvm.Cond.selects "MinestrataModel" ({ cls := "MinestrataModel", name := "refused", desc := "()I" } : Jvm.MethodName) ({ cls := "MinestrataModel", name := "refused", desc := "()I" } : Jvm.MethodName)) ∈ AW := at9 (i := 221) rfl rfl
theorem q2212 : (Jvm.Cond.code ({ cls := "MinestrataModel", name := "refused", desc := "()I" } : Jvm.MethodName) prog_14_method_57_code (1 : Nat) (Option.some Jvm.ClassFile.FieldType.int)) ∈ AW := at9 (i := 222) rfl rfl
theorem q2213 : (Jvm.Cond.methodLink "MinestrataLaw" (241 : Nat) ({ cls := "MinestrataModel", name := "people", desc := "()I" } : Jvm.MethodName)) ∈ AW := at9 (i := 223) rfl rfl
theorem q2214 : (Jvm.Cond.instanceMethod ({ cls := "MinestrataModel", name := "people", desc := "()I" } : Jvm.MethodName)) ∈ AW := at9 (i := 224) rfl rfl
theorem q2215 : (Jvm.Cond.selects "MinestrataModel" ({ cls := "MinestrataModel", name := "people", desc := "()I" } : Jvm.MethodName) ({ cls := "MinestrataModel", name := "people", desc := "()I" } : Jvm.MethodName)) ∈ AW := at9 (i := 225) rfl rfl
theorem q2216 : (Jvm.Cond.code ({ cls := "MinestrataModel", name := "people", desc := "()I" } : Jvm.MethodName) prog_14_method_58_code (1 : Nat) (Option.some Jvm.ClassFile.FieldType.int)) ∈ AW := at9 (i := 226) rfl rfl
theorem q2217 : (Jvm.Cond.methodLink "MinestrataLaw" (246 : Nat) ({ cls := "MinestrataModel", name := "penalties", desc := "()J" } : Jvm.MethodName)) ∈ AW := at9 (i := 227) rfl rfl
theorem q2218 : (Jvm.Cond.instanceMethod ({ cls := "MinestrataModel", name := "penalties", desc := "()J" } : Jvm.MethodName)) ∈ AW := at9 (i := 228) rfl rfl
theorem q2219 : (Jvm.Cond.selects "MinestrataModel" ({ cls := "MinestrataModel", name := "penalties", desc := "()J" } : Jvm.MethodName) ({ cls := "MinestrataModel", name := "penalties", desc := "()J" } : Jvm.MethodName)) ∈ AW := at9 (i := 229) rfl rfl
theorem q2220 : (Jvm.Cond.code ({ cls := "MinestrataModel", name := "penalties", desc := "()J" } : Jvm.MethodName) prog_14_method_59_code (1 : Nat) (Option.some Jvm.ClassFile.FieldType.long)) ∈ AW := at9 (i := 230) rfl rfl
theorem q2221 : (Jvm.Cond.methodLink "MinestrataLaw" (250 : Nat) ({ cls := "MinestrataModel", name := "goodShare", desc := "()F" } : Jvm.MethodName)) ∈ AW := at9 (i := 231) rfl rfl
theorem q2222 : (Jvm.Cond.instanceMethod ({ cls := "MinestrataModel", name := "goodShare", desc := "()F" } : Jvm.MethodName)) ∈ AW := at9 (i := 232) rfl rfl
theorem q2223 : (Jvm.Cond.selects "MinestrataModel" ({ cls := "MinestrataModel", name := "goodShare", desc := "()F" } : Jvm.MethodName) ({ cls := "MinestrataModel", name := "goodShare", desc := "()F" } : Jvm.MethodName)) ∈ AW := at9 (i := 233) rfl rfl
theorem q2224 : (Jvm.Cond.code ({ cls := "MinestrataModel", name := "goodShare", desc := "()F" } : Jvm.MethodName) prog_14_method_60_code (3 : Nat) (Option.some Jvm.ClassFile.FieldType.float)) ∈ AW := at9 (i := 234) rfl rfl
theorem q2225 : (Jvm.Cond.methodLink "MinestrataLaw" (253 : Nat) ({ cls := "MinestrataModel", name := "meanLoad", desc := "()D" } : Jvm.MethodName)) ∈ AW := at9 (i := 235) rfl rfl
theorem q2226 : (Jvm.Cond.instanceMethod ({ cls := "MinestrataModel", name := "meanLoad", desc := "()D" } : Jvm.MethodName)) ∈ AW := at9 (i := 236) rfl rfl
theorem q2227 : (Jvm.Cond.selects "MinestrataModel" ({ cls := "MinestrataModel", name := "meanLoad", desc := "()D" } : Jvm.MethodName) ({ cls := "MinestrataModel", name := "meanLoad", desc := "()D" } : Jvm.MethodName)) ∈ AW := at9 (i := 237) rfl rfl
theorem q2228 : (Jvm.Cond.code ({ cls := "MinestrataModel", name := "meanLoad", desc := "()D" } : Jvm.MethodName) prog_14_method_61_code (5 : Nat) (Option.some Jvm.ClassFile.FieldType.double)) ∈ AW := at9 (i := 238) rfl rfl
theorem q2229 : (Jvm.Cond.methodLink "MinestrataLaw" (258 : Nat) ({ cls := "MinestrataModel", name := "isSound", desc := "()Z" } : Jvm.MethodName)) ∈ AW := at9 (i := 239) rfl rfl
theorem q2230 : (Jvm.Cond.instanceMethod ({ cls := "MinestrataModel", name := "isSound", desc := "()Z" } : Jvm.MethodName)) ∈ AW := at10 (i := 0) rfl rfl
theorem q2231 : (Jvm.Cond.selects "MinestrataModel" ({ cls := "MinestrataModel", name := "isSound", desc := "()Z" } : Jvm.MethodName) ({ cls := "MinestrataModel", name := "isSound", desc := "()Z" } : Jvm.MethodName)) ∈ AW := at10 (i := 1) rfl rfl
theorem q2232 : (Jvm.Cond.code ({ cls := "MinestrataModel", name := "isSound", desc := "()Z" } : Jvm.MethodName) prog_14_method_62_code (1 : Nat) (Option.some Jvm.ClassFile.FieldType.boolean)) ∈ AW := at10 (i := 2) rfl rfl
theorem q2233 : (Jvm.Cond.arrayClass Jvm.ClassFile.FieldType.double) ∈ AW := at10 (i := 3) rfl rfl
theorem u122 : (Jvm.Cond.methodLinkNest "Minestrata" (9 : Nat) ({ cls := "Minestrata$Net", name := "<init>", desc := "()V" } : Jvm.MethodName) "Minestrata") ∈ NW := bt1 (i := 52) rfl rfl
theorem u204 : (Jvm.Cond.methodLinkNest "Minestrata" (21 : Nat) ({ cls := "Minestrata$Stopes", name := "<init>", desc := "()V" } : Jvm.MethodName) "Minestrata") ∈ NW := bt1 (i := 134) rfl rfl
theorem u252 : (Jvm.Cond.methodLinkNest "Minestrata" (31 : Nat) ({ cls := "Minestrata$Air", name := "<init>", desc := "()V" } : Jvm.MethodName) "Minestrata") ∈ NW := bt1 (i := 182) rfl rfl
theorem u258 : (Jvm.Cond.methodLinkNest "Minestrata$Air" (11 : Nat) ({ cls := "Minestrata$Radix", name := "<init>", desc := "()V" } : Jvm.MethodName) "Minestrata") ∈ NW := bt1 (i := 188) rfl rfl
theorem u283 : (Jvm.Cond.methodLinkNest "Minestrata$Air" (42 : Nat) ({ cls := "Minestrata$Groups", name := "<init>", desc := "()V" } : Jvm.MethodName) "Minestrata") ∈ NW := bt1 (i := 213) rfl rfl
theorem u304 : (Jvm.Cond.methodLinkNest "Minestrata$Air" (49 : Nat) ({ cls := "Minestrata$Equations", name := "<init>", desc := "()V" } : Jvm.MethodName) "Minestrata") ∈ NW := bt1 (i := 234) rfl rfl
theorem u321 : (Jvm.Cond.methodLinkNest "Minestrata$Air" (56 : Nat) ({ cls := "Minestrata$Fraction", name := "<init>", desc := "()V" } : Jvm.MethodName) "Minestrata") ∈ NW := bt2 (i := 11) rfl rfl
theorem u410 : (Jvm.Cond.methodLinkNest "Minestrata" (38 : Nat) ({ cls := "Minestrata$Gas", name := "<init>", desc := "()V" } : Jvm.MethodName) "Minestrata") ∈ NW := bt2 (i := 100) rfl rfl
theorem u415 : (Jvm.Cond.methodLinkNest "Minestrata$Gas" (36 : Nat) ({ cls := "Minestrata$Groups", name := "<init>", desc := "()V" } : Jvm.MethodName) "Minestrata") ∈ NW := bt2 (i := 105) rfl rfl
theorem u417 : (Jvm.Cond.methodLinkNest "Minestrata$Gas" (43 : Nat) ({ cls := "Minestrata$Equations", name := "<init>", desc := "()V" } : Jvm.MethodName) "Minestrata") ∈ NW := bt2 (i := 107) rfl rfl
theorem u419 : (Jvm.Cond.methodLinkNest "Minestrata$Gas" (50 : Nat) ({ cls := "Minestrata$Radix", name := "<init>", desc := "()V" } : Jvm.MethodName) "Minestrata") ∈ NW := bt2 (i := 109) rfl rfl
theorem u421 : (Jvm.Cond.methodLinkNest "Minestrata$Gas" (57 : Nat) ({ cls := "Minestrata$Fraction", name := "<init>", desc := "()V" } : Jvm.MethodName) "Minestrata") ∈ NW := bt2 (i := 111) rfl rfl
theorem u467 : (Jvm.Cond.methodLinkNest "Minestrata" (45 : Nat) ({ cls := "Minestrata$Sensors", name := "<init>", desc := "()V" } : Jvm.MethodName) "Minestrata") ∈ NW := bt2 (i := 157) rfl rfl
theorem u485 : (Jvm.Cond.methodLinkNest "Minestrata" (52 : Nat) ({ cls := "Minestrata$Escape", name := "<init>", desc := "()V" } : Jvm.MethodName) "Minestrata") ∈ NW := bt2 (i := 175) rfl rfl
theorem u490 : (Jvm.Cond.methodLinkNest "Minestrata$Escape" (11 : Nat) ({ cls := "Minestrata$Groups", name := "<init>", desc := "()V" } : Jvm.MethodName) "Minestrata") ∈ NW := bt2 (i := 180) rfl rfl
theorem u1412 : (Jvm.Cond.fieldLinkNest "java/util/ArrayList$Itr" (28 : Nat) "java/util/ArrayList" "size" "I" "java/util/ArrayList") ∈ NW := bt6 (i := 142) rfl rfl
theorem u1428 : (Jvm.Cond.fieldLinkNest "MinestrataModel$Air" (65 : Nat) "MinestrataModel" "junctions" "I" "MinestrataModel") ∈ NW := bt6 (i := 158) rfl rfl
theorem u1446 : (Jvm.Cond.fieldLinkNest "MinestrataModel$Air" (68 : Nat) "MinestrataModel" "roads" "Ljava/util/ArrayList;" "MinestrataModel") ∈ NW := bt6 (i := 176) rfl rfl
theorem u1867 : (Jvm.Cond.methodLinkNest "MinestrataModel$Air" (134 : Nat) ({ cls := "MinestrataModel", name := "solves", desc := "([[LMinestrataModel$Big;)V" } : Jvm.MethodName) "MinestrataModel") ∈ NW := bt8 (i := 117) rfl rfl
theorem x819 : (Jvm.Cond.castable "java/lang/IllegalArgumentException" "java/lang/IllegalArgumentException") ∈ XW := ct4 (i := 29) rfl rfl
theorem x950 : (Jvm.Cond.castable "java/lang/IndexOutOfBoundsException" "java/lang/IndexOutOfBoundsException") ∈ XW := ct4 (i := 160) rfl rfl
theorem x1025 : (Jvm.Cond.castable "java/util/NoSuchElementException" "java/util/NoSuchElementException") ∈ XW := ct4 (i := 235) rfl rfl
theorem x1071 : (Jvm.Cond.castable "java/lang/UnsupportedOperationException" "java/lang/UnsupportedOperationException") ∈ XW := ct5 (i := 41) rfl rfl
theorem x1371 : (Jvm.Cond.castable "java/lang/ArithmeticException" "java/lang/ArithmeticException") ∈ XW := ct6 (i := 101) rfl rfl
abbrev hat0p : List Nat := [86, 839, 848, 856, 859, 861, 840, 841, 118, 119, 842, 847, 857, 874, 829, 875, 831, 876, 833, 843, 845, 835, 863, 864, 865, 866, 820, 866, 867, 868, 869, 822, 869, 870, 871, 840, 824, 862, 818, 819, 826, 827, 828, 830, 832, 834, 838, 837, 836]
theorem hat0a : vx_at0 "Minestrata" 86 "java/lang/IllegalArgumentException" ["java/lang/RuntimeException", "java/lang/Exception"] = hat0p.filterMap (fun i => lw_tbl[i]?) := by decide +kernel
theorem hat0 : (vx_at0 "Minestrata" 86 "java/lang/IllegalArgumentException" ["java/lang/RuntimeException", "java/lang/Exception"]).all (fun w => goodWord w || w.faceAtom) = true := by decide +kernel
theorem hat0g : (Cond.classLink "Minestrata" 84 "java/lang/IllegalArgumentException" :: Cond.initialized "java/lang/IllegalArgumentException" :: vx_at0 "Minestrata" 86 "java/lang/IllegalArgumentException" ["java/lang/RuntimeException", "java/lang/Exception"]).all vx_ot = true := by decide +kernel
abbrev hat1p : List Nat := [86, 839, 848, 856, 859, 861, 840, 841, 118, 119, 842, 847, 857, 874, 829, 875, 831, 876, 833, 843, 845, 835, 958, 959, 960, 866, 820, 866, 867, 868, 869, 822, 869, 870, 871, 840, 824, 957, 949, 950, 951, 853, 952, 953, 954, 955, 838, 837, 956]
theorem hat1a : vx_at0 "Minestrata" 103 "java/lang/IndexOutOfBoundsException" ["java/lang/RuntimeException", "java/lang/Exception"] = hat1p.filterMap (fun i => lw_tbl[i]?) := by decide +kernel
theorem hat1 : (vx_at0 "Minestrata" 103 "java/lang/IndexOutOfBoundsException" ["java/lang/RuntimeException", "java/lang/Exception"]).all (fun w => goodWord w || w.faceAtom) = true := by decide +kernel
theorem hat1g : (Cond.classLink "Minestrata" 101 "java/lang/IndexOutOfBoundsException" :: Cond.initialized "java/lang/IndexOutOfBoundsException" :: vx_at0 "Minestrata" 103 "java/lang/IndexOutOfBoundsException" ["java/lang/RuntimeException", "java/lang/Exception"]).all vx_ot = true := by decide +kernel
abbrev hat2p : List Nat := [86, 839, 848, 856, 859, 861, 840, 841, 118, 119, 842, 847, 857, 874, 829, 875, 831, 876, 833, 843, 845, 835, 1033, 1034, 1035, 866, 820, 866, 867, 868, 869, 822, 869, 870, 871, 840, 824, 1032, 1024, 1025, 1026, 855, 1027, 1028, 1029, 1030, 838, 837, 1031]
theorem hat2a : vx_at0 "Minestrata" 138 "java/util/NoSuchElementException" ["java/lang/RuntimeException", "java/lang/Exception"] = hat2p.filterMap (fun i => lw_tbl[i]?) := by decide +kernel
theorem hat2 : (vx_at0 "Minestrata" 138 "java/util/NoSuchElementException" ["java/lang/RuntimeException", "java/lang/Exception"]).all (fun w => goodWord w || w.faceAtom) = true := by decide +kernel
theorem hat2g : (Cond.classLink "Minestrata" 136 "java/util/NoSuchElementException" :: Cond.initialized "java/util/NoSuchElementException" :: vx_at0 "Minestrata" 138 "java/util/NoSuchElementException" ["java/lang/RuntimeException", "java/lang/Exception"]).all vx_ot = true := by decide +kernel
abbrev hat3p : List Nat := [86, 839, 848, 856, 859, 861, 840, 841, 118, 119, 842, 847, 857, 874, 829, 875, 831, 876, 833, 843, 845, 835, 1079, 1080, 1081, 866, 820, 866, 867, 868, 869, 822, 869, 870, 871, 840, 824, 1078, 1070, 1071, 1072, 854, 1073, 1074, 1075, 1076, 838, 837, 1077]
theorem hat3a : vx_at0 "Minestrata" 165 "java/lang/UnsupportedOperationException" ["java/lang/RuntimeException", "java/lang/Exception"] = hat3p.filterMap (fun i => lw_tbl[i]?) := by decide +kernel
theorem hat3 : (vx_at0 "Minestrata" 165 "java/lang/UnsupportedOperationException" ["java/lang/RuntimeException", "java/lang/Exception"]).all (fun w => goodWord w || w.faceAtom) = true := by decide +kernel
theorem hat3g : (Cond.classLink "Minestrata" 163 "java/lang/UnsupportedOperationException" :: Cond.initialized "java/lang/UnsupportedOperationException" :: vx_at0 "Minestrata" 165 "java/lang/UnsupportedOperationException" ["java/lang/RuntimeException", "java/lang/Exception"]).all vx_ot = true := by decide +kernel
abbrev hat4p : List Nat := [86, 839, 848, 856, 859, 861, 840, 841, 118, 119, 842, 847, 857, 874, 829, 875, 831, 876, 833, 843, 845, 835, 1379, 1380, 1381, 866, 820, 866, 867, 868, 869, 822, 869, 870, 871, 840, 824, 1378, 1360, 1371, 1372, 850, 1366, 1367, 1369, 1365, 838, 837, 1364]
theorem hat4a : vx_at0 "Minestrata" 265 "java/lang/ArithmeticException" ["java/lang/RuntimeException", "java/lang/Exception"] = hat4p.filterMap (fun i => lw_tbl[i]?) := by decide +kernel
theorem hat4 : (vx_at0 "Minestrata" 265 "java/lang/ArithmeticException" ["java/lang/RuntimeException", "java/lang/Exception"]).all (fun w => goodWord w || w.faceAtom) = true := by decide +kernel
theorem hat4g : (Cond.classLink "Minestrata" 263 "java/lang/ArithmeticException" :: Cond.initialized "java/lang/ArithmeticException" :: vx_at0 "Minestrata" 265 "java/lang/ArithmeticException" ["java/lang/RuntimeException", "java/lang/Exception"]).all vx_ot = true := by decide +kernel
theorem dfX11 : ∀ j, j < 18 → defaultValue (tyX11 j) = vp_V [.null, .null, .null, .null, .null, .null, .null, .null, .null, .null, .null, .int 0, .int 0, .int 0, .int 0, .int 0, .long 0, .int 0] j := fun j hj => match j, hj with
  | 0, _ => rfl
  | 1, _ => rfl
  | 2, _ => rfl
  | 3, _ => rfl
  | 4, _ => rfl
  | 5, _ => rfl
  | 6, _ => rfl
  | 7, _ => rfl
  | 8, _ => rfl
  | 9, _ => rfl
  | 10, _ => rfl
  | 11, _ => rfl
  | 12, _ => rfl
  | 13, _ => rfl
  | 14, _ => rfl
  | 15, _ => rfl
  | 16, _ => rfl
  | 17, _ => rfl
  | k9 + 18, h9 => absurd h9 (by omega)
theorem dfX0 : ∀ j, j < 16 → defaultValue (tyX0 j) = vp_V [.null, .null, .null, .null, .null, .null, .int 0, .null, .null, .null, .null, .null, .null, .null, .int 0, .int 0] j := fun j hj => match j, hj with
  | 0, _ => rfl
  | 1, _ => rfl
  | 2, _ => rfl
  | 3, _ => rfl
  | 4, _ => rfl
  | 5, _ => rfl
  | 6, _ => rfl
  | 7, _ => rfl
  | 8, _ => rfl
  | 9, _ => rfl
  | 10, _ => rfl
  | 11, _ => rfl
  | 12, _ => rfl
  | 13, _ => rfl
  | 14, _ => rfl
  | 15, _ => rfl
  | k9 + 16, h9 => absurd h9 (by omega)
theorem dfX2 : ∀ j, j < 2 → defaultValue (tyX2 j) = vp_V [.null, .long 0] j := fun j hj => match j, hj with
  | 0, _ => rfl
  | 1, _ => rfl
  | k9 + 2, h9 => absurd h9 (by omega)
theorem dfX3 : ∀ j, j < 4 → defaultValue (tyX3 j) = vp_V [.null, .null, .null, .null] j := fun j hj => match j, hj with
  | 0, _ => rfl
  | 1, _ => rfl
  | 2, _ => rfl
  | 3, _ => rfl
  | k9 + 4, h9 => absurd h9 (by omega)
theorem dfX4 : ∀ j, j < 6 → defaultValue (tyX4 j) = vp_V [.null, .null, .int 0, .int 0, .null, .null] j := fun j hj => match j, hj with
  | 0, _ => rfl
  | 1, _ => rfl
  | 2, _ => rfl
  | 3, _ => rfl
  | 4, _ => rfl
  | 5, _ => rfl
  | k9 + 6, h9 => absurd h9 (by omega)
theorem dfX5 : ∀ j, j < 13 → defaultValue (tyX5 j) = vp_V [.null, .null, .null, .null, .null, .null, .null, .null, .null, .null, .null, .null, .int 0] j := fun j hj => match j, hj with
  | 0, _ => rfl
  | 1, _ => rfl
  | 2, _ => rfl
  | 3, _ => rfl
  | 4, _ => rfl
  | 5, _ => rfl
  | 6, _ => rfl
  | 7, _ => rfl
  | 8, _ => rfl
  | 9, _ => rfl
  | 10, _ => rfl
  | 11, _ => rfl
  | 12, _ => rfl
  | k9 + 13, h9 => absurd h9 (by omega)
theorem dfX6 : ∀ j, j < 3 → defaultValue (tyX6 j) = vp_V [.null, .null, .null] j := fun j hj => match j, hj with
  | 0, _ => rfl
  | 1, _ => rfl
  | 2, _ => rfl
  | k9 + 3, h9 => absurd h9 (by omega)
theorem dfX7 : ∀ j, j < 13 → defaultValue (tyX7 j) = vp_V [.int 0, .null, .null, .null, .null, .int 0, .null, .null, .null, .null, .null, .null, .null] j := fun j hj => match j, hj with
  | 0, _ => rfl
  | 1, _ => rfl
  | 2, _ => rfl
  | 3, _ => rfl
  | 4, _ => rfl
  | 5, _ => rfl
  | 6, _ => rfl
  | 7, _ => rfl
  | 8, _ => rfl
  | 9, _ => rfl
  | 10, _ => rfl
  | 11, _ => rfl
  | 12, _ => rfl
  | k9 + 13, h9 => absurd h9 (by omega)
theorem dfX8 : ∀ j, j < 3 → defaultValue (tyX8 j) = vp_V [.int 0, .null, .null] j := fun j hj => match j, hj with
  | 0, _ => rfl
  | 1, _ => rfl
  | 2, _ => rfl
  | k9 + 3, h9 => absurd h9 (by omega)
theorem dfX9 : ∀ j, j < 3 → defaultValue (tyX9 j) = vp_V [.null, .null, .null] j := fun j hj => match j, hj with
  | 0, _ => rfl
  | 1, _ => rfl
  | 2, _ => rfl
  | k9 + 3, h9 => absurd h9 (by omega)
theorem dfX10 : ∀ j, j < 10 → defaultValue (tyX10 j) = vp_V [.int 0, .null, .null, .null, .null, .null, .null, .null, .null, .null] j := fun j hj => match j, hj with
  | 0, _ => rfl
  | 1, _ => rfl
  | 2, _ => rfl
  | 3, _ => rfl
  | 4, _ => rfl
  | 5, _ => rfl
  | 6, _ => rfl
  | 7, _ => rfl
  | 8, _ => rfl
  | 9, _ => rfl
  | k9 + 10, h9 => absurd h9 (by omega)
theorem dfX16 : ∀ j, j < 20 → defaultValue (tyX16 j) = vp_V [.int 0, .int 0, .int 0, .int 0, .int 0, .null, .null, .null, .null, .null, .null, .null, .null, .null, .null, .null, .null, .int 0, .null, .long 0] j := fun j hj => match j, hj with
  | 0, _ => rfl
  | 1, _ => rfl
  | 2, _ => rfl
  | 3, _ => rfl
  | 4, _ => rfl
  | 5, _ => rfl
  | 6, _ => rfl
  | 7, _ => rfl
  | 8, _ => rfl
  | 9, _ => rfl
  | 10, _ => rfl
  | 11, _ => rfl
  | 12, _ => rfl
  | 13, _ => rfl
  | 14, _ => rfl
  | 15, _ => rfl
  | 16, _ => rfl
  | 17, _ => rfl
  | 18, _ => rfl
  | 19, _ => rfl
  | k9 + 20, h9 => absurd h9 (by omega)
theorem dfX12 : ∀ j, j < 7 → defaultValue (tyX12 j) = vp_V [.null, .null, .null, .null, .null, .null, .null] j := fun j hj => match j, hj with
  | 0, _ => rfl
  | 1, _ => rfl
  | 2, _ => rfl
  | 3, _ => rfl
  | 4, _ => rfl
  | 5, _ => rfl
  | 6, _ => rfl
  | k9 + 7, h9 => absurd h9 (by omega)
theorem dfX13 : ∀ j, j < 2 → defaultValue (tyX13 j) = vp_V [.null, .int 0] j := fun j hj => match j, hj with
  | 0, _ => rfl
  | 1, _ => rfl
  | k9 + 2, h9 => absurd h9 (by omega)
theorem dfJx4a65c : ∀ j, j < 3 → defaultValue (tyJx4a65c j) = vp_V [.int 0, .null, .int 0] j := fun j hj => match j, hj with
  | 0, _ => rfl
  | 1, _ => rfl
  | 2, _ => rfl
  | k9 + 3, h9 => absurd h9 (by omega)
theorem dfJx35411 : ∀ j, j < 4 → defaultValue (tyJx35411 j) = vp_V [.int 0, .int 0, .int 0, .null] j := fun j hj => match j, hj with
  | 0, _ => rfl
  | 1, _ => rfl
  | 2, _ => rfl
  | 3, _ => rfl
  | k9 + 4, h9 => absurd h9 (by omega)
abbrev Y0 : MethodName := ⟨"Minestrata", "<init>", "()V"⟩
abbrev Y1 : MethodName := ⟨"Minestrata$Net", "<init>", "()V"⟩
abbrev Y2 : MethodName := ⟨"Minestrata$Stopes", "<init>", "()V"⟩
abbrev Y3 : MethodName := ⟨"Minestrata$Air", "<init>", "()V"⟩
abbrev Y4 : MethodName := ⟨"Minestrata$Radix", "<init>", "()V"⟩
abbrev Y5 : MethodName := ⟨"Minestrata$Groups", "<init>", "()V"⟩
abbrev Y6 : MethodName := ⟨"Minestrata$Equations", "<init>", "()V"⟩
abbrev Y7 : MethodName := ⟨"Minestrata$Fraction", "<init>", "()V"⟩
abbrev Y8 : MethodName := ⟨"Minestrata$Gas", "<init>", "()V"⟩
abbrev Y9 : MethodName := ⟨"Minestrata$Sensors", "<init>", "()V"⟩
abbrev Y10 : MethodName := ⟨"Minestrata$Escape", "<init>", "()V"⟩
abbrev Y11 : MethodName := ⟨"MinestrataModel", "<init>", "()V"⟩
abbrev Y12 : MethodName := ⟨"java/util/ArrayList", "<init>", "()V"⟩
abbrev Y13 : MethodName := ⟨"java/util/AbstractList", "<init>", "()V"⟩
abbrev Y14 : MethodName := ⟨"java/util/AbstractCollection", "<init>", "()V"⟩
abbrev Y15 : MethodName := ⟨"MinestrataLaw", "addJunction", "(LMinestrata;ZI[J)I"⟩
abbrev Y16 : MethodName := ⟨"Minestrata", "addJunction", "(ZI)I"⟩
abbrev Y17 : MethodName := ⟨"Minestrata$Net", "putJunction", "(ZI)I"⟩
abbrev Y18 : MethodName := ⟨"MinestrataModel", "addJunction", "(ZI)I"⟩
abbrev Y19 : MethodName := ⟨"MinestrataModel", "tells", "(I)I"⟩
abbrev Y20 : MethodName := ⟨"MinestrataModel", "thrown", "()I"⟩
abbrev Y21 : MethodName := ⟨"Minestrata", "isWithin", "(III)Z"⟩
abbrev Y22 : MethodName := ⟨"MinestrataModel", "in", "(III)Z"⟩
abbrev Y23 : MethodName := ⟨"MinestrataModel", "fails", "(I)I"⟩
abbrev Y24 : MethodName := ⟨"MinestrataLaw", "addRoad", "(LMinestrata;IIIZ[J)I"⟩
abbrev Y25 : MethodName := ⟨"Minestrata", "addRoad", "(IIIZ)I"⟩
abbrev Y26 : MethodName := ⟨"Minestrata$Net", "hasJunction", "(I)Z"⟩
abbrev Y27 : MethodName := ⟨"MinestrataModel", "addRoad", "(IIIZ)I"⟩
abbrev Y28 : MethodName := ⟨"MinestrataModel", "isJunction", "(I)Z"⟩
abbrev Y29 : MethodName := ⟨"MinestrataLaw", "addStope", "(LMinestrata;IIII[J)I"⟩
abbrev Y30 : MethodName := ⟨"Minestrata", "addStope", "(IIII)I"⟩
abbrev Y31 : MethodName := ⟨"MinestrataModel", "addStope", "(IIII)I"⟩
abbrev Y32 : MethodName := ⟨"MinestrataLaw", "join", "(LMinestrata;II[J)I"⟩
abbrev Y33 : MethodName := ⟨"Minestrata", "join", "(II)Z"⟩
abbrev Y34 : MethodName := ⟨"Minestrata$Stopes", "has", "(I)Z"⟩
abbrev Y35 : MethodName := ⟨"MinestrataModel", "join", "(II)Z"⟩
abbrev Y36 : MethodName := ⟨"MinestrataModel", "isStope", "(I)Z"⟩
abbrev Y37 : MethodName := ⟨"java/util/ArrayList", "size", "()I"⟩
abbrev Y38 : MethodName := ⟨"MinestrataLaw", "setLimit", "(LMinestrata;I[J)I"⟩
abbrev Y39 : MethodName := ⟨"Minestrata", "setLimit", "(I)I"⟩
abbrev Y40 : MethodName := ⟨"MinestrataModel", "setLimit", "(I)I"⟩
abbrev Y41 : MethodName := ⟨"MinestrataLaw", "setSensor", "(LMinestrata;II[J)I"⟩
abbrev Y42 : MethodName := ⟨"Minestrata", "setSensor", "(II)Z"⟩
abbrev Y43 : MethodName := ⟨"MinestrataModel", "setSensor", "(II)Z"⟩
abbrev Y44 : MethodName := ⟨"MinestrataLaw", "setRight", "(LMinestrata;I[J)I"⟩
abbrev Y45 : MethodName := ⟨"Minestrata", "setRight", "(I)I"⟩
abbrev Y46 : MethodName := ⟨"MinestrataModel", "setRight", "(I)I"⟩
abbrev Y47 : MethodName := ⟨"MinestrataLaw", "step", "(LMinestrata;CII[J)I"⟩
abbrev Y48 : MethodName := ⟨"Minestrata", "step", "(CII)C"⟩
abbrev Y49 : MethodName := ⟨"Minestrata", "isStepValue", "(CI)Z"⟩
abbrev Y50 : MethodName := ⟨"MinestrataModel", "step", "(CII)C"⟩
abbrev Y51 : MethodName := ⟨"MinestrataModel", "isValue", "(CI)Z"⟩
abbrev Y52 : MethodName := ⟨"Minestrata", "hasStepTarget", "(CI)Z"⟩
abbrev Y53 : MethodName := ⟨"Minestrata$Net", "hasRoad", "(I)Z"⟩
abbrev Y54 : MethodName := ⟨"MinestrataModel", "isThere", "(CI)Z"⟩
abbrev Y55 : MethodName := ⟨"MinestrataLaw", "refusedBy", "(LMinestrata;[J)I"⟩
abbrev Y56 : MethodName := ⟨"Minestrata", "refusedBy", "()I"⟩
abbrev Y57 : MethodName := ⟨"MinestrataModel", "refusedBy", "()I"⟩
abbrev Y58 : MethodName := ⟨"Minestrata", "shift", "()I"⟩
abbrev Y59 : MethodName := ⟨"Minestrata", "refresh", "()V"⟩
abbrev Y60 : MethodName := ⟨"Minestrata$Air", "find", "(LMinestrata$Net;)V"⟩
abbrev Y61 : MethodName := ⟨"Minestrata$Air", "findUnknowns", "(LMinestrata$Net;)V"⟩
abbrev Y62 : MethodName := ⟨"Minestrata$Groups", "gather", "(LMinestrata$Net;)V"⟩
abbrev Y63 : MethodName := ⟨"Minestrata$Air", "reach", "(LMinestrata$Net;I)Z"⟩
abbrev Y64 : MethodName := ⟨"Minestrata$Air", "solveModulo", "(LMinestrata$Net;J)J"⟩
abbrev Y65 : MethodName := ⟨"Minestrata$Equations", "begin", "(IJ)V"⟩
abbrev Y66 : MethodName := ⟨"Minestrata$Equations", "solve", "(I)J"⟩
abbrev Y67 : MethodName := ⟨"Minestrata$Air", "keep", "(LMinestrata$Net;JJ)V"⟩
abbrev Y68 : MethodName := ⟨"Minestrata$Radix", "add", "(J)V"⟩
abbrev Y69 : MethodName := ⟨"Minestrata$Radix", "inverse", "(JJ)J"⟩
abbrev Y70 : MethodName := ⟨"java/lang/Math", "floorMod", "(JJ)J"⟩
abbrev Y71 : MethodName := ⟨"Minestrata$Air", "tell", "(LMinestrata$Net;)V"⟩
abbrev Y72 : MethodName := ⟨"Minestrata$Fraction", "readBelow", "(LMinestrata$Radix;)V"⟩
abbrev Y73 : MethodName := ⟨"Minestrata$Radix", "findDigits", "([J[J)V"⟩
abbrev Y74 : MethodName := ⟨"Minestrata$Fraction", "bitsBelow", "(LMinestrata$Radix;)I"⟩
abbrev Y75 : MethodName := ⟨"Minestrata$Radix", "bitLength", "(J)I"⟩
abbrev Y76 : MethodName := ⟨"Minestrata$Gas", "find", "(LMinestrata$Net;LMinestrata$Air;)V"⟩
abbrev Y77 : MethodName := ⟨"Minestrata$Gas", "findWays", "(LMinestrata$Net;LMinestrata$Air;)V"⟩
abbrev Y78 : MethodName := ⟨"Minestrata$Gas", "findFull", "(LMinestrata$Net;)V"⟩
abbrev Y79 : MethodName := ⟨"Minestrata$Gas", "findCarriers", "(LMinestrata$Net;)V"⟩
abbrev Y80 : MethodName := ⟨"Minestrata$Stopes", "setFillings", "()V"⟩
abbrev Y81 : MethodName := ⟨"MinestrataModel", "shift", "()I"⟩
abbrev Y82 : MethodName := ⟨"MinestrataModel", "now", "()LMinestrataModel$Air;"⟩
abbrev Y83 : MethodName := ⟨"MinestrataModel$Air", "<init>", "(LMinestrataModel;)V"⟩
abbrev Y84 : MethodName := ⟨"MinestrataModel$Big", "of", "(J)LMinestrataModel$Big;"⟩
abbrev Y85 : MethodName := ⟨"MinestrataModel$Big", "<init>", "([IZ)V"⟩
abbrev Y86 : MethodName := ⟨"java/util/Arrays", "copyOf", "([II)[I"⟩
abbrev Y87 : MethodName := ⟨"MinestrataModel$Air", "pressures", "()V"⟩
abbrev Y88 : MethodName := ⟨"MinestrataModel$Air", "groups", "(Z)[I"⟩
abbrev Y89 : MethodName := ⟨"MinestrataModel$Air", "haveSurface", "([I)[Z"⟩
abbrev Y90 : MethodName := ⟨"MinestrataModel$Air", "empty", "(I)[[LMinestrataModel$Big;"⟩
abbrev Y91 : MethodName := ⟨"java/util/ArrayList", "iterator", "()Ljava/util/Iterator;"⟩
abbrev Y92 : MethodName := ⟨"java/util/ArrayList$Itr", "<init>", "(Ljava/util/ArrayList;)V"⟩
abbrev Y93 : MethodName := ⟨"java/util/ArrayList$Itr", "hasNext", "()Z"⟩
abbrev Y94 : MethodName := ⟨"MinestrataModel", "solves", "([[LMinestrataModel$Big;)V"⟩
abbrev Y95 : MethodName := ⟨"MinestrataModel$Air", "flows", "()V"⟩
abbrev Y96 : MethodName := ⟨"MinestrataModel$Air", "gases", "()V"⟩
abbrev Y97 : MethodName := ⟨"MinestrataLaw", "flow", "(LMinestrata;I[J)I"⟩
abbrev Y98 : MethodName := ⟨"Minestrata", "flow", "(I)I"⟩
abbrev Y99 : MethodName := ⟨"MinestrataModel", "flow", "(I)I"⟩
abbrev Y100 : MethodName := ⟨"MinestrataLaw", "pressure", "(LMinestrata;I[J)I"⟩
abbrev Y101 : MethodName := ⟨"Minestrata", "pressure", "(I)I"⟩
abbrev Y102 : MethodName := ⟨"MinestrataModel", "pressure", "(I)I"⟩
abbrev Y103 : MethodName := ⟨"MinestrataLaw", "gas", "(LMinestrata;I[J)I"⟩
abbrev Y104 : MethodName := ⟨"Minestrata", "gas", "(I)I"⟩
abbrev Y105 : MethodName := ⟨"MinestrataModel", "gas", "(I)I"⟩
abbrev Y106 : MethodName := ⟨"MinestrataLaw", "isFull", "(LMinestrata;I[J)I"⟩
abbrev Y107 : MethodName := ⟨"Minestrata", "isFull", "(I)Z"⟩
abbrev Y108 : MethodName := ⟨"MinestrataModel", "isFull", "(I)Z"⟩
abbrev Y109 : MethodName := ⟨"MinestrataLaw", "isGood", "(LMinestrata;I[J)I"⟩
abbrev Y110 : MethodName := ⟨"Minestrata", "isGood", "(I)Z"⟩
abbrev Y111 : MethodName := ⟨"MinestrataModel", "isGood", "(I)Z"⟩
abbrev Y112 : MethodName := ⟨"MinestrataLaw", "reading", "(LMinestrata;I[J)I"⟩
abbrev Y113 : MethodName := ⟨"Minestrata", "reading", "(I)I"⟩
abbrev Y114 : MethodName := ⟨"MinestrataModel", "reading", "(I)I"⟩
abbrev Y115 : MethodName := ⟨"MinestrataLaw", "hasPower", "(LMinestrata;I[J)I"⟩
abbrev Y116 : MethodName := ⟨"Minestrata", "hasPower", "(I)Z"⟩
abbrev Y117 : MethodName := ⟨"MinestrataModel", "hasPower", "(I)Z"⟩
abbrev Y118 : MethodName := ⟨"MinestrataLaw", "come", "(LMinestrata;I[J)I"⟩
abbrev Y119 : MethodName := ⟨"Minestrata", "come", "(I)I"⟩
abbrev Y120 : MethodName := ⟨"MinestrataModel", "come", "(I)I"⟩
abbrev Y121 : MethodName := ⟨"MinestrataLaw", "walk", "(LMinestrata;II[J)I"⟩
abbrev Y122 : MethodName := ⟨"Minestrata", "walk", "(II)Z"⟩
abbrev Y123 : MethodName := ⟨"Minestrata", "hasPerson", "(I)Z"⟩
abbrev Y124 : MethodName := ⟨"MinestrataModel", "walk", "(II)Z"⟩
abbrev Y125 : MethodName := ⟨"MinestrataModel", "isPerson", "(I)Z"⟩
abbrev Y126 : MethodName := ⟨"MinestrataLaw", "whereIs", "(LMinestrata;I[J)I"⟩
abbrev Y127 : MethodName := ⟨"Minestrata", "whereIs", "(I)I"⟩
abbrev Y128 : MethodName := ⟨"MinestrataModel", "whereIs", "(I)I"⟩
abbrev Y129 : MethodName := ⟨"MinestrataLaw", "isSafe", "(LMinestrata;I[J)I"⟩
abbrev Y130 : MethodName := ⟨"Minestrata", "isSafe", "(I)Z"⟩
abbrev Y131 : MethodName := ⟨"MinestrataModel", "isSafe", "(I)Z"⟩
abbrev Y132 : MethodName := ⟨"MinestrataLaw", "isSafeAnew", "(LMinestrata;I[J)I"⟩
abbrev Y133 : MethodName := ⟨"Minestrata", "isSafeAnew", "(I)Z"⟩
abbrev Y134 : MethodName := ⟨"MinestrataModel", "isSafeAnew", "(I)Z"⟩
abbrev Y135 : MethodName := ⟨"MinestrataLaw", "ways", "(LMinestrata;I[J)I"⟩
abbrev Y136 : MethodName := ⟨"Minestrata", "ways", "(I)I"⟩
abbrev Y137 : MethodName := ⟨"MinestrataModel", "ways", "(I)I"⟩
abbrev Y138 : MethodName := ⟨"MinestrataLaw", "tons", "(LMinestrata;I[J)I"⟩
abbrev Y139 : MethodName := ⟨"Minestrata", "tons", "(I)I"⟩
abbrev Y140 : MethodName := ⟨"MinestrataModel", "tons", "(I)I"⟩
abbrev Y141 : MethodName := ⟨"MinestrataLaw", "load", "(LMinestrata;I[J)I"⟩
abbrev Y142 : MethodName := ⟨"Minestrata", "load", "(I)I"⟩
abbrev Y143 : MethodName := ⟨"MinestrataModel", "load", "(I)I"⟩
abbrev Y144 : MethodName := ⟨"MinestrataLaw", "stateOf", "(LMinestrata;I[J)I"⟩
abbrev Y145 : MethodName := ⟨"Minestrata", "stateOf", "(I)C"⟩
abbrev Y146 : MethodName := ⟨"MinestrataModel", "stateOf", "(I)C"⟩
abbrev Y147 : MethodName := ⟨"MinestrataLaw", "pile", "(LMinestrata;I[J)I"⟩
abbrev Y148 : MethodName := ⟨"Minestrata", "pile", "(I)I"⟩
abbrev Y149 : MethodName := ⟨"MinestrataModel", "pile", "(I)I"⟩
abbrev Y150 : MethodName := ⟨"MinestrataLaw", "deliver", "(LMinestrata;III[J)I"⟩
abbrev Y151 : MethodName := ⟨"Minestrata", "deliver", "(III)I"⟩
abbrev Y152 : MethodName := ⟨"MinestrataModel", "deliver", "(III)I"⟩
abbrev Y153 : MethodName := ⟨"Minestrata$Stopes", "tonsOnPiles", "()I"⟩
abbrev Y154 : MethodName := ⟨"MinestrataLaw", "delivered", "(LMinestrata;I[J)I"⟩
abbrev Y155 : MethodName := ⟨"Minestrata", "delivered", "(I)I"⟩
abbrev Y156 : MethodName := ⟨"MinestrataModel", "delivered", "(I)I"⟩
abbrev Y157 : MethodName := ⟨"MinestrataLaw", "isBlocked", "(LMinestrata;I[J)I"⟩
abbrev Y158 : MethodName := ⟨"Minestrata", "isBlocked", "(I)Z"⟩
abbrev Y159 : MethodName := ⟨"MinestrataModel", "isBlocked", "(I)Z"⟩
abbrev Y160 : MethodName := ⟨"Minestrata", "refused", "()I"⟩
abbrev Y161 : MethodName := ⟨"MinestrataModel", "refused", "()I"⟩
abbrev Y162 : MethodName := ⟨"Minestrata", "people", "()I"⟩
abbrev Y163 : MethodName := ⟨"MinestrataModel", "people", "()I"⟩
abbrev Y164 : MethodName := ⟨"Minestrata", "penalties", "()J"⟩
abbrev Y165 : MethodName := ⟨"MinestrataModel", "penalties", "()J"⟩
abbrev Y166 : MethodName := ⟨"MinestrataLaw", "goodShare", "(LMinestrata;[D)I"⟩
abbrev Y167 : MethodName := ⟨"Minestrata", "goodShare", "()F"⟩
abbrev Y168 : MethodName := ⟨"MinestrataModel", "goodShare", "()F"⟩
abbrev Y169 : MethodName := ⟨"MinestrataLaw", "meanLoad", "(LMinestrata;[D)I"⟩
abbrev Y170 : MethodName := ⟨"Minestrata", "meanLoad", "()D"⟩
abbrev Y171 : MethodName := ⟨"MinestrataModel", "meanLoad", "()D"⟩
abbrev Y172 : MethodName := ⟨"Minestrata", "isSound", "()Z"⟩
abbrev Y173 : MethodName := ⟨"Minestrata$Air", "isBalanced", "(LMinestrata$Net;)Z"⟩
abbrev Y174 : MethodName := ⟨"Minestrata$Stopes", "firstOverloaded", "()I"⟩
abbrev Y175 : MethodName := ⟨"MinestrataModel", "isSound", "()Z"⟩
