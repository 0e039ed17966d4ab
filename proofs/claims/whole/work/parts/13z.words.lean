theorem wd_113 : Cond.initialized "java/lang/System" ∈ lw_ok := lw_ok_mem (tb_0 _ (List.mem_of_getElem? (i := 15) (by decide +kernel))) rfl
theorem wd_491 : Cond.static ({ cls := "java/lang/System", name := "arraycopy", desc := "(Ljava/lang/Object;ILjava/lang/Object;II)V" } : MethodName) ∈ lw_ok := lw_ok_mem (tb_1 _ (List.mem_of_getElem? (i := 153) (by decide +kernel))) rfl
theorem wd_492 : Cond.native ({ cls := "java/lang/System", name := "arraycopy", desc := "(Ljava/lang/Object;ILjava/lang/Object;II)V" } : MethodName) ∈ lw_ok := lw_ok_mem (tb_1 _ (List.mem_of_getElem? (i := 154) (by decide +kernel))) rfl
theorem wd_630 : Cond.methodLink "UtilityBoard$Drawing" (83 : Nat) ({ cls := "java/lang/System", name := "arraycopy", desc := "(Ljava/lang/Object;ILjava/lang/Object;II)V" } : MethodName) ∈ lw_ok := lw_ok_mem (tb_2 _ (List.mem_of_getElem? (i := 52) (by decide +kernel))) rfl
theorem wd_631 : Cond.fieldLink "UtilityBoard$Drawing" (89 : Nat) "UtilityBoard$Drawing" "USED" "[I" ∈ lw_ok := lw_ok_mem (tb_2 _ (List.mem_of_getElem? (i := 53) (by decide +kernel))) rfl
theorem wd_862 : Cond.fieldLink "java/lang/String" (38 : Nat) "java/lang/String" "COMPACT_STRINGS" "Z" ∈ lw_ok := lw_ok_mem (tb_3 _ (List.mem_of_getElem? (i := 44) (by decide +kernel))) rfl
theorem wd_901 : Cond.fieldLink "java/lang/String" (1053 : Nat) "jdk/internal/util/Preconditions" "SIOOBE_FORMATTER" "Ljava/util/function/BiFunction;" ∈ lw_ok := lw_ok_mem (tb_3 _ (List.mem_of_getElem? (i := 83) (by decide +kernel))) rfl
theorem wd_1959 : Cond.fieldLink "java/lang/String" (15 : Nat) "java/lang/String" "coder" "B" ∈ lw_ok := lw_ok_mem (tb_7 _ (List.mem_of_getElem? (i := 181) (by decide +kernel))) rfl
theorem wd_1960 : Cond.fieldLink "java/lang/String" (9 : Nat) "java/lang/String" "value" "[B" ∈ lw_ok := lw_ok_mem (tb_7 _ (List.mem_of_getElem? (i := 182) (by decide +kernel))) rfl
theorem kb_35 : (Int8.ofInt (35)).toInt32 = 35 := by decide
theorem kb_64 : (Int8.ofInt (64)).toInt32 = 64 := by decide
