theorem wd_358 : Cond.classLink "UtilityBoard$Law" (50 : Nat) "UtilityBoard$Order" ∈ lw_ok := lw_ok_mem (tb_1 _ (List.mem_of_getElem? (i := 20) (by decide +kernel))) rfl
theorem wd_400 : Cond.classLink "UtilityBoard" (97 : Nat) "UtilityBoard$Person" ∈ lw_ok := lw_ok_mem (tb_1 _ (List.mem_of_getElem? (i := 62) (by decide +kernel))) rfl
theorem wd_405 : Cond.classLink "UtilityBoard" (106 : Nat) "UtilityBoard$Maker" ∈ lw_ok := lw_ok_mem (tb_1 _ (List.mem_of_getElem? (i := 67) (by decide +kernel))) rfl
theorem wd_417 : Cond.classLink "UtilityBoard" (119 : Nat) "UtilityBoard$Cloth" ∈ lw_ok := lw_ok_mem (tb_1 _ (List.mem_of_getElem? (i := 79) (by decide +kernel))) rfl
theorem wd_499 : Cond.classLink "UtilityBoard" (128 : Nat) "UtilityBoard$Drawing" ∈ lw_ok := lw_ok_mem (tb_1 _ (List.mem_of_getElem? (i := 161) (by decide +kernel))) rfl
theorem wd_602 : Cond.fieldLink "UtilityBoard$Drawing" (69 : Nat) "UtilityBoard$Drawing" "BORNE" "[I" ∈ lw_ok := lw_ok_mem (tb_2 _ (List.mem_of_getElem? (i := 24) (by decide +kernel))) rfl
theorem wd_645 : Cond.classLink "UtilityBoard" (165 : Nat) "UtilityBoard$Thing" ∈ lw_ok := lw_ok_mem (tb_2 _ (List.mem_of_getElem? (i := 67) (by decide +kernel))) rfl
theorem wd_974 : Cond.classLink "UtilityBoard" (229 : Nat) "UtilityBoard$Order" ∈ lw_ok := lw_ok_mem (tb_3 _ (List.mem_of_getElem? (i := 156) (by decide +kernel))) rfl
theorem wd_1073 : Cond.classLink "UtilityBoard" (277 : Nat) "UtilityBoard$Entry" ∈ lw_ok := lw_ok_mem (tb_4 _ (List.mem_of_getElem? (i := 15) (by decide +kernel))) rfl
theorem wd_1135 : Cond.classLink "UtilityBoard" (304 : Nat) "UtilityBoard$Docket" ∈ lw_ok := lw_ok_mem (tb_4 _ (List.mem_of_getElem? (i := 77) (by decide +kernel))) rfl
