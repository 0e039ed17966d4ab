theorem wd_126 : Cond.classLink "UtilityBoardLaw" (7 : Nat) "UtilityBoard" ∈ lw_ok := lw_ok_mem (tb_0 _ (List.mem_of_getElem? (i := 28) (by decide +kernel))) rfl
theorem wd_131 : Cond.methodLink "UtilityBoard" (1 : Nat) ({ cls := "java/lang/Object", name := "<init>", desc := "()V" } : MethodName) ∈ lw_ok := lw_ok_mem (tb_0 _ (List.mem_of_getElem? (i := 33) (by decide +kernel))) rfl
theorem wd_132 : Cond.instanceMethod ({ cls := "java/lang/Object", name := "<init>", desc := "()V" } : MethodName) ∈ lw_ok := lw_ok_mem (tb_0 _ (List.mem_of_getElem? (i := 34) (by decide +kernel))) rfl
theorem wd_133 : Cond.code ({ cls := "java/lang/Object", name := "<init>", desc := "()V" } : MethodName) object_method_1_code (1 : Nat) none ∈ lw_ok := lw_ok_mem (tb_0 _ (List.mem_of_getElem? (i := 35) rfl)) rfl
theorem wd_134 : Cond.classLink "UtilityBoard" (16 : Nat) "java/util/ArrayList" ∈ lw_ok := lw_ok_mem (tb_0 _ (List.mem_of_getElem? (i := 36) (by decide +kernel))) rfl
theorem wd_135 : Cond.instantiable "java/util/ArrayList" (3 : Nat) ∈ lw_ok := lw_ok_mem (tb_0 _ (List.mem_of_getElem? (i := 37) (by decide +kernel))) rfl
theorem wd_145 : Cond.methodLink "java/util/AbstractCollection" (1 : Nat) ({ cls := "java/lang/Object", name := "<init>", desc := "()V" } : MethodName) ∈ lw_ok := lw_ok_mem (tb_0 _ (List.mem_of_getElem? (i := 47) (by decide +kernel))) rfl
theorem wd_146 : Cond.fieldLink "java/util/ArrayList" (39 : Nat) "java/util/ArrayList" "DEFAULTCAPACITY_EMPTY_ELEMENTDATA" "[Ljava/lang/Object;" ∈ lw_ok := lw_ok_mem (tb_0 _ (List.mem_of_getElem? (i := 48) (by decide +kernel))) rfl
theorem wd_150 : Cond.fieldLink "java/util/AbstractList" (7 : Nat) "java/util/AbstractList" "modCount" "I" ∈ lw_ok := lw_ok_mem (tb_0 _ (List.mem_of_getElem? (i := 52) (by decide +kernel))) rfl
theorem wd_160 : Cond.classLink "UtilityBoard" (58 : Nat) "UtilityBoard$Reader" ∈ lw_ok := lw_ok_mem (tb_0 _ (List.mem_of_getElem? (i := 62) (by decide +kernel))) rfl
theorem wd_161 : Cond.instantiable "UtilityBoard$Reader" (11 : Nat) ∈ lw_ok := lw_ok_mem (tb_0 _ (List.mem_of_getElem? (i := 63) (by decide +kernel))) rfl
theorem wd_165 : Cond.methodLink "UtilityBoard$Reader" (3 : Nat) ({ cls := "java/lang/Object", name := "<init>", desc := "()V" } : MethodName) ∈ lw_ok := lw_ok_mem (tb_0 _ (List.mem_of_getElem? (i := 67) (by decide +kernel))) rfl
theorem wd_209 : Cond.classLink "UtilityBoard" (65 : Nat) "UtilityBoard$Law" ∈ lw_ok := lw_ok_mem (tb_0 _ (List.mem_of_getElem? (i := 111) (by decide +kernel))) rfl
theorem wd_210 : Cond.instantiable "UtilityBoard$Law" (8 : Nat) ∈ lw_ok := lw_ok_mem (tb_0 _ (List.mem_of_getElem? (i := 112) (by decide +kernel))) rfl
theorem wd_214 : Cond.methodLink "UtilityBoard$Law" (3 : Nat) ({ cls := "java/lang/Object", name := "<init>", desc := "()V" } : MethodName) ∈ lw_ok := lw_ok_mem (tb_0 _ (List.mem_of_getElem? (i := 116) (by decide +kernel))) rfl
theorem wd_215 : Cond.classLink "UtilityBoard$Law" (9 : Nat) "java/util/ArrayList" ∈ lw_ok := lw_ok_mem (tb_0 _ (List.mem_of_getElem? (i := 117) (by decide +kernel))) rfl
theorem wd_243 : Cond.classLink "UtilityBoard" (72 : Nat) "UtilityBoard$Layout" ∈ lw_ok := lw_ok_mem (tb_0 _ (List.mem_of_getElem? (i := 145) (by decide +kernel))) rfl
theorem wd_244 : Cond.instantiable "UtilityBoard$Layout" (8 : Nat) ∈ lw_ok := lw_ok_mem (tb_0 _ (List.mem_of_getElem? (i := 146) (by decide +kernel))) rfl
theorem wd_248 : Cond.methodLink "UtilityBoard$Layout" (3 : Nat) ({ cls := "java/lang/Object", name := "<init>", desc := "()V" } : MethodName) ∈ lw_ok := lw_ok_mem (tb_0 _ (List.mem_of_getElem? (i := 150) (by decide +kernel))) rfl
theorem wd_418 : Cond.instantiable "UtilityBoard$Cloth" (3 : Nat) ∈ lw_ok := lw_ok_mem (tb_1 _ (List.mem_of_getElem? (i := 80) (by decide +kernel))) rfl
theorem wd_422 : Cond.methodLink "UtilityBoard$Cloth" (1 : Nat) ({ cls := "java/lang/Object", name := "<init>", desc := "()V" } : MethodName) ∈ lw_ok := lw_ok_mem (tb_1 _ (List.mem_of_getElem? (i := 84) (by decide +kernel))) rfl
theorem wd_465 : Cond.methodLink "java/util/Arrays" (86 : Nat) ({ cls := "java/lang/Object", name := "getClass", desc := "()Ljava/lang/Class;" } : MethodName) ∈ lw_ok := lw_ok_mem (tb_1 _ (List.mem_of_getElem? (i := 127) (by decide +kernel))) rfl
theorem wd_466 : Cond.instanceMethod ({ cls := "java/lang/Object", name := "getClass", desc := "()Ljava/lang/Class;" } : MethodName) ∈ lw_ok := lw_ok_mem (tb_1 _ (List.mem_of_getElem? (i := 128) (by decide +kernel))) rfl
theorem wd_482 : Cond.native ({ cls := "java/lang/Object", name := "getClass", desc := "()Ljava/lang/Class;" } : MethodName) ∈ lw_ok := lw_ok_mem (tb_1 _ (List.mem_of_getElem? (i := 144) (by decide +kernel))) rfl
theorem wd_486 : Cond.classLink "java/util/Arrays" (110 : Nat) "[Ljava/lang/Object;" ∈ lw_ok := lw_ok_mem (tb_1 _ (List.mem_of_getElem? (i := 148) (by decide +kernel))) rfl
theorem wd_488 : Cond.classLink "java/util/Arrays" (2 : Nat) "java/lang/Object" ∈ lw_ok := lw_ok_mem (tb_1 _ (List.mem_of_getElem? (i := 150) (by decide +kernel))) rfl
theorem wd_490 : Cond.methodLink "java/util/Arrays" (150 : Nat) ({ cls := "java/lang/System", name := "arraycopy", desc := "(Ljava/lang/Object;ILjava/lang/Object;II)V" } : MethodName) ∈ lw_ok := lw_ok_mem (tb_1 _ (List.mem_of_getElem? (i := 152) (by decide +kernel))) rfl
theorem wd_494 : Cond.classLink "java/util/ArrayList" (7 : Nat) "java/lang/Object" ∈ lw_ok := lw_ok_mem (tb_1 _ (List.mem_of_getElem? (i := 156) (by decide +kernel))) rfl
theorem wd_500 : Cond.instantiable "UtilityBoard$Drawing" (16 : Nat) ∈ lw_ok := lw_ok_mem (tb_1 _ (List.mem_of_getElem? (i := 162) (by decide +kernel))) rfl
theorem wd_504 : Cond.methodLink "UtilityBoard$Drawing" (3 : Nat) ({ cls := "java/lang/Object", name := "<init>", desc := "()V" } : MethodName) ∈ lw_ok := lw_ok_mem (tb_1 _ (List.mem_of_getElem? (i := 166) (by decide +kernel))) rfl
theorem wd_646 : Cond.instantiable "UtilityBoard$Thing" (10 : Nat) ∈ lw_ok := lw_ok_mem (tb_2 _ (List.mem_of_getElem? (i := 68) (by decide +kernel))) rfl
theorem wd_650 : Cond.methodLink "UtilityBoard$Thing" (3 : Nat) ({ cls := "java/lang/Object", name := "<init>", desc := "()V" } : MethodName) ∈ lw_ok := lw_ok_mem (tb_2 _ (List.mem_of_getElem? (i := 72) (by decide +kernel))) rfl
theorem wd_764 : Cond.instantiable "UtilityBoard$Maker" (8 : Nat) ∈ lw_ok := lw_ok_mem (tb_2 _ (List.mem_of_getElem? (i := 186) (by decide +kernel))) rfl
theorem wd_768 : Cond.methodLink "UtilityBoard$Maker" (3 : Nat) ({ cls := "java/lang/Object", name := "<init>", desc := "()V" } : MethodName) ∈ lw_ok := lw_ok_mem (tb_2 _ (List.mem_of_getElem? (i := 190) (by decide +kernel))) rfl
theorem wd_975 : Cond.instantiable "UtilityBoard$Order" (9 : Nat) ∈ lw_ok := lw_ok_mem (tb_3 _ (List.mem_of_getElem? (i := 157) (by decide +kernel))) rfl
theorem wd_979 : Cond.methodLink "UtilityBoard$Order" (1 : Nat) ({ cls := "java/lang/Object", name := "<init>", desc := "()V" } : MethodName) ∈ lw_ok := lw_ok_mem (tb_3 _ (List.mem_of_getElem? (i := 161) (by decide +kernel))) rfl
theorem wd_983 : Cond.methodLink "java/util/Arrays" (316 : Nat) ({ cls := "[I", name := "clone", desc := "()Ljava/lang/Object;" } : MethodName) ∈ lw_ok := lw_ok_mem (tb_3 _ (List.mem_of_getElem? (i := 165) (by decide +kernel))) rfl
theorem wd_984 : Cond.sameMethod "[I" "java/lang/Object" "clone" "()Ljava/lang/Object;" ∈ lw_ok := lw_ok_mem (tb_3 _ (List.mem_of_getElem? (i := 166) (by decide +kernel))) rfl
theorem wd_985 : Cond.native ({ cls := "java/lang/Object", name := "clone", desc := "()Ljava/lang/Object;" } : MethodName) ∈ lw_ok := lw_ok_mem (tb_3 _ (List.mem_of_getElem? (i := 167) (by decide +kernel))) rfl
theorem wd_986 : Cond.instanceMethod ({ cls := "java/lang/Object", name := "clone", desc := "()Ljava/lang/Object;" } : MethodName) ∈ lw_ok := lw_ok_mem (tb_3 _ (List.mem_of_getElem? (i := 168) (by decide +kernel))) rfl
theorem wd_987 : Cond.selects "[I" ({ cls := "[I", name := "clone", desc := "()Ljava/lang/Object;" } : MethodName) ({ cls := "java/lang/Object", name := "clone", desc := "()Ljava/lang/Object;" } : MethodName) ∈ lw_ok := lw_ok_mem (tb_3 _ (List.mem_of_getElem? (i := 169) (by decide +kernel))) rfl
theorem wd_989 : Cond.classLink "java/util/Arrays" (317 : Nat) "[I" ∈ lw_ok := lw_ok_mem (tb_3 _ (List.mem_of_getElem? (i := 171) (by decide +kernel))) rfl
theorem wd_1074 : Cond.instantiable "UtilityBoard$Entry" (4 : Nat) ∈ lw_ok := lw_ok_mem (tb_4 _ (List.mem_of_getElem? (i := 16) (by decide +kernel))) rfl
theorem wd_1078 : Cond.methodLink "UtilityBoard$Entry" (1 : Nat) ({ cls := "java/lang/Object", name := "<init>", desc := "()V" } : MethodName) ∈ lw_ok := lw_ok_mem (tb_4 _ (List.mem_of_getElem? (i := 20) (by decide +kernel))) rfl
theorem wd_1100 : Cond.instantiable "UtilityBoard$Person" (2 : Nat) ∈ lw_ok := lw_ok_mem (tb_4 _ (List.mem_of_getElem? (i := 42) (by decide +kernel))) rfl
theorem wd_1104 : Cond.methodLink "UtilityBoard$Person" (1 : Nat) ({ cls := "java/lang/Object", name := "<init>", desc := "()V" } : MethodName) ∈ lw_ok := lw_ok_mem (tb_4 _ (List.mem_of_getElem? (i := 46) (by decide +kernel))) rfl
theorem wd_1144 : Cond.instantiable "UtilityBoard$Docket" (5 : Nat) ∈ lw_ok := lw_ok_mem (tb_4 _ (List.mem_of_getElem? (i := 86) (by decide +kernel))) rfl
theorem wd_1148 : Cond.methodLink "UtilityBoard$Docket" (1 : Nat) ({ cls := "java/lang/Object", name := "<init>", desc := "()V" } : MethodName) ∈ lw_ok := lw_ok_mem (tb_4 _ (List.mem_of_getElem? (i := 90) (by decide +kernel))) rfl
theorem wd_1276 : Cond.classLink "UtilityBoardLaw" (10 : Nat) "UtilityBoardModel" ∈ lw_ok := lw_ok_mem (tb_4 _ (List.mem_of_getElem? (i := 218) (by decide +kernel))) rfl
theorem wd_1281 : Cond.methodLink "UtilityBoardModel" (1 : Nat) ({ cls := "java/lang/Object", name := "<init>", desc := "()V" } : MethodName) ∈ lw_ok := lw_ok_mem (tb_4 _ (List.mem_of_getElem? (i := 223) (by decide +kernel))) rfl
theorem wd_1953 : Cond.selects "[Ljava/lang/Object;" ({ cls := "java/lang/Object", name := "getClass", desc := "()Ljava/lang/Class;" } : MethodName) ({ cls := "java/lang/Object", name := "getClass", desc := "()Ljava/lang/Class;" } : MethodName) ∈ lw_ok := lw_ok_mem (tb_7 _ (List.mem_of_getElem? (i := 175) (by decide +kernel))) rfl
