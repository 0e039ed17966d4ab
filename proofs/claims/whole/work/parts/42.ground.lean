/-! THE START: the tables, what lies below b0 -/
theorem wg_320 : Cond.instantiable "UtilityBoard$Cloth" (3 : Nat) ∈ lw_tbl := tb_1 _ (List.mem_of_getElem? (i := 80) (by decide +kernel))
theorem wg_1046 : Cond.instantiable "UtilityBoard$Docket" (5 : Nat) ∈ lw_tbl := tb_4 _ (List.mem_of_getElem? (i := 86) (by decide +kernel))
theorem wg_402 : Cond.instantiable "UtilityBoard$Drawing" (16 : Nat) ∈ lw_tbl := tb_1 _ (List.mem_of_getElem? (i := 162) (by decide +kernel))
theorem wg_976 : Cond.instantiable "UtilityBoard$Entry" (4 : Nat) ∈ lw_tbl := tb_4 _ (List.mem_of_getElem? (i := 16) (by decide +kernel))
theorem wg_112 : Cond.instantiable "UtilityBoard$Law" (8 : Nat) ∈ lw_tbl := tb_0 _ (List.mem_of_getElem? (i := 112) (by decide +kernel))
theorem wg_146 : Cond.instantiable "UtilityBoard$Layout" (8 : Nat) ∈ lw_tbl := tb_0 _ (List.mem_of_getElem? (i := 146) (by decide +kernel))
theorem wg_666 : Cond.instantiable "UtilityBoard$Maker" (8 : Nat) ∈ lw_tbl := tb_2 _ (List.mem_of_getElem? (i := 186) (by decide +kernel))
theorem wg_877 : Cond.instantiable "UtilityBoard$Order" (9 : Nat) ∈ lw_tbl := tb_3 _ (List.mem_of_getElem? (i := 157) (by decide +kernel))
theorem wg_1002 : Cond.instantiable "UtilityBoard$Person" (2 : Nat) ∈ lw_tbl := tb_4 _ (List.mem_of_getElem? (i := 42) (by decide +kernel))
theorem wg_63 : Cond.instantiable "UtilityBoard$Reader" (11 : Nat) ∈ lw_tbl := tb_0 _ (List.mem_of_getElem? (i := 63) (by decide +kernel))
theorem wg_548 : Cond.instantiable "UtilityBoard$Thing" (10 : Nat) ∈ lw_tbl := tb_2 _ (List.mem_of_getElem? (i := 68) (by decide +kernel))
theorem wg_29 : Cond.instantiable "UtilityBoard" (17 : Nat) ∈ lw_tbl := tb_0 _ (List.mem_of_getElem? (i := 29) (by decide +kernel))
theorem wg_1179 : Cond.instantiable "UtilityBoardModel" (95 : Nat) ∈ lw_tbl := tb_4 _ (List.mem_of_getElem? (i := 219) (by decide +kernel))
theorem wg_37 : Cond.instantiable "java/util/ArrayList" (3 : Nat) ∈ lw_tbl := tb_0 _ (List.mem_of_getElem? (i := 37) (by decide +kernel))
theorem wg_109 : Cond.arrayClass FieldType.int ∈ lw_tbl := tb_0 _ (List.mem_of_getElem? (i := 109) (by decide +kernel))
theorem wg_110 : Cond.arrayClass FieldType.byte ∈ lw_tbl := tb_0 _ (List.mem_of_getElem? (i := 110) (by decide +kernel))
theorem wg_1471 : Cond.arrayClass FieldType.boolean ∈ lw_tbl := tb_6 _ (List.mem_of_getElem? (i := 31) (by decide +kernel))
theorem wg_389 : Cond.arrayOver (FieldType.object "java/lang/Object") ∈ lw_tbl := tb_1 _ (List.mem_of_getElem? (i := 149) (by decide +kernel))
theorem wg_505 : Cond.laysStatic "UtilityBoard$Drawing" "BORNE" "[I" ∈ lw_tbl := tb_2 _ (List.mem_of_getElem? (i := 25) (by decide +kernel))
theorem wg_16 : Cond.initialized "UtilityBoard$Drawing" ∈ lw_tbl := tb_0 _ (List.mem_of_getElem? (i := 16) (by decide +kernel))
theorem wg_534 : Cond.laysStatic "UtilityBoard$Drawing" "USED" "[I" ∈ lw_tbl := tb_2 _ (List.mem_of_getElem? (i := 54) (by decide +kernel))
theorem wg_49 : Cond.laysStatic "java/util/ArrayList" "DEFAULTCAPACITY_EMPTY_ELEMENTDATA" "[Ljava/lang/Object;" ∈ lw_tbl := tb_0 _ (List.mem_of_getElem? (i := 49) (by decide +kernel))
theorem wg_4 : Cond.initialized "java/util/ArrayList" ∈ lw_tbl := tb_0 _ (List.mem_of_getElem? (i := 4) (by decide +kernel))
theorem wg_765 : Cond.laysStatic "java/lang/String" "COMPACT_STRINGS" "Z" ∈ lw_tbl := tb_3 _ (List.mem_of_getElem? (i := 45) (by decide +kernel))
theorem wg_20 : Cond.initialized "java/lang/String" ∈ lw_tbl := tb_0 _ (List.mem_of_getElem? (i := 20) (by decide +kernel))
theorem wg_804 : Cond.laysStatic "jdk/internal/util/Preconditions" "SIOOBE_FORMATTER" "Ljava/util/function/BiFunction;" ∈ lw_tbl := tb_3 _ (List.mem_of_getElem? (i := 84) (by decide +kernel))
theorem wg_10 : Cond.initialized "jdk/internal/util/Preconditions" ∈ lw_tbl := tb_0 _ (List.mem_of_getElem? (i := 10) (by decide +kernel))
def strTm (i : Nat) : Term := match i with | 0 => (Term.string "UtilityBoard$Reader" 65) | 1 => (Term.string "UtilityBoard$Reader" 79) | 2 => (Term.string "UtilityBoard$Reader" 108) | 3 => (Term.string "UtilityBoard$Reader" 104) | 4 => (Term.string "UtilityBoard$Reader" 106) | 5 => (Term.string "UtilityBoard$Reader" 99) | _ => (Term.string "UtilityBoard" 234)
theorem wg_1145 : Cond.methodLinkNest "UtilityBoard$Thing" (62 : Nat) ({ cls := "UtilityBoard", name := "roundedUp", desc := "(II)I" } : MethodName) "UtilityBoard" ∈ lw_tbl := tb_4 _ (List.mem_of_getElem? (i := 185) (by decide +kernel))
theorem wg_622 : Cond.methodLinkNest "UtilityBoard$Layout" (39 : Nat) ({ cls := "UtilityBoard", name := "within", desc := "(III)Z" } : MethodName) "UtilityBoard" ∈ lw_tbl := tb_2 _ (List.mem_of_getElem? (i := 142) (by decide +kernel))
theorem wg_613 : Cond.methodLinkNest "UtilityBoard$Thing" (44 : Nat) ({ cls := "UtilityBoard", name := "within", desc := "(III)Z" } : MethodName) "UtilityBoard" ∈ lw_tbl := tb_2 _ (List.mem_of_getElem? (i := 133) (by decide +kernel))
theorem wg_470 : Cond.methodLinkNest "UtilityBoard$Drawing" (62 : Nat) ({ cls := "UtilityBoard", name := "within", desc := "(III)Z" } : MethodName) "UtilityBoard" ∈ lw_tbl := tb_1 _ (List.mem_of_getElem? (i := 230) (by decide +kernel))
theorem wg_147 : Cond.methodLinkNest "UtilityBoard" (74 : Nat) ({ cls := "UtilityBoard$Layout", name := "<init>", desc := "()V" } : MethodName) "UtilityBoard" ∈ lw_tbl := tb_0 _ (List.mem_of_getElem? (i := 147) (by decide +kernel))
theorem wg_113 : Cond.methodLinkNest "UtilityBoard" (67 : Nat) ({ cls := "UtilityBoard$Law", name := "<init>", desc := "()V" } : MethodName) "UtilityBoard" ∈ lw_tbl := tb_0 _ (List.mem_of_getElem? (i := 113) (by decide +kernel))
theorem wg_64 : Cond.methodLinkNest "UtilityBoard" (60 : Nat) ({ cls := "UtilityBoard$Reader", name := "<init>", desc := "()V" } : MethodName) "UtilityBoard" ∈ lw_tbl := tb_0 _ (List.mem_of_getElem? (i := 64) (by decide +kernel))
theorem wg_1856 : Cond.declares ({ cls := "java/lang/Object", name := "getClass", desc := "()Ljava/lang/Class;" } : MethodName) ∈ lw_tbl := tb_7 _ (List.mem_of_getElem? (i := 176) (by decide +kernel))
theorem wg_1840 : Cond.castable "java/util/ArrayList" "java/lang/Object" ∈ lw_tbl := tb_7 _ (List.mem_of_getElem? (i := 160) (by decide +kernel))
theorem wg_1844 : Cond.castable "UtilityBoardModel" "java/lang/Object" ∈ lw_tbl := tb_7 _ (List.mem_of_getElem? (i := 164) (by decide +kernel))
theorem wg_1839 : Cond.castable "UtilityBoard" "java/lang/Object" ∈ lw_tbl := tb_7 _ (List.mem_of_getElem? (i := 159) (by decide +kernel))
theorem wg_1847 : Cond.castable "UtilityBoard$Thing" "java/lang/Object" ∈ lw_tbl := tb_7 _ (List.mem_of_getElem? (i := 167) (by decide +kernel))
theorem wg_1841 : Cond.castable "UtilityBoard$Reader" "java/lang/Object" ∈ lw_tbl := tb_7 _ (List.mem_of_getElem? (i := 161) (by decide +kernel))
theorem wg_1851 : Cond.castable "UtilityBoard$Person" "java/lang/Object" ∈ lw_tbl := tb_7 _ (List.mem_of_getElem? (i := 171) (by decide +kernel))
theorem wg_1849 : Cond.castable "UtilityBoard$Order" "java/lang/Object" ∈ lw_tbl := tb_7 _ (List.mem_of_getElem? (i := 169) (by decide +kernel))
theorem wg_1848 : Cond.castable "UtilityBoard$Maker" "java/lang/Object" ∈ lw_tbl := tb_7 _ (List.mem_of_getElem? (i := 168) (by decide +kernel))
theorem wg_1843 : Cond.castable "UtilityBoard$Layout" "java/lang/Object" ∈ lw_tbl := tb_7 _ (List.mem_of_getElem? (i := 163) (by decide +kernel))
theorem wg_1842 : Cond.castable "UtilityBoard$Law" "java/lang/Object" ∈ lw_tbl := tb_7 _ (List.mem_of_getElem? (i := 162) (by decide +kernel))
theorem wg_1850 : Cond.castable "UtilityBoard$Entry" "java/lang/Object" ∈ lw_tbl := tb_7 _ (List.mem_of_getElem? (i := 170) (by decide +kernel))
theorem wg_1846 : Cond.castable "UtilityBoard$Drawing" "java/lang/Object" ∈ lw_tbl := tb_7 _ (List.mem_of_getElem? (i := 166) (by decide +kernel))
theorem wg_1852 : Cond.castable "UtilityBoard$Docket" "java/lang/Object" ∈ lw_tbl := tb_7 _ (List.mem_of_getElem? (i := 172) (by decide +kernel))
theorem wg_1845 : Cond.castable "UtilityBoard$Cloth" "java/lang/Object" ∈ lw_tbl := tb_7 _ (List.mem_of_getElem? (i := 165) (by decide +kernel))
theorem wg_890 : Cond.castable "[I" "java/lang/Cloneable" ∈ lw_tbl := tb_3 _ (List.mem_of_getElem? (i := 170) (by decide +kernel))
theorem wg_748 : Cond.stringRef "UtilityBoard$Reader" (65 : Nat) "bmpcgdx" ∈ lw_tbl := tb_3 _ (List.mem_of_getElem? (i := 28) (by decide +kernel))
theorem wg_846 : Cond.stringRef "UtilityBoard$Reader" (79 : Nat) "pcgd" ∈ lw_tbl := tb_3 _ (List.mem_of_getElem? (i := 126) (by decide +kernel))
theorem wg_868 : Cond.stringRef "UtilityBoard$Reader" (108 : Nat) "wknqiatjh" ∈ lw_tbl := tb_3 _ (List.mem_of_getElem? (i := 148) (by decide +kernel))
theorem wg_869 : Cond.stringRef "UtilityBoard$Reader" (104 : Nat) "*/%" ∈ lw_tbl := tb_3 _ (List.mem_of_getElem? (i := 149) (by decide +kernel))
theorem wg_870 : Cond.stringRef "UtilityBoard$Reader" (106 : Nat) "+-" ∈ lw_tbl := tb_3 _ (List.mem_of_getElem? (i := 150) (by decide +kernel))
theorem wg_871 : Cond.stringRef "UtilityBoard$Reader" (99 : Nat) "<>=" ∈ lw_tbl := tb_3 _ (List.mem_of_getElem? (i := 151) (by decide +kernel))
theorem wg_934 : Cond.stringRef "UtilityBoard" (234 : Nat) "pcgdmb" ∈ lw_tbl := tb_3 _ (List.mem_of_getElem? (i := 214) (by decide +kernel))
set_option maxRecDepth 100000 in
set_option maxHeartbeats 4000000 in
theorem lw_gnd {s : State} {b : Nat} (hts : ∀ w ∈ lw_tbl, w.before #[Value.ref b] s = true) (hgv : (Jvm.Cond.and given_1 narrow_1).before #[Value.ref b] s = true) : ∃ E : EN, E.1 = s.heap.size ∧ KK E s ∧ Gnd E s := by
  have hs := flat_of_before _ hgv
  have hA : ∀ a : Nat, a < s.heap.size → ¬ (fun q : Nat => s.heap.size ≤ q) a := fun a h => Nat.not_le.mpr h
  obtain ⟨c0, i0, k0⟩ := u_known (C := RX0) (T := TX0) (N := 3) (n := 3) hts (fun w hw => (List.mem_filter.mp (in_X0 w hw)).1) (hts _ wg_320)
  obtain ⟨c1, i1, k1⟩ := u_known (C := RX1) (T := TX1) (N := 5) (n := 5) hts (fun w hw => (List.mem_filter.mp (in_X1 w hw)).1) (hts _ wg_1046)
  obtain ⟨c2, i2, k2⟩ := u_known (C := RX2) (T := TX2) (N := 16) (n := 16) hts (fun w hw => (List.mem_filter.mp (in_X2 w hw)).1) (hts _ wg_402)
  obtain ⟨c3, i3, k3⟩ := u_known (C := RX3) (T := TX3) (N := 4) (n := 4) hts (fun w hw => (List.mem_filter.mp (in_X3 w hw)).1) (hts _ wg_976)
  obtain ⟨c4, i4, k4⟩ := u_known (C := RX4) (T := TX4) (N := 8) (n := 8) hts (fun w hw => (List.mem_filter.mp (in_X4 w hw)).1) (hts _ wg_112)
  obtain ⟨c5, i5, k5⟩ := u_known (C := RX5) (T := TX5) (N := 8) (n := 8) hts (fun w hw => (List.mem_filter.mp (in_X5 w hw)).1) (hts _ wg_146)
  obtain ⟨c6, i6, k6⟩ := u_known (C := RX6) (T := TX6) (N := 8) (n := 8) hts (fun w hw => (List.mem_filter.mp (in_X6 w hw)).1) (hts _ wg_666)
  obtain ⟨c7, i7, k7⟩ := u_known (C := RX7) (T := TX7) (N := 9) (n := 9) hts (fun w hw => (List.mem_filter.mp (in_X7 w hw)).1) (hts _ wg_877)
  obtain ⟨c8, i8, k8⟩ := u_known (C := RX8) (T := TX8) (N := 2) (n := 2) hts (fun w hw => (List.mem_filter.mp (in_X8 w hw)).1) (hts _ wg_1002)
  obtain ⟨c9, i9, k9⟩ := u_known (C := RX9) (T := TX9) (N := 11) (n := 11) hts (fun w hw => (List.mem_filter.mp (in_X9 w hw)).1) (hts _ wg_63)
  obtain ⟨c10, i10, k10⟩ := u_known (C := RX10) (T := TX10) (N := 10) (n := 10) hts (fun w hw => (List.mem_filter.mp (in_X10 w hw)).1) (hts _ wg_548)
  obtain ⟨c11, i11, k11⟩ := u_known (C := RX11) (T := TX11) (N := 17) (n := 17) hts (fun w hw => (List.mem_filter.mp (in_X11 w hw)).1) (hts _ wg_29)
  obtain ⟨c12, i12, k12⟩ := u_known (C := RX12) (T := TX12) (N := 95) (n := 95) hts (fun w hw => (List.mem_filter.mp (in_X12 w hw)).1) (hts _ wg_1179)
  obtain ⟨c13, i13, k13⟩ := u_known (C := RJx4a65c) (T := TJx4a65c) (N := 3) (n := 3) hts (fun w hw => (List.mem_filter.mp (in_Jx4a65c w hw)).1) (hts _ wg_37)
  obtain ⟨dC, dI, hKc⟩ : ∃ (dC : Nat → ClassId) (dI : Nat → Nat → Nat), ∀ (k : Nat) (q : vw_C), classes[k]? = some q → u_Kn s q.1 q.2.1 q.2.2 (dC k) (dI k) := by
    refine ⟨fun k => match k with | 0 => c0 | 1 => c1 | 2 => c2 | 3 => c3 | 4 => c4 | 5 => c5 | 6 => c6 | 7 => c7 | 8 => c8 | 9 => c9 | 10 => c10 | 11 => c11 | 12 => c12 | _ => c13, fun k => match k with | 0 => i0 | 1 => i1 | 2 => i2 | 3 => i3 | 4 => i4 | 5 => i5 | 6 => i6 | 7 => i7 | 8 => i8 | 9 => i9 | 10 => i10 | 11 => i11 | 12 => i12 | _ => i13, ?_⟩
    intro k q hq
    match k, hq with
    | 0, hq => cases hq; exact k0
    | 1, hq => cases hq; exact k1
    | 2, hq => cases hq; exact k2
    | 3, hq => cases hq; exact k3
    | 4, hq => cases hq; exact k4
    | 5, hq => cases hq; exact k5
    | 6, hq => cases hq; exact k6
    | 7, hq => cases hq; exact k7
    | 8, hq => cases hq; exact k8
    | 9, hq => cases hq; exact k9
    | 10, hq => cases hq; exact k10
    | 11, hq => cases hq; exact k11
    | 12, hq => cases hq; exact k12
    | 13, hq => cases hq; exact k13
    | k + 14, hq => simp [classes] at hq
  obtain ⟨aI, qI, pI, xI, yI, zI⟩ := Cond.arrayClass_spec (hts _ wg_109)
  obtain ⟨aB, qB, pB, xB, yB, zB⟩ := Cond.arrayClass_spec (hts _ wg_110)
  obtain ⟨aZ, qZ, pZ, xZ, yZ, zZ⟩ := Cond.arrayClass_spec (hts _ wg_1471)
  obtain ⟨pO, aO, qO, u1, u2, u3, u4, u5⟩ := Cond.arrayOver_spec (hts _ wg_389)
  obtain ⟨t0, e0, T0⟩ := va_Tof (tm := (Term.static "UtilityBoard$Drawing" "BORNE" "[I")) (ty := .int) (N := 3) (f := fun j => .int (([10, 25, 60] : List Int32).getD j 0)) (A := fun q => s.heap.size ≤ q) (by decide) (hs _ (by decide +kernel)) (va_eqt (hs (Cond.eq (.length (Term.static "UtilityBoard$Drawing" "BORNE" "[I")) (.int 3)) (by decide +kernel))) (fun j hj => by
    match j, hj with
    | 0, _ => exact va_eqt (hs (Cond.eq (.elem (Term.static "UtilityBoard$Drawing" "BORNE" "[I") (.int 0)) (.int 10)) (by decide +kernel))
    | 1, _ => exact va_eqt (hs (Cond.eq (.elem (Term.static "UtilityBoard$Drawing" "BORNE" "[I") (.int 1)) (.int 25)) (by decide +kernel))
    | 2, _ => exact va_eqt (hs (Cond.eq (.elem (Term.static "UtilityBoard$Drawing" "BORNE" "[I") (.int 2)) (.int 60)) (by decide +kernel))
    | j + 3, h => exact absurd h (by omega)) hA
  have Z0 := va_Zof (hts _ wg_505) (hts _ wg_16) e0 hA
  obtain ⟨t1, e1, T1⟩ := va_Tof (tm := (Term.static "UtilityBoard$Drawing" "USED" "[I")) (ty := .int) (N := 3) (f := fun j => .int (([2, 4, 9] : List Int32).getD j 0)) (A := fun q => s.heap.size ≤ q) (by decide) (hs _ (by decide +kernel)) (va_eqt (hs (Cond.eq (.length (Term.static "UtilityBoard$Drawing" "USED" "[I")) (.int 3)) (by decide +kernel))) (fun j hj => by
    match j, hj with
    | 0, _ => exact va_eqt (hs (Cond.eq (.elem (Term.static "UtilityBoard$Drawing" "USED" "[I") (.int 0)) (.int 2)) (by decide +kernel))
    | 1, _ => exact va_eqt (hs (Cond.eq (.elem (Term.static "UtilityBoard$Drawing" "USED" "[I") (.int 1)) (.int 4)) (by decide +kernel))
    | 2, _ => exact va_eqt (hs (Cond.eq (.elem (Term.static "UtilityBoard$Drawing" "USED" "[I") (.int 2)) (.int 9)) (by decide +kernel))
    | j + 3, h => exact absurd h (by omega)) hA
  have Z1 := va_Zof (hts _ wg_534) (hts _ wg_16) e1 hA
  obtain ⟨t2, e2, T2⟩ := va_Tof (tm := (Term.static "java/util/ArrayList" "DEFAULTCAPACITY_EMPTY_ELEMENTDATA" "[Ljava/lang/Object;")) (ty := (.object "java/lang/Object")) (N := 0) (f := fun _ => .null) (A := fun q => s.heap.size ≤ q) (by decide) (hs _ (by decide +kernel)) (va_eqt (hs (Cond.eq (.length (Term.static "java/util/ArrayList" "DEFAULTCAPACITY_EMPTY_ELEMENTDATA" "[Ljava/lang/Object;")) (.int 0)) (by decide +kernel))) (fun j hj => absurd hj (Nat.not_lt_zero j)) hA
  have Z2 := va_Zof (hts _ wg_49) (hts _ wg_4) e2 hA
  have ZC := va_Zof (A := fun q => s.heap.size ≤ q) (hts _ wg_765) (hts _ wg_20) (va_eqi (hs (Cond.eq (.static "java/lang/String" "COMPACT_STRINGS" "Z") (.int 1)) (by decide +kernel))) hA
  have ZQ := va_Zqof (A := fun q => s.heap.size ≤ q) (hts _ wg_804) (hts _ wg_10) (hs _ (by decide +kernel)) hA
  obtain ⟨mi, hmi⟩ := va_Mi.of (C := "[Ljava/lang/Object;") (hs _ (by decide +kernel))
  obtain ⟨adK, adV, hStr, hEv⟩ := vk_Sof (N := 7) (tm := strTm) (len := strLen) (byt := strByt) (A := fun q => s.heap.size ≤ q) (fun i hi => by
    match i, hi with
    | 0, _ => decide
    | 1, _ => decide
    | 2, _ => decide
    | 3, _ => decide
    | 4, _ => decide
    | 5, _ => decide
    | 6, _ => decide
    | i + 7, h => exact absurd h (by omega))
    (fun i hi => by
    match i, hi with
    | 0, _ => exact hs (Cond.exactly (Term.string "UtilityBoard$Reader" 65) "java/lang/String") (by decide +kernel)
    | 1, _ => exact hs (Cond.exactly (Term.string "UtilityBoard$Reader" 79) "java/lang/String") (by decide +kernel)
    | 2, _ => exact hs (Cond.exactly (Term.string "UtilityBoard$Reader" 108) "java/lang/String") (by decide +kernel)
    | 3, _ => exact hs (Cond.exactly (Term.string "UtilityBoard$Reader" 104) "java/lang/String") (by decide +kernel)
    | 4, _ => exact hs (Cond.exactly (Term.string "UtilityBoard$Reader" 106) "java/lang/String") (by decide +kernel)
    | 5, _ => exact hs (Cond.exactly (Term.string "UtilityBoard$Reader" 99) "java/lang/String") (by decide +kernel)
    | 6, _ => exact hs (Cond.exactly (Term.string "UtilityBoard" 234) "java/lang/String") (by decide +kernel)
    | i + 7, h => exact absurd h (by omega))
    (fun i hi => by
    match i, hi with
    | 0, _ => exact hs (Cond.eq (.field (Term.string "UtilityBoard$Reader" 65) "java/lang/String" "coder" "B") (.int 0)) (by decide +kernel)
    | 1, _ => exact hs (Cond.eq (.field (Term.string "UtilityBoard$Reader" 79) "java/lang/String" "coder" "B") (.int 0)) (by decide +kernel)
    | 2, _ => exact hs (Cond.eq (.field (Term.string "UtilityBoard$Reader" 108) "java/lang/String" "coder" "B") (.int 0)) (by decide +kernel)
    | 3, _ => exact hs (Cond.eq (.field (Term.string "UtilityBoard$Reader" 104) "java/lang/String" "coder" "B") (.int 0)) (by decide +kernel)
    | 4, _ => exact hs (Cond.eq (.field (Term.string "UtilityBoard$Reader" 106) "java/lang/String" "coder" "B") (.int 0)) (by decide +kernel)
    | 5, _ => exact hs (Cond.eq (.field (Term.string "UtilityBoard$Reader" 99) "java/lang/String" "coder" "B") (.int 0)) (by decide +kernel)
    | 6, _ => exact hs (Cond.eq (.field (Term.string "UtilityBoard" 234) "java/lang/String" "coder" "B") (.int 0)) (by decide +kernel)
    | i + 7, h => exact absurd h (by omega))
    (fun i hi => by
    match i, hi with
    | 0, _ => exact hs (Cond.arrayOf (.field (Term.string "UtilityBoard$Reader" 65) "java/lang/String" "value" "[B") .byte) (by decide +kernel)
    | 1, _ => exact hs (Cond.arrayOf (.field (Term.string "UtilityBoard$Reader" 79) "java/lang/String" "value" "[B") .byte) (by decide +kernel)
    | 2, _ => exact hs (Cond.arrayOf (.field (Term.string "UtilityBoard$Reader" 108) "java/lang/String" "value" "[B") .byte) (by decide +kernel)
    | 3, _ => exact hs (Cond.arrayOf (.field (Term.string "UtilityBoard$Reader" 104) "java/lang/String" "value" "[B") .byte) (by decide +kernel)
    | 4, _ => exact hs (Cond.arrayOf (.field (Term.string "UtilityBoard$Reader" 106) "java/lang/String" "value" "[B") .byte) (by decide +kernel)
    | 5, _ => exact hs (Cond.arrayOf (.field (Term.string "UtilityBoard$Reader" 99) "java/lang/String" "value" "[B") .byte) (by decide +kernel)
    | 6, _ => exact hs (Cond.arrayOf (.field (Term.string "UtilityBoard" 234) "java/lang/String" "value" "[B") .byte) (by decide +kernel)
    | i + 7, h => exact absurd h (by omega))
    (fun i hi => by
    match i, hi with
    | 0, _ => exact hs (Cond.eq (.length (.field (Term.string "UtilityBoard$Reader" 65) "java/lang/String" "value" "[B")) (.int 7)) (by decide +kernel)
    | 1, _ => exact hs (Cond.eq (.length (.field (Term.string "UtilityBoard$Reader" 79) "java/lang/String" "value" "[B")) (.int 4)) (by decide +kernel)
    | 2, _ => exact hs (Cond.eq (.length (.field (Term.string "UtilityBoard$Reader" 108) "java/lang/String" "value" "[B")) (.int 9)) (by decide +kernel)
    | 3, _ => exact hs (Cond.eq (.length (.field (Term.string "UtilityBoard$Reader" 104) "java/lang/String" "value" "[B")) (.int 3)) (by decide +kernel)
    | 4, _ => exact hs (Cond.eq (.length (.field (Term.string "UtilityBoard$Reader" 106) "java/lang/String" "value" "[B")) (.int 2)) (by decide +kernel)
    | 5, _ => exact hs (Cond.eq (.length (.field (Term.string "UtilityBoard$Reader" 99) "java/lang/String" "value" "[B")) (.int 3)) (by decide +kernel)
    | 6, _ => exact hs (Cond.eq (.length (.field (Term.string "UtilityBoard" 234) "java/lang/String" "value" "[B")) (.int 6)) (by decide +kernel)
    | i + 7, h => exact absurd h (by omega))
    (fun i hi j hj => by
    match i, hi, j, hj with
    | 0, _, 0, _ => exact hs (Cond.eq (.elem (.field (Term.string "UtilityBoard$Reader" 65) "java/lang/String" "value" "[B") (.int 0)) (.int 98)) (by decide +kernel)
    | 0, _, 1, _ => exact hs (Cond.eq (.elem (.field (Term.string "UtilityBoard$Reader" 65) "java/lang/String" "value" "[B") (.int 1)) (.int 109)) (by decide +kernel)
    | 0, _, 2, _ => exact hs (Cond.eq (.elem (.field (Term.string "UtilityBoard$Reader" 65) "java/lang/String" "value" "[B") (.int 2)) (.int 112)) (by decide +kernel)
    | 0, _, 3, _ => exact hs (Cond.eq (.elem (.field (Term.string "UtilityBoard$Reader" 65) "java/lang/String" "value" "[B") (.int 3)) (.int 99)) (by decide +kernel)
    | 0, _, 4, _ => exact hs (Cond.eq (.elem (.field (Term.string "UtilityBoard$Reader" 65) "java/lang/String" "value" "[B") (.int 4)) (.int 103)) (by decide +kernel)
    | 0, _, 5, _ => exact hs (Cond.eq (.elem (.field (Term.string "UtilityBoard$Reader" 65) "java/lang/String" "value" "[B") (.int 5)) (.int 100)) (by decide +kernel)
    | 0, _, 6, _ => exact hs (Cond.eq (.elem (.field (Term.string "UtilityBoard$Reader" 65) "java/lang/String" "value" "[B") (.int 6)) (.int 120)) (by decide +kernel)
    | 0, _, j + 7, h => exact absurd (show j + 7 < 7 from h) (by omega)
    | 1, _, 0, _ => exact hs (Cond.eq (.elem (.field (Term.string "UtilityBoard$Reader" 79) "java/lang/String" "value" "[B") (.int 0)) (.int 112)) (by decide +kernel)
    | 1, _, 1, _ => exact hs (Cond.eq (.elem (.field (Term.string "UtilityBoard$Reader" 79) "java/lang/String" "value" "[B") (.int 1)) (.int 99)) (by decide +kernel)
    | 1, _, 2, _ => exact hs (Cond.eq (.elem (.field (Term.string "UtilityBoard$Reader" 79) "java/lang/String" "value" "[B") (.int 2)) (.int 103)) (by decide +kernel)
    | 1, _, 3, _ => exact hs (Cond.eq (.elem (.field (Term.string "UtilityBoard$Reader" 79) "java/lang/String" "value" "[B") (.int 3)) (.int 100)) (by decide +kernel)
    | 1, _, j + 4, h => exact absurd (show j + 4 < 4 from h) (by omega)
    | 2, _, 0, _ => exact hs (Cond.eq (.elem (.field (Term.string "UtilityBoard$Reader" 108) "java/lang/String" "value" "[B") (.int 0)) (.int 119)) (by decide +kernel)
    | 2, _, 1, _ => exact hs (Cond.eq (.elem (.field (Term.string "UtilityBoard$Reader" 108) "java/lang/String" "value" "[B") (.int 1)) (.int 107)) (by decide +kernel)
    | 2, _, 2, _ => exact hs (Cond.eq (.elem (.field (Term.string "UtilityBoard$Reader" 108) "java/lang/String" "value" "[B") (.int 2)) (.int 110)) (by decide +kernel)
    | 2, _, 3, _ => exact hs (Cond.eq (.elem (.field (Term.string "UtilityBoard$Reader" 108) "java/lang/String" "value" "[B") (.int 3)) (.int 113)) (by decide +kernel)
    | 2, _, 4, _ => exact hs (Cond.eq (.elem (.field (Term.string "UtilityBoard$Reader" 108) "java/lang/String" "value" "[B") (.int 4)) (.int 105)) (by decide +kernel)
    | 2, _, 5, _ => exact hs (Cond.eq (.elem (.field (Term.string "UtilityBoard$Reader" 108) "java/lang/String" "value" "[B") (.int 5)) (.int 97)) (by decide +kernel)
    | 2, _, 6, _ => exact hs (Cond.eq (.elem (.field (Term.string "UtilityBoard$Reader" 108) "java/lang/String" "value" "[B") (.int 6)) (.int 116)) (by decide +kernel)
    | 2, _, 7, _ => exact hs (Cond.eq (.elem (.field (Term.string "UtilityBoard$Reader" 108) "java/lang/String" "value" "[B") (.int 7)) (.int 106)) (by decide +kernel)
    | 2, _, 8, _ => exact hs (Cond.eq (.elem (.field (Term.string "UtilityBoard$Reader" 108) "java/lang/String" "value" "[B") (.int 8)) (.int 104)) (by decide +kernel)
    | 2, _, j + 9, h => exact absurd (show j + 9 < 9 from h) (by omega)
    | 3, _, 0, _ => exact hs (Cond.eq (.elem (.field (Term.string "UtilityBoard$Reader" 104) "java/lang/String" "value" "[B") (.int 0)) (.int 42)) (by decide +kernel)
    | 3, _, 1, _ => exact hs (Cond.eq (.elem (.field (Term.string "UtilityBoard$Reader" 104) "java/lang/String" "value" "[B") (.int 1)) (.int 47)) (by decide +kernel)
    | 3, _, 2, _ => exact hs (Cond.eq (.elem (.field (Term.string "UtilityBoard$Reader" 104) "java/lang/String" "value" "[B") (.int 2)) (.int 37)) (by decide +kernel)
    | 3, _, j + 3, h => exact absurd (show j + 3 < 3 from h) (by omega)
    | 4, _, 0, _ => exact hs (Cond.eq (.elem (.field (Term.string "UtilityBoard$Reader" 106) "java/lang/String" "value" "[B") (.int 0)) (.int 43)) (by decide +kernel)
    | 4, _, 1, _ => exact hs (Cond.eq (.elem (.field (Term.string "UtilityBoard$Reader" 106) "java/lang/String" "value" "[B") (.int 1)) (.int 45)) (by decide +kernel)
    | 4, _, j + 2, h => exact absurd (show j + 2 < 2 from h) (by omega)
    | 5, _, 0, _ => exact hs (Cond.eq (.elem (.field (Term.string "UtilityBoard$Reader" 99) "java/lang/String" "value" "[B") (.int 0)) (.int 60)) (by decide +kernel)
    | 5, _, 1, _ => exact hs (Cond.eq (.elem (.field (Term.string "UtilityBoard$Reader" 99) "java/lang/String" "value" "[B") (.int 1)) (.int 62)) (by decide +kernel)
    | 5, _, 2, _ => exact hs (Cond.eq (.elem (.field (Term.string "UtilityBoard$Reader" 99) "java/lang/String" "value" "[B") (.int 2)) (.int 61)) (by decide +kernel)
    | 5, _, j + 3, h => exact absurd (show j + 3 < 3 from h) (by omega)
    | 6, _, 0, _ => exact hs (Cond.eq (.elem (.field (Term.string "UtilityBoard" 234) "java/lang/String" "value" "[B") (.int 0)) (.int 112)) (by decide +kernel)
    | 6, _, 1, _ => exact hs (Cond.eq (.elem (.field (Term.string "UtilityBoard" 234) "java/lang/String" "value" "[B") (.int 1)) (.int 99)) (by decide +kernel)
    | 6, _, 2, _ => exact hs (Cond.eq (.elem (.field (Term.string "UtilityBoard" 234) "java/lang/String" "value" "[B") (.int 2)) (.int 103)) (by decide +kernel)
    | 6, _, 3, _ => exact hs (Cond.eq (.elem (.field (Term.string "UtilityBoard" 234) "java/lang/String" "value" "[B") (.int 3)) (.int 100)) (by decide +kernel)
    | 6, _, 4, _ => exact hs (Cond.eq (.elem (.field (Term.string "UtilityBoard" 234) "java/lang/String" "value" "[B") (.int 4)) (.int 109)) (by decide +kernel)
    | 6, _, 5, _ => exact hs (Cond.eq (.elem (.field (Term.string "UtilityBoard" 234) "java/lang/String" "value" "[B") (.int 5)) (.int 98)) (by decide +kernel)
    | 6, _, j + 6, h => exact absurd (show j + 6 < 6 from h) (by omega)
    | i + 7, h, _, _ => exact absurd h (by omega))
    (fun i j hi hj hij => by
    match i, hi, j, hj with
    | 0, _, 0, _ => exact absurd rfl hij
    | 0, _, 1, _ => exact Or.inl (hs (Cond.not (Cond.eq (Term.string "UtilityBoard$Reader" 65) (Term.string "UtilityBoard$Reader" 79))) (by decide +kernel))
    | 0, _, 2, _ => exact Or.inl (hs (Cond.not (Cond.eq (Term.string "UtilityBoard$Reader" 65) (Term.string "UtilityBoard$Reader" 108))) (by decide +kernel))
    | 0, _, 3, _ => exact Or.inl (hs (Cond.not (Cond.eq (Term.string "UtilityBoard$Reader" 65) (Term.string "UtilityBoard$Reader" 104))) (by decide +kernel))
    | 0, _, 4, _ => exact Or.inl (hs (Cond.not (Cond.eq (Term.string "UtilityBoard$Reader" 65) (Term.string "UtilityBoard$Reader" 106))) (by decide +kernel))
    | 0, _, 5, _ => exact Or.inl (hs (Cond.not (Cond.eq (Term.string "UtilityBoard$Reader" 65) (Term.string "UtilityBoard$Reader" 99))) (by decide +kernel))
    | 0, _, 6, _ => exact Or.inl (hs (Cond.not (Cond.eq (Term.string "UtilityBoard$Reader" 65) (Term.string "UtilityBoard" 234))) (by decide +kernel))
    | 0, _, j + 7, h => exact absurd h (by omega)
    | 1, _, 0, _ => exact Or.inr (hs (Cond.not (Cond.eq (Term.string "UtilityBoard$Reader" 65) (Term.string "UtilityBoard$Reader" 79))) (by decide +kernel))
    | 1, _, 1, _ => exact absurd rfl hij
    | 1, _, 2, _ => exact Or.inl (hs (Cond.not (Cond.eq (Term.string "UtilityBoard$Reader" 79) (Term.string "UtilityBoard$Reader" 108))) (by decide +kernel))
    | 1, _, 3, _ => exact Or.inl (hs (Cond.not (Cond.eq (Term.string "UtilityBoard$Reader" 79) (Term.string "UtilityBoard$Reader" 104))) (by decide +kernel))
    | 1, _, 4, _ => exact Or.inl (hs (Cond.not (Cond.eq (Term.string "UtilityBoard$Reader" 79) (Term.string "UtilityBoard$Reader" 106))) (by decide +kernel))
    | 1, _, 5, _ => exact Or.inl (hs (Cond.not (Cond.eq (Term.string "UtilityBoard$Reader" 79) (Term.string "UtilityBoard$Reader" 99))) (by decide +kernel))
    | 1, _, 6, _ => exact Or.inl (hs (Cond.not (Cond.eq (Term.string "UtilityBoard$Reader" 79) (Term.string "UtilityBoard" 234))) (by decide +kernel))
    | 1, _, j + 7, h => exact absurd h (by omega)
    | 2, _, 0, _ => exact Or.inr (hs (Cond.not (Cond.eq (Term.string "UtilityBoard$Reader" 65) (Term.string "UtilityBoard$Reader" 108))) (by decide +kernel))
    | 2, _, 1, _ => exact Or.inr (hs (Cond.not (Cond.eq (Term.string "UtilityBoard$Reader" 79) (Term.string "UtilityBoard$Reader" 108))) (by decide +kernel))
    | 2, _, 2, _ => exact absurd rfl hij
    | 2, _, 3, _ => exact Or.inl (hs (Cond.not (Cond.eq (Term.string "UtilityBoard$Reader" 108) (Term.string "UtilityBoard$Reader" 104))) (by decide +kernel))
    | 2, _, 4, _ => exact Or.inl (hs (Cond.not (Cond.eq (Term.string "UtilityBoard$Reader" 108) (Term.string "UtilityBoard$Reader" 106))) (by decide +kernel))
    | 2, _, 5, _ => exact Or.inl (hs (Cond.not (Cond.eq (Term.string "UtilityBoard$Reader" 108) (Term.string "UtilityBoard$Reader" 99))) (by decide +kernel))
    | 2, _, 6, _ => exact Or.inl (hs (Cond.not (Cond.eq (Term.string "UtilityBoard$Reader" 108) (Term.string "UtilityBoard" 234))) (by decide +kernel))
    | 2, _, j + 7, h => exact absurd h (by omega)
    | 3, _, 0, _ => exact Or.inr (hs (Cond.not (Cond.eq (Term.string "UtilityBoard$Reader" 65) (Term.string "UtilityBoard$Reader" 104))) (by decide +kernel))
    | 3, _, 1, _ => exact Or.inr (hs (Cond.not (Cond.eq (Term.string "UtilityBoard$Reader" 79) (Term.string "UtilityBoard$Reader" 104))) (by decide +kernel))
    | 3, _, 2, _ => exact Or.inr (hs (Cond.not (Cond.eq (Term.string "UtilityBoard$Reader" 108) (Term.string "UtilityBoard$Reader" 104))) (by decide +kernel))
    | 3, _, 3, _ => exact absurd rfl hij
    | 3, _, 4, _ => exact Or.inl (hs (Cond.not (Cond.eq (Term.string "UtilityBoard$Reader" 104) (Term.string "UtilityBoard$Reader" 106))) (by decide +kernel))
    | 3, _, 5, _ => exact Or.inl (hs (Cond.not (Cond.eq (Term.string "UtilityBoard$Reader" 104) (Term.string "UtilityBoard$Reader" 99))) (by decide +kernel))
    | 3, _, 6, _ => exact Or.inl (hs (Cond.not (Cond.eq (Term.string "UtilityBoard$Reader" 104) (Term.string "UtilityBoard" 234))) (by decide +kernel))
    | 3, _, j + 7, h => exact absurd h (by omega)
    | 4, _, 0, _ => exact Or.inr (hs (Cond.not (Cond.eq (Term.string "UtilityBoard$Reader" 65) (Term.string "UtilityBoard$Reader" 106))) (by decide +kernel))
    | 4, _, 1, _ => exact Or.inr (hs (Cond.not (Cond.eq (Term.string "UtilityBoard$Reader" 79) (Term.string "UtilityBoard$Reader" 106))) (by decide +kernel))
    | 4, _, 2, _ => exact Or.inr (hs (Cond.not (Cond.eq (Term.string "UtilityBoard$Reader" 108) (Term.string "UtilityBoard$Reader" 106))) (by decide +kernel))
    | 4, _, 3, _ => exact Or.inr (hs (Cond.not (Cond.eq (Term.string "UtilityBoard$Reader" 104) (Term.string "UtilityBoard$Reader" 106))) (by decide +kernel))
    | 4, _, 4, _ => exact absurd rfl hij
    | 4, _, 5, _ => exact Or.inl (hs (Cond.not (Cond.eq (Term.string "UtilityBoard$Reader" 106) (Term.string "UtilityBoard$Reader" 99))) (by decide +kernel))
    | 4, _, 6, _ => exact Or.inl (hs (Cond.not (Cond.eq (Term.string "UtilityBoard$Reader" 106) (Term.string "UtilityBoard" 234))) (by decide +kernel))
    | 4, _, j + 7, h => exact absurd h (by omega)
    | 5, _, 0, _ => exact Or.inr (hs (Cond.not (Cond.eq (Term.string "UtilityBoard$Reader" 65) (Term.string "UtilityBoard$Reader" 99))) (by decide +kernel))
    | 5, _, 1, _ => exact Or.inr (hs (Cond.not (Cond.eq (Term.string "UtilityBoard$Reader" 79) (Term.string "UtilityBoard$Reader" 99))) (by decide +kernel))
    | 5, _, 2, _ => exact Or.inr (hs (Cond.not (Cond.eq (Term.string "UtilityBoard$Reader" 108) (Term.string "UtilityBoard$Reader" 99))) (by decide +kernel))
    | 5, _, 3, _ => exact Or.inr (hs (Cond.not (Cond.eq (Term.string "UtilityBoard$Reader" 104) (Term.string "UtilityBoard$Reader" 99))) (by decide +kernel))
    | 5, _, 4, _ => exact Or.inr (hs (Cond.not (Cond.eq (Term.string "UtilityBoard$Reader" 106) (Term.string "UtilityBoard$Reader" 99))) (by decide +kernel))
    | 5, _, 5, _ => exact absurd rfl hij
    | 5, _, 6, _ => exact Or.inl (hs (Cond.not (Cond.eq (Term.string "UtilityBoard$Reader" 99) (Term.string "UtilityBoard" 234))) (by decide +kernel))
    | 5, _, j + 7, h => exact absurd h (by omega)
    | 6, _, 0, _ => exact Or.inr (hs (Cond.not (Cond.eq (Term.string "UtilityBoard$Reader" 65) (Term.string "UtilityBoard" 234))) (by decide +kernel))
    | 6, _, 1, _ => exact Or.inr (hs (Cond.not (Cond.eq (Term.string "UtilityBoard$Reader" 79) (Term.string "UtilityBoard" 234))) (by decide +kernel))
    | 6, _, 2, _ => exact Or.inr (hs (Cond.not (Cond.eq (Term.string "UtilityBoard$Reader" 108) (Term.string "UtilityBoard" 234))) (by decide +kernel))
    | 6, _, 3, _ => exact Or.inr (hs (Cond.not (Cond.eq (Term.string "UtilityBoard$Reader" 104) (Term.string "UtilityBoard" 234))) (by decide +kernel))
    | 6, _, 4, _ => exact Or.inr (hs (Cond.not (Cond.eq (Term.string "UtilityBoard$Reader" 106) (Term.string "UtilityBoard" 234))) (by decide +kernel))
    | 6, _, 5, _ => exact Or.inr (hs (Cond.not (Cond.eq (Term.string "UtilityBoard$Reader" 99) (Term.string "UtilityBoard" 234))) (by decide +kernel))
    | 6, _, 6, _ => exact absurd rfl hij
    | 6, _, j + 7, h => exact absurd h (by omega)
    | i + 7, h, _, _ => exact absurd h (by omega)) hA
  refine ⟨(s.heap.size, (dC, dI), aI, aB, aZ, aO, adK, adV, fun i => match i with | 0 => t0 | 1 => t1 | 2 => t2 | _ => mi), rfl, ⟨⟨hKc, ?_⟩, ?_, ?_, ?_, ?_, ?_⟩, Z0, T0, Z1, T1, Z2, T2, ZC, hStr, ?_, hmi, ZQ⟩
  · intro k q hq
    match k, hq with
    | 0, hq => cases hq; exact ⟨fun n z => ⟨fun k h => (by cases h), qI, yI, pI, zI⟩, xI⟩
    | 1, hq => cases hq; exact ⟨fun n z => ⟨fun k h => (by cases h), qB, yB, pB, zB⟩, xB⟩
    | 2, hq => cases hq; exact ⟨fun n z => ⟨fun k h => (by cases h), qZ, yZ, pZ, zZ⟩, xZ⟩
    | 3, hq => cases hq; exact ⟨fun n z => ⟨fun k h => (by cases h), qO, u3, pO, u4⟩, qO, pO, u3, u4, u1, u5⟩
    | k + 4, hq => simp [tys] at hq
  · exact List.forall_mem_cons.mpr ⟨va_Nw.of rfl (hts _ wg_64), List.forall_mem_cons.mpr ⟨va_Nw.of rfl (hts _ wg_113), List.forall_mem_cons.mpr ⟨va_Nw.of rfl (hts _ wg_147), List.forall_mem_cons.mpr ⟨va_Nw.of rfl (hts _ wg_470), List.forall_mem_cons.mpr ⟨va_Nw.of rfl (hts _ wg_613), List.forall_mem_cons.mpr ⟨va_Nw.of rfl (hts _ wg_622), List.forall_mem_cons.mpr ⟨va_Nw.of rfl (hts _ wg_1145), fun _ h => absurd h List.not_mem_nil⟩⟩⟩⟩⟩⟩⟩
  · exact va_AO.of (hts _ wg_389)
  · exact va_Dc.of (hts _ wg_1856)
  · exact List.forall_mem_cons.mpr ⟨va_Nw.of rfl (hts _ wg_1845), List.forall_mem_cons.mpr ⟨va_Nw.of rfl (hts _ wg_1852), List.forall_mem_cons.mpr ⟨va_Nw.of rfl (hts _ wg_1846), List.forall_mem_cons.mpr ⟨va_Nw.of rfl (hts _ wg_1850), List.forall_mem_cons.mpr ⟨va_Nw.of rfl (hts _ wg_1842), List.forall_mem_cons.mpr ⟨va_Nw.of rfl (hts _ wg_1843), List.forall_mem_cons.mpr ⟨va_Nw.of rfl (hts _ wg_1848), List.forall_mem_cons.mpr ⟨va_Nw.of rfl (hts _ wg_1849), List.forall_mem_cons.mpr ⟨va_Nw.of rfl (hts _ wg_1851), List.forall_mem_cons.mpr ⟨va_Nw.of rfl (hts _ wg_1841), List.forall_mem_cons.mpr ⟨va_Nw.of rfl (hts _ wg_1847), List.forall_mem_cons.mpr ⟨va_Nw.of rfl (hts _ wg_1839), List.forall_mem_cons.mpr ⟨va_Nw.of rfl (hts _ wg_1844), List.forall_mem_cons.mpr ⟨va_Nw.of rfl (hts _ wg_1840), fun _ h => absurd h List.not_mem_nil⟩⟩⟩⟩⟩⟩⟩⟩⟩⟩⟩⟩⟩⟩
  · exact va_Nw.of rfl (hts _ wg_890)
  · intro i q hq
    match i, hq with
    | 0, hq => cases hq; exact vk_R.of (hts _ wg_748) (hEv 0 (by decide))
    | 1, hq => cases hq; exact vk_R.of (hts _ wg_846) (hEv 1 (by decide))
    | 2, hq => cases hq; exact vk_R.of (hts _ wg_868) (hEv 2 (by decide))
    | 3, hq => cases hq; exact vk_R.of (hts _ wg_869) (hEv 3 (by decide))
    | 4, hq => cases hq; exact vk_R.of (hts _ wg_870) (hEv 4 (by decide))
    | 5, hq => cases hq; exact vk_R.of (hts _ wg_871) (hEv 5 (by decide))
    | 6, hq => cases hq; exact vk_R.of (hts _ wg_934) (hEv 6 (by decide))
    | i + 7, hq => simp [strRef] at hq
