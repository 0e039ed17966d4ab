theorem S_J6_bitCount_0f7a4_0 {E : EN} {X : CX} {P : Option Value → MH → Prop} {ad : AD} {fu : Nat} {out : Int32 × St} (hp : ∀ M, Rep E ad out.2 M → P (some (.int out.1)) M) {V : St} {M : MH} {x0 : Int32} (hR : Rep E ad V M) (h : f_J6_bitCount_0f7a4 fu V x0 = some out) : G E X RJ6 cJ6_bitCount_0f7a4 1 (some .int) false (rmD 1) P M [some (.int (x0))] 0 0 0 [] := by
  unfold f_J6_bitCount_0f7a4 at h
  refine r_iload_n DJ6_bitCount_0f7a4_0 rfl ?_
  refine r_iload_n DJ6_bitCount_0f7a4_1 rfl ?_
  refine r_iconst (v := 1) DJ6_bitCount_0f7a4_2 ki_1 ?_
  refine r_iushr DJ6_bitCount_0f7a4_3 ?_
  refine r_ldcw (v := 1431655765) DJ6_bitCount_0f7a4_4 ck_J6_265 ?_
  refine r_iand DJ6_bitCount_0f7a4_7 ?_
  refine r_isub DJ6_bitCount_0f7a4_8 ?_
  refine t_istore_n (L' := [some (.int (x0 - ((((x0).toUInt32 >>> (((1 : Int32) : Int32).toUInt32 &&& Int32.toUInt32 31)).toInt32) &&& (1431655765 : Int32))))]) DJ6_bitCount_0f7a4_9 (by decide) rfl ?_
  refine r_iload_n DJ6_bitCount_0f7a4_10 rfl ?_
  refine r_ldcw (v := 858993459) DJ6_bitCount_0f7a4_11 ck_J6_266 ?_
  refine r_iand DJ6_bitCount_0f7a4_14 ?_
  refine r_iload_n DJ6_bitCount_0f7a4_15 rfl ?_
  refine r_iconst (v := 2) DJ6_bitCount_0f7a4_16 ki_2 ?_
  refine r_iushr DJ6_bitCount_0f7a4_17 ?_
  refine r_ldcw (v := 858993459) DJ6_bitCount_0f7a4_18 ck_J6_266 ?_
  refine r_iand DJ6_bitCount_0f7a4_21 ?_
  refine r_iadd DJ6_bitCount_0f7a4_22 ?_
  refine t_istore_n (L' := [some (.int (((x0 - ((((x0).toUInt32 >>> (((1 : Int32) : Int32).toUInt32 &&& Int32.toUInt32 31)).toInt32) &&& (1431655765 : Int32))) &&& (858993459 : Int32)) + ((((x0 - ((((x0).toUInt32 >>> (((1 : Int32) : Int32).toUInt32 &&& Int32.toUInt32 31)).toInt32) &&& (1431655765 : Int32))).toUInt32 >>> (((2 : Int32) : Int32).toUInt32 &&& Int32.toUInt32 31)).toInt32) &&& (858993459 : Int32))))]) DJ6_bitCount_0f7a4_23 (by decide) rfl ?_
  refine r_iload_n DJ6_bitCount_0f7a4_24 rfl ?_
  refine r_iload_n DJ6_bitCount_0f7a4_25 rfl ?_
  refine r_iconst (v := 4) DJ6_bitCount_0f7a4_26 ki_4 ?_
  refine r_iushr DJ6_bitCount_0f7a4_27 ?_
  refine r_iadd DJ6_bitCount_0f7a4_28 ?_
  refine r_ldcw (v := 252645135) DJ6_bitCount_0f7a4_29 ck_J6_267 ?_
  refine r_iand DJ6_bitCount_0f7a4_32 ?_
  refine t_istore_n (L' := [some (.int (((((x0 - ((((x0).toUInt32 >>> (((1 : Int32) : Int32).toUInt32 &&& Int32.toUInt32 31)).toInt32) &&& (1431655765 : Int32))) &&& (858993459 : Int32)) + ((((x0 - ((((x0).toUInt32 >>> (((1 : Int32) : Int32).toUInt32 &&& Int32.toUInt32 31)).toInt32) &&& (1431655765 : Int32))).toUInt32 >>> (((2 : Int32) : Int32).toUInt32 &&& Int32.toUInt32 31)).toInt32) &&& (858993459 : Int32))) + (((((x0 - ((((x0).toUInt32 >>> (((1 : Int32) : Int32).toUInt32 &&& Int32.toUInt32 31)).toInt32) &&& (1431655765 : Int32))) &&& (858993459 : Int32)) + ((((x0 - ((((x0).toUInt32 >>> (((1 : Int32) : Int32).toUInt32 &&& Int32.toUInt32 31)).toInt32) &&& (1431655765 : Int32))).toUInt32 >>> (((2 : Int32) : Int32).toUInt32 &&& Int32.toUInt32 31)).toInt32) &&& (858993459 : Int32))).toUInt32 >>> (((4 : Int32) : Int32).toUInt32 &&& Int32.toUInt32 31)).toInt32)) &&& (252645135 : Int32)))]) DJ6_bitCount_0f7a4_33 (by decide) rfl ?_
  refine r_iload_n DJ6_bitCount_0f7a4_34 rfl ?_
  refine r_iload_n DJ6_bitCount_0f7a4_35 rfl ?_
  refine r_bipush (v := 8) DJ6_bitCount_0f7a4_36 kb_8 ?_
  refine r_iushr DJ6_bitCount_0f7a4_38 ?_
  refine r_iadd DJ6_bitCount_0f7a4_39 ?_
  refine t_istore_n (L' := [some (.int ((((((x0 - ((((x0).toUInt32 >>> (((1 : Int32) : Int32).toUInt32 &&& Int32.toUInt32 31)).toInt32) &&& (1431655765 : Int32))) &&& (858993459 : Int32)) + ((((x0 - ((((x0).toUInt32 >>> (((1 : Int32) : Int32).toUInt32 &&& Int32.toUInt32 31)).toInt32) &&& (1431655765 : Int32))).toUInt32 >>> (((2 : Int32) : Int32).toUInt32 &&& Int32.toUInt32 31)).toInt32) &&& (858993459 : Int32))) + (((((x0 - ((((x0).toUInt32 >>> (((1 : Int32) : Int32).toUInt32 &&& Int32.toUInt32 31)).toInt32) &&& (1431655765 : Int32))) &&& (858993459 : Int32)) + ((((x0 - ((((x0).toUInt32 >>> (((1 : Int32) : Int32).toUInt32 &&& Int32.toUInt32 31)).toInt32) &&& (1431655765 : Int32))).toUInt32 >>> (((2 : Int32) : Int32).toUInt32 &&& Int32.toUInt32 31)).toInt32) &&& (858993459 : Int32))).toUInt32 >>> (((4 : Int32) : Int32).toUInt32 &&& Int32.toUInt32 31)).toInt32)) &&& (252645135 : Int32)) + (((((((x0 - ((((x0).toUInt32 >>> (((1 : Int32) : Int32).toUInt32 &&& Int32.toUInt32 31)).toInt32) &&& (1431655765 : Int32))) &&& (858993459 : Int32)) + ((((x0 - ((((x0).toUInt32 >>> (((1 : Int32) : Int32).toUInt32 &&& Int32.toUInt32 31)).toInt32) &&& (1431655765 : Int32))).toUInt32 >>> (((2 : Int32) : Int32).toUInt32 &&& Int32.toUInt32 31)).toInt32) &&& (858993459 : Int32))) + (((((x0 - ((((x0).toUInt32 >>> (((1 : Int32) : Int32).toUInt32 &&& Int32.toUInt32 31)).toInt32) &&& (1431655765 : Int32))) &&& (858993459 : Int32)) + ((((x0 - ((((x0).toUInt32 >>> (((1 : Int32) : Int32).toUInt32 &&& Int32.toUInt32 31)).toInt32) &&& (1431655765 : Int32))).toUInt32 >>> (((2 : Int32) : Int32).toUInt32 &&& Int32.toUInt32 31)).toInt32) &&& (858993459 : Int32))).toUInt32 >>> (((4 : Int32) : Int32).toUInt32 &&& Int32.toUInt32 31)).toInt32)) &&& (252645135 : Int32)).toUInt32 >>> (((8 : Int32) : Int32).toUInt32 &&& Int32.toUInt32 31)).toInt32)))]) DJ6_bitCount_0f7a4_40 (by decide) rfl ?_
  refine r_iload_n DJ6_bitCount_0f7a4_41 rfl ?_
  refine r_iload_n DJ6_bitCount_0f7a4_42 rfl ?_
  refine r_bipush (v := 16) DJ6_bitCount_0f7a4_43 kb_16 ?_
  refine r_iushr DJ6_bitCount_0f7a4_45 ?_
  refine r_iadd DJ6_bitCount_0f7a4_46 ?_
  refine t_istore_n (L' := [some (.int (((((((x0 - ((((x0).toUInt32 >>> (((1 : Int32) : Int32).toUInt32 &&& Int32.toUInt32 31)).toInt32) &&& (1431655765 : Int32))) &&& (858993459 : Int32)) + ((((x0 - ((((x0).toUInt32 >>> (((1 : Int32) : Int32).toUInt32 &&& Int32.toUInt32 31)).toInt32) &&& (1431655765 : Int32))).toUInt32 >>> (((2 : Int32) : Int32).toUInt32 &&& Int32.toUInt32 31)).toInt32) &&& (858993459 : Int32))) + (((((x0 - ((((x0).toUInt32 >>> (((1 : Int32) : Int32).toUInt32 &&& Int32.toUInt32 31)).toInt32) &&& (1431655765 : Int32))) &&& (858993459 : Int32)) + ((((x0 - ((((x0).toUInt32 >>> (((1 : Int32) : Int32).toUInt32 &&& Int32.toUInt32 31)).toInt32) &&& (1431655765 : Int32))).toUInt32 >>> (((2 : Int32) : Int32).toUInt32 &&& Int32.toUInt32 31)).toInt32) &&& (858993459 : Int32))).toUInt32 >>> (((4 : Int32) : Int32).toUInt32 &&& Int32.toUInt32 31)).toInt32)) &&& (252645135 : Int32)) + (((((((x0 - ((((x0).toUInt32 >>> (((1 : Int32) : Int32).toUInt32 &&& Int32.toUInt32 31)).toInt32) &&& (1431655765 : Int32))) &&& (858993459 : Int32)) + ((((x0 - ((((x0).toUInt32 >>> (((1 : Int32) : Int32).toUInt32 &&& Int32.toUInt32 31)).toInt32) &&& (1431655765 : Int32))).toUInt32 >>> (((2 : Int32) : Int32).toUInt32 &&& Int32.toUInt32 31)).toInt32) &&& (858993459 : Int32))) + (((((x0 - ((((x0).toUInt32 >>> (((1 : Int32) : Int32).toUInt32 &&& Int32.toUInt32 31)).toInt32) &&& (1431655765 : Int32))) &&& (858993459 : Int32)) + ((((x0 - ((((x0).toUInt32 >>> (((1 : Int32) : Int32).toUInt32 &&& Int32.toUInt32 31)).toInt32) &&& (1431655765 : Int32))).toUInt32 >>> (((2 : Int32) : Int32).toUInt32 &&& Int32.toUInt32 31)).toInt32) &&& (858993459 : Int32))).toUInt32 >>> (((4 : Int32) : Int32).toUInt32 &&& Int32.toUInt32 31)).toInt32)) &&& (252645135 : Int32)).toUInt32 >>> (((8 : Int32) : Int32).toUInt32 &&& Int32.toUInt32 31)).toInt32)) + ((((((((x0 - ((((x0).toUInt32 >>> (((1 : Int32) : Int32).toUInt32 &&& Int32.toUInt32 31)).toInt32) &&& (1431655765 : Int32))) &&& (858993459 : Int32)) + ((((x0 - ((((x0).toUInt32 >>> (((1 : Int32) : Int32).toUInt32 &&& Int32.toUInt32 31)).toInt32) &&& (1431655765 : Int32))).toUInt32 >>> (((2 : Int32) : Int32).toUInt32 &&& Int32.toUInt32 31)).toInt32) &&& (858993459 : Int32))) + (((((x0 - ((((x0).toUInt32 >>> (((1 : Int32) : Int32).toUInt32 &&& Int32.toUInt32 31)).toInt32) &&& (1431655765 : Int32))) &&& (858993459 : Int32)) + ((((x0 - ((((x0).toUInt32 >>> (((1 : Int32) : Int32).toUInt32 &&& Int32.toUInt32 31)).toInt32) &&& (1431655765 : Int32))).toUInt32 >>> (((2 : Int32) : Int32).toUInt32 &&& Int32.toUInt32 31)).toInt32) &&& (858993459 : Int32))).toUInt32 >>> (((4 : Int32) : Int32).toUInt32 &&& Int32.toUInt32 31)).toInt32)) &&& (252645135 : Int32)) + (((((((x0 - ((((x0).toUInt32 >>> (((1 : Int32) : Int32).toUInt32 &&& Int32.toUInt32 31)).toInt32) &&& (1431655765 : Int32))) &&& (858993459 : Int32)) + ((((x0 - ((((x0).toUInt32 >>> (((1 : Int32) : Int32).toUInt32 &&& Int32.toUInt32 31)).toInt32) &&& (1431655765 : Int32))).toUInt32 >>> (((2 : Int32) : Int32).toUInt32 &&& Int32.toUInt32 31)).toInt32) &&& (858993459 : Int32))) + (((((x0 - ((((x0).toUInt32 >>> (((1 : Int32) : Int32).toUInt32 &&& Int32.toUInt32 31)).toInt32) &&& (1431655765 : Int32))) &&& (858993459 : Int32)) + ((((x0 - ((((x0).toUInt32 >>> (((1 : Int32) : Int32).toUInt32 &&& Int32.toUInt32 31)).toInt32) &&& (1431655765 : Int32))).toUInt32 >>> (((2 : Int32) : Int32).toUInt32 &&& Int32.toUInt32 31)).toInt32) &&& (858993459 : Int32))).toUInt32 >>> (((4 : Int32) : Int32).toUInt32 &&& Int32.toUInt32 31)).toInt32)) &&& (252645135 : Int32)).toUInt32 >>> (((8 : Int32) : Int32).toUInt32 &&& Int32.toUInt32 31)).toInt32)).toUInt32 >>> (((16 : Int32) : Int32).toUInt32 &&& Int32.toUInt32 31)).toInt32)))]) DJ6_bitCount_0f7a4_47 (by decide) rfl ?_
  refine r_iload_n DJ6_bitCount_0f7a4_48 rfl ?_
  refine r_bipush (v := 63) DJ6_bitCount_0f7a4_49 kb_63 ?_
  refine r_iand DJ6_bitCount_0f7a4_51 ?_
  cases h
  exact r_iret DJ6_bitCount_0f7a4_52 rfl ⟨Nat.le_refl 0, Nat.le_refl 0⟩ (hp M hR)
theorem C_J6_bitCount_0f7a4 {E : EN} {ad : AD} {fu : Nat} {out : Int32 × St} {V : St} {M : MH} {x0 : Int32} (l : Launch) (hR : Rep E ad V M) (h : f_J6_bitCount_0f7a4 fu V x0 = some out) : Ct E l yJ6_bitCount_0f7a4 cJ6_bitCount_0f7a4 1 (some .int) (rmD 1) [.int (x0)] M (fun v M => v = (some (.int out.1)) ∧ Rep E ad out.2 M) :=
  Ct.of (own := RJ6) (ini := false) (L := [some (.int (x0))]) rfl rfl (fun h => by cases h) rfl (Nat.le_of_ble_eq_true rfl) rfl (fun X _ => S_J6_bitCount_0f7a4_0 (fun M hR => ⟨rfl, hR⟩) hR h)
theorem S_J6_numberOfTrailingZeros_0f7a4_74 {E : EN} {X : CX} {P : Option Value → MH → Prop} {ad : AD} {fu : Nat} {out : Int32 × St} (hp : ∀ M, Rep E ad out.2 M → P (some (.int out.1)) M) {V : St} {M : MH} {x0 : Int32} {x1 : Int32} (hR : Rep E ad V M) (h : F_J6_numberOfTrailingZeros_0f7a4_74 fu V x0 x1 = some out) : G E X RJ6 cJ6_numberOfTrailingZeros_0f7a4 2 (some .int) false (rmD 1) P M [some (.int (x0)), some (.int (x1))] 0 0 74 [] := by
  unfold F_J6_numberOfTrailingZeros_0f7a4_74 at h
  refine r_iload_n DJ6_numberOfTrailingZeros_0f7a4_74 rfl ?_
  refine r_iload_n DJ6_numberOfTrailingZeros_0f7a4_75 rfl ?_
  refine r_iconst (v := 1) DJ6_numberOfTrailingZeros_0f7a4_76 ki_1 ?_
  refine r_iushr DJ6_numberOfTrailingZeros_0f7a4_77 ?_
  refine r_iadd DJ6_numberOfTrailingZeros_0f7a4_78 ?_
  cases h
  exact r_iret DJ6_numberOfTrailingZeros_0f7a4_79 rfl ⟨Nat.le_refl 0, Nat.le_refl 0⟩ (hp M hR)
theorem S_J6_numberOfTrailingZeros_0f7a4_62 {E : EN} {X : CX} {P : Option Value → MH → Prop} {ad : AD} {fu : Nat} {out : Int32 × St} (hp : ∀ M, Rep E ad out.2 M → P (some (.int out.1)) M) {V : St} {M : MH} {x0 : Int32} {x1 : Int32} (hR : Rep E ad V M) (h : F_J6_numberOfTrailingZeros_0f7a4_62 fu V x0 x1 = some out) : G E X RJ6 cJ6_numberOfTrailingZeros_0f7a4 2 (some .int) false (rmD 1) P M [some (.int (x0)), some (.int (x1))] 0 0 62 [] := by
  unfold F_J6_numberOfTrailingZeros_0f7a4_62 at h
  refine r_iload_n DJ6_numberOfTrailingZeros_0f7a4_62 rfl ?_
  refine r_iconst (v := 4) DJ6_numberOfTrailingZeros_0f7a4_63 ki_4 ?_
  refine r_icmp_le DJ6_numberOfTrailingZeros_0f7a4_64 (fun c1 => ?_) (fun c1 => ?_)
  · have h := if_t c1 h
    exact S_J6_numberOfTrailingZeros_0f7a4_74 hp hR h
  · have h := if_f c1 h
    refine t_iinc (v := 2) (L' := [some (.int (x0)), some (.int (x1 + 2))]) DJ6_numberOfTrailingZeros_0f7a4_67 rfl ki_2 (by decide) rfl ?_
    refine r_iload_n DJ6_numberOfTrailingZeros_0f7a4_70 rfl ?_
    refine r_iconst (v := 2) DJ6_numberOfTrailingZeros_0f7a4_71 ki_2 ?_
    refine r_iushr DJ6_numberOfTrailingZeros_0f7a4_72 ?_
    refine t_istore_n (L' := [some (.int (((x0).toUInt32 >>> (((2 : Int32) : Int32).toUInt32 &&& Int32.toUInt32 31)).toInt32)), some (.int (x1 + 2))]) DJ6_numberOfTrailingZeros_0f7a4_73 (by decide) rfl ?_
    exact S_J6_numberOfTrailingZeros_0f7a4_74 hp hR h
theorem S_J6_numberOfTrailingZeros_0f7a4_49 {E : EN} {X : CX} {P : Option Value → MH → Prop} {ad : AD} {fu : Nat} {out : Int32 × St} (hp : ∀ M, Rep E ad out.2 M → P (some (.int out.1)) M) {V : St} {M : MH} {x0 : Int32} {x1 : Int32} (hR : Rep E ad V M) (h : F_J6_numberOfTrailingZeros_0f7a4_49 fu V x0 x1 = some out) : G E X RJ6 cJ6_numberOfTrailingZeros_0f7a4 2 (some .int) false (rmD 1) P M [some (.int (x0)), some (.int (x1))] 0 0 49 [] := by
  unfold F_J6_numberOfTrailingZeros_0f7a4_49 at h
  refine r_iload_n DJ6_numberOfTrailingZeros_0f7a4_49 rfl ?_
  refine r_bipush (v := 16) DJ6_numberOfTrailingZeros_0f7a4_50 kb_16 ?_
  refine r_icmp_le DJ6_numberOfTrailingZeros_0f7a4_52 (fun c1 => ?_) (fun c1 => ?_)
  · have h := if_t c1 h
    exact S_J6_numberOfTrailingZeros_0f7a4_62 hp hR h
  · have h := if_f c1 h
    refine t_iinc (v := 4) (L' := [some (.int (x0)), some (.int (x1 + 4))]) DJ6_numberOfTrailingZeros_0f7a4_55 rfl ki_4 (by decide) rfl ?_
    refine r_iload_n DJ6_numberOfTrailingZeros_0f7a4_58 rfl ?_
    refine r_iconst (v := 4) DJ6_numberOfTrailingZeros_0f7a4_59 ki_4 ?_
    refine r_iushr DJ6_numberOfTrailingZeros_0f7a4_60 ?_
    refine t_istore_n (L' := [some (.int (((x0).toUInt32 >>> (((4 : Int32) : Int32).toUInt32 &&& Int32.toUInt32 31)).toInt32)), some (.int (x1 + 4))]) DJ6_numberOfTrailingZeros_0f7a4_61 (by decide) rfl ?_
    exact S_J6_numberOfTrailingZeros_0f7a4_62 hp hR h
theorem S_J6_numberOfTrailingZeros_0f7a4_34 {E : EN} {X : CX} {P : Option Value → MH → Prop} {ad : AD} {fu : Nat} {out : Int32 × St} (hp : ∀ M, Rep E ad out.2 M → P (some (.int out.1)) M) {V : St} {M : MH} {x0 : Int32} {x1 : Int32} (hR : Rep E ad V M) (h : F_J6_numberOfTrailingZeros_0f7a4_34 fu V x0 x1 = some out) : G E X RJ6 cJ6_numberOfTrailingZeros_0f7a4 2 (some .int) false (rmD 1) P M [some (.int (x0)), some (.int (x1))] 0 0 34 [] := by
  unfold F_J6_numberOfTrailingZeros_0f7a4_34 at h
  refine r_iload_n DJ6_numberOfTrailingZeros_0f7a4_34 rfl ?_
  refine r_sipush (v := 256) DJ6_numberOfTrailingZeros_0f7a4_35 ks_256 ?_
  refine r_icmp_le DJ6_numberOfTrailingZeros_0f7a4_38 (fun c1 => ?_) (fun c1 => ?_)
  · have h := if_t c1 h
    exact S_J6_numberOfTrailingZeros_0f7a4_49 hp hR h
  · have h := if_f c1 h
    refine t_iinc (v := 8) (L' := [some (.int (x0)), some (.int (x1 + 8))]) DJ6_numberOfTrailingZeros_0f7a4_41 rfl ki_8 (by decide) rfl ?_
    refine r_iload_n DJ6_numberOfTrailingZeros_0f7a4_44 rfl ?_
    refine r_bipush (v := 8) DJ6_numberOfTrailingZeros_0f7a4_45 kb_8 ?_
    refine r_iushr DJ6_numberOfTrailingZeros_0f7a4_47 ?_
    refine t_istore_n (L' := [some (.int (((x0).toUInt32 >>> (((8 : Int32) : Int32).toUInt32 &&& Int32.toUInt32 31)).toInt32)), some (.int (x1 + 8))]) DJ6_numberOfTrailingZeros_0f7a4_48 (by decide) rfl ?_
    exact S_J6_numberOfTrailingZeros_0f7a4_49 hp hR h
theorem S_J6_numberOfTrailingZeros_0f7a4_0 {E : EN} {X : CX} {P : Option Value → MH → Prop} {ad : AD} {fu : Nat} {out : Int32 × St} (hp : ∀ M, Rep E ad out.2 M → P (some (.int out.1)) M) {V : St} {M : MH} {x0 : Int32} (hR : Rep E ad V M) (h : f_J6_numberOfTrailingZeros_0f7a4 fu V x0 = some out) : G E X RJ6 cJ6_numberOfTrailingZeros_0f7a4 2 (some .int) false (rmD 1) P M [some (.int (x0)), none] 0 0 0 [] := by
  unfold f_J6_numberOfTrailingZeros_0f7a4 at h
  refine r_iload_n DJ6_numberOfTrailingZeros_0f7a4_0 rfl ?_
  refine r_iconst (v := -1) DJ6_numberOfTrailingZeros_0f7a4_1 ki_m1 ?_
  refine r_ixor DJ6_numberOfTrailingZeros_0f7a4_2 ?_
  refine r_iload_n DJ6_numberOfTrailingZeros_0f7a4_3 rfl ?_
  refine r_iconst (v := 1) DJ6_numberOfTrailingZeros_0f7a4_4 ki_1 ?_
  refine r_isub DJ6_numberOfTrailingZeros_0f7a4_5 ?_
  refine r_iand DJ6_numberOfTrailingZeros_0f7a4_6 ?_
  refine t_istore_n (L' := [some (.int ((x0 ^^^ (-1 : Int32)) &&& (x0 - (1 : Int32)))), none]) DJ6_numberOfTrailingZeros_0f7a4_7 (by decide) rfl ?_
  refine r_iload_n DJ6_numberOfTrailingZeros_0f7a4_8 rfl ?_
  refine r_if_gt DJ6_numberOfTrailingZeros_0f7a4_9 (fun c1 => ?_) (fun c1 => ?_)
  · have h := if_t c1 h
    refine r_iconst (v := 1) DJ6_numberOfTrailingZeros_0f7a4_17 ki_1 ?_
    refine t_istore_n (L' := [some (.int ((x0 ^^^ (-1 : Int32)) &&& (x0 - (1 : Int32)))), some (.int ((1 : Int32)))]) DJ6_numberOfTrailingZeros_0f7a4_18 (by decide) rfl ?_
    refine r_iload_n DJ6_numberOfTrailingZeros_0f7a4_19 rfl ?_
    refine r_ldcw (v := 65536) DJ6_numberOfTrailingZeros_0f7a4_20 ck_J6_264 ?_
    refine r_icmp_le DJ6_numberOfTrailingZeros_0f7a4_23 (fun c2 => ?_) (fun c2 => ?_)
    · have h := if_t c2 h
      exact S_J6_numberOfTrailingZeros_0f7a4_34 hp hR h
    · have h := if_f c2 h
      refine t_iinc (v := 16) (L' := [some (.int ((x0 ^^^ (-1 : Int32)) &&& (x0 - (1 : Int32)))), some (.int ((1 : Int32) + 16))]) DJ6_numberOfTrailingZeros_0f7a4_26 rfl ki_16 (by decide) rfl ?_
      refine r_iload_n DJ6_numberOfTrailingZeros_0f7a4_29 rfl ?_
      refine r_bipush (v := 16) DJ6_numberOfTrailingZeros_0f7a4_30 kb_16 ?_
      refine r_iushr DJ6_numberOfTrailingZeros_0f7a4_32 ?_
      refine t_istore_n (L' := [some (.int ((((x0 ^^^ (-1 : Int32)) &&& (x0 - (1 : Int32))).toUInt32 >>> (((16 : Int32) : Int32).toUInt32 &&& Int32.toUInt32 31)).toInt32)), some (.int ((1 : Int32) + 16))]) DJ6_numberOfTrailingZeros_0f7a4_33 (by decide) rfl ?_
      exact S_J6_numberOfTrailingZeros_0f7a4_34 hp hR h
  · have h := if_f c1 h
    refine r_iload_n DJ6_numberOfTrailingZeros_0f7a4_12 rfl ?_
    refine r_bipush (v := 32) DJ6_numberOfTrailingZeros_0f7a4_13 kb_32 ?_
    refine r_iand DJ6_numberOfTrailingZeros_0f7a4_15 ?_
    cases h
    exact r_iret DJ6_numberOfTrailingZeros_0f7a4_16 rfl ⟨Nat.le_refl 0, Nat.le_refl 0⟩ (hp M hR)
theorem C_J6_numberOfTrailingZeros_0f7a4 {E : EN} {ad : AD} {fu : Nat} {out : Int32 × St} {V : St} {M : MH} {x0 : Int32} (l : Launch) (hR : Rep E ad V M) (h : f_J6_numberOfTrailingZeros_0f7a4 fu V x0 = some out) : Ct E l yJ6_numberOfTrailingZeros_0f7a4 cJ6_numberOfTrailingZeros_0f7a4 2 (some .int) (rmD 1) [.int (x0)] M (fun v M => v = (some (.int out.1)) ∧ Rep E ad out.2 M) :=
  Ct.of (own := RJ6) (ini := false) (L := [some (.int (x0)), none]) rfl rfl (fun h => by cases h) rfl (Nat.le_of_ble_eq_true rfl) rfl (fun X _ => S_J6_numberOfTrailingZeros_0f7a4_0 (fun M hR => ⟨rfl, hR⟩) hR h)
theorem S_X11_within_15 {E : EN} {X : CX} {P : Option Value → MH → Prop} {ad : AD} {fu : Nat} {out : Int32 × St} (hp : ∀ M, Rep E ad out.2 M → P (some (.int out.1)) M) {V : St} {M : MH} {s0 : Int32} {d0 : Option Value} {d1 : Option Value} {d2 : Option Value} (hR : Rep E ad V M) (h : F_X11_within_15 fu V s0 = some out) : G E X RX11 cX11_within 3 (some .boolean) false (rmD 1) P M [d0, d1, d2] 0 0 15 [.int (s0)] := by
  unfold F_X11_within_15 at h
  obtain ⟨hz1, h⟩ := gd_inv h
  cases h
  exact r_zret DX11_within_15 rfl (nz_nar hz1) ⟨Nat.le_refl 0, Nat.le_refl 0⟩ (hp M hR)
theorem S_X11_within_14 {E : EN} {X : CX} {P : Option Value → MH → Prop} {ad : AD} {fu : Nat} {out : Int32 × St} (hp : ∀ M, Rep E ad out.2 M → P (some (.int out.1)) M) {V : St} {M : MH} {d0 : Option Value} {d1 : Option Value} {d2 : Option Value} (hR : Rep E ad V M) (h : F_X11_within_14 fu V = some out) : G E X RX11 cX11_within 3 (some .boolean) false (rmD 1) P M [d0, d1, d2] 0 0 14 [] := by
  unfold F_X11_within_14 at h
  refine r_iconst (v := 0) DX11_within_14 ki_0 ?_
  exact S_X11_within_15 hp hR h
theorem S_X11_within_0 {E : EN} {X : CX} {P : Option Value → MH → Prop} {ad : AD} {fu : Nat} {out : Int32 × St} (hp : ∀ M, Rep E ad out.2 M → P (some (.int out.1)) M) {V : St} {M : MH} {x0 : Int32} {x1 : Int32} {x2 : Int32} (hR : Rep E ad V M) (h : f_X11_within fu V x0 x1 x2 = some out) : G E X RX11 cX11_within 3 (some .boolean) false (rmD 1) P M [some (.int (x0)), some (.int (x1)), some (.int (x2))] 0 0 0 [] := by
  unfold f_X11_within at h
  refine r_iload_n DX11_within_0 rfl ?_
  refine r_iload_n DX11_within_1 rfl ?_
  refine r_icmp_lt DX11_within_2 (fun c1 => ?_) (fun c1 => ?_)
  · have h := if_t c1 h
    exact S_X11_within_14 hp hR h
  · have h := if_f c1 h
    refine r_iload_n DX11_within_5 rfl ?_
    refine r_iload_n DX11_within_6 rfl ?_
    refine r_icmp_gt DX11_within_7 (fun c2 => ?_) (fun c2 => ?_)
    · have h := if_t c2 h
      exact S_X11_within_14 hp hR h
    · have h := if_f c2 h
      refine r_iconst (v := 1) DX11_within_10 ki_1 ?_
      refine r_goto DX11_within_11 ?_
      exact S_X11_within_15 hp hR h
theorem C_X11_within {E : EN} {ad : AD} {fu : Nat} {out : Int32 × St} {V : St} {M : MH} {x0 : Int32} {x1 : Int32} {x2 : Int32} (l : Launch) (hR : Rep E ad V M) (h : f_X11_within fu V x0 x1 x2 = some out) : Ct E l yX11_within cX11_within 3 (some .boolean) (rmD 1) [.int (x0), .int (x1), .int (x2)] M (fun v M => v = (some (.int out.1)) ∧ Rep E ad out.2 M) :=
  Ct.of (own := RX11) (ini := false) (L := [some (.int (x0)), some (.int (x1)), some (.int (x2))]) rfl rfl (fun h => by cases h) rfl (Nat.le_of_ble_eq_true rfl) rfl (fun X _ => S_X11_within_0 (fun M hR => ⟨rfl, hR⟩) hR h)
theorem S_X10_addPiece_32 {E : EN} {X : CX} {P : Option Value → MH → Prop} {ad : AD} {fu : Nat} {out : Int32 × St} (hp : ∀ M, Rep E ad out.2 M → P (some (.int out.1)) M) {V : St} {M : MH} {d0 : Option Value} {d1 : Option Value} {d2 : Option Value} (hR : Rep E ad V M) (h : F_X10_addPiece_32 fu V = some out) : G E X RX10 cX10_addPiece 3 (some .int) false (rmD 2) P M [d0, d1, d2] 0 0 32 [] := by
  unfold F_X10_addPiece_32 at h
  refine r_iconst (v := -1) DX10_addPiece_32 ki_m1 ?_
  cases h
  exact r_iret DX10_addPiece_33 rfl ⟨Nat.le_refl 0, Nat.le_refl 0⟩ (hp M hR)
theorem S_X10_addPiece_0 {E : EN} {X : CX} {P : Option Value → MH → Prop} {ad : AD} {fu : Nat} {out : Int32 × St} (hp : ∀ M, Rep E ad out.2 M → P (some (.int out.1)) M) {V : St} {M : MH} {x0 : Int32} {x1 : Int32} {x2 : Int32} (hR : Rep E ad V M) (h : f_X10_addPiece fu V x0 x1 x2 = some out) : G E X RX10 cX10_addPiece 3 (some .int) false (rmD 2) P M [some (rfq ad 2000 (x0)), some (.int (x1)), some (.int (x2))] 0 0 0 [] := by
  unfold f_X10_addPiece at h
  refine r_iload_n DX10_addPiece_0 rfl ?_
  refine r_iconst (v := 1) DX10_addPiece_1 ki_1 ?_
  refine r_bipush (v := 60) DX10_addPiece_2 kb_60 ?_
  obtain ⟨r1, V2, hc3, h⟩ := bd_inv h
  refine k_callSN (As := [.int (x1), .int ((1 : Int32)), .int ((60 : Int32))]) (rest := []) (st1 := [.int (r1)]) (w := some (.int r1)) DX10_addPiece_4 csn_X10_44 (C_X11_within (out := (r1, V2)) (cxL X) hR hc3) rfl (by decide) (by decide) rfl (Nat.le_of_ble_eq_true rfl) rfl (fun M hR => ?_)
  refine r_if_eq DX10_addPiece_7 (fun c4 => ?_) (fun c4 => ?_)
  · have h := if_t c4 h
    exact S_X10_addPiece_32 hp hR h
  · have h := if_f c4 h
    refine r_iload_n DX10_addPiece_10 rfl ?_
    refine r_iconst (v := 1) DX10_addPiece_11 ki_1 ?_
    refine r_bipush (v := 60) DX10_addPiece_12 kb_60 ?_
    obtain ⟨r5, V6, hc7, h⟩ := bd_inv h
    refine k_callSN (As := [.int (x2), .int ((1 : Int32)), .int ((60 : Int32))]) (rest := []) (st1 := [.int (r5)]) (w := some (.int r5)) DX10_addPiece_14 csn_X10_44 (C_X11_within (out := (r5, V6)) (cxL X) hR hc7) rfl (by decide) (by decide) rfl (Nat.le_of_ble_eq_true rfl) rfl (fun M hR => ?_)
    refine r_if_eq DX10_addPiece_17 (fun c8 => ?_) (fun c8 => ?_)
    · have h := if_t c8 h
      exact S_X10_addPiece_32 hp hR h
    · have h := if_f c8 h
      refine t_aload_n (rfq_or _ _ _) DX10_addPiece_20 rfl ?_
      obtain ⟨⟨hx9, hi10⟩, h⟩ := gd_inv h
      refine q_geti hx9 DX10_addPiece_21 fl_X10_15 hR ct_2000 hi10 rfl ?_
      refine t_aload_n (rfq_or _ _ _) DX10_addPiece_24 rfl ?_
      refine q_geta hx9 DX10_addPiece_25 fl_X10_38 hR ct_2000 hi10 rfl ?_
      refine s_ilen DX10_addPiece_28 hR ct_2007 (hi10) ?_
      refine r_icmp_lt DX10_addPiece_29 (fun c11 => ?_) (fun c11 => ?_)
      · have h := if_t c11 h
        refine t_aload_n (rfq_or _ _ _) DX10_addPiece_34 rfl ?_
        refine q_geta hx9 DX10_addPiece_35 fl_X10_38 hR ct_2000 hi10 rfl ?_
        refine t_aload_n (rfq_or _ _ _) DX10_addPiece_38 rfl ?_
        refine q_geti hx9 DX10_addPiece_39 fl_X10_15 hR ct_2000 hi10 rfl ?_
        refine r_iload_n DX10_addPiece_42 rfl ?_
        obtain ⟨hg12, h⟩ := gd_inv h
        obtain ⟨V13, hv14, h⟩ := bv_inv h
        refine s_iast DX10_addPiece_43 hR oka_2007 ct_2007 (hi10) hg12 (fun M hR => ?_)
        have hR := hR.cg hv14
        refine t_aload_n (rfq_or _ _ _) DX10_addPiece_44 rfl ?_
        have hi15 := cnt_keep hv14 (b := 2105) (by decide) hi10
        refine q_geta hx9 DX10_addPiece_45 fl_X10_41 hR ct_2000 hi15 rfl ?_
        refine t_aload_n (rfq_or _ _ _) DX10_addPiece_48 rfl ?_
        refine q_geti hx9 DX10_addPiece_49 fl_X10_15 hR ct_2000 hi15 rfl ?_
        refine r_iload_n DX10_addPiece_52 rfl ?_
        obtain ⟨hg16, h⟩ := gd_inv h
        obtain ⟨V17, hv18, h⟩ := bv_inv h
        refine s_iast DX10_addPiece_53 hR oka_2008 ct_2008 (hi15) hg16 (fun M hR => ?_)
        have hR := hR.cg hv18
        refine t_aload_n (rfq_or _ _ _) DX10_addPiece_54 rfl ?_
        refine r_dup DX10_addPiece_55 (rfq_cat _ _ _) ?_
        have hi19 := cnt_keep hv18 (b := 2105) (by decide) hi15
        refine q_geti hx9 DX10_addPiece_56 fl_X10_15 hR ct_2000 hi19 rfl ?_
        refine r_iconst (v := 1) DX10_addPiece_59 ki_1 ?_
        refine r_iadd DX10_addPiece_60 ?_
        obtain ⟨V20, hv21, h⟩ := bv_inv h
        refine q_puti hx9 DX10_addPiece_61 fp_X10_15 hR oks_2009 ct_2000 hi19 rfl rfl rfl (fun M hR => ?_)
        have hR := hR.cg hv21
        refine t_aload_n (rfq_or _ _ _) DX10_addPiece_64 rfl ?_
        have hi22 := cnt_keep hv21 (b := 2105) (by decide) hi19
        refine q_geti hx9 DX10_addPiece_65 fl_X10_15 hR ct_2000 hi22 rfl ?_
        refine r_iconst (v := 1) DX10_addPiece_68 ki_1 ?_
        refine r_isub DX10_addPiece_69 ?_
        cases h
        exact r_iret DX10_addPiece_70 rfl ⟨Nat.le_refl 0, Nat.le_refl 0⟩ (hp M hR)
      · have h := if_f c11 h
        exact S_X10_addPiece_32 hp hR h
theorem C_X10_addPiece {E : EN} {ad : AD} {fu : Nat} {out : Int32 × St} {V : St} {M : MH} {x0 : Int32} {x1 : Int32} {x2 : Int32} (l : Launch) (hR : Rep E ad V M) (h : f_X10_addPiece fu V x0 x1 x2 = some out) : Ct E l yX10_addPiece cX10_addPiece 3 (some .int) (rmD 2) [rfq ad 2000 (x0), .int (x1), .int (x2)] M (fun v M => v = (some (.int out.1)) ∧ Rep E ad out.2 M) :=
  Ct.of (own := RX10) (ini := false) (L := [some (rfq ad 2000 (x0)), some (.int (x1)), some (.int (x2))]) rfl rfl (fun h => by cases h) (by simp only [List.all_cons, List.all_nil, rfq_cat]; rfl) (Nat.le_of_ble_eq_true rfl) rfl (fun X _ => S_X10_addPiece_0 (fun M hR => ⟨rfl, hR⟩) hR h)
theorem S_X10_sign_31 {E : EN} {X : CX} {P : Option Value → MH → Prop} {ad : AD} {fu : Nat} {out : Int32 × St} (hp : ∀ M, Rep E ad out.2 M → P (some (.int out.1)) M) {V : St} {M : MH} {s0 : Int32} {d0 : Option Value} (hR : Rep E ad V M) (h : F_X10_sign_31 fu V s0 = some out) : G E X RX10 cX10_sign 1 (some .int) false (rmD 1) P M [d0] 0 0 31 [.int (s0)] := by
  unfold F_X10_sign_31 at h
  cases h
  exact r_iret DX10_sign_31 rfl ⟨Nat.le_refl 0, Nat.le_refl 0⟩ (hp M hR)
theorem S_X10_sign_0 {E : EN} {X : CX} {P : Option Value → MH → Prop} {ad : AD} {fu : Nat} {out : Int32 × St} (hp : ∀ M, Rep E ad out.2 M → P (some (.int out.1)) M) {V : St} {M : MH} {x0 : Int32} (hR : Rep E ad V M) (h : f_X10_sign fu V x0 = some out) : G E X RX10 cX10_sign 1 (some .int) false (rmD 1) P M [some (rfq ad 2000 (x0))] 0 0 0 [] := by
  unfold f_X10_sign at h
  refine t_aload_n (rfq_or _ _ _) DX10_sign_0 rfl ?_
  obtain ⟨⟨hx1, hi2⟩, h⟩ := gd_inv h
  refine q_getq hx1 DX10_sign_1 fl_X10_28 hR ct_2000 hi2 rfl ?_
  refine q_ifnull DX10_sign_4 (fun c3 => ?_) (fun c3 => ?_)
  · have h := if_t c3 h
    refine t_aload_n (rfq_or _ _ _) DX10_sign_15 rfl ?_
    refine q_geti hx1 DX10_sign_16 fl_X10_22 hR ct_2000 hi2 rfl ?_
    refine r_iconst (v := 1) DX10_sign_19 ki_1 ?_
    refine r_icmp_ne DX10_sign_20 (fun c4 => ?_) (fun c4 => ?_)
    · have h := if_f c4 h
      refine r_iconst (v := 0) DX10_sign_30 ki_0 ?_
      exact S_X10_sign_31 hp hR h
    · have h := if_t c4 h
      refine t_aload_n (rfq_or _ _ _) DX10_sign_23 rfl ?_
      refine q_geti hx1 DX10_sign_24 fl_X10_25 hR ct_2000 hi2 rfl ?_
      refine r_goto DX10_sign_27 ?_
      exact S_X10_sign_31 hp hR h
  · have h := if_f c3 h
    refine t_aload_n (rfq_or _ _ _) DX10_sign_7 rfl ?_
    refine q_getq hx1 DX10_sign_8 fl_X10_28 hR ct_2000 hi2 rfl ?_
    obtain ⟨⟨hx4, hi5⟩, h⟩ := gd_inv h
    refine q_geti hx4 DX10_sign_11 fl_X10_54 hR ct_1000 hi5 rfl ?_
    cases h
    exact r_iret DX10_sign_14 rfl ⟨Nat.le_refl 0, Nat.le_refl 0⟩ (hp M hR)
theorem C_X10_sign {E : EN} {ad : AD} {fu : Nat} {out : Int32 × St} {V : St} {M : MH} {x0 : Int32} (l : Launch) (hR : Rep E ad V M) (h : f_X10_sign fu V x0 = some out) : Ct E l yX10_sign cX10_sign 1 (some .int) (rmD 1) [rfq ad 2000 (x0)] M (fun v M => v = (some (.int out.1)) ∧ Rep E ad out.2 M) :=
  Ct.of (own := RX10) (ini := false) (L := [some (rfq ad 2000 (x0))]) rfl rfl (fun h => by cases h) (by simp only [List.all_cons, List.all_nil, rfq_cat]; rfl) (Nat.le_of_ble_eq_true rfl) rfl (fun X _ => S_X10_sign_0 (fun M hR => ⟨rfl, hR⟩) hR h)
theorem S_X11_roundedUp_15 {E : EN} {X : CX} {P : Option Value → MH → Prop} {ad : AD} {fu : Nat} {out : Int32 × St} (hp : ∀ M, Rep E ad out.2 M → P (some (.int out.1)) M) {V : St} {M : MH} {s0 : Int32} {d0 : Option Value} {d1 : Option Value} (hR : Rep E ad V M) (h : F_X11_roundedUp_15 fu V s0 = some out) : G E X RX11 cX11_roundedUp 2 (some .int) false (rmD 1) P M [d0, d1] 0 0 15 [.int (s0)] := by
  unfold F_X11_roundedUp_15 at h
  cases h
  exact r_iret DX11_roundedUp_15 rfl ⟨Nat.le_refl 0, Nat.le_refl 0⟩ (hp M hR)
theorem S_X11_roundedUp_0 {E : EN} {X : CX} {P : Option Value → MH → Prop} {ad : AD} {fu : Nat} {out : Int32 × St} (hp : ∀ M, Rep E ad out.2 M → P (some (.int out.1)) M) {V : St} {M : MH} {x0 : Int32} {x1 : Int32} (hR : Rep E ad V M) (h : f_X11_roundedUp fu V x0 x1 = some out) : G E X RX11 cX11_roundedUp 2 (some .int) false (rmD 1) P M [some (.int (x0)), some (.int (x1))] 0 0 0 [] := by
  unfold f_X11_roundedUp at h
  refine r_iload_n DX11_roundedUp_0 rfl ?_
  refine r_if_gt DX11_roundedUp_1 (fun c1 => ?_) (fun c1 => ?_)
  · have h := if_t c1 h
    refine r_iload_n DX11_roundedUp_8 rfl ?_
    refine r_iload_n DX11_roundedUp_9 rfl ?_
    refine r_iadd DX11_roundedUp_10 ?_
    refine r_iconst (v := 1) DX11_roundedUp_11 ki_1 ?_
    refine r_isub DX11_roundedUp_12 ?_
    refine r_iload_n DX11_roundedUp_13 rfl ?_
    obtain ⟨hn2, h⟩ := gd_inv h
    refine r_idiv DX11_roundedUp_14 hn2 ?_
    exact S_X11_roundedUp_15 hp hR h
  · have h := if_f c1 h
    refine r_iconst (v := 0) DX11_roundedUp_4 ki_0 ?_
    refine r_goto DX11_roundedUp_5 ?_
    exact S_X11_roundedUp_15 hp hR h
theorem C_X11_roundedUp {E : EN} {ad : AD} {fu : Nat} {out : Int32 × St} {V : St} {M : MH} {x0 : Int32} {x1 : Int32} (l : Launch) (hR : Rep E ad V M) (h : f_X11_roundedUp fu V x0 x1 = some out) : Ct E l yX11_roundedUp cX11_roundedUp 2 (some .int) (rmD 1) [.int (x0), .int (x1)] M (fun v M => v = (some (.int out.1)) ∧ Rep E ad out.2 M) :=
  Ct.of (own := RX11) (ini := false) (L := [some (.int (x0)), some (.int (x1))]) rfl rfl (fun h => by cases h) rfl (Nat.le_of_ble_eq_true rfl) rfl (fun X _ => S_X11_roundedUp_0 (fun M hR => ⟨rfl, hR⟩) hR h)
theorem S_X10_stuffCost_41 {E : EN} {X : CX} {P : Option Value → MH → Prop} {ad : AD} {fu : Nat} {out : Int32 × St} (hp : ∀ M, Rep E ad out.2 M → P (some (.int out.1)) M) {V : St} {M : MH} {s0 : Int32} {d0 : Option Value} (hR : Rep E ad V M) (h : F_X10_stuffCost_41 fu V s0 = some out) : G E X RX10 cX10_stuffCost 1 (some .int) false (rmD 2) P M [d0] 0 0 41 [.int (s0)] := by
  unfold F_X10_stuffCost_41 at h
  cases h
  exact r_iret DX10_stuffCost_41 rfl ⟨Nat.le_refl 0, Nat.le_refl 0⟩ (hp M hR)
theorem S_X10_stuffCost_0 {E : EN} {X : CX} {P : Option Value → MH → Prop} {ad : AD} {fu : Nat} {out : Int32 × St} (hp : ∀ M, Rep E ad out.2 M → P (some (.int out.1)) M) {V : St} {M : MH} {x0 : Int32} (hR : Rep E ad V M) (h : f_X10_stuffCost fu V x0 = some out) : G E X RX10 cX10_stuffCost 1 (some .int) false (rmD 2) P M [some (rfq ad 2000 (x0))] 0 0 0 [] := by
  unfold f_X10_stuffCost at h
  refine t_aload_n (rfq_or _ _ _) DX10_stuffCost_0 rfl ?_
  obtain ⟨⟨hx1, hi2⟩, h⟩ := gd_inv h
  refine q_getq hx1 DX10_stuffCost_1 fl_X10_28 hR ct_2000 hi2 rfl ?_
  refine q_ifnull DX10_stuffCost_4 (fun c3 => ?_) (fun c3 => ?_)
  · have h := if_t c3 h
    refine t_aload_n (rfq_or _ _ _) DX10_stuffCost_25 rfl ?_
    refine q_geti hx1 DX10_stuffCost_26 fl_X10_22 hR ct_2000 hi2 rfl ?_
    refine r_iconst (v := 1) DX10_stuffCost_29 ki_1 ?_
    refine r_icmp_ne DX10_stuffCost_30 (fun c4 => ?_) (fun c4 => ?_)
    · have h := if_f c4 h
      refine r_iconst (v := 0) DX10_stuffCost_40 ki_0 ?_
      exact S_X10_stuffCost_41 hp hR h
    · have h := if_t c4 h
      refine t_aload_n (rfq_or _ _ _) DX10_stuffCost_33 rfl ?_
      refine q_geti hx1 DX10_stuffCost_34 fl_X10_35 hR ct_2000 hi2 rfl ?_
      refine r_goto DX10_stuffCost_37 ?_
      exact S_X10_stuffCost_41 hp hR h
  · have h := if_f c3 h
    refine t_aload_n (rfq_or _ _ _) DX10_stuffCost_7 rfl ?_
    refine q_geti hx1 DX10_stuffCost_8 fl_X10_35 hR ct_2000 hi2 rfl ?_
    refine t_aload_n (rfq_or _ _ _) DX10_stuffCost_11 rfl ?_
    refine q_getq hx1 DX10_stuffCost_12 fl_X10_28 hR ct_2000 hi2 rfl ?_
    obtain ⟨⟨hx4, hi5⟩, h⟩ := gd_inv h
    refine q_geti hx4 DX10_stuffCost_15 fl_X10_59 hR ct_1000 hi5 rfl ?_
    refine r_imul DX10_stuffCost_18 ?_
    refine r_bipush (v := 36) DX10_stuffCost_19 kb_36 ?_
    obtain ⟨r6, V7, hc8, h⟩ := bd_inv h
    refine k_callSN (As := [.int ((V 2005 (x0).toNatClampNeg 0) * (V 1003 ((V 2003 (x0).toNatClampNeg 0)).toNatClampNeg 0)), .int ((36 : Int32))]) (rest := []) (st1 := [.int (r6)]) (w := some (.int r6)) DX10_stuffCost_21 csn_X10_62 (C_X11_roundedUp (out := (r6, V7)) (cxL X) hR hc8) rfl (by decide) (by decide) rfl (Nat.le_of_ble_eq_true rfl) rfl (fun M hR => ?_)
    cases h
    exact r_iret DX10_stuffCost_24 rfl ⟨Nat.le_refl 0, Nat.le_refl 0⟩ (hp M hR)
theorem C_X10_stuffCost {E : EN} {ad : AD} {fu : Nat} {out : Int32 × St} {V : St} {M : MH} {x0 : Int32} (l : Launch) (hR : Rep E ad V M) (h : f_X10_stuffCost fu V x0 = some out) : Ct E l yX10_stuffCost cX10_stuffCost 1 (some .int) (rmD 2) [rfq ad 2000 (x0)] M (fun v M => v = (some (.int out.1)) ∧ Rep E ad out.2 M) :=
  Ct.of (own := RX10) (ini := false) (L := [some (rfq ad 2000 (x0))]) rfl rfl (fun h => by cases h) (by simp only [List.all_cons, List.all_nil, rfq_cat]; rfl) (Nat.le_of_ble_eq_true rfl) rfl (fun X _ => S_X10_stuffCost_0 (fun M hR => ⟨rfl, hR⟩) hR h)
theorem S_X10_widest_29 {E : EN} {X : CX} {P : Option Value → MH → Prop} {ad : AD} {fu : Nat} {out : Int32 × St} (hp : ∀ M, Rep E ad out.2 M → P (some (.int out.1)) M) {V : St} {M : MH} {x1 : Int32} {d0 : Option Value} {d2 : Option Value} (hR : Rep E ad V M) (h : F_X10_widest_29 fu V x1 = some out) : G E X RX10 cX10_widest 3 (some .int) false (rmD 2) P M [d0, some (.int (x1)), d2] 0 0 29 [] := by
  unfold F_X10_widest_29 at h
  refine r_iload_n DX10_widest_29 rfl ?_
  cases h
  exact r_iret DX10_widest_30 rfl ⟨Nat.le_refl 0, Nat.le_refl 0⟩ (hp M hR)
theorem S_X10_widest_4 {E : EN} {X : CX} {P : Option Value → MH → Prop} {ad : AD} {fu : Nat} {out : Int32 × St} {kh : St → Int32 → Int32 → Int32 → RR} {kx29 : St → Int32 → RR} (hkh : ∀ {V : St} {M : MH} {x0 : Int32} {x1 : Int32} {x2 : Int32}, Rep E ad V M → kh V x0 x1 x2 = some out → G E X RX10 cX10_widest 3 (some .int) false (rmD 2) P M [some (rfq ad 2000 (x0)), some (.int (x1)), some (.int (x2))] 0 0 4 []) (hkx29 : ∀ {V : St} {M : MH} {x1 : Int32} {d0 : Option Value} {d2 : Option Value}, Rep E ad V M → kx29 V x1 = some out → G E X RX10 cX10_widest 3 (some .int) false (rmD 2) P M [d0, some (.int (x1)), d2] 0 0 29 []) (hp : ∀ M, Rep E ad out.2 M → P (some (.int out.1)) M) {V : St} {M : MH} {x0 : Int32} {x1 : Int32} {x2 : Int32} (hR : Rep E ad V M) (h : F_X10_widest_4 kh kx29 fu V x0 x1 x2 = some out) : G E X RX10 cX10_widest 3 (some .int) false (rmD 2) P M [some (rfq ad 2000 (x0)), some (.int (x1)), some (.int (x2))] 0 0 4 [] := by
  unfold F_X10_widest_4 at h
  refine r_iload_n DX10_widest_4 rfl ?_
  refine t_aload_n (rfq_or _ _ _) DX10_widest_5 rfl ?_
  obtain ⟨⟨hx1, hi2⟩, h⟩ := gd_inv h
  refine q_geti hx1 DX10_widest_6 fl_X10_15 hR ct_2000 hi2 rfl ?_
  refine r_icmp_ge DX10_widest_9 (fun c3 => ?_) (fun c3 => ?_)
  · have h := if_t c3 h
    exact hkx29 hR h
  · have h := if_f c3 h
    refine r_iload_n DX10_widest_12 rfl ?_
    refine t_aload_n (rfq_or _ _ _) DX10_widest_13 rfl ?_
    refine q_geta hx1 DX10_widest_14 fl_X10_41 hR ct_2000 hi2 rfl ?_
    refine r_iload_n DX10_widest_17 rfl ?_
    obtain ⟨hg4, h⟩ := gd_inv h
    refine s_iald DX10_widest_18 hR ct_2008 (hi2) hg4 ?_
    refine r_mmax DX10_widest_19 wd_725 (Nat.le_of_ble_eq_true rfl) (Nat.le_of_ble_eq_true rfl) ?_
    refine t_istore_n (L' := [some (rfq ad 2000 (x0)), some (.int ((if x1 < (V 2008 ((x0).toNatClampNeg) (x2).toNatClampNeg) then (V 2008 ((x0).toNatClampNeg) (x2).toNatClampNeg) else x1))), some (.int (x2))]) DX10_widest_22 (by decide) rfl ?_
    refine t_iinc (v := 1) (L' := [some (rfq ad 2000 (x0)), some (.int ((if x1 < (V 2008 ((x0).toNatClampNeg) (x2).toNatClampNeg) then (V 2008 ((x0).toNatClampNeg) (x2).toNatClampNeg) else x1))), some (.int (x2 + 1))]) DX10_widest_23 rfl ki_1 (by decide) rfl ?_
    refine r_goto DX10_widest_26 ?_
    exact hkh hR h
theorem SL_X10_widest_4 {E : EN} {X : CX} {P : Option Value → MH → Prop} {ad : AD} {fu : Nat} {out : Int32 × St} {kx29 : St → Int32 → RR} (hkx29 : ∀ {V : St} {M : MH} {x1 : Int32} {d0 : Option Value} {d2 : Option Value}, Rep E ad V M → kx29 V x1 = some out → G E X RX10 cX10_widest 3 (some .int) false (rmD 2) P M [d0, some (.int (x1)), d2] 0 0 29 []) (hp : ∀ M, Rep E ad out.2 M → P (some (.int out.1)) M) : ∀ (n : Nat) {V : St} {M : MH} {x0 : Int32} {x1 : Int32} {x2 : Int32}, Rep E ad V M → Lp_X10_widest_4 kx29 fu n V x0 x1 x2 = some out → G E X RX10 cX10_widest 3 (some .int) false (rmD 2) P M [some (rfq ad 2000 (x0)), some (.int (x1)), some (.int (x2))] 0 0 4 [] := by
  intro n
  induction n with
  | zero => intros; rename_i h; cases h
  | succ n ih => exact fun hR h => S_X10_widest_4 (fun hR h => ih hR h) (fun hR h => hkx29 hR h) hp hR h
theorem S_X10_widest_0 {E : EN} {X : CX} {P : Option Value → MH → Prop} {ad : AD} {fu : Nat} {out : Int32 × St} (hp : ∀ M, Rep E ad out.2 M → P (some (.int out.1)) M) {V : St} {M : MH} {x0 : Int32} (hR : Rep E ad V M) (h : f_X10_widest fu V x0 = some out) : G E X RX10 cX10_widest 3 (some .int) false (rmD 2) P M [some (rfq ad 2000 (x0)), none, none] 0 0 0 [] := by
  unfold f_X10_widest at h
  refine r_iconst (v := 0) DX10_widest_0 ki_0 ?_
  refine t_istore_n (L' := [some (rfq ad 2000 (x0)), some (.int ((0 : Int32))), none]) DX10_widest_1 (by decide) rfl ?_
  refine r_iconst (v := 0) DX10_widest_2 ki_0 ?_
  refine t_istore_n (L' := [some (rfq ad 2000 (x0)), some (.int ((0 : Int32))), some (.int ((0 : Int32)))]) DX10_widest_3 (by decide) rfl ?_
  exact SL_X10_widest_4 (fun hR h => S_X10_widest_29 hp hR h) hp fu hR h
theorem C_X10_widest {E : EN} {ad : AD} {fu : Nat} {out : Int32 × St} {V : St} {M : MH} {x0 : Int32} (l : Launch) (hR : Rep E ad V M) (h : f_X10_widest fu V x0 = some out) : Ct E l yX10_widest cX10_widest 3 (some .int) (rmD 2) [rfq ad 2000 (x0)] M (fun v M => v = (some (.int out.1)) ∧ Rep E ad out.2 M) :=
  Ct.of (own := RX10) (ini := false) (L := [some (rfq ad 2000 (x0)), none, none]) rfl rfl (fun h => by cases h) (by simp only [List.all_cons, List.all_nil, rfq_cat]; rfl) (Nat.le_of_ble_eq_true rfl) rfl (fun X _ => S_X10_widest_0 (fun M hR => ⟨rfl, hR⟩) hR h)
theorem S_X4_counts_39 {E : EN} {X : CX} {P : Option Value → MH → Prop} {ad : AD} {fu : Nat} {out : Int32 × St} (hp : ∀ M, Rep E ad out.2 M → P (some (.int out.1)) M) {V : St} {M : MH} {s0 : Int32} {d0 : Option Value} {d1 : Option Value} {d2 : Option Value} {d3 : Option Value} (hR : Rep E ad V M) (h : F_X4_counts_39 fu V s0 = some out) : G E X RX4 cX4_counts 4 (some .boolean) false (rmD 4) P M [d0, d1, d2, d3] 0 0 39 [.int (s0)] := by
  unfold F_X4_counts_39 at h
  obtain ⟨hz1, h⟩ := gd_inv h
  cases h
  exact r_zret DX4_counts_39 rfl (nz_nar hz1) ⟨Nat.le_refl 0, Nat.le_refl 0⟩ (hp M hR)
theorem S_X4_counts_38 {E : EN} {X : CX} {P : Option Value → MH → Prop} {ad : AD} {fu : Nat} {out : Int32 × St} (hp : ∀ M, Rep E ad out.2 M → P (some (.int out.1)) M) {V : St} {M : MH} {d0 : Option Value} {d1 : Option Value} {d2 : Option Value} {d3 : Option Value} (hR : Rep E ad V M) (h : F_X4_counts_38 fu V = some out) : G E X RX4 cX4_counts 4 (some .boolean) false (rmD 4) P M [d0, d1, d2, d3] 0 0 38 [] := by
  unfold F_X4_counts_38 at h
  refine r_iconst (v := 0) DX4_counts_38 ki_0 ?_
  exact S_X4_counts_39 hp hR h
theorem S_X4_counts_0 {E : EN} {X : CX} {P : Option Value → MH → Prop} {ad : AD} {fu : Nat} {out : Int32 × St} (hp : ∀ M, Rep E ad out.2 M → P (some (.int out.1)) M) {V : St} {M : MH} {x1 : Int32} {x2 : Int32} {x3 : Int32} (hR : Rep E ad V M) (h : f_X4_counts fu V x1 x2 x3 = some out) : G E X RX4 cX4_counts 4 (some .boolean) false (rmD 4) P M [some (.ref (ad 1400 0)), some (.int (x1)), some (.int (x2)), some (.int (x3))] 0 0 0 [] := by
  unfold f_X4_counts at h
  refine r_aload_n DX4_counts_0 rfl ?_
  refine s_geta DX4_counts_1 fl_X4_18 hR ct_1400 (one_cnt _) rfl ?_
  refine r_iload_n DX4_counts_4 rfl ?_
  obtain ⟨hg1, h⟩ := gd_inv h
  refine s_iald DX4_counts_5 hR ct_1402 (one_cnt _) hg1 ?_
  refine r_iload_n DX4_counts_6 rfl ?_
  refine r_ishr DX4_counts_7 ?_
  refine r_iconst (v := 1) DX4_counts_8 ki_1 ?_
  refine r_iand DX4_counts_9 ?_
  refine r_iconst (v := 1) DX4_counts_10 ki_1 ?_
  refine r_icmp_ne DX4_counts_11 (fun c2 => ?_) (fun c2 => ?_)
  · have h := if_f c2 h
    exact S_X4_counts_38 hp hR h
  · have h := if_t c2 h
    refine r_aload_n DX4_counts_14 rfl ?_
    refine s_geto DX4_counts_15 fl_X4_12 hR ct_1400 (one_cnt _) rfl ?_
    refine r_iload_n DX4_counts_18 rfl ?_
    obtain ⟨⟨hx3, hi4⟩, h⟩ := gd_inv h
    refine s_lget (Li := 1401) (g := 1700) DX4_counts_19 cv_X4_46 hR (by decide) hx3 hi4 (by decide) (Nat.le_of_ble_eq_true rfl) (fun M hR => ?_)
    refine q_cast hx3 DX4_counts_22 wd_358 hR ct_1700 hi4 rfl ?_
    refine q_geta hx3 DX4_counts_25 fl_X4_112 hR ct_1700 hi4 rfl ?_
    refine r_iload_n DX4_counts_28 rfl ?_
    obtain ⟨hg5, h⟩ := gd_inv h
    refine s_iald DX4_counts_29 hR ct_1705 (hi4) hg5 ?_
    refine r_iload_n DX4_counts_30 rfl ?_
    refine r_icmp_ne DX4_counts_31 (fun c6 => ?_) (fun c6 => ?_)
    · have h := if_f c6 h
      exact S_X4_counts_38 hp hR h
    · have h := if_t c6 h
      refine r_iconst (v := 1) DX4_counts_34 ki_1 ?_
      refine r_goto DX4_counts_35 ?_
      exact S_X4_counts_39 hp hR h
theorem C_X4_counts {E : EN} {ad : AD} {fu : Nat} {out : Int32 × St} {V : St} {M : MH} {x1 : Int32} {x2 : Int32} {x3 : Int32} (l : Launch) (hR : Rep E ad V M) (h : f_X4_counts fu V x1 x2 x3 = some out) : Ct E l yX4_counts cX4_counts 4 (some .boolean) (rmD 4) [.ref (ad 1400 0), .int (x1), .int (x2), .int (x3)] M (fun v M => v = (some (.int out.1)) ∧ Rep E ad out.2 M) :=
  Ct.of (own := RX4) (ini := false) (L := [some (.ref (ad 1400 0)), some (.int (x1)), some (.int (x2)), some (.int (x3))]) rfl rfl (fun h => by cases h) rfl (Nat.le_of_ble_eq_true rfl) rfl (fun X _ => S_X4_counts_0 (fun M hR => ⟨rfl, hR⟩) hR h)
theorem S_X4_pop_0 {E : EN} {X : CX} {P : Option Value → MH → Prop} {ad : AD} {fu : Nat} {out : Int32 × St} (hp : ∀ M, Rep E ad out.2 M → P (some (.int out.1)) M) {V : St} {M : MH} (hR : Rep E ad V M) (h : f_X4_pop fu V = some out) : G E X RX4 cX4_pop 1 (some .int) false (rmD 1) P M [some (.ref (ad 1400 0))] 0 0 0 [] := by
  unfold f_X4_pop at h
  refine r_aload_n DX4_pop_0 rfl ?_
  refine s_geti DX4_pop_1 fl_X4_28 hR ct_1400 (one_cnt _) rfl ?_
  refine r_if_gt DX4_pop_4 (fun c1 => ?_) (fun c1 => ?_)
  · have h := if_t c1 h
    refine r_aload_n DX4_pop_9 rfl ?_
    refine r_dup DX4_pop_10 rfl ?_
    refine s_geti DX4_pop_11 fl_X4_28 hR ct_1400 (one_cnt _) rfl ?_
    refine r_iconst (v := 1) DX4_pop_14 ki_1 ?_
    refine r_isub DX4_pop_15 ?_
    obtain ⟨V2, hv3, h⟩ := bv_inv h
    refine s_puti DX4_pop_16 fp_X4_28 hR oks_1405 ct_1400 (one_cnt _) rfl rfl rfl (fun M hR => ?_)
    have hR := hR.cg hv3
    refine r_aload_n DX4_pop_19 rfl ?_
    refine s_geta DX4_pop_20 fl_X4_25 hR ct_1400 (one_cnt _) rfl ?_
    refine r_aload_n DX4_pop_23 rfl ?_
    refine s_geti DX4_pop_24 fl_X4_28 hR ct_1400 (one_cnt _) rfl ?_
    obtain ⟨hg4, h⟩ := gd_inv h
    refine s_iald DX4_pop_27 hR ct_1404 (one_cnt _) hg4 ?_
    cases h
    exact r_iret DX4_pop_28 rfl ⟨Nat.le_refl 0, Nat.le_refl 0⟩ (hp M hR)
  · have h := if_f c1 h
    refine r_iconst (v := 0) DX4_pop_7 ki_0 ?_
    cases h
    exact r_iret DX4_pop_8 rfl ⟨Nat.le_refl 0, Nat.le_refl 0⟩ (hp M hR)
theorem C_X4_pop {E : EN} {ad : AD} {fu : Nat} {out : Int32 × St} {V : St} {M : MH} (l : Launch) (hR : Rep E ad V M) (h : f_X4_pop fu V = some out) : Ct E l yX4_pop cX4_pop 1 (some .int) (rmD 1) [.ref (ad 1400 0)] M (fun v M => v = (some (.int out.1)) ∧ Rep E ad out.2 M) :=
  Ct.of (own := RX4) (ini := false) (L := [some (.ref (ad 1400 0))]) rfl rfl (fun h => by cases h) rfl (Nat.le_of_ble_eq_true rfl) rfl (fun X _ => S_X4_pop_0 (fun M hR => ⟨rfl, hR⟩) hR h)
theorem S_X4_push_32 {E : EN} {X : CX} {P : Option Value → MH → Prop} {ad : AD} {fu : Nat} {out : Int32 × St} (hp : ∀ M, Rep E ad out.2 M → P none M) {V : St} {M : MH} {d0 : Option Value} {d1 : Option Value} (hR : Rep E ad V M) (h : F_X4_push_32 fu V = some out) : G E X RX4 cX4_push 2 none false (rmD 1) P M [d0, d1] 0 0 32 [] := by
  unfold F_X4_push_32 at h
  cases h
  exact r_vret DX4_push_32 rfl ⟨Nat.le_refl 0, Nat.le_refl 0⟩ (hp M hR)
theorem S_X4_push_0 {E : EN} {X : CX} {P : Option Value → MH → Prop} {ad : AD} {fu : Nat} {out : Int32 × St} (hp : ∀ M, Rep E ad out.2 M → P none M) {V : St} {M : MH} {x1 : Int32} (hR : Rep E ad V M) (h : f_X4_push fu V x1 = some out) : G E X RX4 cX4_push 2 none false (rmD 1) P M [some (.ref (ad 1400 0)), some (.int (x1))] 0 0 0 [] := by
  unfold f_X4_push at h
  refine r_aload_n DX4_push_0 rfl ?_
  refine s_geti DX4_push_1 fl_X4_28 hR ct_1400 (one_cnt _) rfl ?_
  refine r_aload_n DX4_push_4 rfl ?_
  refine s_geta DX4_push_5 fl_X4_25 hR ct_1400 (one_cnt _) rfl ?_
  refine s_ilen DX4_push_8 hR ct_1404 (one_cnt _) ?_
  refine r_icmp_ge DX4_push_9 (fun c1 => ?_) (fun c1 => ?_)
  · have h := if_t c1 h
    exact S_X4_push_32 hp hR h
  · have h := if_f c1 h
    refine r_aload_n DX4_push_12 rfl ?_
    refine s_geta DX4_push_13 fl_X4_25 hR ct_1400 (one_cnt _) rfl ?_
    refine r_aload_n DX4_push_16 rfl ?_
    refine s_geti DX4_push_17 fl_X4_28 hR ct_1400 (one_cnt _) rfl ?_
    refine r_iload_n DX4_push_20 rfl ?_
    obtain ⟨hg2, h⟩ := gd_inv h
    obtain ⟨V3, hv4, h⟩ := bv_inv h
    refine s_iast DX4_push_21 hR oka_1404 ct_1404 (one_cnt _) hg2 (fun M hR => ?_)
    have hR := hR.cg hv4
    refine r_aload_n DX4_push_22 rfl ?_
    refine r_dup DX4_push_23 rfl ?_
    refine s_geti DX4_push_24 fl_X4_28 hR ct_1400 (one_cnt _) rfl ?_
    refine r_iconst (v := 1) DX4_push_27 ki_1 ?_
    refine r_iadd DX4_push_28 ?_
    obtain ⟨V5, hv6, h⟩ := bv_inv h
    refine s_puti DX4_push_29 fp_X4_28 hR oks_1405 ct_1400 (one_cnt _) rfl rfl rfl (fun M hR => ?_)
    have hR := hR.cg hv6
    exact S_X4_push_32 hp hR h
theorem C_X4_push {E : EN} {ad : AD} {fu : Nat} {out : Int32 × St} {V : St} {M : MH} {x1 : Int32} (l : Launch) (hR : Rep E ad V M) (h : f_X4_push fu V x1 = some out) : Ct E l yX4_push cX4_push 2 none (rmD 1) [.ref (ad 1400 0), .int (x1)] M (fun v M => v = none ∧ Rep E ad out.2 M) :=
  Ct.of (own := RX4) (ini := false) (L := [some (.ref (ad 1400 0)), some (.int (x1))]) rfl rfl (fun h => by cases h) rfl (Nat.le_of_ble_eq_true rfl) rfl (fun X _ => S_X4_push_0 (fun M hR => ⟨rfl, hR⟩) hR h)
theorem S_X4_join_180 {E : EN} {X : CX} {P : Option Value → MH → Prop} {ad : AD} {fu : Nat} {out : Int32 × St} (hp : ∀ M, Rep E ad out.2 M → P none M) {V : St} {M : MH} {d0 : Option Value} {d1 : Option Value} {d2 : Option Value} {d3 : Option Value} (hR : Rep E ad V M) (h : F_X4_join_180 fu V = some out) : G E X RX4 cX4_join 4 none false (rmD 2) P M [d0, d1, d2, d3] 0 0 180 [] := by
  unfold F_X4_join_180 at h
  cases h
  exact r_vret DX4_join_180 rfl ⟨Nat.le_refl 0, Nat.le_refl 0⟩ (hp M hR)
theorem S_X4_join_177 {E : EN} {X : CX} {P : Option Value → MH → Prop} {ad : AD} {fu : Nat} {out : Int32 × St} (hp : ∀ M, Rep E ad out.2 M → P none M) {V : St} {M : MH} {s0 : Int32} {d0 : Option Value} {d1 : Option Value} {d2 : Option Value} {d3 : Option Value} (hR : Rep E ad V M) (h : F_X4_join_177 fu V s0 = some out) : G E X RX4 cX4_join 4 none false (rmD 2) P M [d0, d1, d2, d3] 0 0 177 [.int (s0), .ref (ad 1400 0)] := by
  unfold F_X4_join_177 at h
  obtain ⟨r1, V2, hc3, h⟩ := bd_inv h
  refine k_callV (As := [.int (s0)]) (rest := []) (st1 := []) (w := none) DX4_join_177 cv_X4_123 hR ct_1400 (one_cnt _) rfl (C_X4_push (out := (r1, V2)) (cxL X) hR hc3) rfl (by decide) (by decide) rfl (Nat.le_of_ble_eq_true rfl) rfl (fun M hR => ?_)
  exact S_X4_join_180 hp hR h
theorem S_X4_join_113 {E : EN} {X : CX} {P : Option Value → MH → Prop} {ad : AD} {fu : Nat} {out : Int32 × St} (hp : ∀ M, Rep E ad out.2 M → P none M) {V : St} {M : MH} {s0 : Int32} {d0 : Option Value} {d1 : Option Value} {d2 : Option Value} {d3 : Option Value} (hR : Rep E ad V M) (h : F_X4_join_113 fu V s0 = some out) : G E X RX4 cX4_join 4 none false (rmD 2) P M [d0, d1, d2, d3] 0 0 113 [.int (s0), .ref (ad 1400 0)] := by
  unfold F_X4_join_113 at h
  obtain ⟨hz1, h⟩ := gd_inv h
  obtain ⟨V2, hv3, h⟩ := bv_inv h
  refine s_puti DX4_join_113 fp_X4_35 hR oks_1407 ct_1400 (one_cnt _) rfl (nz_nar hz1) (nz_fit hz1) (fun M hR => ?_)
  have hR := hR.cg hv3
  refine r_goto DX4_join_116 ?_
  exact S_X4_join_180 hp hR h
theorem S_X4_join_96 {E : EN} {X : CX} {P : Option Value → MH → Prop} {ad : AD} {fu : Nat} {out : Int32 × St} (hp : ∀ M, Rep E ad out.2 M → P none M) {V : St} {M : MH} {s0 : Int32} {d0 : Option Value} {d1 : Option Value} {d2 : Option Value} {d3 : Option Value} (hR : Rep E ad V M) (h : F_X4_join_96 fu V s0 = some out) : G E X RX4 cX4_join 4 none false (rmD 2) P M [d0, d1, d2, d3] 0 0 96 [.int (s0), .ref (ad 1400 0)] := by
  unfold F_X4_join_96 at h
  obtain ⟨hz1, h⟩ := gd_inv h
  obtain ⟨V2, hv3, h⟩ := bv_inv h
  refine s_puti DX4_join_96 fp_X4_35 hR oks_1407 ct_1400 (one_cnt _) rfl (nz_nar hz1) (nz_fit hz1) (fun M hR => ?_)
  have hR := hR.cg hv3
  refine r_goto DX4_join_99 ?_
  exact S_X4_join_180 hp hR h
theorem S_X4_join_79 {E : EN} {X : CX} {P : Option Value → MH → Prop} {ad : AD} {fu : Nat} {out : Int32 × St} (hp : ∀ M, Rep E ad out.2 M → P none M) {V : St} {M : MH} {s0 : Int32} {d0 : Option Value} {d1 : Option Value} {d2 : Option Value} {d3 : Option Value} (hR : Rep E ad V M) (h : F_X4_join_79 fu V s0 = some out) : G E X RX4 cX4_join 4 none false (rmD 2) P M [d0, d1, d2, d3] 0 0 79 [.int (s0), .ref (ad 1400 0)] := by
  unfold F_X4_join_79 at h
  obtain ⟨hz1, h⟩ := gd_inv h
  obtain ⟨V2, hv3, h⟩ := bv_inv h
  refine s_puti DX4_join_79 fp_X4_35 hR oks_1407 ct_1400 (one_cnt _) rfl (nz_nar hz1) (nz_fit hz1) (fun M hR => ?_)
  have hR := hR.cg hv3
  refine r_goto DX4_join_82 ?_
  exact S_X4_join_180 hp hR h
theorem S_X4_join_0 {E : EN} {X : CX} {P : Option Value → MH → Prop} {ad : AD} {fu : Nat} {out : Int32 × St} (hp : ∀ M, Rep E ad out.2 M → P none M) {V : St} {M : MH} {x1 : Int32} (hR : Rep E ad V M) (h : f_X4_join fu V x1 = some out) : G E X RX4 cX4_join 4 none false (rmD 2) P M [some (.ref (ad 1400 0)), some (.int (x1)), none, none] 0 0 0 [] := by
  unfold f_X4_join at h
  refine r_aload_n DX4_join_0 rfl ?_
  obtain ⟨r1, V2, hc3, h⟩ := bd_inv h
  refine k_callV (As := []) (rest := []) (st1 := [.int (r1)]) (w := some (.int r1)) DX4_join_1 cv_X4_129 hR ct_1400 (one_cnt _) rfl (C_X4_pop (out := (r1, V2)) (cxL X) hR hc3) rfl (by decide) (by decide) rfl (Nat.le_of_ble_eq_true rfl) rfl (fun M hR => ?_)
  refine t_istore_n (L' := [some (.ref (ad 1400 0)), some (.int (x1)), some (.int (r1)), none]) DX4_join_4 (by decide) rfl ?_
  refine r_aload_n DX4_join_5 rfl ?_
  obtain ⟨r4, V5, hc6, h⟩ := bd_inv h
  refine k_callV (As := []) (rest := []) (st1 := [.int (r4)]) (w := some (.int r4)) DX4_join_6 cv_X4_129 hR ct_1400 (one_cnt _) rfl (C_X4_pop (out := (r4, V5)) (cxL X) hR hc6) rfl (by decide) (by decide) rfl (Nat.le_of_ble_eq_true rfl) rfl (fun M hR => ?_)
  refine t_istore_n (L' := [some (.ref (ad 1400 0)), some (.int (x1)), some (.int (r1)), some (.int (r4))]) DX4_join_9 (by decide) rfl ?_
  refine r_iload_n DX4_join_10 rfl ?_
  by_cases e11 : x1 = 42
  · have h := if_t e11 h
    refine r_lookup (tgt := 139) (off := 128) DX4_join_11 (by decide) (by rw [e11]; decide) rfl ?_
    refine r_aload_n DX4_join_139 rfl ?_
    refine r_iload_n DX4_join_140 rfl ?_
    refine r_iload_n DX4_join_141 rfl ?_
    refine r_imul DX4_join_142 ?_
    obtain ⟨r8, V9, hc10, h⟩ := bd_inv h
    refine k_callV (As := [.int (r4 * r1)]) (rest := []) (st1 := []) (w := none) DX4_join_143 cv_X4_123 hR ct_1400 (one_cnt _) rfl (C_X4_push (out := (r8, V9)) (cxL X) hR hc10) rfl (by decide) (by decide) rfl (Nat.le_of_ble_eq_true rfl) rfl (fun M hR => ?_)
    refine r_goto DX4_join_146 ?_
    exact S_X4_join_180 hp hR h
  have h := if_f e11 h
  by_cases e15 : x1 = 43
  · have h := if_t e15 h
    refine r_lookup (tgt := 119) (off := 108) DX4_join_11 (by decide) (by rw [e15]; decide) rfl ?_
    refine r_aload_n DX4_join_119 rfl ?_
    refine r_iload_n DX4_join_120 rfl ?_
    refine r_iload_n DX4_join_121 rfl ?_
    refine r_iadd DX4_join_122 ?_
    obtain ⟨r12, V13, hc14, h⟩ := bd_inv h
    refine k_callV (As := [.int (r4 + r1)]) (rest := []) (st1 := []) (w := none) DX4_join_123 cv_X4_123 hR ct_1400 (one_cnt _) rfl (C_X4_push (out := (r12, V13)) (cxL X) hR hc14) rfl (by decide) (by decide) rfl (Nat.le_of_ble_eq_true rfl) rfl (fun M hR => ?_)
    refine r_goto DX4_join_126 ?_
    exact S_X4_join_180 hp hR h
  have h := if_f e15 h
  by_cases e19 : x1 = 45
  · have h := if_t e19 h
    refine r_lookup (tgt := 129) (off := 118) DX4_join_11 (by decide) (by rw [e19]; decide) rfl ?_
    refine r_aload_n DX4_join_129 rfl ?_
    refine r_iload_n DX4_join_130 rfl ?_
    refine r_iload_n DX4_join_131 rfl ?_
    refine r_isub DX4_join_132 ?_
    obtain ⟨r16, V17, hc18, h⟩ := bd_inv h
    refine k_callV (As := [.int (r4 - r1)]) (rest := []) (st1 := []) (w := none) DX4_join_133 cv_X4_123 hR ct_1400 (one_cnt _) rfl (C_X4_push (out := (r16, V17)) (cxL X) hR hc18) rfl (by decide) (by decide) rfl (Nat.le_of_ble_eq_true rfl) rfl (fun M hR => ?_)
    refine r_goto DX4_join_136 ?_
    exact S_X4_join_180 hp hR h
  have h := if_f e19 h
  by_cases e20 : x1 = 60
  · have h := if_t e20 h
    refine r_lookup (tgt := 68) (off := 57) DX4_join_11 (by decide) (by rw [e20]; decide) rfl ?_
    refine r_aload_n DX4_join_68 rfl ?_
    refine r_iload_n DX4_join_69 rfl ?_
    refine r_iload_n DX4_join_70 rfl ?_
    refine r_icmp_ge DX4_join_71 (fun c20 => ?_) (fun c20 => ?_)
    · have h := if_t c20 h
      refine r_iconst (v := 0) DX4_join_78 ki_0 ?_
      exact S_X4_join_79 hp hR h
    · have h := if_f c20 h
      refine r_iconst (v := 1) DX4_join_74 ki_1 ?_
      refine r_goto DX4_join_75 ?_
      exact S_X4_join_79 hp hR h
  have h := if_f e20 h
  by_cases e21 : x1 = 61
  · have h := if_t e21 h
    refine r_lookup (tgt := 102) (off := 91) DX4_join_11 (by decide) (by rw [e21]; decide) rfl ?_
    refine r_aload_n DX4_join_102 rfl ?_
    refine r_iload_n DX4_join_103 rfl ?_
    refine r_iload_n DX4_join_104 rfl ?_
    refine r_icmp_ne DX4_join_105 (fun c21 => ?_) (fun c21 => ?_)
    · have h := if_f c21 h
      refine r_iconst (v := 0) DX4_join_112 ki_0 ?_
      exact S_X4_join_113 hp hR h
    · have h := if_t c21 h
      refine r_iconst (v := 1) DX4_join_108 ki_1 ?_
      refine r_goto DX4_join_109 ?_
      exact S_X4_join_113 hp hR h
  have h := if_f e21 h
  by_cases e22 : x1 = 62
  · have h := if_t e22 h
    refine r_lookup (tgt := 85) (off := 74) DX4_join_11 (by decide) (by rw [e22]; decide) rfl ?_
    refine r_aload_n DX4_join_85 rfl ?_
    refine r_iload_n DX4_join_86 rfl ?_
    refine r_iload_n DX4_join_87 rfl ?_
    refine r_icmp_le DX4_join_88 (fun c22 => ?_) (fun c22 => ?_)
    · have h := if_t c22 h
      refine r_iconst (v := 0) DX4_join_95 ki_0 ?_
      exact S_X4_join_96 hp hR h
    · have h := if_f c22 h
      refine r_iconst (v := 1) DX4_join_91 ki_1 ?_
      refine r_goto DX4_join_92 ?_
      exact S_X4_join_96 hp hR h
  have h := if_f e22 h
  refine r_lookup (tgt := 149) (off := 138) DX4_join_11 (by decide) (by refine (lv_osw e11 rfl).trans ?_; refine (lv_osw e15 rfl).trans ?_; refine (lv_osw e19 rfl).trans ?_; refine (lv_osw e20 rfl).trans ?_; refine (lv_osw e21 rfl).trans ?_; refine (lv_osw e22 rfl).trans ?_; rfl) rfl ?_
  refine r_iload_n DX4_join_149 rfl ?_
  refine r_if_ne DX4_join_150 (fun c23 => ?_) (fun c23 => ?_)
  · have h := if_f c23 h
    refine r_aload_n DX4_join_161 rfl ?_
    refine r_iload_n DX4_join_162 rfl ?_
    refine r_bipush (v := 47) DX4_join_163 kb_47 ?_
    refine r_icmp_ne DX4_join_165 (fun c24 => ?_) (fun c24 => ?_)
    · have h := if_f c24 h
      refine r_iload_n DX4_join_174 rfl ?_
      refine r_iload_n DX4_join_175 rfl ?_
      obtain ⟨hn25, h⟩ := gd_inv h
      refine r_irem DX4_join_176 hn25 ?_
      exact S_X4_join_177 hp hR h
    · have h := if_t c24 h
      refine r_iload_n DX4_join_168 rfl ?_
      refine r_iload_n DX4_join_169 rfl ?_
      obtain ⟨hn26, h⟩ := gd_inv h
      refine r_idiv DX4_join_170 hn26 ?_
      refine r_goto DX4_join_171 ?_
      exact S_X4_join_177 hp hR h
  · have h := if_t c23 h
    refine r_aload_n DX4_join_153 rfl ?_
    refine r_iconst (v := 1) DX4_join_154 ki_1 ?_
    obtain ⟨V24, hv25, h⟩ := bv_inv h
    refine s_puti DX4_join_155 fp_X4_39 hR oks_1408 ct_1400 (one_cnt _) rfl rfl rfl (fun M hR => ?_)
    have hR := hR.cg hv25
    refine r_goto DX4_join_158 ?_
    exact S_X4_join_180 hp hR h
theorem C_X4_join {E : EN} {ad : AD} {fu : Nat} {out : Int32 × St} {V : St} {M : MH} {x1 : Int32} (l : Launch) (hR : Rep E ad V M) (h : f_X4_join fu V x1 = some out) : Ct E l yX4_join cX4_join 4 none (rmD 2) [.ref (ad 1400 0), .int (x1)] M (fun v M => v = none ∧ Rep E ad out.2 M) :=
  Ct.of (own := RX4) (ini := false) (L := [some (.ref (ad 1400 0)), some (.int (x1)), none, none]) rfl rfl (fun h => by cases h) rfl (Nat.le_of_ble_eq_true rfl) rfl (fun X _ => S_X4_join_0 (fun M hR => ⟨rfl, hR⟩) hR h)
theorem S_X4_step_166 {E : EN} {X : CX} {P : Option Value → MH → Prop} {ad : AD} {fu : Nat} {out : Int32 × St} (hp : ∀ M, Rep E ad out.2 M → P none M) {V : St} {M : MH} {d0 : Option Value} {d1 : Option Value} {d2 : Option Value} {d3 : Option Value} (hR : Rep E ad V M) (h : F_X4_step_166 fu V = some out) : G E X RX4 cX4_step 4 none false (rmD 3) P M [d0, d1, d2, d3] 0 0 166 [] := by
  unfold F_X4_step_166 at h
  cases h
  exact r_vret DX4_step_166 rfl ⟨Nat.le_refl 0, Nat.le_refl 0⟩ (hp M hR)
theorem S_X4_step_155 {E : EN} {X : CX} {P : Option Value → MH → Prop} {ad : AD} {fu : Nat} {out : Int32 × St} (hp : ∀ M, Rep E ad out.2 M → P none M) {V : St} {M : MH} {s0 : Int32} {d0 : Option Value} {d1 : Option Value} {d2 : Option Value} {d3 : Option Value} (hR : Rep E ad V M) (h : F_X4_step_155 fu V s0 = some out) : G E X RX4 cX4_step 4 none false (rmD 3) P M [d0, d1, d2, d3] 0 0 155 [.int (s0), .ref (ad 1400 0)] := by
  unfold F_X4_step_155 at h
  obtain ⟨V1, hv2, h⟩ := bv_inv h
  refine s_puti DX4_step_155 fp_X4_32 hR oks_1406 ct_1400 (one_cnt _) rfl rfl rfl (fun M hR => ?_)
  have hR := hR.cg hv2
  refine r_goto DX4_step_158 ?_
  exact S_X4_step_166 hp hR h
theorem S_X4_step_133 {E : EN} {X : CX} {P : Option Value → MH → Prop} {ad : AD} {fu : Nat} {out : Int32 × St} (hp : ∀ M, Rep E ad out.2 M → P none M) {V : St} {M : MH} {s0 : Int32} {d0 : Option Value} {d1 : Option Value} {d2 : Option Value} {d3 : Option Value} (hR : Rep E ad V M) (h : F_X4_step_133 fu V s0 = some out) : G E X RX4 cX4_step 4 none false (rmD 3) P M [d0, d1, d2, d3] 0 0 133 [.int (s0), .ref (ad 1400 0)] := by
  unfold F_X4_step_133 at h
  obtain ⟨V1, hv2, h⟩ := bv_inv h
  refine s_puti DX4_step_133 fp_X4_32 hR oks_1406 ct_1400 (one_cnt _) rfl rfl rfl (fun M hR => ?_)
  have hR := hR.cg hv2
  refine r_goto DX4_step_136 ?_
  exact S_X4_step_166 hp hR h
theorem S_X4_step_111 {E : EN} {X : CX} {P : Option Value → MH → Prop} {ad : AD} {fu : Nat} {out : Int32 × St} (hp : ∀ M, Rep E ad out.2 M → P none M) {V : St} {M : MH} {s0 : Int32} {d0 : Option Value} {d1 : Option Value} {d2 : Option Value} {d3 : Option Value} (hR : Rep E ad V M) (h : F_X4_step_111 fu V s0 = some out) : G E X RX4 cX4_step 4 none false (rmD 3) P M [d0, d1, d2, d3] 0 0 111 [.int (s0), .ref (ad 1400 0)] := by
  unfold F_X4_step_111 at h
  obtain ⟨hz1, h⟩ := gd_inv h
  obtain ⟨V2, hv3, h⟩ := bv_inv h
  refine s_puti DX4_step_111 fp_X4_35 hR oks_1407 ct_1400 (one_cnt _) rfl (nz_nar hz1) (nz_fit hz1) (fun M hR => ?_)
  have hR := hR.cg hv3
  refine r_goto DX4_step_114 ?_
  exact S_X4_step_166 hp hR h
theorem S_X4_step_92 {E : EN} {X : CX} {P : Option Value → MH → Prop} {ad : AD} {fu : Nat} {out : Int32 × St} (hp : ∀ M, Rep E ad out.2 M → P none M) {V : St} {M : MH} {s0 : Int32} {d0 : Option Value} {d1 : Option Value} {d2 : Option Value} {d3 : Option Value} (hR : Rep E ad V M) (h : F_X4_step_92 fu V s0 = some out) : G E X RX4 cX4_step 4 none false (rmD 3) P M [d0, d1, d2, d3] 0 0 92 [.int (s0), .ref (ad 1400 0)] := by
  unfold F_X4_step_92 at h
  obtain ⟨r1, V2, hc3, h⟩ := bd_inv h
  refine k_callV (As := [.int (s0)]) (rest := []) (st1 := []) (w := none) DX4_step_92 cv_X4_123 hR ct_1400 (one_cnt _) rfl (C_X4_push (out := (r1, V2)) (cxL X) hR hc3) rfl (by decide) (by decide) rfl (Nat.le_of_ble_eq_true rfl) rfl (fun M hR => ?_)
  refine r_goto DX4_step_95 ?_
  exact S_X4_step_166 hp hR h
theorem S_X4_step_0 {E : EN} {X : CX} {P : Option Value → MH → Prop} {ad : AD} {fu : Nat} {out : Int32 × St} (hp : ∀ M, Rep E ad out.2 M → P none M) {V : St} {M : MH} {x1 : Int32} (hR : Rep E ad V M) (h : f_X4_step fu V x1 = some out) : G E X RX4 cX4_step 4 none false (rmD 3) P M [some (.ref (ad 1400 0)), some (.int (x1)), none, none] 0 0 0 [] := by
  unfold f_X4_step at h
  refine r_iload_n DX4_step_0 rfl ?_
  refine r_sipush (v := 255) DX4_step_1 ks_255 ?_
  refine r_iand DX4_step_4 ?_
  refine t_istore_n (L' := [some (.ref (ad 1400 0)), some (.int (x1)), some (.int (x1 &&& (255 : Int32))), none]) DX4_step_5 (by decide) rfl ?_
  refine r_iload_n DX4_step_6 rfl ?_
  refine r_bipush (v := 8) DX4_step_7 kb_8 ?_
  refine r_ishr DX4_step_9 ?_
  refine t_istore_n (L' := [some (.ref (ad 1400 0)), some (.int (x1)), some (.int (x1 &&& (255 : Int32))), some (.int (x1 >>> ((8 : Int32) &&& 31)))]) DX4_step_10 (by decide) rfl ?_
  refine r_iload_n DX4_step_11 rfl ?_
  by_cases e2 : x1 &&& (255 : Int32) = 33
  · have h := if_t e2 h
    refine r_lookup (tgt := 98) (off := 86) DX4_step_12 (by decide) (by rw [e2]; decide) rfl ?_
    refine r_aload_n DX4_step_98 rfl ?_
    refine r_aload_n DX4_step_99 rfl ?_
    refine s_geti DX4_step_100 fl_X4_35 hR ct_1400 (one_cnt _) rfl ?_
    refine r_if_ne DX4_step_103 (fun c2 => ?_) (fun c2 => ?_)
    · have h := if_f c2 h
      refine r_iconst (v := 0) DX4_step_110 ki_0 ?_
      exact S_X4_step_111 hp hR h
    · have h := if_t c2 h
      refine r_iconst (v := 1) DX4_step_106 ki_1 ?_
      refine r_goto DX4_step_107 ?_
      exact S_X4_step_111 hp hR h
  have h := if_f e2 h
  by_cases e6 : x1 &&& (255 : Int32) = 35
  · have h := if_t e6 h
    refine r_lookup (tgt := 64) (off := 52) DX4_step_12 (by decide) (by rw [e6]; decide) rfl ?_
    refine r_aload_n DX4_step_64 rfl ?_
    refine r_iload_n DX4_step_65 rfl ?_
    obtain ⟨r3, V4, hc5, h⟩ := bd_inv h
    refine k_callV (As := [.int (x1 >>> ((8 : Int32) &&& 31))]) (rest := []) (st1 := []) (w := none) DX4_step_66 cv_X4_123 hR ct_1400 (one_cnt _) rfl (C_X4_push (out := (r3, V4)) (cxL X) hR hc5) rfl (by decide) (by decide) rfl (Nat.le_of_ble_eq_true rfl) rfl (fun M hR => ?_)
    refine r_goto DX4_step_69 ?_
    exact S_X4_step_166 hp hR h
  have h := if_f e6 h
  by_cases e7 : x1 &&& (255 : Int32) = 38
  · have h := if_t e7 h
    refine r_lookup (tgt := 117) (off := 105) DX4_step_12 (by decide) (by rw [e7]; decide) rfl ?_
    refine r_aload_n DX4_step_117 rfl ?_
    refine r_aload_n DX4_step_118 rfl ?_
    refine s_geti DX4_step_119 fl_X4_35 hR ct_1400 (one_cnt _) rfl ?_
    refine r_if_eq DX4_step_122 (fun c7 => ?_) (fun c7 => ?_)
    · have h := if_t c7 h
      refine r_iload_n DX4_step_132 rfl ?_
      exact S_X4_step_133 hp hR h
    · have h := if_f c7 h
      refine r_aload_n DX4_step_125 rfl ?_
      refine s_geti DX4_step_126 fl_X4_32 hR ct_1400 (one_cnt _) rfl ?_
      refine r_goto DX4_step_129 ?_
      exact S_X4_step_133 hp hR h
  have h := if_f e7 h
  by_cases e8 : x1 &&& (255 : Int32) = 64
  · have h := if_t e8 h
    refine r_lookup (tgt := 72) (off := 60) DX4_step_12 (by decide) (by rw [e8]; decide) rfl ?_
    refine r_aload_n DX4_step_72 rfl ?_
    refine r_iload_n DX4_step_73 rfl ?_
    refine r_aload_n DX4_step_74 rfl ?_
    refine s_geta DX4_step_75 fl_X4_22 hR ct_1400 (one_cnt _) rfl ?_
    refine s_ilen DX4_step_78 hR ct_1403 (one_cnt _) ?_
    refine r_icmp_ge DX4_step_79 (fun c8 => ?_) (fun c8 => ?_)
    · have h := if_t c8 h
      refine r_iconst (v := 0) DX4_step_91 ki_0 ?_
      exact S_X4_step_92 hp hR h
    · have h := if_f c8 h
      refine r_aload_n DX4_step_82 rfl ?_
      refine s_geta DX4_step_83 fl_X4_22 hR ct_1400 (one_cnt _) rfl ?_
      refine r_iload_n DX4_step_86 rfl ?_
      obtain ⟨hg9, h⟩ := gd_inv h
      refine s_iald DX4_step_87 hR ct_1403 (one_cnt _) hg9 ?_
      refine r_goto DX4_step_88 ?_
      exact S_X4_step_92 hp hR h
  have h := if_f e8 h
  by_cases e9 : x1 &&& (255 : Int32) = 124
  · have h := if_t e9 h
    refine r_lookup (tgt := 139) (off := 127) DX4_step_12 (by decide) (by rw [e9]; decide) rfl ?_
    refine r_aload_n DX4_step_139 rfl ?_
    refine r_aload_n DX4_step_140 rfl ?_
    refine s_geti DX4_step_141 fl_X4_35 hR ct_1400 (one_cnt _) rfl ?_
    refine r_if_eq DX4_step_144 (fun c9 => ?_) (fun c9 => ?_)
    · have h := if_t c9 h
      refine r_aload_n DX4_step_151 rfl ?_
      refine s_geti DX4_step_152 fl_X4_32 hR ct_1400 (one_cnt _) rfl ?_
      exact S_X4_step_155 hp hR h
    · have h := if_f c9 h
      refine r_iload_n DX4_step_147 rfl ?_
      refine r_goto DX4_step_148 ?_
      exact S_X4_step_155 hp hR h
  have h := if_f e9 h
  refine r_lookup (tgt := 161) (off := 149) DX4_step_12 (by decide) (by refine (lv_osw e2 rfl).trans ?_; refine (lv_osw e6 rfl).trans ?_; refine (lv_osw e7 rfl).trans ?_; refine (lv_osw e8 rfl).trans ?_; refine (lv_osw e9 rfl).trans ?_; rfl) rfl ?_
  refine r_aload_n DX4_step_161 rfl ?_
  refine r_iload_n DX4_step_162 rfl ?_
  obtain ⟨r10, V11, hc12, h⟩ := bd_inv h
  refine k_callV (As := [.int (x1 &&& (255 : Int32))]) (rest := []) (st1 := []) (w := none) DX4_step_163 cv_X4_126 hR ct_1400 (one_cnt _) rfl (C_X4_join (out := (r10, V11)) (cxL X) hR hc12) rfl (by decide) (by decide) rfl (Nat.le_of_ble_eq_true rfl) rfl (fun M hR => ?_)
  exact S_X4_step_166 hp hR h
theorem C_X4_step {E : EN} {ad : AD} {fu : Nat} {out : Int32 × St} {V : St} {M : MH} {x1 : Int32} (l : Launch) (hR : Rep E ad V M) (h : f_X4_step fu V x1 = some out) : Ct E l yX4_step cX4_step 4 none (rmD 3) [.ref (ad 1400 0), .int (x1)] M (fun v M => v = none ∧ Rep E ad out.2 M) :=
  Ct.of (own := RX4) (ini := false) (L := [some (.ref (ad 1400 0)), some (.int (x1)), none, none]) rfl rfl (fun h => by cases h) rfl (Nat.le_of_ble_eq_true rfl) rfl (fun X _ => S_X4_step_0 (fun M hR => ⟨rfl, hR⟩) hR h)
theorem S_X4_holds_103 {E : EN} {X : CX} {P : Option Value → MH → Prop} {ad : AD} {fu : Nat} {out : Int32 × St} (hp : ∀ M, Rep E ad out.2 M → P (some (.int out.1)) M) {V : St} {M : MH} {s0 : Int32} {d0 : Option Value} {d1 : Option Value} {d2 : Option Value} {d3 : Option Value} {d4 : Option Value} (hR : Rep E ad V M) (h : F_X4_holds_103 fu V s0 = some out) : G E X RX4 cX4_holds 5 (some .boolean) false (rmD 4) P M [d0, d1, d2, d3, d4] 0 0 103 [.int (s0)] := by
  unfold F_X4_holds_103 at h
  obtain ⟨hz1, h⟩ := gd_inv h
  cases h
  exact r_zret DX4_holds_103 rfl (nz_nar hz1) ⟨Nat.le_refl 0, Nat.le_refl 0⟩ (hp M hR)
theorem S_X4_holds_102 {E : EN} {X : CX} {P : Option Value → MH → Prop} {ad : AD} {fu : Nat} {out : Int32 × St} (hp : ∀ M, Rep E ad out.2 M → P (some (.int out.1)) M) {V : St} {M : MH} {d0 : Option Value} {d1 : Option Value} {d2 : Option Value} {d3 : Option Value} {d4 : Option Value} (hR : Rep E ad V M) (h : F_X4_holds_102 fu V = some out) : G E X RX4 cX4_holds 5 (some .boolean) false (rmD 4) P M [d0, d1, d2, d3, d4] 0 0 102 [] := by
  unfold F_X4_holds_102 at h
  refine r_iconst (v := 0) DX4_holds_102 ki_0 ?_
  exact S_X4_holds_103 hp hR h
theorem S_X4_holds_84 {E : EN} {X : CX} {P : Option Value → MH → Prop} {ad : AD} {fu : Nat} {out : Int32 × St} (hp : ∀ M, Rep E ad out.2 M → P (some (.int out.1)) M) {V : St} {M : MH} {d1 : Option Value} {d2 : Option Value} {d3 : Option Value} {d4 : Option Value} (hR : Rep E ad V M) (h : F_X4_holds_84 fu V = some out) : G E X RX4 cX4_holds 5 (some .boolean) false (rmD 4) P M [some (.ref (ad 1400 0)), d1, d2, d3, d4] 0 0 84 [] := by
  unfold F_X4_holds_84 at h
  refine r_aload_n DX4_holds_84 rfl ?_
  refine s_geti DX4_holds_85 fl_X4_35 hR ct_1400 (one_cnt _) rfl ?_
  refine r_if_eq DX4_holds_88 (fun c1 => ?_) (fun c1 => ?_)
  · have h := if_t c1 h
    exact S_X4_holds_102 hp hR h
  · have h := if_f c1 h
    refine r_aload_n DX4_holds_91 rfl ?_
    refine s_geti DX4_holds_92 fl_X4_39 hR ct_1400 (one_cnt _) rfl ?_
    refine r_if_ne DX4_holds_95 (fun c2 => ?_) (fun c2 => ?_)
    · have h := if_f c2 h
      exact S_X4_holds_102 hp hR h
    · have h := if_t c2 h
      refine r_iconst (v := 1) DX4_holds_98 ki_1 ?_
      refine r_goto DX4_holds_99 ?_
      exact S_X4_holds_103 hp hR h
theorem S_X4_holds_78 {E : EN} {X : CX} {P : Option Value → MH → Prop} {ad : AD} {fu : Nat} {out : Int32 × St} {kh : St → Int32 → Int32 → Int32 → RR} {kx84 : St → RR} (hkh : ∀ {V : St} {M : MH} {x1 : Int32} {x2 : Int32} {x4 : Int32} {d3 : Option Value}, Rep E ad V M → kh V x1 x2 x4 = some out → G E X RX4 cX4_holds 5 (some .boolean) false (rmD 4) P M [some (.ref (ad 1400 0)), some (rfq ad 1700 (x1)), some (.int (x2)), d3, some (.int (x4))] 0 0 40 []) (hkx84 : ∀ {V : St} {M : MH} {d1 : Option Value} {d2 : Option Value} {d3 : Option Value} {d4 : Option Value}, Rep E ad V M → kx84 V  = some out → G E X RX4 cX4_holds 5 (some .boolean) false (rmD 4) P M [some (.ref (ad 1400 0)), d1, d2, d3, d4] 0 0 84 []) (hp : ∀ M, Rep E ad out.2 M → P (some (.int out.1)) M) {V : St} {M : MH} {x1 : Int32} {x2 : Int32} {x4 : Int32} {d3 : Option Value} (hR : Rep E ad V M) (h : F_X4_holds_78 kh kx84 fu V x1 x2 x4 = some out) : G E X RX4 cX4_holds 5 (some .boolean) false (rmD 4) P M [some (.ref (ad 1400 0)), some (rfq ad 1700 (x1)), some (.int (x2)), d3, some (.int (x4))] 0 0 78 [] := by
  unfold F_X4_holds_78 at h
  refine t_iinc (v := 1) (L' := [some (.ref (ad 1400 0)), some (rfq ad 1700 (x1)), some (.int (x2)), d3, some (.int (x4 + 1))]) DX4_holds_78 rfl ki_1 (by decide) rfl ?_
  refine r_goto DX4_holds_81 ?_
  exact hkh hR h
theorem S_X4_holds_40 {E : EN} {X : CX} {P : Option Value → MH → Prop} {ad : AD} {fu : Nat} {out : Int32 × St} {kh : St → Int32 → Int32 → Int32 → RR} {kx84 : St → RR} (hkh : ∀ {V : St} {M : MH} {x1 : Int32} {x2 : Int32} {x4 : Int32} {d3 : Option Value}, Rep E ad V M → kh V x1 x2 x4 = some out → G E X RX4 cX4_holds 5 (some .boolean) false (rmD 4) P M [some (.ref (ad 1400 0)), some (rfq ad 1700 (x1)), some (.int (x2)), d3, some (.int (x4))] 0 0 40 []) (hkx84 : ∀ {V : St} {M : MH} {d1 : Option Value} {d2 : Option Value} {d3 : Option Value} {d4 : Option Value}, Rep E ad V M → kx84 V  = some out → G E X RX4 cX4_holds 5 (some .boolean) false (rmD 4) P M [some (.ref (ad 1400 0)), d1, d2, d3, d4] 0 0 84 []) (hp : ∀ M, Rep E ad out.2 M → P (some (.int out.1)) M) {V : St} {M : MH} {x1 : Int32} {x2 : Int32} {x4 : Int32} {d3 : Option Value} (hR : Rep E ad V M) (h : F_X4_holds_40 kh kx84 fu V x1 x2 x4 = some out) : G E X RX4 cX4_holds 5 (some .boolean) false (rmD 4) P M [some (.ref (ad 1400 0)), some (rfq ad 1700 (x1)), some (.int (x2)), d3, some (.int (x4))] 0 0 40 [] := by
  unfold F_X4_holds_40 at h
  refine r_iload DX4_holds_40 rfl ?_
  refine t_aload_n (rfq_or _ _ _) DX4_holds_42 rfl ?_
  obtain ⟨⟨hx1, hi2⟩, h⟩ := gd_inv h
  refine q_geta hx1 DX4_holds_43 fl_X4_113 hR ct_1700 hi2 rfl ?_
  refine r_iload_n DX4_holds_46 rfl ?_
  obtain ⟨hg3, h⟩ := gd_inv h
  refine s_iald DX4_holds_47 hR ct_1708 (hi2) hg3 ?_
  refine r_icmp_ge DX4_holds_48 (fun c4 => ?_) (fun c4 => ?_)
  · have h := if_t c4 h
    exact hkx84 hR h
  · have h := if_f c4 h
    refine r_aload_n DX4_holds_51 rfl ?_
    refine s_geti DX4_holds_52 fl_X4_39 hR ct_1400 (one_cnt _) rfl ?_
    refine r_if_ne DX4_holds_55 (fun c5 => ?_) (fun c5 => ?_)
    · have h := if_f c5 h
      exact hkx84 hR h
    · have h := if_t c5 h
      refine r_iload DX4_holds_58 rfl ?_
      refine r_aload_n DX4_holds_60 rfl ?_
      refine s_geti DX4_holds_61 fl_X4_32 hR ct_1400 (one_cnt _) rfl ?_
      refine r_icmp_lt DX4_holds_64 (fun c6 => ?_) (fun c6 => ?_)
      · have h := if_t c6 h
        exact S_X4_holds_78 (fun hR h => hkh hR h) (fun hR h => hkx84 hR h) hp hR h
      · have h := if_f c6 h
        refine r_aload_n DX4_holds_67 rfl ?_
        refine t_aload_n (rfq_or _ _ _) DX4_holds_68 rfl ?_
        refine q_geta hx1 DX4_holds_69 fl_X4_116 hR ct_1700 hi2 rfl ?_
        refine r_iload DX4_holds_72 rfl ?_
        obtain ⟨hg7, h⟩ := gd_inv h
        refine s_iald DX4_holds_74 hR ct_1709 (hi2) hg7 ?_
        obtain ⟨r8, V9, hc10, h⟩ := bd_inv h
        refine k_callV (As := [.int ((V 1709 ((x1).toNatClampNeg) (x4).toNatClampNeg))]) (rest := []) (st1 := []) (w := none) DX4_holds_75 cv_X4_119 hR ct_1400 (one_cnt _) rfl (C_X4_step (out := (r8, V9)) (cxL X) hR hc10) rfl (by decide) (by decide) rfl (Nat.le_of_ble_eq_true rfl) rfl (fun M hR => ?_)
        exact S_X4_holds_78 (fun hR h => hkh hR h) (fun hR h => hkx84 hR h) hp hR h
theorem SL_X4_holds_40 {E : EN} {X : CX} {P : Option Value → MH → Prop} {ad : AD} {fu : Nat} {out : Int32 × St} {kx84 : St → RR} (hkx84 : ∀ {V : St} {M : MH} {d1 : Option Value} {d2 : Option Value} {d3 : Option Value} {d4 : Option Value}, Rep E ad V M → kx84 V  = some out → G E X RX4 cX4_holds 5 (some .boolean) false (rmD 4) P M [some (.ref (ad 1400 0)), d1, d2, d3, d4] 0 0 84 []) (hp : ∀ M, Rep E ad out.2 M → P (some (.int out.1)) M) : ∀ (n : Nat) {V : St} {M : MH} {x1 : Int32} {x2 : Int32} {x4 : Int32} {d3 : Option Value}, Rep E ad V M → Lp_X4_holds_40 kx84 fu n V x1 x2 x4 = some out → G E X RX4 cX4_holds 5 (some .boolean) false (rmD 4) P M [some (.ref (ad 1400 0)), some (rfq ad 1700 (x1)), some (.int (x2)), d3, some (.int (x4))] 0 0 40 [] := by
  intro n
  induction n with
  | zero => intros; rename_i h; cases h
  | succ n ih => exact fun hR h => S_X4_holds_40 (fun hR h => ih hR h) (fun hR h => hkx84 hR h) hp hR h
theorem S_X4_holds_16 {E : EN} {X : CX} {P : Option Value → MH → Prop} {ad : AD} {fu : Nat} {out : Int32 × St} (hp : ∀ M, Rep E ad out.2 M → P (some (.int out.1)) M) {V : St} {M : MH} {x1 : Int32} {x2 : Int32} {s0 : Int32} {d3 : Option Value} {d4 : Option Value} (hR : Rep E ad V M) (h : F_X4_holds_16 fu V x1 x2 s0 = some out) : G E X RX4 cX4_holds 5 (some .boolean) false (rmD 4) P M [some (.ref (ad 1400 0)), some (rfq ad 1700 (x1)), some (.int (x2)), d3, d4] 0 0 16 [.int (s0)] := by
  unfold F_X4_holds_16 at h
  refine t_istore_n (L' := [some (.ref (ad 1400 0)), some (rfq ad 1700 (x1)), some (.int (x2)), some (.int (s0)), d4]) DX4_holds_16 (by decide) rfl ?_
  refine r_aload_n DX4_holds_17 rfl ?_
  refine r_iconst (v := 0) DX4_holds_18 ki_0 ?_
  obtain ⟨V1, hv2, h⟩ := bv_inv h
  refine s_puti DX4_holds_19 fp_X4_28 hR oks_1405 ct_1400 (one_cnt _) rfl rfl rfl (fun M hR => ?_)
  have hR := hR.cg hv2
  refine r_aload_n DX4_holds_22 rfl ?_
  refine r_iload_n DX4_holds_23 rfl ?_
  obtain ⟨V3, hv4, h⟩ := bv_inv h
  refine s_puti DX4_holds_24 fp_X4_32 hR oks_1406 ct_1400 (one_cnt _) rfl rfl rfl (fun M hR => ?_)
  have hR := hR.cg hv4
  refine r_aload_n DX4_holds_27 rfl ?_
  refine r_iconst (v := 0) DX4_holds_28 ki_0 ?_
  obtain ⟨V5, hv6, h⟩ := bv_inv h
  refine s_puti DX4_holds_29 fp_X4_35 hR oks_1407 ct_1400 (one_cnt _) rfl rfl rfl (fun M hR => ?_)
  have hR := hR.cg hv6
  refine r_aload_n DX4_holds_32 rfl ?_
  refine r_iconst (v := 0) DX4_holds_33 ki_0 ?_
  obtain ⟨V7, hv8, h⟩ := bv_inv h
  refine s_puti DX4_holds_34 fp_X4_39 hR oks_1408 ct_1400 (one_cnt _) rfl rfl rfl (fun M hR => ?_)
  have hR := hR.cg hv8
  refine r_iload_n DX4_holds_37 rfl ?_
  refine t_istore (L' := [some (.ref (ad 1400 0)), some (rfq ad 1700 (x1)), some (.int (x2)), some (.int (s0)), some (.int (s0))]) DX4_holds_38 (by decide) rfl ?_
  exact SL_X4_holds_40 (fun hR h => S_X4_holds_84 hp hR h) hp fu hR h
theorem S_X4_holds_0 {E : EN} {X : CX} {P : Option Value → MH → Prop} {ad : AD} {fu : Nat} {out : Int32 × St} (hp : ∀ M, Rep E ad out.2 M → P (some (.int out.1)) M) {V : St} {M : MH} {x1 : Int32} {x2 : Int32} (hR : Rep E ad V M) (h : f_X4_holds fu V x1 x2 = some out) : G E X RX4 cX4_holds 5 (some .boolean) false (rmD 4) P M [some (.ref (ad 1400 0)), some (rfq ad 1700 (x1)), some (.int (x2)), none, none] 0 0 0 [] := by
  unfold f_X4_holds at h
  refine r_iload_n DX4_holds_0 rfl ?_
  refine r_if_ne DX4_holds_1 (fun c1 => ?_) (fun c1 => ?_)
  · have h := if_f c1 h
    refine t_aload_n (rfq_or _ _ _) DX4_holds_8 rfl ?_
    obtain ⟨⟨hx2, hi3⟩, h⟩ := gd_inv h
    refine q_geta hx2 DX4_holds_9 fl_X4_113 hR ct_1700 hi3 rfl ?_
    refine r_iload_n DX4_holds_12 rfl ?_
    refine r_iconst (v := 1) DX4_holds_13 ki_1 ?_
    refine r_isub DX4_holds_14 ?_
    obtain ⟨hg4, h⟩ := gd_inv h
    refine s_iald DX4_holds_15 hR ct_1708 (hi3) hg4 ?_
    exact S_X4_holds_16 hp hR h
  · have h := if_t c1 h
    refine r_iconst (v := 0) DX4_holds_4 ki_0 ?_
    refine r_goto DX4_holds_5 ?_
    exact S_X4_holds_16 hp hR h
theorem C_X4_holds {E : EN} {ad : AD} {fu : Nat} {out : Int32 × St} {V : St} {M : MH} {x1 : Int32} {x2 : Int32} (l : Launch) (hR : Rep E ad V M) (h : f_X4_holds fu V x1 x2 = some out) : Ct E l yX4_holds cX4_holds 5 (some .boolean) (rmD 4) [.ref (ad 1400 0), rfq ad 1700 (x1), .int (x2)] M (fun v M => v = (some (.int out.1)) ∧ Rep E ad out.2 M) :=
  Ct.of (own := RX4) (ini := false) (L := [some (.ref (ad 1400 0)), some (rfq ad 1700 (x1)), some (.int (x2)), none, none]) rfl rfl (fun h => by cases h) (by simp only [List.all_cons, List.all_nil, rfq_cat]; rfl) (Nat.le_of_ble_eq_true rfl) rfl (fun X _ => S_X4_holds_0 (fun M hR => ⟨rfl, hR⟩) hR h)
theorem S_X4_lastNumber_80 {E : EN} {X : CX} {P : Option Value → MH → Prop} {ad : AD} {fu : Nat} {out : Int32 × St} (hp : ∀ M, Rep E ad out.2 M → P (some (.int out.1)) M) {V : St} {M : MH} {d0 : Option Value} {d1 : Option Value} {d2 : Option Value} {d3 : Option Value} {d4 : Option Value} (hR : Rep E ad V M) (h : F_X4_lastNumber_80 fu V = some out) : G E X RX4 cX4_lastNumber 5 (some .int) false (rmD 5) P M [d0, d1, d2, d3, d4] 0 0 80 [] := by
  unfold F_X4_lastNumber_80 at h
  refine r_iconst (v := -1) DX4_lastNumber_80 ki_m1 ?_
  cases h
  exact r_iret DX4_lastNumber_81 rfl ⟨Nat.le_refl 0, Nat.le_refl 0⟩ (hp M hR)
theorem S_X4_lastNumber_74 {E : EN} {X : CX} {P : Option Value → MH → Prop} {ad : AD} {fu : Nat} {out : Int32 × St} {kh : St → Int32 → Int32 → RR} {kx60 : St → Int32 → Int32 → RR} {kx80 : St → RR} (hkh : ∀ {V : St} {M : MH} {x1 : Int32} {x2 : Int32} {d3 : Option Value} {d4 : Option Value}, Rep E ad V M → kh V x1 x2 = some out → G E X RX4 cX4_lastNumber 5 (some .int) false (rmD 5) P M [some (.ref (ad 1400 0)), some (.int (x1)), some (.int (x2)), d3, d4] 0 0 10 []) (hkx60 : ∀ {V : St} {M : MH} {x3 : Int32} {x4 : Int32} {d0 : Option Value} {d1 : Option Value} {d2 : Option Value}, Rep E ad V M → kx60 V x3 x4 = some out → G E X RX4 cX4_lastNumber 5 (some .int) false (rmD 5) P M [d0, d1, d2, some (rfq ad 1700 (x3)), some (.int (x4))] 0 0 60 []) (hkx80 : ∀ {V : St} {M : MH} {d0 : Option Value} {d1 : Option Value} {d2 : Option Value} {d3 : Option Value} {d4 : Option Value}, Rep E ad V M → kx80 V  = some out → G E X RX4 cX4_lastNumber 5 (some .int) false (rmD 5) P M [d0, d1, d2, d3, d4] 0 0 80 []) (hp : ∀ M, Rep E ad out.2 M → P (some (.int out.1)) M) {V : St} {M : MH} {x1 : Int32} {x2 : Int32} {d3 : Option Value} {d4 : Option Value} (hR : Rep E ad V M) (h : F_X4_lastNumber_74 kh kx60 kx80 fu V x1 x2 = some out) : G E X RX4 cX4_lastNumber 5 (some .int) false (rmD 5) P M [some (.ref (ad 1400 0)), some (.int (x1)), some (.int (x2)), d3, d4] 0 0 74 [] := by
  unfold F_X4_lastNumber_74 at h
  refine t_iinc (v := -1) (L' := [some (.ref (ad 1400 0)), some (.int (x1)), some (.int (x2 + (-1))), d3, d4]) DX4_lastNumber_74 rfl ki_m1 (by decide) rfl ?_
  refine r_goto DX4_lastNumber_77 ?_
  exact hkh hR h
theorem S_X4_lastNumber_68 {E : EN} {X : CX} {P : Option Value → MH → Prop} {ad : AD} {fu : Nat} {out : Int32 × St} {kh : St → Int32 → Int32 → Int32 → Int32 → RR} {kx60 : St → Int32 → Int32 → RR} {kx74 : St → Int32 → Int32 → RR} (hkh : ∀ {V : St} {M : MH} {x1 : Int32} {x2 : Int32} {x3 : Int32} {x4 : Int32}, Rep E ad V M → kh V x1 x2 x3 x4 = some out → G E X RX4 cX4_lastNumber 5 (some .int) false (rmD 5) P M [some (.ref (ad 1400 0)), some (.int (x1)), some (.int (x2)), some (rfq ad 1700 (x3)), some (.int (x4))] 0 0 34 []) (hkx60 : ∀ {V : St} {M : MH} {x3 : Int32} {x4 : Int32} {d0 : Option Value} {d1 : Option Value} {d2 : Option Value}, Rep E ad V M → kx60 V x3 x4 = some out → G E X RX4 cX4_lastNumber 5 (some .int) false (rmD 5) P M [d0, d1, d2, some (rfq ad 1700 (x3)), some (.int (x4))] 0 0 60 []) (hkx74 : ∀ {V : St} {M : MH} {x1 : Int32} {x2 : Int32} {d3 : Option Value} {d4 : Option Value}, Rep E ad V M → kx74 V x1 x2 = some out → G E X RX4 cX4_lastNumber 5 (some .int) false (rmD 5) P M [some (.ref (ad 1400 0)), some (.int (x1)), some (.int (x2)), d3, d4] 0 0 74 []) (hp : ∀ M, Rep E ad out.2 M → P (some (.int out.1)) M) {V : St} {M : MH} {x1 : Int32} {x2 : Int32} {x3 : Int32} {x4 : Int32} (hR : Rep E ad V M) (h : F_X4_lastNumber_68 kh kx60 kx74 fu V x1 x2 x3 x4 = some out) : G E X RX4 cX4_lastNumber 5 (some .int) false (rmD 5) P M [some (.ref (ad 1400 0)), some (.int (x1)), some (.int (x2)), some (rfq ad 1700 (x3)), some (.int (x4))] 0 0 68 [] := by
  unfold F_X4_lastNumber_68 at h
  refine t_iinc (v := -1) (L' := [some (.ref (ad 1400 0)), some (.int (x1)), some (.int (x2)), some (rfq ad 1700 (x3)), some (.int (x4 + (-1)))]) DX4_lastNumber_68 rfl ki_m1 (by decide) rfl ?_
  refine r_goto DX4_lastNumber_71 ?_
  exact hkh hR h
theorem S_X4_lastNumber_60 {E : EN} {X : CX} {P : Option Value → MH → Prop} {ad : AD} {fu : Nat} {out : Int32 × St} (hp : ∀ M, Rep E ad out.2 M → P (some (.int out.1)) M) {V : St} {M : MH} {x3 : Int32} {x4 : Int32} {d0 : Option Value} {d1 : Option Value} {d2 : Option Value} (hR : Rep E ad V M) (h : F_X4_lastNumber_60 fu V x3 x4 = some out) : G E X RX4 cX4_lastNumber 5 (some .int) false (rmD 5) P M [d0, d1, d2, some (rfq ad 1700 (x3)), some (.int (x4))] 0 0 60 [] := by
  unfold F_X4_lastNumber_60 at h
  refine t_aload_n (rfq_or _ _ _) DX4_lastNumber_60 rfl ?_
  obtain ⟨⟨hx1, hi2⟩, h⟩ := gd_inv h
  refine q_geta hx1 DX4_lastNumber_61 fl_X4_68 hR ct_1700 hi2 rfl ?_
  refine r_iload DX4_lastNumber_64 rfl ?_
  obtain ⟨hg3, h⟩ := gd_inv h
  refine s_iald DX4_lastNumber_66 hR ct_1706 (hi2) hg3 ?_
  cases h
  exact r_iret DX4_lastNumber_67 rfl ⟨Nat.le_refl 0, Nat.le_refl 0⟩ (hp M hR)
theorem S_X4_lastNumber_34 {E : EN} {X : CX} {P : Option Value → MH → Prop} {ad : AD} {fu : Nat} {out : Int32 × St} {kh : St → Int32 → Int32 → Int32 → Int32 → RR} {kx60 : St → Int32 → Int32 → RR} {kx74 : St → Int32 → Int32 → RR} (hkh : ∀ {V : St} {M : MH} {x1 : Int32} {x2 : Int32} {x3 : Int32} {x4 : Int32}, Rep E ad V M → kh V x1 x2 x3 x4 = some out → G E X RX4 cX4_lastNumber 5 (some .int) false (rmD 5) P M [some (.ref (ad 1400 0)), some (.int (x1)), some (.int (x2)), some (rfq ad 1700 (x3)), some (.int (x4))] 0 0 34 []) (hkx60 : ∀ {V : St} {M : MH} {x3 : Int32} {x4 : Int32} {d0 : Option Value} {d1 : Option Value} {d2 : Option Value}, Rep E ad V M → kx60 V x3 x4 = some out → G E X RX4 cX4_lastNumber 5 (some .int) false (rmD 5) P M [d0, d1, d2, some (rfq ad 1700 (x3)), some (.int (x4))] 0 0 60 []) (hkx74 : ∀ {V : St} {M : MH} {x1 : Int32} {x2 : Int32} {d3 : Option Value} {d4 : Option Value}, Rep E ad V M → kx74 V x1 x2 = some out → G E X RX4 cX4_lastNumber 5 (some .int) false (rmD 5) P M [some (.ref (ad 1400 0)), some (.int (x1)), some (.int (x2)), d3, d4] 0 0 74 []) (hp : ∀ M, Rep E ad out.2 M → P (some (.int out.1)) M) {V : St} {M : MH} {x1 : Int32} {x2 : Int32} {x3 : Int32} {x4 : Int32} (hR : Rep E ad V M) (h : F_X4_lastNumber_34 kh kx60 kx74 fu V x1 x2 x3 x4 = some out) : G E X RX4 cX4_lastNumber 5 (some .int) false (rmD 5) P M [some (.ref (ad 1400 0)), some (.int (x1)), some (.int (x2)), some (rfq ad 1700 (x3)), some (.int (x4))] 0 0 34 [] := by
  unfold F_X4_lastNumber_34 at h
  refine r_iload DX4_lastNumber_34 rfl ?_
  refine r_if_lt DX4_lastNumber_36 (fun c1 => ?_) (fun c1 => ?_)
  · have h := if_t c1 h
    exact hkx74 hR h
  · have h := if_f c1 h
    refine r_aload_n DX4_lastNumber_39 rfl ?_
    refine r_iload_n DX4_lastNumber_40 rfl ?_
    refine r_iload DX4_lastNumber_41 rfl ?_
    refine r_iload_n DX4_lastNumber_43 rfl ?_
    obtain ⟨r2, V3, hc4, h⟩ := bd_inv h
    refine k_callV (As := [.int (x2), .int (x4), .int (x1)]) (rest := []) (st1 := [.int (r2)]) (w := some (.int r2)) DX4_lastNumber_44 cv_X4_64 hR ct_1400 (one_cnt _) rfl (C_X4_counts (out := (r2, V3)) (cxL X) hR hc4) rfl (by decide) (by decide) rfl (Nat.le_of_ble_eq_true rfl) rfl (fun M hR => ?_)
    refine r_if_eq DX4_lastNumber_47 (fun c5 => ?_) (fun c5 => ?_)
    · have h := if_t c5 h
      exact S_X4_lastNumber_68 (fun hR h => hkh hR h) (fun hR h => hkx60 hR h) (fun hR h => hkx74 hR h) hp hR h
    · have h := if_f c5 h
      refine r_aload_n DX4_lastNumber_50 rfl ?_
      refine t_aload_n (rfq_or _ _ _) DX4_lastNumber_51 rfl ?_
      refine r_iload DX4_lastNumber_52 rfl ?_
      obtain ⟨r6, V7, hc8, h⟩ := bd_inv h
      refine k_callV (As := [rfq ad 1700 (x3), .int (x4)]) (rest := []) (st1 := [.int (r6)]) (w := some (.int r6)) DX4_lastNumber_54 cv_X4_108 hR ct_1400 (one_cnt _) rfl (C_X4_holds (out := (r6, V7)) (cxL X) hR hc8) rfl (by decide) (by decide) rfl (Nat.le_of_ble_eq_true rfl) rfl (fun M hR => ?_)
      refine r_if_eq DX4_lastNumber_57 (fun c9 => ?_) (fun c9 => ?_)
      · have h := if_t c9 h
        exact S_X4_lastNumber_68 (fun hR h => hkh hR h) (fun hR h => hkx60 hR h) (fun hR h => hkx74 hR h) hp hR h
      · have h := if_f c9 h
        exact hkx60 hR h
theorem SL_X4_lastNumber_34 {E : EN} {X : CX} {P : Option Value → MH → Prop} {ad : AD} {fu : Nat} {out : Int32 × St} {kx60 : St → Int32 → Int32 → RR} {kx74 : St → Int32 → Int32 → RR} (hkx60 : ∀ {V : St} {M : MH} {x3 : Int32} {x4 : Int32} {d0 : Option Value} {d1 : Option Value} {d2 : Option Value}, Rep E ad V M → kx60 V x3 x4 = some out → G E X RX4 cX4_lastNumber 5 (some .int) false (rmD 5) P M [d0, d1, d2, some (rfq ad 1700 (x3)), some (.int (x4))] 0 0 60 []) (hkx74 : ∀ {V : St} {M : MH} {x1 : Int32} {x2 : Int32} {d3 : Option Value} {d4 : Option Value}, Rep E ad V M → kx74 V x1 x2 = some out → G E X RX4 cX4_lastNumber 5 (some .int) false (rmD 5) P M [some (.ref (ad 1400 0)), some (.int (x1)), some (.int (x2)), d3, d4] 0 0 74 []) (hp : ∀ M, Rep E ad out.2 M → P (some (.int out.1)) M) : ∀ (n : Nat) {V : St} {M : MH} {x1 : Int32} {x2 : Int32} {x3 : Int32} {x4 : Int32}, Rep E ad V M → Lp_X4_lastNumber_34 kx60 kx74 fu n V x1 x2 x3 x4 = some out → G E X RX4 cX4_lastNumber 5 (some .int) false (rmD 5) P M [some (.ref (ad 1400 0)), some (.int (x1)), some (.int (x2)), some (rfq ad 1700 (x3)), some (.int (x4))] 0 0 34 [] := by
  intro n
  induction n with
  | zero => intros; rename_i h; cases h
  | succ n ih => exact fun hR h => S_X4_lastNumber_34 (fun hR h => ih hR h) (fun hR h => hkx60 hR h) (fun hR h => hkx74 hR h) hp hR h
theorem S_X4_lastNumber_10 {E : EN} {X : CX} {P : Option Value → MH → Prop} {ad : AD} {fu : Nat} {out : Int32 × St} {kh : St → Int32 → Int32 → RR} {kx60 : St → Int32 → Int32 → RR} {kx80 : St → RR} (hkh : ∀ {V : St} {M : MH} {x1 : Int32} {x2 : Int32} {d3 : Option Value} {d4 : Option Value}, Rep E ad V M → kh V x1 x2 = some out → G E X RX4 cX4_lastNumber 5 (some .int) false (rmD 5) P M [some (.ref (ad 1400 0)), some (.int (x1)), some (.int (x2)), d3, d4] 0 0 10 []) (hkx60 : ∀ {V : St} {M : MH} {x3 : Int32} {x4 : Int32} {d0 : Option Value} {d1 : Option Value} {d2 : Option Value}, Rep E ad V M → kx60 V x3 x4 = some out → G E X RX4 cX4_lastNumber 5 (some .int) false (rmD 5) P M [d0, d1, d2, some (rfq ad 1700 (x3)), some (.int (x4))] 0 0 60 []) (hkx80 : ∀ {V : St} {M : MH} {d0 : Option Value} {d1 : Option Value} {d2 : Option Value} {d3 : Option Value} {d4 : Option Value}, Rep E ad V M → kx80 V  = some out → G E X RX4 cX4_lastNumber 5 (some .int) false (rmD 5) P M [d0, d1, d2, d3, d4] 0 0 80 []) (hp : ∀ M, Rep E ad out.2 M → P (some (.int out.1)) M) {V : St} {M : MH} {x1 : Int32} {x2 : Int32} {d3 : Option Value} {d4 : Option Value} (hR : Rep E ad V M) (h : F_X4_lastNumber_10 kh kx60 kx80 fu V x1 x2 = some out) : G E X RX4 cX4_lastNumber 5 (some .int) false (rmD 5) P M [some (.ref (ad 1400 0)), some (.int (x1)), some (.int (x2)), d3, d4] 0 0 10 [] := by
  unfold F_X4_lastNumber_10 at h
  refine r_iload_n DX4_lastNumber_10 rfl ?_
  refine r_if_lt DX4_lastNumber_11 (fun c1 => ?_) (fun c1 => ?_)
  · have h := if_t c1 h
    exact hkx80 hR h
  · have h := if_f c1 h
    refine r_aload_n DX4_lastNumber_14 rfl ?_
    refine s_geto DX4_lastNumber_15 fl_X4_12 hR ct_1400 (one_cnt _) rfl ?_
    refine r_iload_n DX4_lastNumber_18 rfl ?_
    obtain ⟨⟨hx2, hi3⟩, h⟩ := gd_inv h
    refine s_lget (Li := 1401) (g := 1700) DX4_lastNumber_19 cv_X4_46 hR (by decide) hx2 hi3 (by decide) (Nat.le_of_ble_eq_true rfl) (fun M hR => ?_)
    refine q_cast hx2 DX4_lastNumber_22 wd_358 hR ct_1700 hi3 rfl ?_
    refine t_astore_n (L' := [some (.ref (ad 1400 0)), some (.int (x1)), some (.int (x2)), some (rfq ad 1700 (x2)), d4]) (rfq_or _ _ _) DX4_lastNumber_25 (by decide) rfl ?_
    refine t_aload_n (rfq_or _ _ _) DX4_lastNumber_26 rfl ?_
    refine q_geti hx2 DX4_lastNumber_27 fl_X4_61 hR ct_1700 hi3 rfl ?_
    refine r_iconst (v := 1) DX4_lastNumber_30 ki_1 ?_
    refine r_isub DX4_lastNumber_31 ?_
    refine t_istore (L' := [some (.ref (ad 1400 0)), some (.int (x1)), some (.int (x2)), some (rfq ad 1700 (x2)), some (.int ((V 1704 (x2).toNatClampNeg 0) - (1 : Int32)))]) DX4_lastNumber_32 (by decide) rfl ?_
    exact SL_X4_lastNumber_34 (fun hR h => hkx60 hR h) (fun hR h => S_X4_lastNumber_74 (fun hR h => hkh hR h) (fun hR h => hkx60 hR h) (fun hR h => hkx80 hR h) hp hR h) hp fu hR h
theorem SL_X4_lastNumber_10 {E : EN} {X : CX} {P : Option Value → MH → Prop} {ad : AD} {fu : Nat} {out : Int32 × St} {kx60 : St → Int32 → Int32 → RR} {kx80 : St → RR} (hkx60 : ∀ {V : St} {M : MH} {x3 : Int32} {x4 : Int32} {d0 : Option Value} {d1 : Option Value} {d2 : Option Value}, Rep E ad V M → kx60 V x3 x4 = some out → G E X RX4 cX4_lastNumber 5 (some .int) false (rmD 5) P M [d0, d1, d2, some (rfq ad 1700 (x3)), some (.int (x4))] 0 0 60 []) (hkx80 : ∀ {V : St} {M : MH} {d0 : Option Value} {d1 : Option Value} {d2 : Option Value} {d3 : Option Value} {d4 : Option Value}, Rep E ad V M → kx80 V  = some out → G E X RX4 cX4_lastNumber 5 (some .int) false (rmD 5) P M [d0, d1, d2, d3, d4] 0 0 80 []) (hp : ∀ M, Rep E ad out.2 M → P (some (.int out.1)) M) : ∀ (n : Nat) {V : St} {M : MH} {x1 : Int32} {x2 : Int32} {d3 : Option Value} {d4 : Option Value}, Rep E ad V M → Lp_X4_lastNumber_10 kx60 kx80 fu n V x1 x2 = some out → G E X RX4 cX4_lastNumber 5 (some .int) false (rmD 5) P M [some (.ref (ad 1400 0)), some (.int (x1)), some (.int (x2)), d3, d4] 0 0 10 [] := by
  intro n
  induction n with
  | zero => intros; rename_i h; cases h
  | succ n ih => exact fun hR h => S_X4_lastNumber_10 (fun hR h => ih hR h) (fun hR h => hkx60 hR h) (fun hR h => hkx80 hR h) hp hR h
theorem S_X4_lastNumber_0 {E : EN} {X : CX} {P : Option Value → MH → Prop} {ad : AD} {fu : Nat} {out : Int32 × St} (hp : ∀ M, Rep E ad out.2 M → P (some (.int out.1)) M) {V : St} {M : MH} {x1 : Int32} (hR : Rep E ad V M) (h : f_X4_lastNumber fu V x1 = some out) : G E X RX4 cX4_lastNumber 5 (some .int) false (rmD 5) P M [some (.ref (ad 1400 0)), some (.int (x1)), none, none, none] 0 0 0 [] := by
  unfold f_X4_lastNumber at h
  refine r_aload_n DX4_lastNumber_0 rfl ?_
  refine s_geto DX4_lastNumber_1 fl_X4_12 hR ct_1400 (one_cnt _) rfl ?_
  refine s_lsize (Li := 1401) (g := 1700) DX4_lastNumber_4 cv_X4_42 hR (by decide) (by decide) (Nat.le_of_ble_eq_true rfl) ?_
  refine r_iconst (v := 1) DX4_lastNumber_7 ki_1 ?_
  refine r_isub DX4_lastNumber_8 ?_
  refine t_istore_n (L' := [some (.ref (ad 1400 0)), some (.int (x1)), some (.int ((V 1401 0 0) - (1 : Int32))), none, none]) DX4_lastNumber_9 (by decide) rfl ?_
  exact SL_X4_lastNumber_10 (fun hR h => S_X4_lastNumber_60 hp hR h) (fun hR h => S_X4_lastNumber_80 hp hR h) hp fu hR h
theorem C_X4_lastNumber {E : EN} {ad : AD} {fu : Nat} {out : Int32 × St} {V : St} {M : MH} {x1 : Int32} (l : Launch) (hR : Rep E ad V M) (h : f_X4_lastNumber fu V x1 = some out) : Ct E l yX4_lastNumber cX4_lastNumber 5 (some .int) (rmD 5) [.ref (ad 1400 0), .int (x1)] M (fun v M => v = (some (.int out.1)) ∧ Rep E ad out.2 M) :=
  Ct.of (own := RX4) (ini := false) (L := [some (.ref (ad 1400 0)), some (.int (x1)), none, none, none]) rfl rfl (fun h => by cases h) rfl (Nat.le_of_ble_eq_true rfl) rfl (fun X _ => S_X4_lastNumber_0 (fun M hR => ⟨rfl, hR⟩) hR h)
