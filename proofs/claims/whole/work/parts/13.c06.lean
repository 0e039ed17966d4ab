theorem S_X5_measureSets_86 {E : EN} {X : CX} {P : Option Value → MH → Prop} {ad : AD} {fu : Nat} {out : Int32 × St} (hp : ∀ M, Rep E ad out.2 M → P none M) {V : St} {M : MH} {d0 : Option Value} {d1 : Option Value} {d2 : Option Value} {d3 : Option Value} {d4 : Option Value} (hR : Rep E ad V M) (h : F_X5_measureSets_86 fu V = some out) : G E X RX5 cX5_measureSets 5 none false (rmD 2) P M [d0, d1, d2, d3, d4] 0 0 86 [] := by
  unfold F_X5_measureSets_86 at h
  cases h
  exact r_vret DX5_measureSets_86 rfl ⟨Nat.le_refl 0, Nat.le_refl 0⟩ (hp M hR)
theorem S_X5_measureSets_16 {E : EN} {X : CX} {P : Option Value → MH → Prop} {ad : AD} {fu : Nat} {out : Int32 × St} {kh : St → Int32 → Int32 → RR} {kx86 : St → RR} (hkh : ∀ {V : St} {M : MH} {x1 : Int32} {x2 : Int32} {d3 : Option Value} {d4 : Option Value}, Rep E ad V M → kh V x1 x2 = some out → G E X RX5 cX5_measureSets 5 none false (rmD 2) P M [some (.ref (ad 1500 0)), some (rfq ad 2000 (x1)), some (.int (x2)), d3, d4] 0 0 16 []) (hkx86 : ∀ {V : St} {M : MH} {d0 : Option Value} {d1 : Option Value} {d2 : Option Value} {d3 : Option Value} {d4 : Option Value}, Rep E ad V M → kx86 V  = some out → G E X RX5 cX5_measureSets 5 none false (rmD 2) P M [d0, d1, d2, d3, d4] 0 0 86 []) (hp : ∀ M, Rep E ad out.2 M → P none M) {V : St} {M : MH} {x1 : Int32} {x2 : Int32} {d3 : Option Value} {d4 : Option Value} (hR : Rep E ad V M) (h : F_X5_measureSets_16 kh kx86 fu V x1 x2 = some out) : G E X RX5 cX5_measureSets 5 none false (rmD 2) P M [some (.ref (ad 1500 0)), some (rfq ad 2000 (x1)), some (.int (x2)), d3, d4] 0 0 16 [] := by
  unfold F_X5_measureSets_16 at h
  refine r_iload_n DX5_measureSets_16 rfl ?_
  refine r_iconst (v := 1) DX5_measureSets_17 ki_1 ?_
  refine r_aload_n DX5_measureSets_18 rfl ?_
  refine s_geti DX5_measureSets_19 fl_X5_35 hR ct_1500 (one_cnt _) rfl ?_
  refine r_ishl DX5_measureSets_22 ?_
  refine r_icmp_ge DX5_measureSets_23 (fun c1 => ?_) (fun c1 => ?_)
  · have h := if_t c1 h
    exact hkx86 hR h
  · have h := if_f c1 h
    refine r_iload_n DX5_measureSets_26 rfl ?_
    obtain ⟨r2, V3, hc4, h⟩ := bd_inv h
    refine k_callS (As := [.int (x2)]) (rest := []) (st1 := [.int (r2)]) (w := some (.int r2)) DX5_measureSets_27 cs_X5_69 (C_J6_numberOfTrailingZeros_0f7a4 (out := (r2, V3)) (cxL X) hR hc4) rfl (by decide) (by decide) rfl (Nat.le_of_ble_eq_true rfl) rfl (fun M hR => ?_)
    refine t_istore_n (L' := [some (.ref (ad 1500 0)), some (rfq ad 2000 (x1)), some (.int (x2)), some (.int (r2)), d4]) DX5_measureSets_30 (by decide) rfl ?_
    refine r_iload_n DX5_measureSets_31 rfl ?_
    refine r_iload_n DX5_measureSets_32 rfl ?_
    refine r_iconst (v := 1) DX5_measureSets_33 ki_1 ?_
    refine r_isub DX5_measureSets_34 ?_
    refine r_iand DX5_measureSets_35 ?_
    refine t_istore (L' := [some (.ref (ad 1500 0)), some (rfq ad 2000 (x1)), some (.int (x2)), some (.int (r2)), some (.int (x2 &&& (x2 - (1 : Int32))))]) DX5_measureSets_36 (by decide) rfl ?_
    refine r_aload_n DX5_measureSets_38 rfl ?_
    refine s_geta DX5_measureSets_39 fl_X5_11 hR ct_1500 (one_cnt _) rfl ?_
    refine r_iload_n DX5_measureSets_42 rfl ?_
    refine r_aload_n DX5_measureSets_43 rfl ?_
    refine s_geta DX5_measureSets_44 fl_X5_11 hR ct_1500 (one_cnt _) rfl ?_
    refine r_iload DX5_measureSets_47 rfl ?_
    obtain ⟨hg5, h⟩ := gd_inv h
    refine s_iald DX5_measureSets_49 hR ct_1501 (one_cnt _) hg5 ?_
    refine t_aload_n (rfq_or _ _ _) DX5_measureSets_50 rfl ?_
    obtain ⟨⟨hx6, hi7⟩, h⟩ := gd_inv h
    refine q_geta hx6 DX5_measureSets_51 fl_X5_45 hR ct_2000 hi7 rfl ?_
    refine r_iload_n DX5_measureSets_54 rfl ?_
    obtain ⟨hg8, h⟩ := gd_inv h
    refine s_iald DX5_measureSets_55 hR ct_2008 (hi7) hg8 ?_
    refine r_iadd DX5_measureSets_56 ?_
    obtain ⟨hg9, h⟩ := gd_inv h
    obtain ⟨V10, hv11, h⟩ := bv_inv h
    refine s_iast DX5_measureSets_57 hR oka_1501 ct_1501 (one_cnt _) hg9 (fun M hR => ?_)
    have hR := hR.cg hv11
    refine r_aload_n DX5_measureSets_58 rfl ?_
    refine s_geta DX5_measureSets_59 fl_X5_15 hR ct_1500 (one_cnt _) rfl ?_
    refine r_iload_n DX5_measureSets_62 rfl ?_
    refine r_aload_n DX5_measureSets_63 rfl ?_
    refine s_geta DX5_measureSets_64 fl_X5_15 hR ct_1500 (one_cnt _) rfl ?_
    refine r_iload DX5_measureSets_67 rfl ?_
    obtain ⟨hg12, h⟩ := gd_inv h
    refine s_iald DX5_measureSets_69 hR ct_1502 (one_cnt _) hg12 ?_
    refine t_aload_n (rfq_or _ _ _) DX5_measureSets_70 rfl ?_
    have hi13 := cnt_keep hv11 (b := 2105) (by decide) hi7
    refine q_geta hx6 DX5_measureSets_71 fl_X5_48 hR ct_2000 hi13 rfl ?_
    refine r_iload_n DX5_measureSets_74 rfl ?_
    obtain ⟨hg14, h⟩ := gd_inv h
    refine s_iald DX5_measureSets_75 hR ct_2007 (hi13) hg14 ?_
    refine r_mmax DX5_measureSets_76 wd_730 (Nat.le_of_ble_eq_true rfl) (Nat.le_of_ble_eq_true rfl) ?_
    obtain ⟨hg15, h⟩ := gd_inv h
    obtain ⟨V16, hv17, h⟩ := bv_inv h
    refine s_iast DX5_measureSets_79 hR oka_1502 ct_1502 (one_cnt _) hg15 (fun M hR => ?_)
    have hR := hR.cg hv17
    refine t_iinc (v := 1) (L' := [some (.ref (ad 1500 0)), some (rfq ad 2000 (x1)), some (.int (x2 + 1)), some (.int (r2)), some (.int (x2 &&& (x2 - (1 : Int32))))]) DX5_measureSets_80 rfl ki_1 (by decide) rfl ?_
    refine r_goto DX5_measureSets_83 ?_
    exact hkh hR h
theorem SL_X5_measureSets_16 {E : EN} {X : CX} {P : Option Value → MH → Prop} {ad : AD} {fu : Nat} {out : Int32 × St} {kx86 : St → RR} (hkx86 : ∀ {V : St} {M : MH} {d0 : Option Value} {d1 : Option Value} {d2 : Option Value} {d3 : Option Value} {d4 : Option Value}, Rep E ad V M → kx86 V  = some out → G E X RX5 cX5_measureSets 5 none false (rmD 2) P M [d0, d1, d2, d3, d4] 0 0 86 []) (hp : ∀ M, Rep E ad out.2 M → P none M) : ∀ (n : Nat) {V : St} {M : MH} {x1 : Int32} {x2 : Int32} {d3 : Option Value} {d4 : Option Value}, Rep E ad V M → Lp_X5_measureSets_16 kx86 fu n V x1 x2 = some out → G E X RX5 cX5_measureSets 5 none false (rmD 2) P M [some (.ref (ad 1500 0)), some (rfq ad 2000 (x1)), some (.int (x2)), d3, d4] 0 0 16 [] := by
  intro n
  induction n with
  | zero => intros; rename_i h; cases h
  | succ n ih => exact fun hR h => S_X5_measureSets_16 (fun hR h => ih hR h) (fun hR h => hkx86 hR h) hp hR h
theorem S_X5_measureSets_0 {E : EN} {X : CX} {P : Option Value → MH → Prop} {ad : AD} {fu : Nat} {out : Int32 × St} (hp : ∀ M, Rep E ad out.2 M → P none M) {V : St} {M : MH} {x1 : Int32} (hR : Rep E ad V M) (h : f_X5_measureSets fu V x1 = some out) : G E X RX5 cX5_measureSets 5 none false (rmD 2) P M [some (.ref (ad 1500 0)), some (rfq ad 2000 (x1)), none, none, none] 0 0 0 [] := by
  unfold f_X5_measureSets at h
  refine r_aload_n DX5_measureSets_0 rfl ?_
  refine s_geta DX5_measureSets_1 fl_X5_11 hR ct_1500 (one_cnt _) rfl ?_
  refine r_iconst (v := 0) DX5_measureSets_4 ki_0 ?_
  refine r_iconst (v := 0) DX5_measureSets_5 ki_0 ?_
  obtain ⟨hg1, h⟩ := gd_inv h
  obtain ⟨V2, hv3, h⟩ := bv_inv h
  refine s_iast DX5_measureSets_6 hR oka_1501 ct_1501 (one_cnt _) hg1 (fun M hR => ?_)
  have hR := hR.cg hv3
  refine r_aload_n DX5_measureSets_7 rfl ?_
  refine s_geta DX5_measureSets_8 fl_X5_15 hR ct_1500 (one_cnt _) rfl ?_
  refine r_iconst (v := 0) DX5_measureSets_11 ki_0 ?_
  refine r_iconst (v := 0) DX5_measureSets_12 ki_0 ?_
  obtain ⟨hg4, h⟩ := gd_inv h
  obtain ⟨V5, hv6, h⟩ := bv_inv h
  refine s_iast DX5_measureSets_13 hR oka_1502 ct_1502 (one_cnt _) hg4 (fun M hR => ?_)
  have hR := hR.cg hv6
  refine r_iconst (v := 1) DX5_measureSets_14 ki_1 ?_
  refine t_istore_n (L' := [some (.ref (ad 1500 0)), some (rfq ad 2000 (x1)), some (.int ((1 : Int32))), none, none]) DX5_measureSets_15 (by decide) rfl ?_
  exact SL_X5_measureSets_16 (fun hR h => S_X5_measureSets_86 hp hR h) hp fu hR h
theorem C_X5_measureSets {E : EN} {ad : AD} {fu : Nat} {out : Int32 × St} {V : St} {M : MH} {x1 : Int32} (l : Launch) (hR : Rep E ad V M) (h : f_X5_measureSets fu V x1 = some out) : Ct E l yX5_measureSets cX5_measureSets 5 none (rmD 2) [.ref (ad 1500 0), rfq ad 2000 (x1)] M (fun v M => v = none ∧ Rep E ad out.2 M) :=
  Ct.of (own := RX5) (ini := false) (L := [some (.ref (ad 1500 0)), some (rfq ad 2000 (x1)), none, none, none]) rfl rfl (fun h => by cases h) (by simp only [List.all_cons, List.all_nil, rfq_cat]; rfl) (Nat.le_of_ble_eq_true rfl) rfl (fun X _ => S_X5_measureSets_0 (fun M hR => ⟨rfl, hR⟩) hR h)
theorem S_X5_shortenSets_121 {E : EN} {X : CX} {P : Option Value → MH → Prop} {ad : AD} {fu : Nat} {out : Int32 × St} (hp : ∀ M, Rep E ad out.2 M → P none M) {V : St} {M : MH} {d0 : Option Value} {d1 : Option Value} {d2 : Option Value} {d3 : Option Value} {d4 : Option Value} {d5 : Option Value} {d6 : Option Value} {d7 : Option Value} (hR : Rep E ad V M) (h : F_X5_shortenSets_121 fu V = some out) : G E X RX5 cX5_shortenSets 8 none false (rmD 2) P M [d0, d1, d2, d3, d4, d5, d6, d7] 0 0 121 [] := by
  unfold F_X5_shortenSets_121 at h
  cases h
  exact r_vret DX5_shortenSets_121 rfl ⟨Nat.le_refl 0, Nat.le_refl 0⟩ (hp M hR)
theorem S_X5_shortenSets_107 {E : EN} {X : CX} {P : Option Value → MH → Prop} {ad : AD} {fu : Nat} {out : Int32 × St} {kh : St → Int32 → Int32 → RR} {kx121 : St → RR} (hkh : ∀ {V : St} {M : MH} {x1 : Int32} {x2 : Int32} {d3 : Option Value} {d4 : Option Value} {d5 : Option Value} {d6 : Option Value} {d7 : Option Value}, Rep E ad V M → kh V x1 x2 = some out → G E X RX5 cX5_shortenSets 8 none false (rmD 2) P M [some (.ref (ad 1500 0)), some (.int (x1)), some (.int (x2)), d3, d4, d5, d6, d7] 0 0 9 []) (hkx121 : ∀ {V : St} {M : MH} {d0 : Option Value} {d1 : Option Value} {d2 : Option Value} {d3 : Option Value} {d4 : Option Value} {d5 : Option Value} {d6 : Option Value} {d7 : Option Value}, Rep E ad V M → kx121 V  = some out → G E X RX5 cX5_shortenSets 8 none false (rmD 2) P M [d0, d1, d2, d3, d4, d5, d6, d7] 0 0 121 []) (hp : ∀ M, Rep E ad out.2 M → P none M) {V : St} {M : MH} {x1 : Int32} {x2 : Int32} {x5 : Int32} {d3 : Option Value} {d4 : Option Value} {d6 : Option Value} {d7 : Option Value} (hR : Rep E ad V M) (h : F_X5_shortenSets_107 kh kx121 fu V x1 x2 x5 = some out) : G E X RX5 cX5_shortenSets 8 none false (rmD 2) P M [some (.ref (ad 1500 0)), some (.int (x1)), some (.int (x2)), d3, d4, some (.int (x5)), d6, d7] 0 0 107 [] := by
  unfold F_X5_shortenSets_107 at h
  refine r_aload_n DX5_shortenSets_107 rfl ?_
  refine s_geta DX5_shortenSets_108 fl_X5_18 hR ct_1500 (one_cnt _) rfl ?_
  refine r_iload_n DX5_shortenSets_111 rfl ?_
  refine r_iload DX5_shortenSets_112 rfl ?_
  obtain ⟨hg1, h⟩ := gd_inv h
  obtain ⟨V2, hv3, h⟩ := bv_inv h
  refine s_iast DX5_shortenSets_114 hR oka_1503 ct_1503 (one_cnt _) hg1 (fun M hR => ?_)
  have hR := hR.cg hv3
  refine t_iinc (v := 1) (L' := [some (.ref (ad 1500 0)), some (.int (x1)), some (.int (x2 + 1)), d3, d4, some (.int (x5)), d6, d7]) DX5_shortenSets_115 rfl ki_1 (by decide) rfl ?_
  refine r_goto DX5_shortenSets_118 ?_
  exact hkh hR h
theorem S_X5_shortenSets_96 {E : EN} {X : CX} {P : Option Value → MH → Prop} {ad : AD} {fu : Nat} {out : Int32 × St} {kh : St → Int32 → Int32 → Int32 → Int32 → Int32 → Int32 → RR} {kx107 : St → Int32 → Int32 → Int32 → RR} (hkh : ∀ {V : St} {M : MH} {x1 : Int32} {x2 : Int32} {x3 : Int32} {x4 : Int32} {x5 : Int32} {x6 : Int32} {d7 : Option Value}, Rep E ad V M → kh V x1 x2 x3 x4 x5 x6 = some out → G E X RX5 cX5_shortenSets 8 none false (rmD 2) P M [some (.ref (ad 1500 0)), some (.int (x1)), some (.int (x2)), some (.int (x3)), some (.int (x4)), some (.int (x5)), some (.int (x6)), d7] 0 0 49 []) (hkx107 : ∀ {V : St} {M : MH} {x1 : Int32} {x2 : Int32} {x5 : Int32} {d3 : Option Value} {d4 : Option Value} {d6 : Option Value} {d7 : Option Value}, Rep E ad V M → kx107 V x1 x2 x5 = some out → G E X RX5 cX5_shortenSets 8 none false (rmD 2) P M [some (.ref (ad 1500 0)), some (.int (x1)), some (.int (x2)), d3, d4, some (.int (x5)), d6, d7] 0 0 107 []) (hp : ∀ M, Rep E ad out.2 M → P none M) {V : St} {M : MH} {x1 : Int32} {x2 : Int32} {x3 : Int32} {x4 : Int32} {x5 : Int32} {x6 : Int32} {d7 : Option Value} (hR : Rep E ad V M) (h : F_X5_shortenSets_96 kh kx107 fu V x1 x2 x3 x4 x5 x6 = some out) : G E X RX5 cX5_shortenSets 8 none false (rmD 2) P M [some (.ref (ad 1500 0)), some (.int (x1)), some (.int (x2)), some (.int (x3)), some (.int (x4)), some (.int (x5)), some (.int (x6)), d7] 0 0 96 [] := by
  unfold F_X5_shortenSets_96 at h
  refine r_iload DX5_shortenSets_96 rfl ?_
  refine r_iconst (v := 1) DX5_shortenSets_98 ki_1 ?_
  refine r_isub DX5_shortenSets_99 ?_
  refine r_iload_n DX5_shortenSets_100 rfl ?_
  refine r_iand DX5_shortenSets_101 ?_
  refine t_istore (L' := [some (.ref (ad 1500 0)), some (.int (x1)), some (.int (x2)), some (.int (x3)), some (.int (x4)), some (.int (x5)), some (.int ((x6 - (1 : Int32)) &&& x3)), d7]) DX5_shortenSets_102 (by decide) rfl ?_
  refine r_goto DX5_shortenSets_104 ?_
  exact hkh hR h
theorem S_X5_shortenSets_49 {E : EN} {X : CX} {P : Option Value → MH → Prop} {ad : AD} {fu : Nat} {out : Int32 × St} {kh : St → Int32 → Int32 → Int32 → Int32 → Int32 → Int32 → RR} {kx107 : St → Int32 → Int32 → Int32 → RR} (hkh : ∀ {V : St} {M : MH} {x1 : Int32} {x2 : Int32} {x3 : Int32} {x4 : Int32} {x5 : Int32} {x6 : Int32} {d7 : Option Value}, Rep E ad V M → kh V x1 x2 x3 x4 x5 x6 = some out → G E X RX5 cX5_shortenSets 8 none false (rmD 2) P M [some (.ref (ad 1500 0)), some (.int (x1)), some (.int (x2)), some (.int (x3)), some (.int (x4)), some (.int (x5)), some (.int (x6)), d7] 0 0 49 []) (hkx107 : ∀ {V : St} {M : MH} {x1 : Int32} {x2 : Int32} {x5 : Int32} {d3 : Option Value} {d4 : Option Value} {d6 : Option Value} {d7 : Option Value}, Rep E ad V M → kx107 V x1 x2 x5 = some out → G E X RX5 cX5_shortenSets 8 none false (rmD 2) P M [some (.ref (ad 1500 0)), some (.int (x1)), some (.int (x2)), d3, d4, some (.int (x5)), d6, d7] 0 0 107 []) (hp : ∀ M, Rep E ad out.2 M → P none M) {V : St} {M : MH} {x1 : Int32} {x2 : Int32} {x3 : Int32} {x4 : Int32} {x5 : Int32} {x6 : Int32} {d7 : Option Value} (hR : Rep E ad V M) (h : F_X5_shortenSets_49 kh kx107 fu V x1 x2 x3 x4 x5 x6 = some out) : G E X RX5 cX5_shortenSets 8 none false (rmD 2) P M [some (.ref (ad 1500 0)), some (.int (x1)), some (.int (x2)), some (.int (x3)), some (.int (x4)), some (.int (x5)), some (.int (x6)), d7] 0 0 49 [] := by
  unfold F_X5_shortenSets_49 at h
  refine r_iload DX5_shortenSets_49 rfl ?_
  refine r_if_le DX5_shortenSets_51 (fun c1 => ?_) (fun c1 => ?_)
  · have h := if_t c1 h
    exact hkx107 hR h
  · have h := if_f c1 h
    refine r_iload DX5_shortenSets_54 rfl ?_
    refine r_iload DX5_shortenSets_56 rfl ?_
    refine r_ior DX5_shortenSets_58 ?_
    refine t_istore (L' := [some (.ref (ad 1500 0)), some (.int (x1)), some (.int (x2)), some (.int (x3)), some (.int (x4)), some (.int (x5)), some (.int (x6)), some (.int (x4 ||| x6))]) DX5_shortenSets_59 (by decide) rfl ?_
    refine r_aload_n DX5_shortenSets_61 rfl ?_
    refine s_geta DX5_shortenSets_62 fl_X5_11 hR ct_1500 (one_cnt _) rfl ?_
    refine r_iload DX5_shortenSets_65 rfl ?_
    obtain ⟨hg2, h⟩ := gd_inv h
    refine s_iald DX5_shortenSets_67 hR ct_1501 (one_cnt _) hg2 ?_
    refine r_iload_n DX5_shortenSets_68 rfl ?_
    refine r_icmp_gt DX5_shortenSets_69 (fun c3 => ?_) (fun c3 => ?_)
    · have h := if_t c3 h
      exact S_X5_shortenSets_96 (fun hR h => hkh hR h) (fun hR h => hkx107 hR h) hp hR h
    · have h := if_f c3 h
      refine r_iload DX5_shortenSets_72 rfl ?_
      refine r_aload_n DX5_shortenSets_74 rfl ?_
      refine s_geta DX5_shortenSets_75 fl_X5_15 hR ct_1500 (one_cnt _) rfl ?_
      refine r_iload DX5_shortenSets_78 rfl ?_
      obtain ⟨hg4, h⟩ := gd_inv h
      refine s_iald DX5_shortenSets_80 hR ct_1502 (one_cnt _) hg4 ?_
      refine r_aload_n DX5_shortenSets_81 rfl ?_
      refine s_geta DX5_shortenSets_82 fl_X5_18 hR ct_1500 (one_cnt _) rfl ?_
      refine r_iload_n DX5_shortenSets_85 rfl ?_
      refine r_iload DX5_shortenSets_86 rfl ?_
      refine r_ixor DX5_shortenSets_88 ?_
      obtain ⟨hg5, h⟩ := gd_inv h
      refine s_iald DX5_shortenSets_89 hR ct_1503 (one_cnt _) hg5 ?_
      refine r_iadd DX5_shortenSets_90 ?_
      refine r_mmin DX5_shortenSets_91 wd_751 (Nat.le_of_ble_eq_true rfl) (Nat.le_of_ble_eq_true rfl) ?_
      refine t_istore (L' := [some (.ref (ad 1500 0)), some (.int (x1)), some (.int (x2)), some (.int (x3)), some (.int (x4)), some (.int ((if (V 1502 (0) (x4 ||| x6).toNatClampNeg) + (V 1503 (0) (x3 ^^^ x6).toNatClampNeg) < x5 then (V 1502 (0) (x4 ||| x6).toNatClampNeg) + (V 1503 (0) (x3 ^^^ x6).toNatClampNeg) else x5))), some (.int (x6)), some (.int (x4 ||| x6))]) DX5_shortenSets_94 (by decide) rfl ?_
      exact S_X5_shortenSets_96 (fun hR h => hkh hR h) (fun hR h => hkx107 hR h) hp hR h
theorem SL_X5_shortenSets_49 {E : EN} {X : CX} {P : Option Value → MH → Prop} {ad : AD} {fu : Nat} {out : Int32 × St} {kx107 : St → Int32 → Int32 → Int32 → RR} (hkx107 : ∀ {V : St} {M : MH} {x1 : Int32} {x2 : Int32} {x5 : Int32} {d3 : Option Value} {d4 : Option Value} {d6 : Option Value} {d7 : Option Value}, Rep E ad V M → kx107 V x1 x2 x5 = some out → G E X RX5 cX5_shortenSets 8 none false (rmD 2) P M [some (.ref (ad 1500 0)), some (.int (x1)), some (.int (x2)), d3, d4, some (.int (x5)), d6, d7] 0 0 107 []) (hp : ∀ M, Rep E ad out.2 M → P none M) : ∀ (n : Nat) {V : St} {M : MH} {x1 : Int32} {x2 : Int32} {x3 : Int32} {x4 : Int32} {x5 : Int32} {x6 : Int32} {d7 : Option Value}, Rep E ad V M → Lp_X5_shortenSets_49 kx107 fu n V x1 x2 x3 x4 x5 x6 = some out → G E X RX5 cX5_shortenSets 8 none false (rmD 2) P M [some (.ref (ad 1500 0)), some (.int (x1)), some (.int (x2)), some (.int (x3)), some (.int (x4)), some (.int (x5)), some (.int (x6)), d7] 0 0 49 [] := by
  intro n
  induction n with
  | zero => intros; rename_i h; cases h
  | succ n ih => exact fun hR h => S_X5_shortenSets_49 (fun hR h => ih hR h) (fun hR h => hkx107 hR h) hp hR h
theorem S_X5_shortenSets_9 {E : EN} {X : CX} {P : Option Value → MH → Prop} {ad : AD} {fu : Nat} {out : Int32 × St} {kh : St → Int32 → Int32 → RR} {kx121 : St → RR} (hkh : ∀ {V : St} {M : MH} {x1 : Int32} {x2 : Int32} {d3 : Option Value} {d4 : Option Value} {d5 : Option Value} {d6 : Option Value} {d7 : Option Value}, Rep E ad V M → kh V x1 x2 = some out → G E X RX5 cX5_shortenSets 8 none false (rmD 2) P M [some (.ref (ad 1500 0)), some (.int (x1)), some (.int (x2)), d3, d4, d5, d6, d7] 0 0 9 []) (hkx121 : ∀ {V : St} {M : MH} {d0 : Option Value} {d1 : Option Value} {d2 : Option Value} {d3 : Option Value} {d4 : Option Value} {d5 : Option Value} {d6 : Option Value} {d7 : Option Value}, Rep E ad V M → kx121 V  = some out → G E X RX5 cX5_shortenSets 8 none false (rmD 2) P M [d0, d1, d2, d3, d4, d5, d6, d7] 0 0 121 []) (hp : ∀ M, Rep E ad out.2 M → P none M) {V : St} {M : MH} {x1 : Int32} {x2 : Int32} {d3 : Option Value} {d4 : Option Value} {d5 : Option Value} {d6 : Option Value} {d7 : Option Value} (hR : Rep E ad V M) (h : F_X5_shortenSets_9 kh kx121 fu V x1 x2 = some out) : G E X RX5 cX5_shortenSets 8 none false (rmD 2) P M [some (.ref (ad 1500 0)), some (.int (x1)), some (.int (x2)), d3, d4, d5, d6, d7] 0 0 9 [] := by
  unfold F_X5_shortenSets_9 at h
  refine r_iload_n DX5_shortenSets_9 rfl ?_
  refine r_iconst (v := 1) DX5_shortenSets_10 ki_1 ?_
  refine r_aload_n DX5_shortenSets_11 rfl ?_
  refine s_geti DX5_shortenSets_12 fl_X5_35 hR ct_1500 (one_cnt _) rfl ?_
  refine r_ishl DX5_shortenSets_15 ?_
  refine r_icmp_ge DX5_shortenSets_16 (fun c1 => ?_) (fun c1 => ?_)
  · have h := if_t c1 h
    exact hkx121 hR h
  · have h := if_f c1 h
    refine r_iload_n DX5_shortenSets_19 rfl ?_
    refine r_iload_n DX5_shortenSets_20 rfl ?_
    refine r_iconst (v := 1) DX5_shortenSets_21 ki_1 ?_
    refine r_isub DX5_shortenSets_22 ?_
    refine r_iand DX5_shortenSets_23 ?_
    refine t_istore_n (L' := [some (.ref (ad 1500 0)), some (.int (x1)), some (.int (x2)), some (.int (x2 &&& (x2 - (1 : Int32)))), d4, d5, d6, d7]) DX5_shortenSets_24 (by decide) rfl ?_
    refine r_iload_n DX5_shortenSets_25 rfl ?_
    refine r_iload_n DX5_shortenSets_26 rfl ?_
    refine r_ixor DX5_shortenSets_27 ?_
    refine t_istore (L' := [some (.ref (ad 1500 0)), some (.int (x1)), some (.int (x2)), some (.int (x2 &&& (x2 - (1 : Int32)))), some (.int (x2 ^^^ (x2 &&& (x2 - (1 : Int32))))), d5, d6, d7]) DX5_shortenSets_28 (by decide) rfl ?_
    refine r_aload_n DX5_shortenSets_30 rfl ?_
    refine s_geta DX5_shortenSets_31 fl_X5_15 hR ct_1500 (one_cnt _) rfl ?_
    refine r_iload DX5_shortenSets_34 rfl ?_
    obtain ⟨hg2, h⟩ := gd_inv h
    refine s_iald DX5_shortenSets_36 hR ct_1502 (one_cnt _) hg2 ?_
    refine r_aload_n DX5_shortenSets_37 rfl ?_
    refine s_geta DX5_shortenSets_38 fl_X5_18 hR ct_1500 (one_cnt _) rfl ?_
    refine r_iload_n DX5_shortenSets_41 rfl ?_
    obtain ⟨hg3, h⟩ := gd_inv h
    refine s_iald DX5_shortenSets_42 hR ct_1503 (one_cnt _) hg3 ?_
    refine r_iadd DX5_shortenSets_43 ?_
    refine t_istore (L' := [some (.ref (ad 1500 0)), some (.int (x1)), some (.int (x2)), some (.int (x2 &&& (x2 - (1 : Int32)))), some (.int (x2 ^^^ (x2 &&& (x2 - (1 : Int32))))), some (.int ((V 1502 (0) (x2 ^^^ (x2 &&& (x2 - (1 : Int32)))).toNatClampNeg) + (V 1503 (0) (x2 &&& (x2 - (1 : Int32))).toNatClampNeg))), d6, d7]) DX5_shortenSets_44 (by decide) rfl ?_
    refine r_iload_n DX5_shortenSets_46 rfl ?_
    refine t_istore (L' := [some (.ref (ad 1500 0)), some (.int (x1)), some (.int (x2)), some (.int (x2 &&& (x2 - (1 : Int32)))), some (.int (x2 ^^^ (x2 &&& (x2 - (1 : Int32))))), some (.int ((V 1502 (0) (x2 ^^^ (x2 &&& (x2 - (1 : Int32)))).toNatClampNeg) + (V 1503 (0) (x2 &&& (x2 - (1 : Int32))).toNatClampNeg))), some (.int (x2 &&& (x2 - (1 : Int32)))), d7]) DX5_shortenSets_47 (by decide) rfl ?_
    exact SL_X5_shortenSets_49 (fun hR h => S_X5_shortenSets_107 (fun hR h => hkh hR h) (fun hR h => hkx121 hR h) hp hR h) hp fu hR h
theorem SL_X5_shortenSets_9 {E : EN} {X : CX} {P : Option Value → MH → Prop} {ad : AD} {fu : Nat} {out : Int32 × St} {kx121 : St → RR} (hkx121 : ∀ {V : St} {M : MH} {d0 : Option Value} {d1 : Option Value} {d2 : Option Value} {d3 : Option Value} {d4 : Option Value} {d5 : Option Value} {d6 : Option Value} {d7 : Option Value}, Rep E ad V M → kx121 V  = some out → G E X RX5 cX5_shortenSets 8 none false (rmD 2) P M [d0, d1, d2, d3, d4, d5, d6, d7] 0 0 121 []) (hp : ∀ M, Rep E ad out.2 M → P none M) : ∀ (n : Nat) {V : St} {M : MH} {x1 : Int32} {x2 : Int32} {d3 : Option Value} {d4 : Option Value} {d5 : Option Value} {d6 : Option Value} {d7 : Option Value}, Rep E ad V M → Lp_X5_shortenSets_9 kx121 fu n V x1 x2 = some out → G E X RX5 cX5_shortenSets 8 none false (rmD 2) P M [some (.ref (ad 1500 0)), some (.int (x1)), some (.int (x2)), d3, d4, d5, d6, d7] 0 0 9 [] := by
  intro n
  induction n with
  | zero => intros; rename_i h; cases h
  | succ n ih => exact fun hR h => S_X5_shortenSets_9 (fun hR h => ih hR h) (fun hR h => hkx121 hR h) hp hR h
theorem S_X5_shortenSets_0 {E : EN} {X : CX} {P : Option Value → MH → Prop} {ad : AD} {fu : Nat} {out : Int32 × St} (hp : ∀ M, Rep E ad out.2 M → P none M) {V : St} {M : MH} {x1 : Int32} (hR : Rep E ad V M) (h : f_X5_shortenSets fu V x1 = some out) : G E X RX5 cX5_shortenSets 8 none false (rmD 2) P M [some (.ref (ad 1500 0)), some (.int (x1)), none, none, none, none, none, none] 0 0 0 [] := by
  unfold f_X5_shortenSets at h
  refine r_aload_n DX5_shortenSets_0 rfl ?_
  refine s_geta DX5_shortenSets_1 fl_X5_18 hR ct_1500 (one_cnt _) rfl ?_
  refine r_iconst (v := 0) DX5_shortenSets_4 ki_0 ?_
  refine r_iconst (v := 0) DX5_shortenSets_5 ki_0 ?_
  obtain ⟨hg1, h⟩ := gd_inv h
  obtain ⟨V2, hv3, h⟩ := bv_inv h
  refine s_iast DX5_shortenSets_6 hR oka_1503 ct_1503 (one_cnt _) hg1 (fun M hR => ?_)
  have hR := hR.cg hv3
  refine r_iconst (v := 1) DX5_shortenSets_7 ki_1 ?_
  refine t_istore_n (L' := [some (.ref (ad 1500 0)), some (.int (x1)), some (.int ((1 : Int32))), none, none, none, none, none]) DX5_shortenSets_8 (by decide) rfl ?_
  exact SL_X5_shortenSets_9 (fun hR h => S_X5_shortenSets_121 hp hR h) hp fu hR h
theorem C_X5_shortenSets {E : EN} {ad : AD} {fu : Nat} {out : Int32 × St} {V : St} {M : MH} {x1 : Int32} (l : Launch) (hR : Rep E ad V M) (h : f_X5_shortenSets fu V x1 = some out) : Ct E l yX5_shortenSets cX5_shortenSets 8 none (rmD 2) [.ref (ad 1500 0), .int (x1)] M (fun v M => v = none ∧ Rep E ad out.2 M) :=
  Ct.of (own := RX5) (ini := false) (L := [some (.ref (ad 1500 0)), some (.int (x1)), none, none, none, none, none, none]) rfl rfl (fun h => by cases h) rfl (Nat.le_of_ble_eq_true rfl) rfl (fun X _ => S_X5_shortenSets_0 (fun M hR => ⟨rfl, hR⟩) hR h)
theorem S_X9_emit_37 {E : EN} {X : CX} {P : Option Value → MH → Prop} {ad : AD} {fu : Nat} {out : Int32 × St} (hp : ∀ M, Rep E ad out.2 M → P (some (.int out.1)) M) {V : St} {M : MH} {d0 : Option Value} {d1 : Option Value} {d2 : Option Value} (hR : Rep E ad V M) (h : F_X9_emit_37 fu V = some out) : G E X RX9 cX9_emit 3 (some .boolean) false (rmD 1) P M [d0, d1, d2] 0 0 37 [] := by
  unfold F_X9_emit_37 at h
  refine r_iconst (v := 1) DX9_emit_37 ki_1 ?_
  cases h
  exact r_zret DX9_emit_38 rfl rfl ⟨Nat.le_refl 0, Nat.le_refl 0⟩ (hp M hR)
theorem S_X9_emit_0 {E : EN} {X : CX} {P : Option Value → MH → Prop} {ad : AD} {fu : Nat} {out : Int32 × St} (hp : ∀ M, Rep E ad out.2 M → P (some (.int out.1)) M) {V : St} {M : MH} {x1 : Int32} {x2 : Int32} (hR : Rep E ad V M) (h : f_X9_emit fu V x1 x2 = some out) : G E X RX9 cX9_emit 3 (some .boolean) false (rmD 1) P M [some (.ref (ad 1900 0)), some (.int (x1)), some (.int (x2))] 0 0 0 [] := by
  unfold f_X9_emit at h
  refine r_aload_n DX9_emit_0 rfl ?_
  refine s_geti DX9_emit_1 fl_X9_31 hR ct_1900 (one_cnt _) rfl ?_
  refine r_aload_n DX9_emit_4 rfl ?_
  refine s_geta DX9_emit_5 fl_X9_24 hR ct_1900 (one_cnt _) rfl ?_
  refine s_ilen DX9_emit_8 hR ct_1905 (one_cnt _) ?_
  refine r_icmp_ge DX9_emit_9 (fun c1 => ?_) (fun c1 => ?_)
  · have h := if_t c1 h
    exact S_X9_emit_37 hp hR h
  · have h := if_f c1 h
    refine r_aload_n DX9_emit_12 rfl ?_
    refine s_geta DX9_emit_13 fl_X9_24 hR ct_1900 (one_cnt _) rfl ?_
    refine r_aload_n DX9_emit_16 rfl ?_
    refine s_geti DX9_emit_17 fl_X9_31 hR ct_1900 (one_cnt _) rfl ?_
    refine r_iload_n DX9_emit_20 rfl ?_
    refine r_bipush (v := 8) DX9_emit_21 kb_8 ?_
    refine r_ishl DX9_emit_23 ?_
    refine r_iload_n DX9_emit_24 rfl ?_
    refine r_ior DX9_emit_25 ?_
    obtain ⟨hg2, h⟩ := gd_inv h
    obtain ⟨V3, hv4, h⟩ := bv_inv h
    refine s_iast DX9_emit_26 hR oka_1905 ct_1905 (one_cnt _) hg2 (fun M hR => ?_)
    have hR := hR.cg hv4
    refine r_aload_n DX9_emit_27 rfl ?_
    refine r_dup DX9_emit_28 rfl ?_
    refine s_geti DX9_emit_29 fl_X9_31 hR ct_1900 (one_cnt _) rfl ?_
    refine r_iconst (v := 1) DX9_emit_32 ki_1 ?_
    refine r_iadd DX9_emit_33 ?_
    obtain ⟨V5, hv6, h⟩ := bv_inv h
    refine s_puti DX9_emit_34 fp_X9_31 hR oks_1907 ct_1900 (one_cnt _) rfl rfl rfl (fun M hR => ?_)
    have hR := hR.cg hv6
    exact S_X9_emit_37 hp hR h
theorem C_X9_emit {E : EN} {ad : AD} {fu : Nat} {out : Int32 × St} {V : St} {M : MH} {x1 : Int32} {x2 : Int32} (l : Launch) (hR : Rep E ad V M) (h : f_X9_emit fu V x1 x2 = some out) : Ct E l yX9_emit cX9_emit 3 (some .boolean) (rmD 1) [.ref (ad 1900 0), .int (x1), .int (x2)] M (fun v M => v = (some (.int out.1)) ∧ Rep E ad out.2 M) :=
  Ct.of (own := RX9) (ini := false) (L := [some (.ref (ad 1900 0)), some (.int (x1)), some (.int (x2))]) rfl rfl (fun h => by cases h) rfl (Nat.le_of_ble_eq_true rfl) rfl (fun X _ => S_X9_emit_0 (fun M hR => ⟨rfl, hR⟩) hR h)
theorem S_X9_fail_0 {E : EN} {X : CX} {P : Option Value → MH → Prop} {ad : AD} {fu : Nat} {out : Int32 × St} (hp : ∀ M, Rep E ad out.2 M → P (some (.int out.1)) M) {V : St} {M : MH} {x1 : Int32} (hR : Rep E ad V M) (h : f_X9_fail fu V x1 = some out) : G E X RX9 cX9_fail 2 (some .boolean) false (rmD 1) P M [some (.ref (ad 1900 0)), some (.int (x1))] 0 0 0 [] := by
  unfold f_X9_fail at h
  refine r_aload_n DX9_fail_0 rfl ?_
  refine r_sipush (v := -1000) DX9_fail_1 ks_m1000 ?_
  refine r_iload_n DX9_fail_4 rfl ?_
  refine r_imul DX9_fail_5 ?_
  refine r_aload_n DX9_fail_6 rfl ?_
  refine s_geti DX9_fail_7 fl_X9_41 hR ct_1900 (one_cnt _) rfl ?_
  refine r_isub DX9_fail_10 ?_
  obtain ⟨V1, hv2, h⟩ := bv_inv h
  refine s_puti DX9_fail_11 fp_X9_44 hR oks_1911 ct_1900 (one_cnt _) rfl rfl rfl (fun M hR => ?_)
  have hR := hR.cg hv2
  refine r_iconst (v := 0) DX9_fail_14 ki_0 ?_
  cases h
  exact r_zret DX9_fail_15 rfl rfl ⟨Nat.le_refl 0, Nat.le_refl 0⟩ (hp M hR)
theorem C_X9_fail {E : EN} {ad : AD} {fu : Nat} {out : Int32 × St} {V : St} {M : MH} {x1 : Int32} (l : Launch) (hR : Rep E ad V M) (h : f_X9_fail fu V x1 = some out) : Ct E l yX9_fail cX9_fail 2 (some .boolean) (rmD 1) [.ref (ad 1900 0), .int (x1)] M (fun v M => v = (some (.int out.1)) ∧ Rep E ad out.2 M) :=
  Ct.of (own := RX9) (ini := false) (L := [some (.ref (ad 1900 0)), some (.int (x1))]) rfl rfl (fun h => by cases h) rfl (Nat.le_of_ble_eq_true rfl) rfl (fun X _ => S_X9_fail_0 (fun M hR => ⟨rfl, hR⟩) hR h)
theorem S_X9_here_28 {E : EN} {X : CX} {P : Option Value → MH → Prop} {ad : AD} {fu : Nat} {out : Int32 × St} (hp : ∀ M, Rep E ad out.2 M → P (some (.int out.1)) M) {V : St} {M : MH} {s0 : Int32} {d0 : Option Value} (hR : Rep E ad V M) (h : F_X9_here_28 fu V s0 = some out) : G E X RX9 cX9_here 1 (some .int) false (rmD 1) P M [d0] 0 0 28 [.int (s0)] := by
  unfold F_X9_here_28 at h
  cases h
  exact r_iret DX9_here_28 rfl ⟨Nat.le_refl 0, Nat.le_refl 0⟩ (hp M hR)
theorem S_X9_here_0 {E : EN} {X : CX} {P : Option Value → MH → Prop} {ad : AD} {fu : Nat} {out : Int32 × St} (hp : ∀ M, Rep E ad out.2 M → P (some (.int out.1)) M) {V : St} {M : MH} (hR : Rep E ad V M) (h : f_X9_here fu V = some out) : G E X RX9 cX9_here 1 (some .int) false (rmD 1) P M [some (.ref (ad 1900 0))] 0 0 0 [] := by
  unfold f_X9_here at h
  refine r_aload_n DX9_here_0 rfl ?_
  refine s_geti DX9_here_1 fl_X9_41 hR ct_1900 (one_cnt _) rfl ?_
  refine r_aload_n DX9_here_4 rfl ?_
  refine s_geti DX9_here_5 fl_X9_38 hR ct_1900 (one_cnt _) rfl ?_
  refine r_icmp_ge DX9_here_8 (fun c1 => ?_) (fun c1 => ?_)
  · have h := if_t c1 h
    refine r_iconst (v := -1) DX9_here_27 ki_m1 ?_
    exact S_X9_here_28 hp hR h
  · have h := if_f c1 h
    refine r_aload_n DX9_here_11 rfl ?_
    refine s_getq DX9_here_12 fl_X9_34 hR ct_1900 (one_cnt _) rfl ?_
    refine r_aload_n DX9_here_15 rfl ?_
    refine s_geti DX9_here_16 fl_X9_41 hR ct_1900 (one_cnt _) rfl ?_
    obtain ⟨⟨hx3, hi4⟩, h⟩ := gd_inv h
    obtain ⟨hg2, h⟩ := gd_inv h
    refine q_bald hx3 DX9_here_19 hR ct_2113 hi4 hg2 ?_
    refine r_sipush (v := 255) DX9_here_20 ks_255 ?_
    refine r_iand DX9_here_23 ?_
    refine r_goto DX9_here_24 ?_
    exact S_X9_here_28 hp hR h
theorem C_X9_here {E : EN} {ad : AD} {fu : Nat} {out : Int32 × St} {V : St} {M : MH} (l : Launch) (hR : Rep E ad V M) (h : f_X9_here fu V = some out) : Ct E l yX9_here cX9_here 1 (some .int) (rmD 1) [.ref (ad 1900 0)] M (fun v M => v = (some (.int out.1)) ∧ Rep E ad out.2 M) :=
  Ct.of (own := RX9) (ini := false) (L := [some (.ref (ad 1900 0))]) rfl rfl (fun h => by cases h) rfl (Nat.le_of_ble_eq_true rfl) rfl (fun X _ => S_X9_here_0 (fun M hR => ⟨rfl, hR⟩) hR h)
theorem S_X9_leadHere_41 {E : EN} {X : CX} {P : Option Value → MH → Prop} {ad : AD} {fu : Nat} {out : Int32 × St} (hp : ∀ M, Rep E ad out.2 M → P none M) {V : St} {M : MH} {d0 : Option Value} {d1 : Option Value} {d2 : Option Value} {d3 : Option Value} (hR : Rep E ad V M) (h : F_X9_leadHere_41 fu V = some out) : G E X RX9 cX9_leadHere 4 none false (rmD 1) P M [d0, d1, d2, d3] 0 0 41 [] := by
  unfold F_X9_leadHere_41 at h
  cases h
  exact r_vret DX9_leadHere_41 rfl ⟨Nat.le_refl 0, Nat.le_refl 0⟩ (hp M hR)
theorem S_X9_leadHere_35 {E : EN} {X : CX} {P : Option Value → MH → Prop} {ad : AD} {fu : Nat} {out : Int32 × St} {kh : St → Int32 → Int32 → RR} {kx41 : St → RR} (hkh : ∀ {V : St} {M : MH} {x1 : Int32} {x3 : Int32} {d2 : Option Value}, Rep E ad V M → kh V x1 x3 = some out → G E X RX9 cX9_leadHere 4 none false (rmD 1) P M [some (.ref (ad 1900 0)), some (.int (x1)), d2, some (.int (x3))] 0 0 2 []) (hkx41 : ∀ {V : St} {M : MH} {d0 : Option Value} {d1 : Option Value} {d2 : Option Value} {d3 : Option Value}, Rep E ad V M → kx41 V  = some out → G E X RX9 cX9_leadHere 4 none false (rmD 1) P M [d0, d1, d2, d3] 0 0 41 []) (hp : ∀ M, Rep E ad out.2 M → P none M) {V : St} {M : MH} {x1 : Int32} {x3 : Int32} {d2 : Option Value} (hR : Rep E ad V M) (h : F_X9_leadHere_35 kh kx41 fu V x1 x3 = some out) : G E X RX9 cX9_leadHere 4 none false (rmD 1) P M [some (.ref (ad 1900 0)), some (.int (x1)), d2, some (.int (x3))] 0 0 35 [] := by
  unfold F_X9_leadHere_35 at h
  refine t_iinc (v := 1) (L' := [some (.ref (ad 1900 0)), some (.int (x1)), d2, some (.int (x3 + 1))]) DX9_leadHere_35 rfl ki_1 (by decide) rfl ?_
  refine r_goto DX9_leadHere_38 ?_
  exact hkh hR h
theorem S_X9_leadHere_2 {E : EN} {X : CX} {P : Option Value → MH → Prop} {ad : AD} {fu : Nat} {out : Int32 × St} {kh : St → Int32 → Int32 → RR} {kx41 : St → RR} (hkh : ∀ {V : St} {M : MH} {x1 : Int32} {x3 : Int32} {d2 : Option Value}, Rep E ad V M → kh V x1 x3 = some out → G E X RX9 cX9_leadHere 4 none false (rmD 1) P M [some (.ref (ad 1900 0)), some (.int (x1)), d2, some (.int (x3))] 0 0 2 []) (hkx41 : ∀ {V : St} {M : MH} {d0 : Option Value} {d1 : Option Value} {d2 : Option Value} {d3 : Option Value}, Rep E ad V M → kx41 V  = some out → G E X RX9 cX9_leadHere 4 none false (rmD 1) P M [d0, d1, d2, d3] 0 0 41 []) (hp : ∀ M, Rep E ad out.2 M → P none M) {V : St} {M : MH} {x1 : Int32} {x3 : Int32} {d2 : Option Value} (hR : Rep E ad V M) (h : F_X9_leadHere_2 kh kx41 fu V x1 x3 = some out) : G E X RX9 cX9_leadHere 4 none false (rmD 1) P M [some (.ref (ad 1900 0)), some (.int (x1)), d2, some (.int (x3))] 0 0 2 [] := by
  unfold F_X9_leadHere_2 at h
  refine r_iload_n DX9_leadHere_2 rfl ?_
  refine r_aload_n DX9_leadHere_3 rfl ?_
  refine s_geti DX9_leadHere_4 fl_X9_31 hR ct_1900 (one_cnt _) rfl ?_
  refine r_icmp_ge DX9_leadHere_7 (fun c1 => ?_) (fun c1 => ?_)
  · have h := if_t c1 h
    exact hkx41 hR h
  · have h := if_f c1 h
    refine r_aload_n DX9_leadHere_10 rfl ?_
    refine s_geta DX9_leadHere_11 fl_X9_24 hR ct_1900 (one_cnt _) rfl ?_
    refine r_iload_n DX9_leadHere_14 rfl ?_
    obtain ⟨hg2, h⟩ := gd_inv h
    refine s_iald DX9_leadHere_15 hR ct_1905 (one_cnt _) hg2 ?_
    refine r_iload_n DX9_leadHere_16 rfl ?_
    refine r_icmp_ne DX9_leadHere_17 (fun c3 => ?_) (fun c3 => ?_)
    · have h := if_f c3 h
      exact S_X9_leadHere_35 (fun hR h => hkh hR h) (fun hR h => hkx41 hR h) hp hR h
    · have h := if_t c3 h
      refine r_aload_n DX9_leadHere_20 rfl ?_
      refine s_geta DX9_leadHere_21 fl_X9_24 hR ct_1900 (one_cnt _) rfl ?_
      refine r_iload_n DX9_leadHere_24 rfl ?_
      refine r_aload_n DX9_leadHere_25 rfl ?_
      refine s_geti DX9_leadHere_26 fl_X9_31 hR ct_1900 (one_cnt _) rfl ?_
      refine r_bipush (v := 8) DX9_leadHere_29 kb_8 ?_
      refine r_ishl DX9_leadHere_31 ?_
      refine r_iload_n DX9_leadHere_32 rfl ?_
      refine r_ior DX9_leadHere_33 ?_
      obtain ⟨hg4, h⟩ := gd_inv h
      obtain ⟨V5, hv6, h⟩ := bv_inv h
      refine s_iast DX9_leadHere_34 hR oka_1905 ct_1905 (one_cnt _) hg4 (fun M hR => ?_)
      have hR := hR.cg hv6
      exact S_X9_leadHere_35 (fun hR h => hkh hR h) (fun hR h => hkx41 hR h) hp hR h
theorem SL_X9_leadHere_2 {E : EN} {X : CX} {P : Option Value → MH → Prop} {ad : AD} {fu : Nat} {out : Int32 × St} {kx41 : St → RR} (hkx41 : ∀ {V : St} {M : MH} {d0 : Option Value} {d1 : Option Value} {d2 : Option Value} {d3 : Option Value}, Rep E ad V M → kx41 V  = some out → G E X RX9 cX9_leadHere 4 none false (rmD 1) P M [d0, d1, d2, d3] 0 0 41 []) (hp : ∀ M, Rep E ad out.2 M → P none M) : ∀ (n : Nat) {V : St} {M : MH} {x1 : Int32} {x3 : Int32} {d2 : Option Value}, Rep E ad V M → Lp_X9_leadHere_2 kx41 fu n V x1 x3 = some out → G E X RX9 cX9_leadHere 4 none false (rmD 1) P M [some (.ref (ad 1900 0)), some (.int (x1)), d2, some (.int (x3))] 0 0 2 [] := by
  intro n
  induction n with
  | zero => intros; rename_i h; cases h
  | succ n ih => exact fun hR h => S_X9_leadHere_2 (fun hR h => ih hR h) (fun hR h => hkx41 hR h) hp hR h
theorem S_X9_leadHere_0 {E : EN} {X : CX} {P : Option Value → MH → Prop} {ad : AD} {fu : Nat} {out : Int32 × St} (hp : ∀ M, Rep E ad out.2 M → P none M) {V : St} {M : MH} {x1 : Int32} {x2 : Int32} (hR : Rep E ad V M) (h : f_X9_leadHere fu V x1 x2 = some out) : G E X RX9 cX9_leadHere 4 none false (rmD 1) P M [some (.ref (ad 1900 0)), some (.int (x1)), some (.int (x2)), none] 0 0 0 [] := by
  unfold f_X9_leadHere at h
  refine r_iload_n DX9_leadHere_0 rfl ?_
  refine t_istore_n (L' := [some (.ref (ad 1900 0)), some (.int (x1)), some (.int (x2)), some (.int (x2))]) DX9_leadHere_1 (by decide) rfl ?_
  exact SL_X9_leadHere_2 (fun hR h => S_X9_leadHere_41 hp hR h) hp fu hR h
theorem C_X9_leadHere {E : EN} {ad : AD} {fu : Nat} {out : Int32 × St} {V : St} {M : MH} {x1 : Int32} {x2 : Int32} (l : Launch) (hR : Rep E ad V M) (h : f_X9_leadHere fu V x1 x2 = some out) : Ct E l yX9_leadHere cX9_leadHere 4 none (rmD 1) [.ref (ad 1900 0), .int (x1), .int (x2)] M (fun v M => v = none ∧ Rep E ad out.2 M) :=
  Ct.of (own := RX9) (ini := false) (L := [some (.ref (ad 1900 0)), some (.int (x1)), some (.int (x2)), none]) rfl rfl (fun h => by cases h) rfl (Nat.le_of_ble_eq_true rfl) rfl (fun X _ => S_X9_leadHere_0 (fun M hR => ⟨rfl, hR⟩) hR h)
theorem S_X9_readNumber_101 {E : EN} {X : CX} {P : Option Value → MH → Prop} {ad : AD} {fu : Nat} {out : Int32 × St} (hp : ∀ M, Rep E ad out.2 M → P (some (.int out.1)) M) {V : St} {M : MH} {x1 : Int32} {x2 : Int32} {x3 : Int32} (hR : Rep E ad V M) (h : F_X9_readNumber_101 fu V x1 x2 x3 = some out) : G E X RX9 cX9_readNumber 4 (some .int) false (rmD 1) P M [some (.ref (ad 1900 0)), some (.int (x1)), some (.int (x2)), some (.int (x3))] 0 0 101 [] := by
  unfold F_X9_readNumber_101 at h
  refine r_aload_n DX9_readNumber_101 rfl ?_
  refine s_geti DX9_readNumber_102 fl_X9_41 hR ct_1900 (one_cnt _) rfl ?_
  refine r_iload_n DX9_readNumber_105 rfl ?_
  refine r_icmp_ne DX9_readNumber_106 (fun c1 => ?_) (fun c1 => ?_)
  · have h := if_f c1 h
    refine r_iload_n DX9_readNumber_123 rfl ?_
    refine r_iload_n DX9_readNumber_124 rfl ?_
    refine r_icmp_le DX9_readNumber_125 (fun c2 => ?_) (fun c2 => ?_)
    · have h := if_t c2 h
      refine r_iload_n DX9_readNumber_139 rfl ?_
      cases h
      exact r_iret DX9_readNumber_140 rfl ⟨Nat.le_refl 0, Nat.le_refl 0⟩ (hp M hR)
    · have h := if_f c2 h
      refine r_aload_n DX9_readNumber_128 rfl ?_
      refine r_sipush (v := -3000) DX9_readNumber_129 ks_m3000 ?_
      refine r_iload_n DX9_readNumber_132 rfl ?_
      refine r_isub DX9_readNumber_133 ?_
      obtain ⟨V3, hv4, h⟩ := bv_inv h
      refine s_puti DX9_readNumber_134 fp_X9_44 hR oks_1911 ct_1900 (one_cnt _) rfl rfl rfl (fun M hR => ?_)
      have hR := hR.cg hv4
      refine r_iconst (v := -1) DX9_readNumber_137 ki_m1 ?_
      cases h
      exact r_iret DX9_readNumber_138 rfl ⟨Nat.le_refl 0, Nat.le_refl 0⟩ (hp M hR)
  · have h := if_t c1 h
    refine r_aload_n DX9_readNumber_109 rfl ?_
    refine r_sipush (v := -1000) DX9_readNumber_110 ks_m1000 ?_
    refine r_aload_n DX9_readNumber_113 rfl ?_
    refine s_geti DX9_readNumber_114 fl_X9_41 hR ct_1900 (one_cnt _) rfl ?_
    refine r_isub DX9_readNumber_117 ?_
    obtain ⟨V2, hv3, h⟩ := bv_inv h
    refine s_puti DX9_readNumber_118 fp_X9_44 hR oks_1911 ct_1900 (one_cnt _) rfl rfl rfl (fun M hR => ?_)
    have hR := hR.cg hv3
    refine r_iconst (v := -1) DX9_readNumber_121 ki_m1 ?_
    cases h
    exact r_iret DX9_readNumber_122 rfl ⟨Nat.le_refl 0, Nat.le_refl 0⟩ (hp M hR)
theorem S_X9_readNumber_56 {E : EN} {X : CX} {P : Option Value → MH → Prop} {ad : AD} {fu : Nat} {out : Int32 × St} (hp : ∀ M, Rep E ad out.2 M → P (some (.int out.1)) M) {V : St} {M : MH} {d1 : Option Value} {d2 : Option Value} {d3 : Option Value} (hR : Rep E ad V M) (h : F_X9_readNumber_56 fu V = some out) : G E X RX9 cX9_readNumber 4 (some .int) false (rmD 1) P M [some (.ref (ad 1900 0)), d1, d2, d3] 0 0 56 [] := by
  unfold F_X9_readNumber_56 at h
  refine r_aload_n DX9_readNumber_56 rfl ?_
  refine r_sipush (v := -2000) DX9_readNumber_57 ks_m2000 ?_
  refine r_aload_n DX9_readNumber_60 rfl ?_
  refine s_geti DX9_readNumber_61 fl_X9_41 hR ct_1900 (one_cnt _) rfl ?_
  refine r_isub DX9_readNumber_64 ?_
  obtain ⟨V1, hv2, h⟩ := bv_inv h
  refine s_puti DX9_readNumber_65 fp_X9_44 hR oks_1911 ct_1900 (one_cnt _) rfl rfl rfl (fun M hR => ?_)
  have hR := hR.cg hv2
  refine r_iconst (v := -1) DX9_readNumber_68 ki_m1 ?_
  cases h
  exact r_iret DX9_readNumber_69 rfl ⟨Nat.le_refl 0, Nat.le_refl 0⟩ (hp M hR)
theorem S_X9_readNumber_7 {E : EN} {X : CX} {P : Option Value → MH → Prop} {ad : AD} {fu : Nat} {out : Int32 × St} {kh : St → Int32 → Int32 → Int32 → RR} {kx56 : St → RR} {kx101 : St → Int32 → Int32 → Int32 → RR} (hkh : ∀ {V : St} {M : MH} {x1 : Int32} {x2 : Int32} {x3 : Int32}, Rep E ad V M → kh V x1 x2 x3 = some out → G E X RX9 cX9_readNumber 4 (some .int) false (rmD 1) P M [some (.ref (ad 1900 0)), some (.int (x1)), some (.int (x2)), some (.int (x3))] 0 0 7 []) (hkx56 : ∀ {V : St} {M : MH} {d1 : Option Value} {d2 : Option Value} {d3 : Option Value}, Rep E ad V M → kx56 V  = some out → G E X RX9 cX9_readNumber 4 (some .int) false (rmD 1) P M [some (.ref (ad 1900 0)), d1, d2, d3] 0 0 56 []) (hkx101 : ∀ {V : St} {M : MH} {x1 : Int32} {x2 : Int32} {x3 : Int32}, Rep E ad V M → kx101 V x1 x2 x3 = some out → G E X RX9 cX9_readNumber 4 (some .int) false (rmD 1) P M [some (.ref (ad 1900 0)), some (.int (x1)), some (.int (x2)), some (.int (x3))] 0 0 101 []) (hp : ∀ M, Rep E ad out.2 M → P (some (.int out.1)) M) {V : St} {M : MH} {x1 : Int32} {x2 : Int32} {x3 : Int32} (hR : Rep E ad V M) (h : F_X9_readNumber_7 kh kx56 kx101 fu V x1 x2 x3 = some out) : G E X RX9 cX9_readNumber 4 (some .int) false (rmD 1) P M [some (.ref (ad 1900 0)), some (.int (x1)), some (.int (x2)), some (.int (x3))] 0 0 7 [] := by
  unfold F_X9_readNumber_7 at h
  refine r_aload_n DX9_readNumber_7 rfl ?_
  refine s_geti DX9_readNumber_8 fl_X9_41 hR ct_1900 (one_cnt _) rfl ?_
  refine r_aload_n DX9_readNumber_11 rfl ?_
  refine s_geti DX9_readNumber_12 fl_X9_38 hR ct_1900 (one_cnt _) rfl ?_
  refine r_icmp_ge DX9_readNumber_15 (fun c1 => ?_) (fun c1 => ?_)
  · have h := if_t c1 h
    exact hkx101 hR h
  · have h := if_f c1 h
    refine r_aload_n DX9_readNumber_18 rfl ?_
    refine s_getq DX9_readNumber_19 fl_X9_34 hR ct_1900 (one_cnt _) rfl ?_
    refine r_aload_n DX9_readNumber_22 rfl ?_
    refine s_geti DX9_readNumber_23 fl_X9_41 hR ct_1900 (one_cnt _) rfl ?_
    obtain ⟨⟨hx3, hi4⟩, h⟩ := gd_inv h
    obtain ⟨hg2, h⟩ := gd_inv h
    refine q_bald hx3 DX9_readNumber_26 hR ct_2113 hi4 hg2 ?_
    refine r_bipush (v := 48) DX9_readNumber_27 kb_48 ?_
    refine r_icmp_lt DX9_readNumber_29 (fun c5 => ?_) (fun c5 => ?_)
    · have h := if_t c5 h
      exact hkx101 hR h
    · have h := if_f c5 h
      refine r_aload_n DX9_readNumber_32 rfl ?_
      refine s_getq DX9_readNumber_33 fl_X9_34 hR ct_1900 (one_cnt _) rfl ?_
      refine r_aload_n DX9_readNumber_36 rfl ?_
      refine s_geti DX9_readNumber_37 fl_X9_41 hR ct_1900 (one_cnt _) rfl ?_
      obtain ⟨hg6, h⟩ := gd_inv h
      refine q_bald hx3 DX9_readNumber_40 hR ct_2113 hi4 hg6 ?_
      refine r_bipush (v := 57) DX9_readNumber_41 kb_57 ?_
      refine r_icmp_gt DX9_readNumber_43 (fun c7 => ?_) (fun c7 => ?_)
      · have h := if_t c7 h
        exact hkx101 hR h
      · have h := if_f c7 h
        refine r_aload_n DX9_readNumber_46 rfl ?_
        refine s_geti DX9_readNumber_47 fl_X9_41 hR ct_1900 (one_cnt _) rfl ?_
        refine r_iload_n DX9_readNumber_50 rfl ?_
        refine r_isub DX9_readNumber_51 ?_
        refine r_iconst (v := 5) DX9_readNumber_52 ki_5 ?_
        refine r_icmp_lt DX9_readNumber_53 (fun c8 => ?_) (fun c8 => ?_)
        · have h := if_t c8 h
          refine r_iload_n DX9_readNumber_70 rfl ?_
          refine r_bipush (v := 10) DX9_readNumber_71 kb_10 ?_
          refine r_imul DX9_readNumber_73 ?_
          refine r_aload_n DX9_readNumber_74 rfl ?_
          refine s_getq DX9_readNumber_75 fl_X9_34 hR ct_1900 (one_cnt _) rfl ?_
          refine r_aload_n DX9_readNumber_78 rfl ?_
          refine s_geti DX9_readNumber_79 fl_X9_41 hR ct_1900 (one_cnt _) rfl ?_
          obtain ⟨hg9, h⟩ := gd_inv h
          refine q_bald hx3 DX9_readNumber_82 hR ct_2113 hi4 hg9 ?_
          refine r_iadd DX9_readNumber_83 ?_
          refine r_bipush (v := 48) DX9_readNumber_84 kb_48 ?_
          refine r_isub DX9_readNumber_86 ?_
          refine t_istore_n (L' := [some (.ref (ad 1900 0)), some (.int (x1)), some (.int (x2)), some (.int (((x3 * (10 : Int32)) + (V 2113 ((V 1908 0 0)).toNatClampNeg ((V 1910 0 0)).toNatClampNeg)) - (48 : Int32)))]) DX9_readNumber_87 (by decide) rfl ?_
          refine r_aload_n DX9_readNumber_88 rfl ?_
          refine r_dup DX9_readNumber_89 rfl ?_
          refine s_geti DX9_readNumber_90 fl_X9_41 hR ct_1900 (one_cnt _) rfl ?_
          refine r_iconst (v := 1) DX9_readNumber_93 ki_1 ?_
          refine r_iadd DX9_readNumber_94 ?_
          obtain ⟨V10, hv11, h⟩ := bv_inv h
          refine s_puti DX9_readNumber_95 fp_X9_41 hR oks_1910 ct_1900 (one_cnt _) rfl rfl rfl (fun M hR => ?_)
          have hR := hR.cg hv11
          refine r_goto DX9_readNumber_98 ?_
          exact hkh hR h
        · have h := if_f c8 h
          exact hkx56 hR h
theorem SL_X9_readNumber_7 {E : EN} {X : CX} {P : Option Value → MH → Prop} {ad : AD} {fu : Nat} {out : Int32 × St} {kx56 : St → RR} {kx101 : St → Int32 → Int32 → Int32 → RR} (hkx56 : ∀ {V : St} {M : MH} {d1 : Option Value} {d2 : Option Value} {d3 : Option Value}, Rep E ad V M → kx56 V  = some out → G E X RX9 cX9_readNumber 4 (some .int) false (rmD 1) P M [some (.ref (ad 1900 0)), d1, d2, d3] 0 0 56 []) (hkx101 : ∀ {V : St} {M : MH} {x1 : Int32} {x2 : Int32} {x3 : Int32}, Rep E ad V M → kx101 V x1 x2 x3 = some out → G E X RX9 cX9_readNumber 4 (some .int) false (rmD 1) P M [some (.ref (ad 1900 0)), some (.int (x1)), some (.int (x2)), some (.int (x3))] 0 0 101 []) (hp : ∀ M, Rep E ad out.2 M → P (some (.int out.1)) M) : ∀ (n : Nat) {V : St} {M : MH} {x1 : Int32} {x2 : Int32} {x3 : Int32}, Rep E ad V M → Lp_X9_readNumber_7 kx56 kx101 fu n V x1 x2 x3 = some out → G E X RX9 cX9_readNumber 4 (some .int) false (rmD 1) P M [some (.ref (ad 1900 0)), some (.int (x1)), some (.int (x2)), some (.int (x3))] 0 0 7 [] := by
  intro n
  induction n with
  | zero => intros; rename_i h; cases h
  | succ n ih => exact fun hR h => S_X9_readNumber_7 (fun hR h => ih hR h) (fun hR h => hkx56 hR h) (fun hR h => hkx101 hR h) hp hR h
theorem S_X9_readNumber_0 {E : EN} {X : CX} {P : Option Value → MH → Prop} {ad : AD} {fu : Nat} {out : Int32 × St} (hp : ∀ M, Rep E ad out.2 M → P (some (.int out.1)) M) {V : St} {M : MH} {x1 : Int32} (hR : Rep E ad V M) (h : f_X9_readNumber fu V x1 = some out) : G E X RX9 cX9_readNumber 4 (some .int) false (rmD 1) P M [some (.ref (ad 1900 0)), some (.int (x1)), none, none] 0 0 0 [] := by
  unfold f_X9_readNumber at h
  refine r_aload_n DX9_readNumber_0 rfl ?_
  refine s_geti DX9_readNumber_1 fl_X9_41 hR ct_1900 (one_cnt _) rfl ?_
  refine t_istore_n (L' := [some (.ref (ad 1900 0)), some (.int (x1)), some (.int ((V 1910 0 0))), none]) DX9_readNumber_4 (by decide) rfl ?_
  refine r_iconst (v := 0) DX9_readNumber_5 ki_0 ?_
  refine t_istore_n (L' := [some (.ref (ad 1900 0)), some (.int (x1)), some (.int ((V 1910 0 0))), some (.int ((0 : Int32)))]) DX9_readNumber_6 (by decide) rfl ?_
  exact SL_X9_readNumber_7 (fun hR h => S_X9_readNumber_56 hp hR h) (fun hR h => S_X9_readNumber_101 hp hR h) hp fu hR h
theorem C_X9_readNumber {E : EN} {ad : AD} {fu : Nat} {out : Int32 × St} {V : St} {M : MH} {x1 : Int32} (l : Launch) (hR : Rep E ad V M) (h : f_X9_readNumber fu V x1 = some out) : Ct E l yX9_readNumber cX9_readNumber 4 (some .int) (rmD 1) [.ref (ad 1900 0), .int (x1)] M (fun v M => v = (some (.int out.1)) ∧ Rep E ad out.2 M) :=
  Ct.of (own := RX9) (ini := false) (L := [some (.ref (ad 1900 0)), some (.int (x1)), none, none]) rfl rfl (fun h => by cases h) rfl (Nat.le_of_ble_eq_true rfl) rfl (fun X _ => S_X9_readNumber_0 (fun M hR => ⟨rfl, hR⟩) hR h)
theorem S_X9_take_59 {E : EN} {X : CX} {P : Option Value → MH → Prop} {ad : AD} {fu : Nat} {out : Int32 × St} (hp : ∀ M, Rep E ad out.2 M → P (some (.int out.1)) M) {V : St} {M : MH} {x2 : Int32} {d0 : Option Value} {d1 : Option Value} (hR : Rep E ad V M) (h : F_X9_take_59 fu V x2 = some out) : G E X RX9 cX9_take 3 (some .boolean) false (rmD 1) P M [d0, d1, some (.int (x2))] 0 0 59 [] := by
  unfold F_X9_take_59 at h
  refine r_iload_n DX9_take_59 rfl ?_
  obtain ⟨hz1, h⟩ := gd_inv h
  cases h
  exact r_zret DX9_take_60 rfl (nz_nar hz1) ⟨Nat.le_refl 0, Nat.le_refl 0⟩ (hp M hR)
theorem S_X9_take_29 {E : EN} {X : CX} {P : Option Value → MH → Prop} {ad : AD} {fu : Nat} {out : Int32 × St} (hp : ∀ M, Rep E ad out.2 M → P (some (.int out.1)) M) {V : St} {M : MH} {s0 : Int32} {d1 : Option Value} {d2 : Option Value} (hR : Rep E ad V M) (h : F_X9_take_29 fu V s0 = some out) : G E X RX9 cX9_take 3 (some .boolean) false (rmD 1) P M [some (.ref (ad 1900 0)), d1, d2] 0 0 29 [.int (s0)] := by
  unfold F_X9_take_29 at h
  refine t_istore_n (L' := [some (.ref (ad 1900 0)), d1, some (.int (s0))]) DX9_take_29 (by decide) rfl ?_
  refine r_iload_n DX9_take_30 rfl ?_
  refine r_if_eq DX9_take_31 (fun c1 => ?_) (fun c1 => ?_)
  · have h := if_t c1 h
    refine r_aload_n DX9_take_47 rfl ?_
    refine r_sipush (v := -1000) DX9_take_48 ks_m1000 ?_
    refine r_aload_n DX9_take_51 rfl ?_
    refine s_geti DX9_take_52 fl_X9_41 hR ct_1900 (one_cnt _) rfl ?_
    refine r_isub DX9_take_55 ?_
    obtain ⟨V2, hv3, h⟩ := bv_inv h
    refine s_puti DX9_take_56 fp_X9_44 hR oks_1911 ct_1900 (one_cnt _) rfl rfl rfl (fun M hR => ?_)
    have hR := hR.cg hv3
    exact S_X9_take_59 hp hR h
  · have h := if_f c1 h
    refine r_aload_n DX9_take_34 rfl ?_
    refine r_dup DX9_take_35 rfl ?_
    refine s_geti DX9_take_36 fl_X9_41 hR ct_1900 (one_cnt _) rfl ?_
    refine r_iconst (v := 1) DX9_take_39 ki_1 ?_
    refine r_iadd DX9_take_40 ?_
    obtain ⟨V4, hv5, h⟩ := bv_inv h
    refine s_puti DX9_take_41 fp_X9_41 hR oks_1910 ct_1900 (one_cnt _) rfl rfl rfl (fun M hR => ?_)
    have hR := hR.cg hv5
    refine r_goto DX9_take_44 ?_
    exact S_X9_take_59 hp hR h
theorem S_X9_take_28 {E : EN} {X : CX} {P : Option Value → MH → Prop} {ad : AD} {fu : Nat} {out : Int32 × St} (hp : ∀ M, Rep E ad out.2 M → P (some (.int out.1)) M) {V : St} {M : MH} {d1 : Option Value} {d2 : Option Value} (hR : Rep E ad V M) (h : F_X9_take_28 fu V = some out) : G E X RX9 cX9_take 3 (some .boolean) false (rmD 1) P M [some (.ref (ad 1900 0)), d1, d2] 0 0 28 [] := by
  unfold F_X9_take_28 at h
  refine r_iconst (v := 0) DX9_take_28 ki_0 ?_
  exact S_X9_take_29 hp hR h
theorem S_X9_take_0 {E : EN} {X : CX} {P : Option Value → MH → Prop} {ad : AD} {fu : Nat} {out : Int32 × St} (hp : ∀ M, Rep E ad out.2 M → P (some (.int out.1)) M) {V : St} {M : MH} {x1 : Int32} (hR : Rep E ad V M) (h : f_X9_take fu V x1 = some out) : G E X RX9 cX9_take 3 (some .boolean) false (rmD 1) P M [some (.ref (ad 1900 0)), some (.int (x1)), none] 0 0 0 [] := by
  unfold f_X9_take at h
  refine r_aload_n DX9_take_0 rfl ?_
  refine s_geti DX9_take_1 fl_X9_41 hR ct_1900 (one_cnt _) rfl ?_
  refine r_aload_n DX9_take_4 rfl ?_
  refine s_geti DX9_take_5 fl_X9_38 hR ct_1900 (one_cnt _) rfl ?_
  refine r_icmp_ge DX9_take_8 (fun c1 => ?_) (fun c1 => ?_)
  · have h := if_t c1 h
    exact S_X9_take_28 hp hR h
  · have h := if_f c1 h
    refine r_aload_n DX9_take_11 rfl ?_
    refine s_getq DX9_take_12 fl_X9_34 hR ct_1900 (one_cnt _) rfl ?_
    refine r_aload_n DX9_take_15 rfl ?_
    refine s_geti DX9_take_16 fl_X9_41 hR ct_1900 (one_cnt _) rfl ?_
    obtain ⟨⟨hx3, hi4⟩, h⟩ := gd_inv h
    obtain ⟨hg2, h⟩ := gd_inv h
    refine q_bald hx3 DX9_take_19 hR ct_2113 hi4 hg2 ?_
    refine r_iload_n DX9_take_20 rfl ?_
    refine r_icmp_ne DX9_take_21 (fun c5 => ?_) (fun c5 => ?_)
    · have h := if_f c5 h
      exact S_X9_take_28 hp hR h
    · have h := if_t c5 h
      refine r_iconst (v := 1) DX9_take_24 ki_1 ?_
      refine r_goto DX9_take_25 ?_
      exact S_X9_take_29 hp hR h
theorem C_X9_take {E : EN} {ad : AD} {fu : Nat} {out : Int32 × St} {V : St} {M : MH} {x1 : Int32} (l : Launch) (hR : Rep E ad V M) (h : f_X9_take fu V x1 = some out) : Ct E l yX9_take cX9_take 3 (some .boolean) (rmD 1) [.ref (ad 1900 0), .int (x1)] M (fun v M => v = (some (.int out.1)) ∧ Rep E ad out.2 M) :=
  Ct.of (own := RX9) (ini := false) (L := [some (.ref (ad 1900 0)), some (.int (x1)), none]) rfl rfl (fun h => by cases h) rfl (Nat.le_of_ble_eq_true rfl) rfl (fun X _ => S_X9_take_0 (fun M hR => ⟨rfl, hR⟩) hR h)
