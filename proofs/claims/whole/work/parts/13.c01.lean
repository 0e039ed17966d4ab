theorem S_X4_setLetters_167 {E : EN} {X : CX} {P : Option Value → MH → Prop} {ad : AD} {fu : Nat} {out : Int32 × St} (hp : ∀ M, Rep E ad out.2 M → P none M) {V : St} {M : MH} {s0 : Int32} {s1 : Int32} {d0 : Option Value} {d1 : Option Value} {d2 : Option Value} {d3 : Option Value} (hR : Rep E ad V M) (h : F_X4_setLetters_167 fu V s0 s1 = some out) : G E X RX4 cX4_setLetters 4 none false (rmD 2) P M [d0, d1, d2, d3] 0 0 167 [.int (s0), .int (s1), .ref (ad 1403 (0))] := by
  unfold F_X4_setLetters_167 at h
  obtain ⟨hg1, h⟩ := gd_inv h
  obtain ⟨V2, hv3, h⟩ := bv_inv h
  refine s_iast DX4_setLetters_167 hR oka_1403 ct_1403 (one_cnt _) hg1 (fun M hR => ?_)
  have hR := hR.cg hv3
  cases h
  exact r_vret DX4_setLetters_168 rfl ⟨Nat.le_refl 0, Nat.le_refl 0⟩ (hp M hR)
theorem S_X4_setLetters_148 {E : EN} {X : CX} {P : Option Value → MH → Prop} {ad : AD} {fu : Nat} {out : Int32 × St} (hp : ∀ M, Rep E ad out.2 M → P none M) {V : St} {M : MH} {x3 : Int32} {s0 : Int32} {s1 : Int32} {d1 : Option Value} {d2 : Option Value} (hR : Rep E ad V M) (h : F_X4_setLetters_148 fu V x3 s0 s1 = some out) : G E X RX4 cX4_setLetters 4 none false (rmD 2) P M [some (.ref (ad 1400 0)), d1, d2, some (rfq ad 1600 (x3))] 0 0 148 [.int (s0), .int (s1), .ref (ad 1403 (0))] := by
  unfold F_X4_setLetters_148 at h
  obtain ⟨hg1, h⟩ := gd_inv h
  obtain ⟨V2, hv3, h⟩ := bv_inv h
  refine s_iast DX4_setLetters_148 hR oka_1403 ct_1403 (one_cnt _) hg1 (fun M hR => ?_)
  have hR := hR.cg hv3
  refine r_aload_n DX4_setLetters_149 rfl ?_
  refine s_geta DX4_setLetters_150 fl_X4_22 hR ct_1400 (one_cnt _) rfl ?_
  refine r_bipush (v := 8) DX4_setLetters_153 kb_8 ?_
  refine t_aload_n (rfq_or _ _ _) DX4_setLetters_155 rfl ?_
  refine q_ifnonnull DX4_setLetters_156 (fun c4 => ?_) (fun c4 => ?_)
  · have h := if_f c4 h
    refine t_aload_n (rfq_or _ _ _) DX4_setLetters_163 rfl ?_
    obtain ⟨⟨hx5, hi6⟩, h⟩ := gd_inv h
    refine q_geti hx5 DX4_setLetters_164 fl_X4_105 hR ct_1600 hi6 rfl ?_
    exact S_X4_setLetters_167 hp hR h
  · have h := if_t c4 h
    refine r_iconst (v := 0) DX4_setLetters_159 ki_0 ?_
    refine r_goto DX4_setLetters_160 ?_
    exact S_X4_setLetters_167 hp hR h
theorem S_X4_setLetters_143 {E : EN} {X : CX} {P : Option Value → MH → Prop} {ad : AD} {fu : Nat} {out : Int32 × St} (hp : ∀ M, Rep E ad out.2 M → P none M) {V : St} {M : MH} {x3 : Int32} {s0 : Int32} {d1 : Option Value} {d2 : Option Value} (hR : Rep E ad V M) (h : F_X4_setLetters_143 fu V x3 s0 = some out) : G E X RX4 cX4_setLetters 4 none false (rmD 2) P M [some (.ref (ad 1400 0)), d1, d2, some (rfq ad 1600 (x3))] 0 0 143 [.int (s0), .ref (ad 1403 (0))] := by
  unfold F_X4_setLetters_143 at h
  refine r_iconst (v := 0) DX4_setLetters_143 ki_0 ?_
  refine r_goto DX4_setLetters_144 ?_
  exact S_X4_setLetters_148 hp hR h
theorem S_X4_setLetters_125 {E : EN} {X : CX} {P : Option Value → MH → Prop} {ad : AD} {fu : Nat} {out : Int32 × St} (hp : ∀ M, Rep E ad out.2 M → P none M) {V : St} {M : MH} {x3 : Int32} {s0 : Int32} {s1 : Int32} {d1 : Option Value} {d2 : Option Value} (hR : Rep E ad V M) (h : F_X4_setLetters_125 fu V x3 s0 s1 = some out) : G E X RX4 cX4_setLetters 4 none false (rmD 2) P M [some (.ref (ad 1400 0)), d1, d2, some (rfq ad 1600 (x3))] 0 0 125 [.int (s0), .int (s1), .ref (ad 1403 (0))] := by
  unfold F_X4_setLetters_125 at h
  obtain ⟨hg1, h⟩ := gd_inv h
  obtain ⟨V2, hv3, h⟩ := bv_inv h
  refine s_iast DX4_setLetters_125 hR oka_1403 ct_1403 (one_cnt _) hg1 (fun M hR => ?_)
  have hR := hR.cg hv3
  refine r_aload_n DX4_setLetters_126 rfl ?_
  refine s_geta DX4_setLetters_127 fl_X4_22 hR ct_1400 (one_cnt _) rfl ?_
  refine r_bipush (v := 7) DX4_setLetters_130 kb_7 ?_
  refine t_aload_n (rfq_or _ _ _) DX4_setLetters_132 rfl ?_
  refine q_ifnull DX4_setLetters_133 (fun c4 => ?_) (fun c4 => ?_)
  · have h := if_t c4 h
    exact S_X4_setLetters_143 hp hR h
  · have h := if_f c4 h
    refine t_aload_n (rfq_or _ _ _) DX4_setLetters_136 rfl ?_
    obtain ⟨⟨hx5, hi6⟩, h⟩ := gd_inv h
    refine q_geti hx5 DX4_setLetters_137 fl_X4_102 hR ct_1600 hi6 rfl ?_
    refine r_if_ne DX4_setLetters_140 (fun c7 => ?_) (fun c7 => ?_)
    · have h := if_f c7 h
      refine r_iconst (v := 1) DX4_setLetters_147 ki_1 ?_
      exact S_X4_setLetters_148 hp hR h
    · have h := if_t c7 h
      exact S_X4_setLetters_143 hp hR h
theorem S_X4_setLetters_106 {E : EN} {X : CX} {P : Option Value → MH → Prop} {ad : AD} {fu : Nat} {out : Int32 × St} (hp : ∀ M, Rep E ad out.2 M → P none M) {V : St} {M : MH} {x3 : Int32} {s0 : Int32} {s1 : Int32} {d1 : Option Value} {d2 : Option Value} (hR : Rep E ad V M) (h : F_X4_setLetters_106 fu V x3 s0 s1 = some out) : G E X RX4 cX4_setLetters 4 none false (rmD 2) P M [some (.ref (ad 1400 0)), d1, d2, some (rfq ad 1600 (x3))] 0 0 106 [.int (s0), .int (s1), .ref (ad 1403 (0))] := by
  unfold F_X4_setLetters_106 at h
  obtain ⟨hg1, h⟩ := gd_inv h
  obtain ⟨V2, hv3, h⟩ := bv_inv h
  refine s_iast DX4_setLetters_106 hR oka_1403 ct_1403 (one_cnt _) hg1 (fun M hR => ?_)
  have hR := hR.cg hv3
  refine r_aload_n DX4_setLetters_107 rfl ?_
  refine s_geta DX4_setLetters_108 fl_X4_22 hR ct_1400 (one_cnt _) rfl ?_
  refine r_bipush (v := 6) DX4_setLetters_111 kb_6 ?_
  refine t_aload_n (rfq_or _ _ _) DX4_setLetters_113 rfl ?_
  refine q_ifnonnull DX4_setLetters_114 (fun c4 => ?_) (fun c4 => ?_)
  · have h := if_f c4 h
    refine t_aload_n (rfq_or _ _ _) DX4_setLetters_121 rfl ?_
    obtain ⟨⟨hx5, hi6⟩, h⟩ := gd_inv h
    refine q_geti hx5 DX4_setLetters_122 fl_X4_97 hR ct_1600 hi6 rfl ?_
    exact S_X4_setLetters_125 hp hR h
  · have h := if_t c4 h
    refine r_iconst (v := 0) DX4_setLetters_117 ki_0 ?_
    refine r_goto DX4_setLetters_118 ?_
    exact S_X4_setLetters_125 hp hR h
theorem S_X4_setLetters_95 {E : EN} {X : CX} {P : Option Value → MH → Prop} {ad : AD} {fu : Nat} {out : Int32 × St} (hp : ∀ M, Rep E ad out.2 M → P none M) {V : St} {M : MH} {x3 : Int32} {s0 : Int32} {d1 : Option Value} {d2 : Option Value} (hR : Rep E ad V M) (h : F_X4_setLetters_95 fu V x3 s0 = some out) : G E X RX4 cX4_setLetters 4 none false (rmD 2) P M [some (.ref (ad 1400 0)), d1, d2, some (rfq ad 1600 (x3))] 0 0 95 [.int (s0), .ref (ad 1403 (0))] := by
  unfold F_X4_setLetters_95 at h
  refine r_iconst (v := 0) DX4_setLetters_95 ki_0 ?_
  refine r_goto DX4_setLetters_96 ?_
  exact S_X4_setLetters_106 hp hR h
theorem S_X4_setLetters_78 {E : EN} {X : CX} {P : Option Value → MH → Prop} {ad : AD} {fu : Nat} {out : Int32 × St} (hp : ∀ M, Rep E ad out.2 M → P none M) {V : St} {M : MH} {x2 : Int32} {x3 : Int32} {s0 : Int32} {s1 : Int32} {d1 : Option Value} (hR : Rep E ad V M) (h : F_X4_setLetters_78 fu V x2 x3 s0 s1 = some out) : G E X RX4 cX4_setLetters 4 none false (rmD 2) P M [some (.ref (ad 1400 0)), d1, some (rfq ad 2000 (x2)), some (rfq ad 1600 (x3))] 0 0 78 [.int (s0), .int (s1), .ref (ad 1403 (0))] := by
  unfold F_X4_setLetters_78 at h
  obtain ⟨hg1, h⟩ := gd_inv h
  obtain ⟨V2, hv3, h⟩ := bv_inv h
  refine s_iast DX4_setLetters_78 hR oka_1403 ct_1403 (one_cnt _) hg1 (fun M hR => ?_)
  have hR := hR.cg hv3
  refine r_aload_n DX4_setLetters_79 rfl ?_
  refine s_geta DX4_setLetters_80 fl_X4_22 hR ct_1400 (one_cnt _) rfl ?_
  refine r_iconst (v := 5) DX4_setLetters_83 ki_5 ?_
  refine t_aload_n (rfq_or _ _ _) DX4_setLetters_84 rfl ?_
  refine q_ifnull DX4_setLetters_85 (fun c4 => ?_) (fun c4 => ?_)
  · have h := if_t c4 h
    exact S_X4_setLetters_95 hp hR h
  · have h := if_f c4 h
    refine t_aload_n (rfq_or _ _ _) DX4_setLetters_88 rfl ?_
    obtain ⟨⟨hx5, hi6⟩, h⟩ := gd_inv h
    refine q_getq hx5 DX4_setLetters_89 fl_X4_88 hR ct_2000 hi6 rfl ?_
    refine q_ifnonnull DX4_setLetters_92 (fun c7 => ?_) (fun c7 => ?_)
    · have h := if_f c7 h
      refine t_aload_n (rfq_or _ _ _) DX4_setLetters_99 rfl ?_
      refine q_getq hx5 DX4_setLetters_100 fl_X4_88 hR ct_2000 hi6 rfl ?_
      obtain ⟨⟨hx8, hi9⟩, h⟩ := gd_inv h
      refine q_geti hx8 DX4_setLetters_103 fl_X4_92 hR ct_1000 hi9 rfl ?_
      exact S_X4_setLetters_106 hp hR h
    · have h := if_t c7 h
      exact S_X4_setLetters_95 hp hR h
theorem S_X4_setLetters_60 {E : EN} {X : CX} {P : Option Value → MH → Prop} {ad : AD} {fu : Nat} {out : Int32 × St} (hp : ∀ M, Rep E ad out.2 M → P none M) {V : St} {M : MH} {x2 : Int32} {x3 : Int32} {s0 : Int32} {s1 : Int32} {d1 : Option Value} (hR : Rep E ad V M) (h : F_X4_setLetters_60 fu V x2 x3 s0 s1 = some out) : G E X RX4 cX4_setLetters 4 none false (rmD 2) P M [some (.ref (ad 1400 0)), d1, some (rfq ad 2000 (x2)), some (rfq ad 1600 (x3))] 0 0 60 [.int (s0), .int (s1), .ref (ad 1403 (0))] := by
  unfold F_X4_setLetters_60 at h
  obtain ⟨hg1, h⟩ := gd_inv h
  obtain ⟨V2, hv3, h⟩ := bv_inv h
  refine s_iast DX4_setLetters_60 hR oka_1403 ct_1403 (one_cnt _) hg1 (fun M hR => ?_)
  have hR := hR.cg hv3
  refine r_aload_n DX4_setLetters_61 rfl ?_
  refine s_geta DX4_setLetters_62 fl_X4_22 hR ct_1400 (one_cnt _) rfl ?_
  refine r_iconst (v := 4) DX4_setLetters_65 ki_4 ?_
  refine t_aload_n (rfq_or _ _ _) DX4_setLetters_66 rfl ?_
  refine q_ifnonnull DX4_setLetters_67 (fun c4 => ?_) (fun c4 => ?_)
  · have h := if_f c4 h
    refine t_aload_n (rfq_or _ _ _) DX4_setLetters_74 rfl ?_
    obtain ⟨⟨hx5, hi6⟩, h⟩ := gd_inv h
    refine q_geti hx5 DX4_setLetters_75 fl_X4_85 hR ct_2000 hi6 rfl ?_
    exact S_X4_setLetters_78 hp hR h
  · have h := if_t c4 h
    refine r_iconst (v := 0) DX4_setLetters_70 ki_0 ?_
    refine r_goto DX4_setLetters_71 ?_
    exact S_X4_setLetters_78 hp hR h
theorem S_X4_setLetters_42 {E : EN} {X : CX} {P : Option Value → MH → Prop} {ad : AD} {fu : Nat} {out : Int32 × St} (hp : ∀ M, Rep E ad out.2 M → P none M) {V : St} {M : MH} {x2 : Int32} {x3 : Int32} {s0 : Int32} {s1 : Int32} {d1 : Option Value} (hR : Rep E ad V M) (h : F_X4_setLetters_42 fu V x2 x3 s0 s1 = some out) : G E X RX4 cX4_setLetters 4 none false (rmD 2) P M [some (.ref (ad 1400 0)), d1, some (rfq ad 2000 (x2)), some (rfq ad 1600 (x3))] 0 0 42 [.int (s0), .int (s1), .ref (ad 1403 (0))] := by
  unfold F_X4_setLetters_42 at h
  obtain ⟨hg1, h⟩ := gd_inv h
  obtain ⟨V2, hv3, h⟩ := bv_inv h
  refine s_iast DX4_setLetters_42 hR oka_1403 ct_1403 (one_cnt _) hg1 (fun M hR => ?_)
  have hR := hR.cg hv3
  refine r_aload_n DX4_setLetters_43 rfl ?_
  refine s_geta DX4_setLetters_44 fl_X4_22 hR ct_1400 (one_cnt _) rfl ?_
  refine r_iconst (v := 3) DX4_setLetters_47 ki_3 ?_
  refine t_aload_n (rfq_or _ _ _) DX4_setLetters_48 rfl ?_
  refine q_ifnonnull DX4_setLetters_49 (fun c4 => ?_) (fun c4 => ?_)
  · have h := if_f c4 h
    refine t_aload_n (rfq_or _ _ _) DX4_setLetters_56 rfl ?_
    obtain ⟨⟨hx5, hi6⟩, h⟩ := gd_inv h
    refine q_geti hx5 DX4_setLetters_57 fl_X4_82 hR ct_2000 hi6 rfl ?_
    exact S_X4_setLetters_60 hp hR h
  · have h := if_t c4 h
    refine r_iconst (v := 0) DX4_setLetters_52 ki_0 ?_
    refine r_goto DX4_setLetters_53 ?_
    exact S_X4_setLetters_60 hp hR h
theorem S_X4_setLetters_24 {E : EN} {X : CX} {P : Option Value → MH → Prop} {ad : AD} {fu : Nat} {out : Int32 × St} (hp : ∀ M, Rep E ad out.2 M → P none M) {V : St} {M : MH} {x2 : Int32} {x3 : Int32} {s0 : Int32} {s1 : Int32} {d1 : Option Value} (hR : Rep E ad V M) (h : F_X4_setLetters_24 fu V x2 x3 s0 s1 = some out) : G E X RX4 cX4_setLetters 4 none false (rmD 2) P M [some (.ref (ad 1400 0)), d1, some (rfq ad 2000 (x2)), some (rfq ad 1600 (x3))] 0 0 24 [.int (s0), .int (s1), .ref (ad 1403 (0))] := by
  unfold F_X4_setLetters_24 at h
  obtain ⟨hg1, h⟩ := gd_inv h
  obtain ⟨V2, hv3, h⟩ := bv_inv h
  refine s_iast DX4_setLetters_24 hR oka_1403 ct_1403 (one_cnt _) hg1 (fun M hR => ?_)
  have hR := hR.cg hv3
  refine r_aload_n DX4_setLetters_25 rfl ?_
  refine s_geta DX4_setLetters_26 fl_X4_22 hR ct_1400 (one_cnt _) rfl ?_
  refine r_iconst (v := 2) DX4_setLetters_29 ki_2 ?_
  refine t_aload_n (rfq_or _ _ _) DX4_setLetters_30 rfl ?_
  refine q_ifnonnull DX4_setLetters_31 (fun c4 => ?_) (fun c4 => ?_)
  · have h := if_f c4 h
    refine t_aload_n (rfq_or _ _ _) DX4_setLetters_38 rfl ?_
    obtain ⟨⟨hx8, hi9⟩, h⟩ := gd_inv h
    obtain ⟨r5, V6, hc7, h⟩ := bd_inv h
    refine k_callQ (As := []) (rest := [.int ((2 : Int32)), .ref (ad 1403 (0))]) (st1 := [.int (r5), .int ((2 : Int32)), .ref (ad 1403 (0))]) (w := some (.int r5)) hx8 DX4_setLetters_39 cv_X4_79 hR ct_2000 hi9 rfl (C_X10_sign (out := (r5, V6)) (cxL X) hR hc7) rfl (by decide) (by decide) rfl (Nat.le_of_ble_eq_true rfl) rfl (fun M hR => ?_)
    exact S_X4_setLetters_42 hp hR h
  · have h := if_t c4 h
    refine r_iconst (v := 0) DX4_setLetters_34 ki_0 ?_
    refine r_goto DX4_setLetters_35 ?_
    exact S_X4_setLetters_42 hp hR h
theorem S_X4_setLetters_0 {E : EN} {X : CX} {P : Option Value → MH → Prop} {ad : AD} {fu : Nat} {out : Int32 × St} (hp : ∀ M, Rep E ad out.2 M → P none M) {V : St} {M : MH} {x1 : Int32} {x2 : Int32} {x3 : Int32} (hR : Rep E ad V M) (h : f_X4_setLetters fu V x1 x2 x3 = some out) : G E X RX4 cX4_setLetters 4 none false (rmD 2) P M [some (.ref (ad 1400 0)), some (.int (x1)), some (rfq ad 2000 (x2)), some (rfq ad 1600 (x3))] 0 0 0 [] := by
  unfold f_X4_setLetters at h
  refine r_aload_n DX4_setLetters_0 rfl ?_
  refine s_geta DX4_setLetters_1 fl_X4_22 hR ct_1400 (one_cnt _) rfl ?_
  refine r_iconst (v := 0) DX4_setLetters_4 ki_0 ?_
  refine r_iload_n DX4_setLetters_5 rfl ?_
  obtain ⟨hg1, h⟩ := gd_inv h
  obtain ⟨V2, hv3, h⟩ := bv_inv h
  refine s_iast DX4_setLetters_6 hR oka_1403 ct_1403 (one_cnt _) hg1 (fun M hR => ?_)
  have hR := hR.cg hv3
  refine r_aload_n DX4_setLetters_7 rfl ?_
  refine s_geta DX4_setLetters_8 fl_X4_22 hR ct_1400 (one_cnt _) rfl ?_
  refine r_iconst (v := 1) DX4_setLetters_11 ki_1 ?_
  refine t_aload_n (rfq_or _ _ _) DX4_setLetters_12 rfl ?_
  refine q_ifnonnull DX4_setLetters_13 (fun c4 => ?_) (fun c4 => ?_)
  · have h := if_f c4 h
    refine t_aload_n (rfq_or _ _ _) DX4_setLetters_20 rfl ?_
    obtain ⟨⟨hx5, hi6⟩, h⟩ := gd_inv h
    refine q_geti hx5 DX4_setLetters_21 fl_X4_74 hR ct_2000 hi6 rfl ?_
    exact S_X4_setLetters_24 hp hR h
  · have h := if_t c4 h
    refine r_iconst (v := 0) DX4_setLetters_16 ki_0 ?_
    refine r_goto DX4_setLetters_17 ?_
    exact S_X4_setLetters_24 hp hR h
theorem C_X4_setLetters {E : EN} {ad : AD} {fu : Nat} {out : Int32 × St} {V : St} {M : MH} {x1 : Int32} {x2 : Int32} {x3 : Int32} (l : Launch) (hR : Rep E ad V M) (h : f_X4_setLetters fu V x1 x2 x3 = some out) : Ct E l yX4_setLetters cX4_setLetters 4 none (rmD 2) [.ref (ad 1400 0), .int (x1), rfq ad 2000 (x2), rfq ad 1600 (x3)] M (fun v M => v = none ∧ Rep E ad out.2 M) :=
  Ct.of (own := RX4) (ini := false) (L := [some (.ref (ad 1400 0)), some (.int (x1)), some (rfq ad 2000 (x2)), some (rfq ad 1600 (x3))]) rfl rfl (fun h => by cases h) (by simp only [List.all_cons, List.all_nil, rfq_cat]; rfl) (Nat.le_of_ble_eq_true rfl) rfl (fun X _ => S_X4_setLetters_0 (fun M hR => ⟨rfl, hR⟩) hR h)
theorem S_X4_weigh_209 {E : EN} {X : CX} {P : Option Value → MH → Prop} {ad : AD} {fu : Nat} {out : Int32 × St} (hp : ∀ M, Rep E ad out.2 M → P none M) {V : St} {M : MH} {d0 : Option Value} {d1 : Option Value} {d2 : Option Value} {d3 : Option Value} {d4 : Option Value} {d5 : Option Value} {d6 : Option Value} (hR : Rep E ad V M) (h : F_X4_weigh_209 fu V = some out) : G E X RX4 cX4_weigh 7 none false (rmD 5) P M [d0, d1, d2, d3, d4, d5, d6] 0 0 209 [] := by
  unfold F_X4_weigh_209 at h
  cases h
  exact r_vret DX4_weigh_209 rfl ⟨Nat.le_refl 0, Nat.le_refl 0⟩ (hp M hR)
theorem S_X4_weigh_203 {E : EN} {X : CX} {P : Option Value → MH → Prop} {ad : AD} {fu : Nat} {out : Int32 × St} {kh : St → Int32 → RR} {kx209 : St → RR} (hkh : ∀ {V : St} {M : MH} {x4 : Int32} {d1 : Option Value} {d2 : Option Value} {d3 : Option Value} {d5 : Option Value} {d6 : Option Value}, Rep E ad V M → kh V x4 = some out → G E X RX4 cX4_weigh 7 none false (rmD 5) P M [some (.ref (ad 1400 0)), d1, d2, d3, some (.int (x4)), d5, d6] 0 0 111 []) (hkx209 : ∀ {V : St} {M : MH} {d0 : Option Value} {d1 : Option Value} {d2 : Option Value} {d3 : Option Value} {d4 : Option Value} {d5 : Option Value} {d6 : Option Value}, Rep E ad V M → kx209 V  = some out → G E X RX4 cX4_weigh 7 none false (rmD 5) P M [d0, d1, d2, d3, d4, d5, d6] 0 0 209 []) (hp : ∀ M, Rep E ad out.2 M → P none M) {V : St} {M : MH} {x4 : Int32} {d1 : Option Value} {d2 : Option Value} {d3 : Option Value} {d5 : Option Value} {d6 : Option Value} (hR : Rep E ad V M) (h : F_X4_weigh_203 kh kx209 fu V x4 = some out) : G E X RX4 cX4_weigh 7 none false (rmD 5) P M [some (.ref (ad 1400 0)), d1, d2, d3, some (.int (x4)), d5, d6] 0 0 203 [] := by
  unfold F_X4_weigh_203 at h
  refine t_iinc (v := -1) (L' := [some (.ref (ad 1400 0)), d1, d2, d3, some (.int (x4 + (-1))), d5, d6]) DX4_weigh_203 rfl ki_m1 (by decide) rfl ?_
  refine r_goto DX4_weigh_206 ?_
  exact hkh hR h
theorem S_X4_weigh_197 {E : EN} {X : CX} {P : Option Value → MH → Prop} {ad : AD} {fu : Nat} {out : Int32 × St} {kh : St → Int32 → Int32 → Int32 → RR} {kx203 : St → Int32 → RR} (hkh : ∀ {V : St} {M : MH} {x4 : Int32} {x5 : Int32} {x6 : Int32} {d1 : Option Value} {d2 : Option Value} {d3 : Option Value}, Rep E ad V M → kh V x4 x5 x6 = some out → G E X RX4 cX4_weigh 7 none false (rmD 5) P M [some (.ref (ad 1400 0)), d1, d2, d3, some (.int (x4)), some (rfq ad 1700 (x5)), some (.int (x6))] 0 0 133 []) (hkx203 : ∀ {V : St} {M : MH} {x4 : Int32} {d1 : Option Value} {d2 : Option Value} {d3 : Option Value} {d5 : Option Value} {d6 : Option Value}, Rep E ad V M → kx203 V x4 = some out → G E X RX4 cX4_weigh 7 none false (rmD 5) P M [some (.ref (ad 1400 0)), d1, d2, d3, some (.int (x4)), d5, d6] 0 0 203 []) (hp : ∀ M, Rep E ad out.2 M → P none M) {V : St} {M : MH} {x4 : Int32} {x5 : Int32} {x6 : Int32} {d1 : Option Value} {d2 : Option Value} {d3 : Option Value} (hR : Rep E ad V M) (h : F_X4_weigh_197 kh kx203 fu V x4 x5 x6 = some out) : G E X RX4 cX4_weigh 7 none false (rmD 5) P M [some (.ref (ad 1400 0)), d1, d2, d3, some (.int (x4)), some (rfq ad 1700 (x5)), some (.int (x6))] 0 0 197 [] := by
  unfold F_X4_weigh_197 at h
  refine t_iinc (v := 1) (L' := [some (.ref (ad 1400 0)), d1, d2, d3, some (.int (x4)), some (rfq ad 1700 (x5)), some (.int (x6 + 1))]) DX4_weigh_197 rfl ki_1 (by decide) rfl ?_
  refine r_goto DX4_weigh_200 ?_
  exact hkh hR h
theorem S_X4_weigh_133 {E : EN} {X : CX} {P : Option Value → MH → Prop} {ad : AD} {fu : Nat} {out : Int32 × St} {kh : St → Int32 → Int32 → Int32 → RR} {kx203 : St → Int32 → RR} (hkh : ∀ {V : St} {M : MH} {x4 : Int32} {x5 : Int32} {x6 : Int32} {d1 : Option Value} {d2 : Option Value} {d3 : Option Value}, Rep E ad V M → kh V x4 x5 x6 = some out → G E X RX4 cX4_weigh 7 none false (rmD 5) P M [some (.ref (ad 1400 0)), d1, d2, d3, some (.int (x4)), some (rfq ad 1700 (x5)), some (.int (x6))] 0 0 133 []) (hkx203 : ∀ {V : St} {M : MH} {x4 : Int32} {d1 : Option Value} {d2 : Option Value} {d3 : Option Value} {d5 : Option Value} {d6 : Option Value}, Rep E ad V M → kx203 V x4 = some out → G E X RX4 cX4_weigh 7 none false (rmD 5) P M [some (.ref (ad 1400 0)), d1, d2, d3, some (.int (x4)), d5, d6] 0 0 203 []) (hp : ∀ M, Rep E ad out.2 M → P none M) {V : St} {M : MH} {x4 : Int32} {x5 : Int32} {x6 : Int32} {d1 : Option Value} {d2 : Option Value} {d3 : Option Value} (hR : Rep E ad V M) (h : F_X4_weigh_133 kh kx203 fu V x4 x5 x6 = some out) : G E X RX4 cX4_weigh 7 none false (rmD 5) P M [some (.ref (ad 1400 0)), d1, d2, d3, some (.int (x4)), some (rfq ad 1700 (x5)), some (.int (x6))] 0 0 133 [] := by
  unfold F_X4_weigh_133 at h
  refine r_iload DX4_weigh_133 rfl ?_
  refine t_aload (rfq_or _ _ _) DX4_weigh_135 rfl ?_
  obtain ⟨⟨hx1, hi2⟩, h⟩ := gd_inv h
  refine q_geti hx1 DX4_weigh_137 fl_X4_61 hR ct_1700 hi2 rfl ?_
  refine r_icmp_ge DX4_weigh_140 (fun c3 => ?_) (fun c3 => ?_)
  · have h := if_t c3 h
    exact hkx203 hR h
  · have h := if_f c3 h
    refine r_aload_n DX4_weigh_143 rfl ?_
    refine r_iload DX4_weigh_144 rfl ?_
    refine r_iload DX4_weigh_146 rfl ?_
    refine r_bipush (v := 120) DX4_weigh_148 kb_120 ?_
    obtain ⟨r4, V5, hc6, h⟩ := bd_inv h
    refine k_callV (As := [.int (x4), .int (x6), .int ((120 : Int32))]) (rest := []) (st1 := [.int (r4)]) (w := some (.int r4)) DX4_weigh_150 cv_X4_64 hR ct_1400 (one_cnt _) rfl (C_X4_counts (out := (r4, V5)) (cxL X) hR hc6) rfl (by decide) (by decide) rfl (Nat.le_of_ble_eq_true rfl) rfl (fun M hR => ?_)
    refine r_if_eq DX4_weigh_153 (fun c7 => ?_) (fun c7 => ?_)
    · have h := if_t c7 h
      exact S_X4_weigh_197 (fun hR h => hkh hR h) (fun hR h => hkx203 hR h) hp hR h
    · have h := if_f c7 h
      refine t_aload (rfq_or _ _ _) DX4_weigh_156 rfl ?_
      obtain ⟨⟨hx8, hi9⟩, h⟩ := gd_inv h
      refine q_geta hx8 DX4_weigh_158 fl_X4_68 hR ct_1700 hi9 rfl ?_
      refine r_iload DX4_weigh_161 rfl ?_
      obtain ⟨hg10, h⟩ := gd_inv h
      refine s_iald DX4_weigh_163 hR ct_1706 (hi9) hg10 ?_
      refine r_iload DX4_weigh_164 rfl ?_
      refine r_icmp_ge DX4_weigh_166 (fun c11 => ?_) (fun c11 => ?_)
      · have h := if_t c11 h
        exact S_X4_weigh_197 (fun hR h => hkh hR h) (fun hR h => hkx203 hR h) hp hR h
      · have h := if_f c11 h
        refine r_aload_n DX4_weigh_169 rfl ?_
        refine s_geta DX4_weigh_170 fl_X4_18 hR ct_1400 (one_cnt _) rfl ?_
        refine t_aload (rfq_or _ _ _) DX4_weigh_173 rfl ?_
        refine q_geta hx8 DX4_weigh_175 fl_X4_68 hR ct_1700 hi9 rfl ?_
        refine r_iload DX4_weigh_178 rfl ?_
        obtain ⟨hg12, h⟩ := gd_inv h
        refine s_iald DX4_weigh_180 hR ct_1706 (hi9) hg12 ?_
        refine r_dup2 DX4_weigh_181 rfl rfl ?_
        obtain ⟨hg13, h⟩ := gd_inv h
        refine s_iald DX4_weigh_182 hR ct_1402 (one_cnt _) hg13 ?_
        refine r_iconst (v := 1) DX4_weigh_183 ki_1 ?_
        refine t_aload (rfq_or _ _ _) DX4_weigh_184 rfl ?_
        refine q_geta hx8 DX4_weigh_186 fl_X4_71 hR ct_1700 hi9 rfl ?_
        refine r_iload DX4_weigh_189 rfl ?_
        obtain ⟨hg14, h⟩ := gd_inv h
        refine s_iald DX4_weigh_191 hR ct_1707 (hi9) hg14 ?_
        refine r_ishl DX4_weigh_192 ?_
        refine r_iconst (v := -1) DX4_weigh_193 ki_m1 ?_
        refine r_ixor DX4_weigh_194 ?_
        refine r_iand DX4_weigh_195 ?_
        obtain ⟨hg15, h⟩ := gd_inv h
        obtain ⟨V16, hv17, h⟩ := bv_inv h
        refine s_iast DX4_weigh_196 hR oka_1402 ct_1402 (one_cnt _) hg15 (fun M hR => ?_)
        have hR := hR.cg hv17
        exact S_X4_weigh_197 (fun hR h => hkh hR h) (fun hR h => hkx203 hR h) hp hR h
theorem SL_X4_weigh_133 {E : EN} {X : CX} {P : Option Value → MH → Prop} {ad : AD} {fu : Nat} {out : Int32 × St} {kx203 : St → Int32 → RR} (hkx203 : ∀ {V : St} {M : MH} {x4 : Int32} {d1 : Option Value} {d2 : Option Value} {d3 : Option Value} {d5 : Option Value} {d6 : Option Value}, Rep E ad V M → kx203 V x4 = some out → G E X RX4 cX4_weigh 7 none false (rmD 5) P M [some (.ref (ad 1400 0)), d1, d2, d3, some (.int (x4)), d5, d6] 0 0 203 []) (hp : ∀ M, Rep E ad out.2 M → P none M) : ∀ (n : Nat) {V : St} {M : MH} {x4 : Int32} {x5 : Int32} {x6 : Int32} {d1 : Option Value} {d2 : Option Value} {d3 : Option Value}, Rep E ad V M → Lp_X4_weigh_133 kx203 fu n V x4 x5 x6 = some out → G E X RX4 cX4_weigh 7 none false (rmD 5) P M [some (.ref (ad 1400 0)), d1, d2, d3, some (.int (x4)), some (rfq ad 1700 (x5)), some (.int (x6))] 0 0 133 [] := by
  intro n
  induction n with
  | zero => intros; rename_i h; cases h
  | succ n ih => exact fun hR h => S_X4_weigh_133 (fun hR h => ih hR h) (fun hR h => hkx203 hR h) hp hR h
theorem S_X4_weigh_111 {E : EN} {X : CX} {P : Option Value → MH → Prop} {ad : AD} {fu : Nat} {out : Int32 × St} {kh : St → Int32 → RR} {kx209 : St → RR} (hkh : ∀ {V : St} {M : MH} {x4 : Int32} {d1 : Option Value} {d2 : Option Value} {d3 : Option Value} {d5 : Option Value} {d6 : Option Value}, Rep E ad V M → kh V x4 = some out → G E X RX4 cX4_weigh 7 none false (rmD 5) P M [some (.ref (ad 1400 0)), d1, d2, d3, some (.int (x4)), d5, d6] 0 0 111 []) (hkx209 : ∀ {V : St} {M : MH} {d0 : Option Value} {d1 : Option Value} {d2 : Option Value} {d3 : Option Value} {d4 : Option Value} {d5 : Option Value} {d6 : Option Value}, Rep E ad V M → kx209 V  = some out → G E X RX4 cX4_weigh 7 none false (rmD 5) P M [d0, d1, d2, d3, d4, d5, d6] 0 0 209 []) (hp : ∀ M, Rep E ad out.2 M → P none M) {V : St} {M : MH} {x4 : Int32} {d1 : Option Value} {d2 : Option Value} {d3 : Option Value} {d5 : Option Value} {d6 : Option Value} (hR : Rep E ad V M) (h : F_X4_weigh_111 kh kx209 fu V x4 = some out) : G E X RX4 cX4_weigh 7 none false (rmD 5) P M [some (.ref (ad 1400 0)), d1, d2, d3, some (.int (x4)), d5, d6] 0 0 111 [] := by
  unfold F_X4_weigh_111 at h
  refine r_iload DX4_weigh_111 rfl ?_
  refine r_if_lt DX4_weigh_113 (fun c1 => ?_) (fun c1 => ?_)
  · have h := if_t c1 h
    exact hkx209 hR h
  · have h := if_f c1 h
    refine r_aload_n DX4_weigh_116 rfl ?_
    refine s_geto DX4_weigh_117 fl_X4_12 hR ct_1400 (one_cnt _) rfl ?_
    refine r_iload DX4_weigh_120 rfl ?_
    obtain ⟨⟨hx2, hi3⟩, h⟩ := gd_inv h
    refine s_lget (Li := 1401) (g := 1700) DX4_weigh_122 cv_X4_46 hR (by decide) hx2 hi3 (by decide) (Nat.le_of_ble_eq_true rfl) (fun M hR => ?_)
    refine q_cast hx2 DX4_weigh_125 wd_358 hR ct_1700 hi3 rfl ?_
    refine t_astore (L' := [some (.ref (ad 1400 0)), d1, d2, d3, some (.int (x4)), some (rfq ad 1700 (x4)), d6]) (rfq_or _ _ _) DX4_weigh_128 (by decide) rfl ?_
    refine r_iconst (v := 0) DX4_weigh_130 ki_0 ?_
    refine t_istore (L' := [some (.ref (ad 1400 0)), d1, d2, d3, some (.int (x4)), some (rfq ad 1700 (x4)), some (.int ((0 : Int32)))]) DX4_weigh_131 (by decide) rfl ?_
    exact SL_X4_weigh_133 (fun hR h => S_X4_weigh_203 (fun hR h => hkh hR h) (fun hR h => hkx209 hR h) hp hR h) hp fu hR h
theorem SL_X4_weigh_111 {E : EN} {X : CX} {P : Option Value → MH → Prop} {ad : AD} {fu : Nat} {out : Int32 × St} {kx209 : St → RR} (hkx209 : ∀ {V : St} {M : MH} {d0 : Option Value} {d1 : Option Value} {d2 : Option Value} {d3 : Option Value} {d4 : Option Value} {d5 : Option Value} {d6 : Option Value}, Rep E ad V M → kx209 V  = some out → G E X RX4 cX4_weigh 7 none false (rmD 5) P M [d0, d1, d2, d3, d4, d5, d6] 0 0 209 []) (hp : ∀ M, Rep E ad out.2 M → P none M) : ∀ (n : Nat) {V : St} {M : MH} {x4 : Int32} {d1 : Option Value} {d2 : Option Value} {d3 : Option Value} {d5 : Option Value} {d6 : Option Value}, Rep E ad V M → Lp_X4_weigh_111 kx209 fu n V x4 = some out → G E X RX4 cX4_weigh 7 none false (rmD 5) P M [some (.ref (ad 1400 0)), d1, d2, d3, some (.int (x4)), d5, d6] 0 0 111 [] := by
  intro n
  induction n with
  | zero => intros; rename_i h; cases h
  | succ n ih => exact fun hR h => S_X4_weigh_111 (fun hR h => ih hR h) (fun hR h => hkx209 hR h) hp hR h
theorem S_X4_weigh_100 {E : EN} {X : CX} {P : Option Value → MH → Prop} {ad : AD} {fu : Nat} {out : Int32 × St} (hp : ∀ M, Rep E ad out.2 M → P none M) {V : St} {M : MH} {d1 : Option Value} {d2 : Option Value} {d3 : Option Value} {d4 : Option Value} {d5 : Option Value} {d6 : Option Value} (hR : Rep E ad V M) (h : F_X4_weigh_100 fu V = some out) : G E X RX4 cX4_weigh 7 none false (rmD 5) P M [some (.ref (ad 1400 0)), d1, d2, d3, d4, d5, d6] 0 0 100 [] := by
  unfold F_X4_weigh_100 at h
  refine r_aload_n DX4_weigh_100 rfl ?_
  refine s_geto DX4_weigh_101 fl_X4_12 hR ct_1400 (one_cnt _) rfl ?_
  refine s_lsize (Li := 1401) (g := 1700) DX4_weigh_104 cv_X4_42 hR (by decide) (by decide) (Nat.le_of_ble_eq_true rfl) ?_
  refine r_iconst (v := 1) DX4_weigh_107 ki_1 ?_
  refine r_isub DX4_weigh_108 ?_
  refine t_istore (L' := [some (.ref (ad 1400 0)), d1, d2, d3, some (.int ((V 1401 0 0) - (1 : Int32))), d5, d6]) DX4_weigh_109 (by decide) rfl ?_
  exact SL_X4_weigh_111 (fun hR h => S_X4_weigh_209 hp hR h) hp fu hR h
theorem S_X4_weigh_93 {E : EN} {X : CX} {P : Option Value → MH → Prop} {ad : AD} {fu : Nat} {out : Int32 × St} {kh : St → Int32 → Int32 → Int32 → Int32 → RR} {kx100 : St → RR} (hkh : ∀ {V : St} {M : MH} {x1 : Int32} {x2 : Int32} {x3 : Int32} {x4 : Int32} {d5 : Option Value} {d6 : Option Value}, Rep E ad V M → kh V x1 x2 x3 x4 = some out → G E X RX4 cX4_weigh 7 none false (rmD 5) P M [some (.ref (ad 1400 0)), some (.int (x1)), some (.int (x2)), some (.int (x3)), some (.int (x4)), d5, d6] 0 0 3 []) (hkx100 : ∀ {V : St} {M : MH} {d1 : Option Value} {d2 : Option Value} {d3 : Option Value} {d4 : Option Value} {d5 : Option Value} {d6 : Option Value}, Rep E ad V M → kx100 V  = some out → G E X RX4 cX4_weigh 7 none false (rmD 5) P M [some (.ref (ad 1400 0)), d1, d2, d3, d4, d5, d6] 0 0 100 []) (hp : ∀ M, Rep E ad out.2 M → P none M) {V : St} {M : MH} {x1 : Int32} {x2 : Int32} {x3 : Int32} {x4 : Int32} {s0 : Int32} {s1 : Int32} {d5 : Option Value} {d6 : Option Value} (hR : Rep E ad V M) (h : F_X4_weigh_93 kh kx100 fu V x1 x2 x3 x4 s0 s1 = some out) : G E X RX4 cX4_weigh 7 none false (rmD 5) P M [some (.ref (ad 1400 0)), some (.int (x1)), some (.int (x2)), some (.int (x3)), some (.int (x4)), d5, d6] 0 0 93 [.int (s0), .int (s1), .ref (ad 1402 (0))] := by
  unfold F_X4_weigh_93 at h
  obtain ⟨hg1, h⟩ := gd_inv h
  obtain ⟨V2, hv3, h⟩ := bv_inv h
  refine s_iast DX4_weigh_93 hR oka_1402 ct_1402 (one_cnt _) hg1 (fun M hR => ?_)
  have hR := hR.cg hv3
  refine t_iinc (v := 1) (L' := [some (.ref (ad 1400 0)), some (.int (x1)), some (.int (x2)), some (.int (x3)), some (.int (x4 + 1)), d5, d6]) DX4_weigh_94 rfl ki_1 (by decide) rfl ?_
  refine r_goto DX4_weigh_97 ?_
  exact hkh hR h
theorem S_X4_weigh_92 {E : EN} {X : CX} {P : Option Value → MH → Prop} {ad : AD} {fu : Nat} {out : Int32 × St} {kh : St → Int32 → Int32 → Int32 → Int32 → RR} {kx100 : St → RR} (hkh : ∀ {V : St} {M : MH} {x1 : Int32} {x2 : Int32} {x3 : Int32} {x4 : Int32} {d5 : Option Value} {d6 : Option Value}, Rep E ad V M → kh V x1 x2 x3 x4 = some out → G E X RX4 cX4_weigh 7 none false (rmD 5) P M [some (.ref (ad 1400 0)), some (.int (x1)), some (.int (x2)), some (.int (x3)), some (.int (x4)), d5, d6] 0 0 3 []) (hkx100 : ∀ {V : St} {M : MH} {d1 : Option Value} {d2 : Option Value} {d3 : Option Value} {d4 : Option Value} {d5 : Option Value} {d6 : Option Value}, Rep E ad V M → kx100 V  = some out → G E X RX4 cX4_weigh 7 none false (rmD 5) P M [some (.ref (ad 1400 0)), d1, d2, d3, d4, d5, d6] 0 0 100 []) (hp : ∀ M, Rep E ad out.2 M → P none M) {V : St} {M : MH} {x1 : Int32} {x2 : Int32} {x3 : Int32} {x4 : Int32} {s0 : Int32} {d5 : Option Value} {d6 : Option Value} (hR : Rep E ad V M) (h : F_X4_weigh_92 kh kx100 fu V x1 x2 x3 x4 s0 = some out) : G E X RX4 cX4_weigh 7 none false (rmD 5) P M [some (.ref (ad 1400 0)), some (.int (x1)), some (.int (x2)), some (.int (x3)), some (.int (x4)), d5, d6] 0 0 92 [.int (s0), .ref (ad 1402 (0))] := by
  unfold F_X4_weigh_92 at h
  refine r_iconst (v := 0) DX4_weigh_92 ki_0 ?_
  exact S_X4_weigh_93 (fun hR h => hkh hR h) (fun hR h => hkx100 hR h) hp hR h
theorem S_X4_weigh_61 {E : EN} {X : CX} {P : Option Value → MH → Prop} {ad : AD} {fu : Nat} {out : Int32 × St} {kh : St → Int32 → Int32 → Int32 → Int32 → RR} {kx100 : St → RR} (hkh : ∀ {V : St} {M : MH} {x1 : Int32} {x2 : Int32} {x3 : Int32} {x4 : Int32} {d5 : Option Value} {d6 : Option Value}, Rep E ad V M → kh V x1 x2 x3 x4 = some out → G E X RX4 cX4_weigh 7 none false (rmD 5) P M [some (.ref (ad 1400 0)), some (.int (x1)), some (.int (x2)), some (.int (x3)), some (.int (x4)), d5, d6] 0 0 3 []) (hkx100 : ∀ {V : St} {M : MH} {d1 : Option Value} {d2 : Option Value} {d3 : Option Value} {d4 : Option Value} {d5 : Option Value} {d6 : Option Value}, Rep E ad V M → kx100 V  = some out → G E X RX4 cX4_weigh 7 none false (rmD 5) P M [some (.ref (ad 1400 0)), d1, d2, d3, d4, d5, d6] 0 0 100 []) (hp : ∀ M, Rep E ad out.2 M → P none M) {V : St} {M : MH} {x1 : Int32} {x2 : Int32} {x3 : Int32} {x4 : Int32} {x5 : Int32} {s0 : Int32} {d6 : Option Value} (hR : Rep E ad V M) (h : F_X4_weigh_61 kh kx100 fu V x1 x2 x3 x4 x5 s0 = some out) : G E X RX4 cX4_weigh 7 none false (rmD 5) P M [some (.ref (ad 1400 0)), some (.int (x1)), some (.int (x2)), some (.int (x3)), some (.int (x4)), some (rfq ad 1700 (x5)), d6] 0 0 61 [.int (s0)] := by
  unfold F_X4_weigh_61 at h
  refine t_istore (L' := [some (.ref (ad 1400 0)), some (.int (x1)), some (.int (x2)), some (.int (x3)), some (.int (x4)), some (rfq ad 1700 (x5)), some (.int (s0))]) DX4_weigh_61 (by decide) rfl ?_
  refine r_aload_n DX4_weigh_63 rfl ?_
  refine s_geta DX4_weigh_64 fl_X4_18 hR ct_1400 (one_cnt _) rfl ?_
  refine r_iload DX4_weigh_67 rfl ?_
  refine r_iload DX4_weigh_69 rfl ?_
  refine r_if_eq DX4_weigh_71 (fun c1 => ?_) (fun c1 => ?_)
  · have h := if_t c1 h
    exact S_X4_weigh_92 (fun hR h => hkh hR h) (fun hR h => hkx100 hR h) hp hR h
  · have h := if_f c1 h
    refine r_iload DX4_weigh_74 rfl ?_
    refine r_iload_n DX4_weigh_76 rfl ?_
    refine r_icmp_eq DX4_weigh_77 (fun c2 => ?_) (fun c2 => ?_)
    · have h := if_t c2 h
      exact S_X4_weigh_92 (fun hR h => hkh hR h) (fun hR h => hkx100 hR h) hp hR h
    · have h := if_f c2 h
      refine r_iconst (v := 1) DX4_weigh_80 ki_1 ?_
      refine t_aload (rfq_or _ _ _) DX4_weigh_81 rfl ?_
      obtain ⟨⟨hx3, hi4⟩, h⟩ := gd_inv h
      refine q_geti hx3 DX4_weigh_83 fl_X4_61 hR ct_1700 hi4 rfl ?_
      refine r_ishl DX4_weigh_86 ?_
      refine r_iconst (v := 1) DX4_weigh_87 ki_1 ?_
      refine r_isub DX4_weigh_88 ?_
      refine r_goto DX4_weigh_89 ?_
      exact S_X4_weigh_93 (fun hR h => hkh hR h) (fun hR h => hkx100 hR h) hp hR h
theorem S_X4_weigh_60 {E : EN} {X : CX} {P : Option Value → MH → Prop} {ad : AD} {fu : Nat} {out : Int32 × St} {kh : St → Int32 → Int32 → Int32 → Int32 → RR} {kx100 : St → RR} (hkh : ∀ {V : St} {M : MH} {x1 : Int32} {x2 : Int32} {x3 : Int32} {x4 : Int32} {d5 : Option Value} {d6 : Option Value}, Rep E ad V M → kh V x1 x2 x3 x4 = some out → G E X RX4 cX4_weigh 7 none false (rmD 5) P M [some (.ref (ad 1400 0)), some (.int (x1)), some (.int (x2)), some (.int (x3)), some (.int (x4)), d5, d6] 0 0 3 []) (hkx100 : ∀ {V : St} {M : MH} {d1 : Option Value} {d2 : Option Value} {d3 : Option Value} {d4 : Option Value} {d5 : Option Value} {d6 : Option Value}, Rep E ad V M → kx100 V  = some out → G E X RX4 cX4_weigh 7 none false (rmD 5) P M [some (.ref (ad 1400 0)), d1, d2, d3, d4, d5, d6] 0 0 100 []) (hp : ∀ M, Rep E ad out.2 M → P none M) {V : St} {M : MH} {x1 : Int32} {x2 : Int32} {x3 : Int32} {x4 : Int32} {x5 : Int32} {d6 : Option Value} (hR : Rep E ad V M) (h : F_X4_weigh_60 kh kx100 fu V x1 x2 x3 x4 x5 = some out) : G E X RX4 cX4_weigh 7 none false (rmD 5) P M [some (.ref (ad 1400 0)), some (.int (x1)), some (.int (x2)), some (.int (x3)), some (.int (x4)), some (rfq ad 1700 (x5)), d6] 0 0 60 [] := by
  unfold F_X4_weigh_60 at h
  refine r_iconst (v := 0) DX4_weigh_60 ki_0 ?_
  exact S_X4_weigh_61 (fun hR h => hkh hR h) (fun hR h => hkx100 hR h) hp hR h
theorem S_X4_weigh_3 {E : EN} {X : CX} {P : Option Value → MH → Prop} {ad : AD} {fu : Nat} {out : Int32 × St} {kh : St → Int32 → Int32 → Int32 → Int32 → RR} {kx100 : St → RR} (hkh : ∀ {V : St} {M : MH} {x1 : Int32} {x2 : Int32} {x3 : Int32} {x4 : Int32} {d5 : Option Value} {d6 : Option Value}, Rep E ad V M → kh V x1 x2 x3 x4 = some out → G E X RX4 cX4_weigh 7 none false (rmD 5) P M [some (.ref (ad 1400 0)), some (.int (x1)), some (.int (x2)), some (.int (x3)), some (.int (x4)), d5, d6] 0 0 3 []) (hkx100 : ∀ {V : St} {M : MH} {d1 : Option Value} {d2 : Option Value} {d3 : Option Value} {d4 : Option Value} {d5 : Option Value} {d6 : Option Value}, Rep E ad V M → kx100 V  = some out → G E X RX4 cX4_weigh 7 none false (rmD 5) P M [some (.ref (ad 1400 0)), d1, d2, d3, d4, d5, d6] 0 0 100 []) (hp : ∀ M, Rep E ad out.2 M → P none M) {V : St} {M : MH} {x1 : Int32} {x2 : Int32} {x3 : Int32} {x4 : Int32} {d5 : Option Value} {d6 : Option Value} (hR : Rep E ad V M) (h : F_X4_weigh_3 kh kx100 fu V x1 x2 x3 x4 = some out) : G E X RX4 cX4_weigh 7 none false (rmD 5) P M [some (.ref (ad 1400 0)), some (.int (x1)), some (.int (x2)), some (.int (x3)), some (.int (x4)), d5, d6] 0 0 3 [] := by
  unfold F_X4_weigh_3 at h
  refine r_iload DX4_weigh_3 rfl ?_
  refine r_aload_n DX4_weigh_5 rfl ?_
  refine s_geto DX4_weigh_6 fl_X4_12 hR ct_1400 (one_cnt _) rfl ?_
  refine s_lsize (Li := 1401) (g := 1700) DX4_weigh_9 cv_X4_42 hR (by decide) (by decide) (Nat.le_of_ble_eq_true rfl) ?_
  refine r_icmp_ge DX4_weigh_12 (fun c1 => ?_) (fun c1 => ?_)
  · have h := if_t c1 h
    exact hkx100 hR h
  · have h := if_f c1 h
    refine r_aload_n DX4_weigh_15 rfl ?_
    refine s_geto DX4_weigh_16 fl_X4_12 hR ct_1400 (one_cnt _) rfl ?_
    refine r_iload DX4_weigh_19 rfl ?_
    obtain ⟨⟨hx2, hi3⟩, h⟩ := gd_inv h
    refine s_lget (Li := 1401) (g := 1700) DX4_weigh_21 cv_X4_46 hR (by decide) hx2 hi3 (by decide) (Nat.le_of_ble_eq_true rfl) (fun M hR => ?_)
    refine q_cast hx2 DX4_weigh_24 wd_358 hR ct_1700 hi3 rfl ?_
    refine t_astore (L' := [some (.ref (ad 1400 0)), some (.int (x1)), some (.int (x2)), some (.int (x3)), some (.int (x4)), some (rfq ad 1700 (x4)), d6]) (rfq_or _ _ _) DX4_weigh_27 (by decide) rfl ?_
    refine t_aload (rfq_or _ _ _) DX4_weigh_29 rfl ?_
    refine q_geti hx2 DX4_weigh_31 fl_X4_52 hR ct_1700 hi3 rfl ?_
    refine r_iload_n DX4_weigh_34 rfl ?_
    refine r_icmp_gt DX4_weigh_35 (fun c4 => ?_) (fun c4 => ?_)
    · have h := if_t c4 h
      exact S_X4_weigh_60 (fun hR h => hkh hR h) (fun hR h => hkx100 hR h) hp hR h
    · have h := if_f c4 h
      refine t_aload (rfq_or _ _ _) DX4_weigh_38 rfl ?_
      refine q_geti hx2 DX4_weigh_40 fl_X4_55 hR ct_1700 hi3 rfl ?_
      refine r_iload_n DX4_weigh_43 rfl ?_
      refine r_icmp_gt DX4_weigh_44 (fun c5 => ?_) (fun c5 => ?_)
      · have h := if_t c5 h
        exact S_X4_weigh_60 (fun hR h => hkh hR h) (fun hR h => hkx100 hR h) hp hR h
      · have h := if_f c5 h
        refine r_iload_n DX4_weigh_47 rfl ?_
        refine t_aload (rfq_or _ _ _) DX4_weigh_48 rfl ?_
        refine q_geti hx2 DX4_weigh_50 fl_X4_58 hR ct_1700 hi3 rfl ?_
        refine r_icmp_gt DX4_weigh_53 (fun c6 => ?_) (fun c6 => ?_)
        · have h := if_t c6 h
          exact S_X4_weigh_60 (fun hR h => hkh hR h) (fun hR h => hkx100 hR h) hp hR h
        · have h := if_f c6 h
          refine r_iconst (v := 1) DX4_weigh_56 ki_1 ?_
          refine r_goto DX4_weigh_57 ?_
          exact S_X4_weigh_61 (fun hR h => hkh hR h) (fun hR h => hkx100 hR h) hp hR h
theorem SL_X4_weigh_3 {E : EN} {X : CX} {P : Option Value → MH → Prop} {ad : AD} {fu : Nat} {out : Int32 × St} {kx100 : St → RR} (hkx100 : ∀ {V : St} {M : MH} {d1 : Option Value} {d2 : Option Value} {d3 : Option Value} {d4 : Option Value} {d5 : Option Value} {d6 : Option Value}, Rep E ad V M → kx100 V  = some out → G E X RX4 cX4_weigh 7 none false (rmD 5) P M [some (.ref (ad 1400 0)), d1, d2, d3, d4, d5, d6] 0 0 100 []) (hp : ∀ M, Rep E ad out.2 M → P none M) : ∀ (n : Nat) {V : St} {M : MH} {x1 : Int32} {x2 : Int32} {x3 : Int32} {x4 : Int32} {d5 : Option Value} {d6 : Option Value}, Rep E ad V M → Lp_X4_weigh_3 kx100 fu n V x1 x2 x3 x4 = some out → G E X RX4 cX4_weigh 7 none false (rmD 5) P M [some (.ref (ad 1400 0)), some (.int (x1)), some (.int (x2)), some (.int (x3)), some (.int (x4)), d5, d6] 0 0 3 [] := by
  intro n
  induction n with
  | zero => intros; rename_i h; cases h
  | succ n ih => exact fun hR h => S_X4_weigh_3 (fun hR h => ih hR h) (fun hR h => hkx100 hR h) hp hR h
theorem S_X4_weigh_0 {E : EN} {X : CX} {P : Option Value → MH → Prop} {ad : AD} {fu : Nat} {out : Int32 × St} (hp : ∀ M, Rep E ad out.2 M → P none M) {V : St} {M : MH} {x1 : Int32} {x2 : Int32} {x3 : Int32} (hR : Rep E ad V M) (h : f_X4_weigh fu V x1 x2 x3 = some out) : G E X RX4 cX4_weigh 7 none false (rmD 5) P M [some (.ref (ad 1400 0)), some (.int (x1)), some (.int (x2)), some (.int (x3)), none, none, none] 0 0 0 [] := by
  unfold f_X4_weigh at h
  refine r_iconst (v := 0) DX4_weigh_0 ki_0 ?_
  refine t_istore (L' := [some (.ref (ad 1400 0)), some (.int (x1)), some (.int (x2)), some (.int (x3)), some (.int ((0 : Int32))), none, none]) DX4_weigh_1 (by decide) rfl ?_
  exact SL_X4_weigh_3 (fun hR h => S_X4_weigh_100 hp hR h) hp fu hR h
theorem C_X4_weigh {E : EN} {ad : AD} {fu : Nat} {out : Int32 × St} {V : St} {M : MH} {x1 : Int32} {x2 : Int32} {x3 : Int32} (l : Launch) (hR : Rep E ad V M) (h : f_X4_weigh fu V x1 x2 x3 = some out) : Ct E l yX4_weigh cX4_weigh 7 none (rmD 5) [.ref (ad 1400 0), .int (x1), .int (x2), .int (x3)] M (fun v M => v = none ∧ Rep E ad out.2 M) :=
  Ct.of (own := RX4) (ini := false) (L := [some (.ref (ad 1400 0)), some (.int (x1)), some (.int (x2)), some (.int (x3)), none, none, none]) rfl rfl (fun h => by cases h) rfl (Nat.le_of_ble_eq_true rfl) rfl (fun X _ => S_X4_weigh_0 (fun M hR => ⟨rfl, hR⟩) hR h)
theorem S_X11_askNow_0 {E : EN} {X : CX} {P : Option Value → MH → Prop} {ad : AD} {fu : Nat} {out : Int32 × St} (hp : ∀ M, Rep E ad out.2 M → P (some (.int out.1)) M) {V : St} {M : MH} {x1 : Int32} {x2 : Int32} {x3 : Int32} (hR : Rep E ad V M) (h : f_X11_askNow fu V x1 x2 x3 = some out) : G E X RX11 cX11_askNow 4 (some .int) false (rmD 6) P M [some (.ref (ad 2100 0)), some (.int (x1)), some (rfq ad 2000 (x2)), some (rfq ad 1600 (x3))] 0 0 0 [] := by
  unfold f_X11_askNow at h
  refine r_aload_n DX11_askNow_0 rfl ?_
  refine s_geto DX11_askNow_1 fl_X11_68 hR ct_2100 (one_cnt _) rfl ?_
  refine r_aload_n DX11_askNow_4 rfl ?_
  refine s_geti DX11_askNow_5 fl_X11_7 hR ct_2100 (one_cnt _) rfl ?_
  refine r_aload_n DX11_askNow_8 rfl ?_
  refine s_geti DX11_askNow_9 fl_X11_7 hR ct_2100 (one_cnt _) rfl ?_
  refine r_iconst (v := -1) DX11_askNow_12 ki_m1 ?_
  obtain ⟨r1, V2, hc3, h⟩ := bd_inv h
  refine k_callV (As := [.int ((V 2101 0 0)), .int ((V 2101 0 0)), .int ((-1 : Int32))]) (rest := []) (st1 := []) (w := none) DX11_askNow_13 cv_X11_245 hR ct_1400 (one_cnt _) rfl (C_X4_weigh (out := (r1, V2)) (cxL X) hR hc3) rfl (by decide) (by decide) rfl (Nat.le_of_ble_eq_true rfl) rfl (fun M hR => ?_)
  refine r_aload_n DX11_askNow_16 rfl ?_
  refine s_geto DX11_askNow_17 fl_X11_68 hR ct_2100 (one_cnt _) rfl ?_
  refine r_aload_n DX11_askNow_20 rfl ?_
  refine s_geti DX11_askNow_21 fl_X11_7 hR ct_2100 (one_cnt _) rfl ?_
  refine t_aload_n (rfq_or _ _ _) DX11_askNow_24 rfl ?_
  refine t_aload_n (rfq_or _ _ _) DX11_askNow_25 rfl ?_
  obtain ⟨r4, V5, hc6, h⟩ := bd_inv h
  refine k_callV (As := [.int ((V2 2101 0 0)), rfq ad 2000 (x2), rfq ad 1600 (x3)]) (rest := []) (st1 := []) (w := none) DX11_askNow_26 cv_X11_248 hR ct_1400 (one_cnt _) rfl (C_X4_setLetters (out := (r4, V5)) (cxL X) hR hc6) rfl (by decide) (by decide) rfl (Nat.le_of_ble_eq_true rfl) rfl (fun M hR => ?_)
  refine r_aload_n DX11_askNow_29 rfl ?_
  refine s_geto DX11_askNow_30 fl_X11_68 hR ct_2100 (one_cnt _) rfl ?_
  refine r_iload_n DX11_askNow_33 rfl ?_
  obtain ⟨r7, V8, hc9, h⟩ := bd_inv h
  refine k_callV (As := [.int (x1)]) (rest := []) (st1 := [.int (r7)]) (w := some (.int r7)) DX11_askNow_34 cv_X11_252 hR ct_1400 (one_cnt _) rfl (C_X4_lastNumber (out := (r7, V8)) (cxL X) hR hc9) rfl (by decide) (by decide) rfl (Nat.le_of_ble_eq_true rfl) rfl (fun M hR => ?_)
  cases h
  exact r_iret DX11_askNow_37 rfl ⟨Nat.le_refl 0, Nat.le_refl 0⟩ (hp M hR)
theorem C_X11_askNow {E : EN} {ad : AD} {fu : Nat} {out : Int32 × St} {V : St} {M : MH} {x1 : Int32} {x2 : Int32} {x3 : Int32} (l : Launch) (hR : Rep E ad V M) (h : f_X11_askNow fu V x1 x2 x3 = some out) : Ct E l yX11_askNow cX11_askNow 4 (some .int) (rmD 6) [.ref (ad 2100 0), .int (x1), rfq ad 2000 (x2), rfq ad 1600 (x3)] M (fun v M => v = (some (.int out.1)) ∧ Rep E ad out.2 M) :=
  Ct.of (own := RX11) (ini := false) (L := [some (.ref (ad 2100 0)), some (.int (x1)), some (rfq ad 2000 (x2)), some (rfq ad 1600 (x3))]) rfl rfl (fun h => by cases h) (by simp only [List.all_cons, List.all_nil, rfq_cat]; rfl) (Nat.le_of_ble_eq_true rfl) rfl (fun X _ => S_X11_askNow_0 (fun M hR => ⟨rfl, hR⟩) hR h)
theorem S_X11_findDrawing_32 {E : EN} {X : CX} {P : Option Value → MH → Prop} {ad : AD} {fu : Nat} {out : Int32 × St} (hp : ∀ M, Rep E ad out.2 M → P (some (rfq ad 1200 out.1)) M) {V : St} {M : MH} {s0 : Int32} {d0 : Option Value} {d1 : Option Value} (hR : Rep E ad V M) (h : F_X11_findDrawing_32 fu V s0 = some out) : G E X RX11 cX11_findDrawing 2 (some (.object "UtilityBoard$Drawing")) false (rmD 4) P M [d0, d1] 0 0 32 [rfq ad 1200 (s0)] := by
  unfold F_X11_findDrawing_32 at h
  cases h
  exact r_aret DX11_findDrawing_32 rfl (Or.inl ⟨_, rfl⟩) (rfq_or _ _ _) ⟨Nat.le_refl 0, Nat.le_refl 0⟩ (hp M hR)
theorem S_X11_findDrawing_0 {E : EN} {X : CX} {P : Option Value → MH → Prop} {ad : AD} {fu : Nat} {out : Int32 × St} (hp : ∀ M, Rep E ad out.2 M → P (some (rfq ad 1200 out.1)) M) {V : St} {M : MH} {x1 : Int32} (hR : Rep E ad V M) (h : f_X11_findDrawing fu V x1 = some out) : G E X RX11 cX11_findDrawing 2 (some (.object "UtilityBoard$Drawing")) false (rmD 4) P M [some (.ref (ad 2100 0)), some (.int (x1))] 0 0 0 [] := by
  unfold f_X11_findDrawing at h
  refine r_iload_n DX11_findDrawing_0 rfl ?_
  refine r_iconst (v := 0) DX11_findDrawing_1 ki_0 ?_
  refine r_aload_n DX11_findDrawing_2 rfl ?_
  refine s_geto DX11_findDrawing_3 fl_X11_23 hR ct_2100 (one_cnt _) rfl ?_
  refine s_lsize (Li := 2104) (g := 1200) DX11_findDrawing_6 cv_X11_89 hR (by decide) (by decide) (Nat.le_of_ble_eq_true rfl) ?_
  refine r_iconst (v := 1) DX11_findDrawing_9 ki_1 ?_
  refine r_isub DX11_findDrawing_10 ?_
  obtain ⟨r1, V2, hc3, h⟩ := bd_inv h
  refine k_callS (As := [.int (x1), .int ((0 : Int32)), .int ((V 2104 0 0) - (1 : Int32))]) (rest := []) (st1 := [.int (r1)]) (w := some (.int r1)) DX11_findDrawing_11 cs_X11_111 (C_X11_within (out := (r1, V2)) (cxL X) hR hc3) rfl (by decide) (by decide) rfl (Nat.le_of_ble_eq_true rfl) rfl (fun M hR => ?_)
  refine r_if_eq DX11_findDrawing_14 (fun c4 => ?_) (fun c4 => ?_)
  · have h := if_t c4 h
    refine q_null (ad := ad) (g := 1200) DX11_findDrawing_31 ?_
    exact S_X11_findDrawing_32 hp hR h
  · have h := if_f c4 h
    refine r_aload_n DX11_findDrawing_17 rfl ?_
    refine s_geto DX11_findDrawing_18 fl_X11_23 hR ct_2100 (one_cnt _) rfl ?_
    refine r_iload_n DX11_findDrawing_21 rfl ?_
    obtain ⟨⟨hx5, hi6⟩, h⟩ := gd_inv h
    refine s_lget (Li := 2104) (g := 1200) DX11_findDrawing_22 cv_X11_93 hR (by decide) hx5 hi6 (by decide) (Nat.le_of_ble_eq_true rfl) (fun M hR => ?_)
    refine q_cast hx5 DX11_findDrawing_25 wd_499 hR ct_1200 hi6 rfl ?_
    refine r_goto DX11_findDrawing_28 ?_
    exact S_X11_findDrawing_32 hp hR h
theorem C_X11_findDrawing {E : EN} {ad : AD} {fu : Nat} {out : Int32 × St} {V : St} {M : MH} {x1 : Int32} (l : Launch) (hR : Rep E ad V M) (h : f_X11_findDrawing fu V x1 = some out) : Ct E l yX11_findDrawing cX11_findDrawing 2 (some (.object "UtilityBoard$Drawing")) (rmD 4) [.ref (ad 2100 0), .int (x1)] M (fun v M => v = (some (rfq ad 1200 out.1)) ∧ Rep E ad out.2 M) :=
  Ct.of (own := RX11) (ini := false) (L := [some (.ref (ad 2100 0)), some (.int (x1))]) rfl rfl (fun h => by cases h) rfl (Nat.le_of_ble_eq_true rfl) rfl (fun X _ => S_X11_findDrawing_0 (fun M hR => ⟨rfl, hR⟩) hR h)
theorem S_X2_addCut_100 {E : EN} {X : CX} {P : Option Value → MH → Prop} {ad : AD} {fu : Nat} {out : Int32 × St} (hp : ∀ M, Rep E ad out.2 M → P none M) {V : St} {M : MH} {d0 : Option Value} {d1 : Option Value} {d2 : Option Value} {d3 : Option Value} (hR : Rep E ad V M) (h : F_X2_addCut_100 fu V = some out) : G E X RX2 cX2_addCut 4 none false (rmD 2) P M [d0, d1, d2, d3] 0 0 100 [] := by
  unfold F_X2_addCut_100 at h
  cases h
  exact r_vret DX2_addCut_100 rfl ⟨Nat.le_refl 0, Nat.le_refl 0⟩ (hp M hR)
theorem S_X2_addCut_40 {E : EN} {X : CX} {P : Option Value → MH → Prop} {ad : AD} {fu : Nat} {out : Int32 × St} (hp : ∀ M, Rep E ad out.2 M → P none M) {V : St} {M : MH} {x0 : Int32} {x1 : Int32} {x2 : Int32} {d3 : Option Value} (hR : Rep E ad V M) (h : F_X2_addCut_40 fu V x0 x1 x2 = some out) : G E X RX2 cX2_addCut 4 none false (rmD 2) P M [some (rfq ad 1200 (x0)), some (.int (x1)), some (.int (x2)), d3] 0 0 40 [] := by
  unfold F_X2_addCut_40 at h
  refine t_aload_n (rfq_or _ _ _) DX2_addCut_40 rfl ?_
  obtain ⟨⟨hx1, hi2⟩, h⟩ := gd_inv h
  refine q_geti hx1 DX2_addCut_41 fl_X2_49 hR ct_1200 hi2 rfl ?_
  refine r_bipush (v := 127) DX2_addCut_44 kb_127 ?_
  refine r_icmp_ge DX2_addCut_46 (fun c3 => ?_) (fun c3 => ?_)
  · have h := if_t c3 h
    exact S_X2_addCut_100 hp hR h
  · have h := if_f c3 h
    refine t_aload_n (rfq_or _ _ _) DX2_addCut_49 rfl ?_
    refine q_geta hx1 DX2_addCut_50 fl_X2_27 hR ct_1200 hi2 rfl ?_
    refine t_aload_n (rfq_or _ _ _) DX2_addCut_53 rfl ?_
    refine q_geti hx1 DX2_addCut_54 fl_X2_49 hR ct_1200 hi2 rfl ?_
    refine r_iload_n DX2_addCut_57 rfl ?_
    obtain ⟨hg4, h⟩ := gd_inv h
    obtain ⟨V5, hv6, h⟩ := bv_inv h
    refine s_iast DX2_addCut_58 hR oka_1207 ct_1207 (hi2) hg4 (fun M hR => ?_)
    have hR := hR.cg hv6
    refine t_aload_n (rfq_or _ _ _) DX2_addCut_59 rfl ?_
    have hi7 := cnt_keep hv6 (b := 2104) (by decide) hi2
    refine q_geta hx1 DX2_addCut_60 fl_X2_30 hR ct_1200 hi7 rfl ?_
    refine t_aload_n (rfq_or _ _ _) DX2_addCut_63 rfl ?_
    refine q_geti hx1 DX2_addCut_64 fl_X2_49 hR ct_1200 hi7 rfl ?_
    refine r_iload_n DX2_addCut_67 rfl ?_
    obtain ⟨hg8, h⟩ := gd_inv h
    obtain ⟨V9, hv10, h⟩ := bv_inv h
    refine s_iast DX2_addCut_68 hR oka_1208 ct_1208 (hi7) hg8 (fun M hR => ?_)
    have hR := hR.cg hv10
    refine t_aload_n (rfq_or _ _ _) DX2_addCut_69 rfl ?_
    have hi11 := cnt_keep hv10 (b := 2104) (by decide) hi7
    refine q_geta hx1 DX2_addCut_70 fl_X2_33 hR ct_1200 hi11 rfl ?_
    refine t_aload_n (rfq_or _ _ _) DX2_addCut_73 rfl ?_
    refine q_geti hx1 DX2_addCut_74 fl_X2_49 hR ct_1200 hi11 rfl ?_
    refine s_gets0 DX2_addCut_77 wd_602 ?_
    refine r_iconst (v := 2) DX2_addCut_80 ki_2 ?_
    obtain ⟨hg12, h⟩ := gd_inv h
    refine s_gald0 DX2_addCut_81 hg12 ?_
    refine r_iload_n DX2_addCut_82 rfl ?_
    obtain ⟨r13, V14, hc15, h⟩ := bd_inv h
    refine k_callS (As := [.int (x1)]) (rest := [.int ((gT0 ((2 : Int32)))), .int ((V9 1214 (x0).toNatClampNeg 0)), .ref (ad 1209 ((x0).toNatClampNeg))]) (st1 := [.int (r13), .int ((gT0 ((2 : Int32)))), .int ((V9 1214 (x0).toNatClampNeg 0)), .ref (ad 1209 ((x0).toNatClampNeg))]) (w := some (.int r13)) DX2_addCut_83 cs_X2_108 (C_J6_bitCount_0f7a4 (out := (r13, V14)) (cxL X) hR hc15) rfl (by decide) (by decide) rfl (Nat.le_of_ble_eq_true rfl) rfl (fun M hR => ?_)
    refine r_imul DX2_addCut_86 ?_
    refine r_iload_n DX2_addCut_87 rfl ?_
    refine r_isub DX2_addCut_88 ?_
    obtain ⟨⟨hx16, hi17⟩, h⟩ := gd_inv h
    obtain ⟨hg18, h⟩ := gd_inv h
    obtain ⟨V19, hv20, h⟩ := bv_inv h
    refine s_iast DX2_addCut_89 hR oka_1209 ct_1209 (hi17) hg18 (fun M hR => ?_)
    have hR := hR.cg hv20
    refine t_aload_n (rfq_or _ _ _) DX2_addCut_90 rfl ?_
    refine r_dup DX2_addCut_91 (rfq_cat _ _ _) ?_
    have hi21 := cnt_keep hv20 (b := 2104) (by decide) hi17
    refine q_geti hx16 DX2_addCut_92 fl_X2_49 hR ct_1200 hi21 rfl ?_
    refine r_iconst (v := 1) DX2_addCut_95 ki_1 ?_
    refine r_iadd DX2_addCut_96 ?_
    obtain ⟨V22, hv23, h⟩ := bv_inv h
    refine q_puti hx16 DX2_addCut_97 fp_X2_49 hR oks_1214 ct_1200 hi21 rfl rfl rfl (fun M hR => ?_)
    have hR := hR.cg hv23
    exact S_X2_addCut_100 hp hR h
theorem S_X2_addCut_34 {E : EN} {X : CX} {P : Option Value → MH → Prop} {ad : AD} {fu : Nat} {out : Int32 × St} {kh : St → Int32 → Int32 → Int32 → Int32 → RR} {kx33 : St → RR} {kx40 : St → Int32 → Int32 → Int32 → RR} (hkh : ∀ {V : St} {M : MH} {x0 : Int32} {x1 : Int32} {x2 : Int32} {x3 : Int32}, Rep E ad V M → kh V x0 x1 x2 x3 = some out → G E X RX2 cX2_addCut 4 none false (rmD 2) P M [some (rfq ad 1200 (x0)), some (.int (x1)), some (.int (x2)), some (.int (x3))] 0 0 2 []) (hkx33 : ∀ {V : St} {M : MH} {d0 : Option Value} {d1 : Option Value} {d2 : Option Value} {d3 : Option Value}, Rep E ad V M → kx33 V  = some out → G E X RX2 cX2_addCut 4 none false (rmD 2) P M [d0, d1, d2, d3] 0 0 33 []) (hkx40 : ∀ {V : St} {M : MH} {x0 : Int32} {x1 : Int32} {x2 : Int32} {d3 : Option Value}, Rep E ad V M → kx40 V x0 x1 x2 = some out → G E X RX2 cX2_addCut 4 none false (rmD 2) P M [some (rfq ad 1200 (x0)), some (.int (x1)), some (.int (x2)), d3] 0 0 40 []) (hp : ∀ M, Rep E ad out.2 M → P none M) {V : St} {M : MH} {x0 : Int32} {x1 : Int32} {x2 : Int32} {x3 : Int32} (hR : Rep E ad V M) (h : F_X2_addCut_34 kh kx33 kx40 fu V x0 x1 x2 x3 = some out) : G E X RX2 cX2_addCut 4 none false (rmD 2) P M [some (rfq ad 1200 (x0)), some (.int (x1)), some (.int (x2)), some (.int (x3))] 0 0 34 [] := by
  unfold F_X2_addCut_34 at h
  refine t_iinc (v := 1) (L' := [some (rfq ad 1200 (x0)), some (.int (x1)), some (.int (x2)), some (.int (x3 + 1))]) DX2_addCut_34 rfl ki_1 (by decide) rfl ?_
  refine r_goto DX2_addCut_37 ?_
  exact hkh hR h
theorem S_X2_addCut_33 {E : EN} {X : CX} {P : Option Value → MH → Prop} {ad : AD} {fu : Nat} {out : Int32 × St} (hp : ∀ M, Rep E ad out.2 M → P none M) {V : St} {M : MH} {d0 : Option Value} {d1 : Option Value} {d2 : Option Value} {d3 : Option Value} (hR : Rep E ad V M) (h : F_X2_addCut_33 fu V = some out) : G E X RX2 cX2_addCut 4 none false (rmD 2) P M [d0, d1, d2, d3] 0 0 33 [] := by
  unfold F_X2_addCut_33 at h
  cases h
  exact r_vret DX2_addCut_33 rfl ⟨Nat.le_refl 0, Nat.le_refl 0⟩ (hp M hR)
theorem S_X2_addCut_2 {E : EN} {X : CX} {P : Option Value → MH → Prop} {ad : AD} {fu : Nat} {out : Int32 × St} {kh : St → Int32 → Int32 → Int32 → Int32 → RR} {kx33 : St → RR} {kx40 : St → Int32 → Int32 → Int32 → RR} (hkh : ∀ {V : St} {M : MH} {x0 : Int32} {x1 : Int32} {x2 : Int32} {x3 : Int32}, Rep E ad V M → kh V x0 x1 x2 x3 = some out → G E X RX2 cX2_addCut 4 none false (rmD 2) P M [some (rfq ad 1200 (x0)), some (.int (x1)), some (.int (x2)), some (.int (x3))] 0 0 2 []) (hkx33 : ∀ {V : St} {M : MH} {d0 : Option Value} {d1 : Option Value} {d2 : Option Value} {d3 : Option Value}, Rep E ad V M → kx33 V  = some out → G E X RX2 cX2_addCut 4 none false (rmD 2) P M [d0, d1, d2, d3] 0 0 33 []) (hkx40 : ∀ {V : St} {M : MH} {x0 : Int32} {x1 : Int32} {x2 : Int32} {d3 : Option Value}, Rep E ad V M → kx40 V x0 x1 x2 = some out → G E X RX2 cX2_addCut 4 none false (rmD 2) P M [some (rfq ad 1200 (x0)), some (.int (x1)), some (.int (x2)), d3] 0 0 40 []) (hp : ∀ M, Rep E ad out.2 M → P none M) {V : St} {M : MH} {x0 : Int32} {x1 : Int32} {x2 : Int32} {x3 : Int32} (hR : Rep E ad V M) (h : F_X2_addCut_2 kh kx33 kx40 fu V x0 x1 x2 x3 = some out) : G E X RX2 cX2_addCut 4 none false (rmD 2) P M [some (rfq ad 1200 (x0)), some (.int (x1)), some (.int (x2)), some (.int (x3))] 0 0 2 [] := by
  unfold F_X2_addCut_2 at h
  refine r_iload_n DX2_addCut_2 rfl ?_
  refine t_aload_n (rfq_or _ _ _) DX2_addCut_3 rfl ?_
  obtain ⟨⟨hx1, hi2⟩, h⟩ := gd_inv h
  refine q_geti hx1 DX2_addCut_4 fl_X2_49 hR ct_1200 hi2 rfl ?_
  refine r_icmp_ge DX2_addCut_7 (fun c3 => ?_) (fun c3 => ?_)
  · have h := if_t c3 h
    exact hkx40 hR h
  · have h := if_f c3 h
    refine t_aload_n (rfq_or _ _ _) DX2_addCut_10 rfl ?_
    refine q_geta hx1 DX2_addCut_11 fl_X2_27 hR ct_1200 hi2 rfl ?_
    refine r_iload_n DX2_addCut_14 rfl ?_
    obtain ⟨hg4, h⟩ := gd_inv h
    refine s_iald DX2_addCut_15 hR ct_1207 (hi2) hg4 ?_
    refine r_iload_n DX2_addCut_16 rfl ?_
    refine r_iconst (v := -1) DX2_addCut_17 ki_m1 ?_
    refine r_ixor DX2_addCut_18 ?_
    refine r_iand DX2_addCut_19 ?_
    refine r_if_ne DX2_addCut_20 (fun c5 => ?_) (fun c5 => ?_)
    · have h := if_f c5 h
      exact S_X2_addCut_34 (fun hR h => hkh hR h) (fun hR h => hkx33 hR h) (fun hR h => hkx40 hR h) hp hR h
    · have h := if_t c5 h
      refine t_aload_n (rfq_or _ _ _) DX2_addCut_23 rfl ?_
      refine q_geta hx1 DX2_addCut_24 fl_X2_30 hR ct_1200 hi2 rfl ?_
      refine r_iload_n DX2_addCut_27 rfl ?_
      obtain ⟨hg6, h⟩ := gd_inv h
      refine s_iald DX2_addCut_28 hR ct_1208 (hi2) hg6 ?_
      refine r_iload_n DX2_addCut_29 rfl ?_
      refine r_icmp_lt DX2_addCut_30 (fun c7 => ?_) (fun c7 => ?_)
      · have h := if_t c7 h
        exact S_X2_addCut_34 (fun hR h => hkh hR h) (fun hR h => hkx33 hR h) (fun hR h => hkx40 hR h) hp hR h
      · have h := if_f c7 h
        exact hkx33 hR h
theorem SL_X2_addCut_2 {E : EN} {X : CX} {P : Option Value → MH → Prop} {ad : AD} {fu : Nat} {out : Int32 × St} {kx33 : St → RR} {kx40 : St → Int32 → Int32 → Int32 → RR} (hkx33 : ∀ {V : St} {M : MH} {d0 : Option Value} {d1 : Option Value} {d2 : Option Value} {d3 : Option Value}, Rep E ad V M → kx33 V  = some out → G E X RX2 cX2_addCut 4 none false (rmD 2) P M [d0, d1, d2, d3] 0 0 33 []) (hkx40 : ∀ {V : St} {M : MH} {x0 : Int32} {x1 : Int32} {x2 : Int32} {d3 : Option Value}, Rep E ad V M → kx40 V x0 x1 x2 = some out → G E X RX2 cX2_addCut 4 none false (rmD 2) P M [some (rfq ad 1200 (x0)), some (.int (x1)), some (.int (x2)), d3] 0 0 40 []) (hp : ∀ M, Rep E ad out.2 M → P none M) : ∀ (n : Nat) {V : St} {M : MH} {x0 : Int32} {x1 : Int32} {x2 : Int32} {x3 : Int32}, Rep E ad V M → Lp_X2_addCut_2 kx33 kx40 fu n V x0 x1 x2 x3 = some out → G E X RX2 cX2_addCut 4 none false (rmD 2) P M [some (rfq ad 1200 (x0)), some (.int (x1)), some (.int (x2)), some (.int (x3))] 0 0 2 [] := by
  intro n
  induction n with
  | zero => intros; rename_i h; cases h
  | succ n ih => exact fun hR h => S_X2_addCut_2 (fun hR h => ih hR h) (fun hR h => hkx33 hR h) (fun hR h => hkx40 hR h) hp hR h
theorem S_X2_addCut_0 {E : EN} {X : CX} {P : Option Value → MH → Prop} {ad : AD} {fu : Nat} {out : Int32 × St} (hp : ∀ M, Rep E ad out.2 M → P none M) {V : St} {M : MH} {x0 : Int32} {x1 : Int32} {x2 : Int32} (hR : Rep E ad V M) (h : f_X2_addCut fu V x0 x1 x2 = some out) : G E X RX2 cX2_addCut 4 none false (rmD 2) P M [some (rfq ad 1200 (x0)), some (.int (x1)), some (.int (x2)), none] 0 0 0 [] := by
  unfold f_X2_addCut at h
  refine r_iconst (v := 0) DX2_addCut_0 ki_0 ?_
  refine t_istore_n (L' := [some (rfq ad 1200 (x0)), some (.int (x1)), some (.int (x2)), some (.int ((0 : Int32)))]) DX2_addCut_1 (by decide) rfl ?_
  exact SL_X2_addCut_2 (fun hR h => S_X2_addCut_33 hp hR h) (fun hR h => S_X2_addCut_40 hp hR h) hp fu hR h
theorem C_X2_addCut {E : EN} {ad : AD} {fu : Nat} {out : Int32 × St} {V : St} {M : MH} {x0 : Int32} {x1 : Int32} {x2 : Int32} (l : Launch) (hR : Rep E ad V M) (h : f_X2_addCut fu V x0 x1 x2 = some out) : Ct E l yX2_addCut cX2_addCut 4 none (rmD 2) [rfq ad 1200 (x0), .int (x1), .int (x2)] M (fun v M => v = none ∧ Rep E ad out.2 M) :=
  Ct.of (own := RX2) (ini := false) (L := [some (rfq ad 1200 (x0)), some (.int (x1)), some (.int (x2)), none]) rfl rfl (fun h => by cases h) (by simp only [List.all_cons, List.all_nil, rfq_cat]; rfl) (Nat.le_of_ble_eq_true rfl) rfl (fun X _ => S_X2_addCut_0 (fun M hR => ⟨rfl, hR⟩) hR h)
theorem S_X2_greatestLoad_43 {E : EN} {X : CX} {P : Option Value → MH → Prop} {ad : AD} {fu : Nat} {out : Int32 × St} (hp : ∀ M, Rep E ad out.2 M → P (some (.int out.1)) M) {V : St} {M : MH} {x2 : Int32} {d0 : Option Value} {d1 : Option Value} {d3 : Option Value} (hR : Rep E ad V M) (h : F_X2_greatestLoad_43 fu V x2 = some out) : G E X RX2 cX2_greatestLoad 4 (some .int) false (rmD 2) P M [d0, d1, some (.int (x2)), d3] 0 0 43 [] := by
  unfold F_X2_greatestLoad_43 at h
  refine r_iload_n DX2_greatestLoad_43 rfl ?_
  cases h
  exact r_iret DX2_greatestLoad_44 rfl ⟨Nat.le_refl 0, Nat.le_refl 0⟩ (hp M hR)
theorem S_X2_greatestLoad_37 {E : EN} {X : CX} {P : Option Value → MH → Prop} {ad : AD} {fu : Nat} {out : Int32 × St} {kh : St → Int32 → Int32 → Int32 → Int32 → RR} {kx43 : St → Int32 → RR} (hkh : ∀ {V : St} {M : MH} {x0 : Int32} {x1 : Int32} {x2 : Int32} {x3 : Int32}, Rep E ad V M → kh V x0 x1 x2 x3 = some out → G E X RX2 cX2_greatestLoad 4 (some .int) false (rmD 2) P M [some (rfq ad 1200 (x0)), some (.int (x1)), some (.int (x2)), some (.int (x3))] 0 0 4 []) (hkx43 : ∀ {V : St} {M : MH} {x2 : Int32} {d0 : Option Value} {d1 : Option Value} {d3 : Option Value}, Rep E ad V M → kx43 V x2 = some out → G E X RX2 cX2_greatestLoad 4 (some .int) false (rmD 2) P M [d0, d1, some (.int (x2)), d3] 0 0 43 []) (hp : ∀ M, Rep E ad out.2 M → P (some (.int out.1)) M) {V : St} {M : MH} {x0 : Int32} {x1 : Int32} {x2 : Int32} {x3 : Int32} (hR : Rep E ad V M) (h : F_X2_greatestLoad_37 kh kx43 fu V x0 x1 x2 x3 = some out) : G E X RX2 cX2_greatestLoad 4 (some .int) false (rmD 2) P M [some (rfq ad 1200 (x0)), some (.int (x1)), some (.int (x2)), some (.int (x3))] 0 0 37 [] := by
  unfold F_X2_greatestLoad_37 at h
  refine t_iinc (v := 1) (L' := [some (rfq ad 1200 (x0)), some (.int (x1)), some (.int (x2)), some (.int (x3 + 1))]) DX2_greatestLoad_37 rfl ki_1 (by decide) rfl ?_
  refine r_goto DX2_greatestLoad_40 ?_
  exact hkh hR h
theorem S_X2_greatestLoad_4 {E : EN} {X : CX} {P : Option Value → MH → Prop} {ad : AD} {fu : Nat} {out : Int32 × St} {kh : St → Int32 → Int32 → Int32 → Int32 → RR} {kx43 : St → Int32 → RR} (hkh : ∀ {V : St} {M : MH} {x0 : Int32} {x1 : Int32} {x2 : Int32} {x3 : Int32}, Rep E ad V M → kh V x0 x1 x2 x3 = some out → G E X RX2 cX2_greatestLoad 4 (some .int) false (rmD 2) P M [some (rfq ad 1200 (x0)), some (.int (x1)), some (.int (x2)), some (.int (x3))] 0 0 4 []) (hkx43 : ∀ {V : St} {M : MH} {x2 : Int32} {d0 : Option Value} {d1 : Option Value} {d3 : Option Value}, Rep E ad V M → kx43 V x2 = some out → G E X RX2 cX2_greatestLoad 4 (some .int) false (rmD 2) P M [d0, d1, some (.int (x2)), d3] 0 0 43 []) (hp : ∀ M, Rep E ad out.2 M → P (some (.int out.1)) M) {V : St} {M : MH} {x0 : Int32} {x1 : Int32} {x2 : Int32} {x3 : Int32} (hR : Rep E ad V M) (h : F_X2_greatestLoad_4 kh kx43 fu V x0 x1 x2 x3 = some out) : G E X RX2 cX2_greatestLoad 4 (some .int) false (rmD 2) P M [some (rfq ad 1200 (x0)), some (.int (x1)), some (.int (x2)), some (.int (x3))] 0 0 4 [] := by
  unfold F_X2_greatestLoad_4 at h
  refine r_iload_n DX2_greatestLoad_4 rfl ?_
  refine t_aload_n (rfq_or _ _ _) DX2_greatestLoad_5 rfl ?_
  obtain ⟨⟨hx1, hi2⟩, h⟩ := gd_inv h
  refine q_geti hx1 DX2_greatestLoad_6 fl_X2_46 hR ct_1200 hi2 rfl ?_
  refine r_icmp_ge DX2_greatestLoad_9 (fun c3 => ?_) (fun c3 => ?_)
  · have h := if_t c3 h
    exact hkx43 hR h
  · have h := if_f c3 h
    refine r_iload_n DX2_greatestLoad_12 rfl ?_
    refine t_aload_n (rfq_or _ _ _) DX2_greatestLoad_13 rfl ?_
    refine q_geta hx1 DX2_greatestLoad_14 fl_X2_21 hR ct_1200 hi2 rfl ?_
    refine r_iload_n DX2_greatestLoad_17 rfl ?_
    obtain ⟨hg4, h⟩ := gd_inv h
    refine s_iald DX2_greatestLoad_18 hR ct_1205 (hi2) hg4 ?_
    refine r_ishr DX2_greatestLoad_19 ?_
    refine r_iconst (v := 1) DX2_greatestLoad_20 ki_1 ?_
    refine r_iand DX2_greatestLoad_21 ?_
    refine r_iconst (v := 1) DX2_greatestLoad_22 ki_1 ?_
    refine r_icmp_ne DX2_greatestLoad_23 (fun c5 => ?_) (fun c5 => ?_)
    · have h := if_f c5 h
      exact S_X2_greatestLoad_37 (fun hR h => hkh hR h) (fun hR h => hkx43 hR h) hp hR h
    · have h := if_t c5 h
      refine r_iload_n DX2_greatestLoad_26 rfl ?_
      refine t_aload_n (rfq_or _ _ _) DX2_greatestLoad_27 rfl ?_
      refine q_geta hx1 DX2_greatestLoad_28 fl_X2_24 hR ct_1200 hi2 rfl ?_
      refine r_iload_n DX2_greatestLoad_31 rfl ?_
      obtain ⟨hg6, h⟩ := gd_inv h
      refine s_iald DX2_greatestLoad_32 hR ct_1206 (hi2) hg6 ?_
      refine r_mmax DX2_greatestLoad_33 wd_593 (Nat.le_of_ble_eq_true rfl) (Nat.le_of_ble_eq_true rfl) ?_
      refine t_istore_n (L' := [some (rfq ad 1200 (x0)), some (.int (x1)), some (.int ((if x2 < (V 1206 ((x0).toNatClampNeg) (x3).toNatClampNeg) then (V 1206 ((x0).toNatClampNeg) (x3).toNatClampNeg) else x2))), some (.int (x3))]) DX2_greatestLoad_36 (by decide) rfl ?_
      exact S_X2_greatestLoad_37 (fun hR h => hkh hR h) (fun hR h => hkx43 hR h) hp hR h
theorem SL_X2_greatestLoad_4 {E : EN} {X : CX} {P : Option Value → MH → Prop} {ad : AD} {fu : Nat} {out : Int32 × St} {kx43 : St → Int32 → RR} (hkx43 : ∀ {V : St} {M : MH} {x2 : Int32} {d0 : Option Value} {d1 : Option Value} {d3 : Option Value}, Rep E ad V M → kx43 V x2 = some out → G E X RX2 cX2_greatestLoad 4 (some .int) false (rmD 2) P M [d0, d1, some (.int (x2)), d3] 0 0 43 []) (hp : ∀ M, Rep E ad out.2 M → P (some (.int out.1)) M) : ∀ (n : Nat) {V : St} {M : MH} {x0 : Int32} {x1 : Int32} {x2 : Int32} {x3 : Int32}, Rep E ad V M → Lp_X2_greatestLoad_4 kx43 fu n V x0 x1 x2 x3 = some out → G E X RX2 cX2_greatestLoad 4 (some .int) false (rmD 2) P M [some (rfq ad 1200 (x0)), some (.int (x1)), some (.int (x2)), some (.int (x3))] 0 0 4 [] := by
  intro n
  induction n with
  | zero => intros; rename_i h; cases h
  | succ n ih => exact fun hR h => S_X2_greatestLoad_4 (fun hR h => ih hR h) (fun hR h => hkx43 hR h) hp hR h
theorem S_X2_greatestLoad_0 {E : EN} {X : CX} {P : Option Value → MH → Prop} {ad : AD} {fu : Nat} {out : Int32 × St} (hp : ∀ M, Rep E ad out.2 M → P (some (.int out.1)) M) {V : St} {M : MH} {x0 : Int32} {x1 : Int32} (hR : Rep E ad V M) (h : f_X2_greatestLoad fu V x0 x1 = some out) : G E X RX2 cX2_greatestLoad 4 (some .int) false (rmD 2) P M [some (rfq ad 1200 (x0)), some (.int (x1)), none, none] 0 0 0 [] := by
  unfold f_X2_greatestLoad at h
  refine r_iconst (v := 0) DX2_greatestLoad_0 ki_0 ?_
  refine t_istore_n (L' := [some (rfq ad 1200 (x0)), some (.int (x1)), some (.int ((0 : Int32))), none]) DX2_greatestLoad_1 (by decide) rfl ?_
  refine r_iconst (v := 0) DX2_greatestLoad_2 ki_0 ?_
  refine t_istore_n (L' := [some (rfq ad 1200 (x0)), some (.int (x1)), some (.int ((0 : Int32))), some (.int ((0 : Int32)))]) DX2_greatestLoad_3 (by decide) rfl ?_
  exact SL_X2_greatestLoad_4 (fun hR h => S_X2_greatestLoad_43 hp hR h) hp fu hR h
theorem C_X2_greatestLoad {E : EN} {ad : AD} {fu : Nat} {out : Int32 × St} {V : St} {M : MH} {x0 : Int32} {x1 : Int32} (l : Launch) (hR : Rep E ad V M) (h : f_X2_greatestLoad fu V x0 x1 = some out) : Ct E l yX2_greatestLoad cX2_greatestLoad 4 (some .int) (rmD 2) [rfq ad 1200 (x0), .int (x1)] M (fun v M => v = (some (.int out.1)) ∧ Rep E ad out.2 M) :=
  Ct.of (own := RX2) (ini := false) (L := [some (rfq ad 1200 (x0)), some (.int (x1)), none, none]) rfl rfl (fun h => by cases h) (by simp only [List.all_cons, List.all_nil, rfq_cat]; rfl) (Nat.le_of_ble_eq_true rfl) rfl (fun X _ => S_X2_greatestLoad_0 (fun M hR => ⟨rfl, hR⟩) hR h)
theorem S_X2_sticksOutOf_47 {E : EN} {X : CX} {P : Option Value → MH → Prop} {ad : AD} {fu : Nat} {out : Int32 × St} (hp : ∀ M, Rep E ad out.2 M → P (some (.int out.1)) M) {V : St} {M : MH} {x2 : Int32} {d0 : Option Value} {d1 : Option Value} {d3 : Option Value} (hR : Rep E ad V M) (h : F_X2_sticksOutOf_47 fu V x2 = some out) : G E X RX2 cX2_sticksOutOf 4 (some .int) false (rmD 1) P M [d0, d1, some (.int (x2)), d3] 0 0 47 [] := by
  unfold F_X2_sticksOutOf_47 at h
  refine r_iload_n DX2_sticksOutOf_47 rfl ?_
  cases h
  exact r_iret DX2_sticksOutOf_48 rfl ⟨Nat.le_refl 0, Nat.le_refl 0⟩ (hp M hR)
theorem S_X2_sticksOutOf_41 {E : EN} {X : CX} {P : Option Value → MH → Prop} {ad : AD} {fu : Nat} {out : Int32 × St} {kh : St → Int32 → Int32 → Int32 → Int32 → RR} {kx47 : St → Int32 → RR} (hkh : ∀ {V : St} {M : MH} {x0 : Int32} {x1 : Int32} {x2 : Int32} {x3 : Int32}, Rep E ad V M → kh V x0 x1 x2 x3 = some out → G E X RX2 cX2_sticksOutOf 4 (some .int) false (rmD 1) P M [some (rfq ad 1200 (x0)), some (.int (x1)), some (.int (x2)), some (.int (x3))] 0 0 4 []) (hkx47 : ∀ {V : St} {M : MH} {x2 : Int32} {d0 : Option Value} {d1 : Option Value} {d3 : Option Value}, Rep E ad V M → kx47 V x2 = some out → G E X RX2 cX2_sticksOutOf 4 (some .int) false (rmD 1) P M [d0, d1, some (.int (x2)), d3] 0 0 47 []) (hp : ∀ M, Rep E ad out.2 M → P (some (.int out.1)) M) {V : St} {M : MH} {x0 : Int32} {x1 : Int32} {x2 : Int32} {x3 : Int32} (hR : Rep E ad V M) (h : F_X2_sticksOutOf_41 kh kx47 fu V x0 x1 x2 x3 = some out) : G E X RX2 cX2_sticksOutOf 4 (some .int) false (rmD 1) P M [some (rfq ad 1200 (x0)), some (.int (x1)), some (.int (x2)), some (.int (x3))] 0 0 41 [] := by
  unfold F_X2_sticksOutOf_41 at h
  refine t_iinc (v := 1) (L' := [some (rfq ad 1200 (x0)), some (.int (x1)), some (.int (x2)), some (.int (x3 + 1))]) DX2_sticksOutOf_41 rfl ki_1 (by decide) rfl ?_
  refine r_goto DX2_sticksOutOf_44 ?_
  exact hkh hR h
theorem S_X2_sticksOutOf_4 {E : EN} {X : CX} {P : Option Value → MH → Prop} {ad : AD} {fu : Nat} {out : Int32 × St} {kh : St → Int32 → Int32 → Int32 → Int32 → RR} {kx47 : St → Int32 → RR} (hkh : ∀ {V : St} {M : MH} {x0 : Int32} {x1 : Int32} {x2 : Int32} {x3 : Int32}, Rep E ad V M → kh V x0 x1 x2 x3 = some out → G E X RX2 cX2_sticksOutOf 4 (some .int) false (rmD 1) P M [some (rfq ad 1200 (x0)), some (.int (x1)), some (.int (x2)), some (.int (x3))] 0 0 4 []) (hkx47 : ∀ {V : St} {M : MH} {x2 : Int32} {d0 : Option Value} {d1 : Option Value} {d3 : Option Value}, Rep E ad V M → kx47 V x2 = some out → G E X RX2 cX2_sticksOutOf 4 (some .int) false (rmD 1) P M [d0, d1, some (.int (x2)), d3] 0 0 47 []) (hp : ∀ M, Rep E ad out.2 M → P (some (.int out.1)) M) {V : St} {M : MH} {x0 : Int32} {x1 : Int32} {x2 : Int32} {x3 : Int32} (hR : Rep E ad V M) (h : F_X2_sticksOutOf_4 kh kx47 fu V x0 x1 x2 x3 = some out) : G E X RX2 cX2_sticksOutOf 4 (some .int) false (rmD 1) P M [some (rfq ad 1200 (x0)), some (.int (x1)), some (.int (x2)), some (.int (x3))] 0 0 4 [] := by
  unfold F_X2_sticksOutOf_4 at h
  refine r_iload_n DX2_sticksOutOf_4 rfl ?_
  refine t_aload_n (rfq_or _ _ _) DX2_sticksOutOf_5 rfl ?_
  obtain ⟨⟨hx1, hi2⟩, h⟩ := gd_inv h
  refine q_geti hx1 DX2_sticksOutOf_6 fl_X2_42 hR ct_1200 hi2 rfl ?_
  refine r_icmp_ge DX2_sticksOutOf_9 (fun c3 => ?_) (fun c3 => ?_)
  · have h := if_t c3 h
    exact hkx47 hR h
  · have h := if_f c3 h
    refine r_iload_n DX2_sticksOutOf_12 rfl ?_
    refine t_aload_n (rfq_or _ _ _) DX2_sticksOutOf_13 rfl ?_
    refine q_geta hx1 DX2_sticksOutOf_14 fl_X2_11 hR ct_1200 hi2 rfl ?_
    refine r_iload_n DX2_sticksOutOf_17 rfl ?_
    obtain ⟨hg4, h⟩ := gd_inv h
    refine s_iald DX2_sticksOutOf_18 hR ct_1202 (hi2) hg4 ?_
    refine r_ishr DX2_sticksOutOf_19 ?_
    refine r_iconst (v := 1) DX2_sticksOutOf_20 ki_1 ?_
    refine r_iand DX2_sticksOutOf_21 ?_
    refine r_iload_n DX2_sticksOutOf_22 rfl ?_
    refine t_aload_n (rfq_or _ _ _) DX2_sticksOutOf_23 rfl ?_
    refine q_geta hx1 DX2_sticksOutOf_24 fl_X2_15 hR ct_1200 hi2 rfl ?_
    refine r_iload_n DX2_sticksOutOf_27 rfl ?_
    obtain ⟨hg5, h⟩ := gd_inv h
    refine s_iald DX2_sticksOutOf_28 hR ct_1203 (hi2) hg5 ?_
    refine r_ishr DX2_sticksOutOf_29 ?_
    refine r_iconst (v := 1) DX2_sticksOutOf_30 ki_1 ?_
    refine r_iand DX2_sticksOutOf_31 ?_
    refine r_icmp_eq DX2_sticksOutOf_32 (fun c6 => ?_) (fun c6 => ?_)
    · have h := if_t c6 h
      exact S_X2_sticksOutOf_41 (fun hR h => hkh hR h) (fun hR h => hkx47 hR h) hp hR h
    · have h := if_f c6 h
      refine r_iload_n DX2_sticksOutOf_35 rfl ?_
      refine r_iconst (v := 1) DX2_sticksOutOf_36 ki_1 ?_
      refine r_iload_n DX2_sticksOutOf_37 rfl ?_
      refine r_ishl DX2_sticksOutOf_38 ?_
      refine r_ior DX2_sticksOutOf_39 ?_
      refine t_istore_n (L' := [some (rfq ad 1200 (x0)), some (.int (x1)), some (.int (x2 ||| ((1 : Int32) <<< (x3 &&& 31)))), some (.int (x3))]) DX2_sticksOutOf_40 (by decide) rfl ?_
      exact S_X2_sticksOutOf_41 (fun hR h => hkh hR h) (fun hR h => hkx47 hR h) hp hR h
theorem SL_X2_sticksOutOf_4 {E : EN} {X : CX} {P : Option Value → MH → Prop} {ad : AD} {fu : Nat} {out : Int32 × St} {kx47 : St → Int32 → RR} (hkx47 : ∀ {V : St} {M : MH} {x2 : Int32} {d0 : Option Value} {d1 : Option Value} {d3 : Option Value}, Rep E ad V M → kx47 V x2 = some out → G E X RX2 cX2_sticksOutOf 4 (some .int) false (rmD 1) P M [d0, d1, some (.int (x2)), d3] 0 0 47 []) (hp : ∀ M, Rep E ad out.2 M → P (some (.int out.1)) M) : ∀ (n : Nat) {V : St} {M : MH} {x0 : Int32} {x1 : Int32} {x2 : Int32} {x3 : Int32}, Rep E ad V M → Lp_X2_sticksOutOf_4 kx47 fu n V x0 x1 x2 x3 = some out → G E X RX2 cX2_sticksOutOf 4 (some .int) false (rmD 1) P M [some (rfq ad 1200 (x0)), some (.int (x1)), some (.int (x2)), some (.int (x3))] 0 0 4 [] := by
  intro n
  induction n with
  | zero => intros; rename_i h; cases h
  | succ n ih => exact fun hR h => S_X2_sticksOutOf_4 (fun hR h => ih hR h) (fun hR h => hkx47 hR h) hp hR h
theorem S_X2_sticksOutOf_0 {E : EN} {X : CX} {P : Option Value → MH → Prop} {ad : AD} {fu : Nat} {out : Int32 × St} (hp : ∀ M, Rep E ad out.2 M → P (some (.int out.1)) M) {V : St} {M : MH} {x0 : Int32} {x1 : Int32} (hR : Rep E ad V M) (h : f_X2_sticksOutOf fu V x0 x1 = some out) : G E X RX2 cX2_sticksOutOf 4 (some .int) false (rmD 1) P M [some (rfq ad 1200 (x0)), some (.int (x1)), none, none] 0 0 0 [] := by
  unfold f_X2_sticksOutOf at h
  refine r_iconst (v := 0) DX2_sticksOutOf_0 ki_0 ?_
  refine t_istore_n (L' := [some (rfq ad 1200 (x0)), some (.int (x1)), some (.int ((0 : Int32))), none]) DX2_sticksOutOf_1 (by decide) rfl ?_
  refine r_iconst (v := 0) DX2_sticksOutOf_2 ki_0 ?_
  refine t_istore_n (L' := [some (rfq ad 1200 (x0)), some (.int (x1)), some (.int ((0 : Int32))), some (.int ((0 : Int32)))]) DX2_sticksOutOf_3 (by decide) rfl ?_
  exact SL_X2_sticksOutOf_4 (fun hR h => S_X2_sticksOutOf_47 hp hR h) hp fu hR h
theorem C_X2_sticksOutOf {E : EN} {ad : AD} {fu : Nat} {out : Int32 × St} {V : St} {M : MH} {x0 : Int32} {x1 : Int32} (l : Launch) (hR : Rep E ad V M) (h : f_X2_sticksOutOf fu V x0 x1 = some out) : Ct E l yX2_sticksOutOf cX2_sticksOutOf 4 (some .int) (rmD 1) [rfq ad 1200 (x0), .int (x1)] M (fun v M => v = (some (.int out.1)) ∧ Rep E ad out.2 M) :=
  Ct.of (own := RX2) (ini := false) (L := [some (rfq ad 1200 (x0)), some (.int (x1)), none, none]) rfl rfl (fun h => by cases h) (by simp only [List.all_cons, List.all_nil, rfq_cat]; rfl) (Nat.le_of_ble_eq_true rfl) rfl (fun X _ => S_X2_sticksOutOf_0 (fun M hR => ⟨rfl, hR⟩) hR h)
theorem S_X2_findCuts_45 {E : EN} {X : CX} {P : Option Value → MH → Prop} {ad : AD} {fu : Nat} {out : Int32 × St} (hp : ∀ M, Rep E ad out.2 M → P none M) {V : St} {M : MH} {d0 : Option Value} {d1 : Option Value} {d2 : Option Value} {d3 : Option Value} (hR : Rep E ad V M) (h : F_X2_findCuts_45 fu V = some out) : G E X RX2 cX2_findCuts 4 none false (rmD 3) P M [d0, d1, d2, d3] 0 0 45 [] := by
  unfold F_X2_findCuts_45 at h
  cases h
  exact r_vret DX2_findCuts_45 rfl ⟨Nat.le_refl 0, Nat.le_refl 0⟩ (hp M hR)
theorem S_X2_findCuts_39 {E : EN} {X : CX} {P : Option Value → MH → Prop} {ad : AD} {fu : Nat} {out : Int32 × St} {kh : St → Int32 → Int32 → Int32 → RR} {kx45 : St → RR} (hkh : ∀ {V : St} {M : MH} {x0 : Int32} {x1 : Int32} {x2 : Int32} {d3 : Option Value}, Rep E ad V M → kh V x0 x1 x2 = some out → G E X RX2 cX2_findCuts 4 none false (rmD 3) P M [some (rfq ad 1200 (x0)), some (.int (x1)), some (.int (x2)), d3] 0 0 14 []) (hkx45 : ∀ {V : St} {M : MH} {d0 : Option Value} {d1 : Option Value} {d2 : Option Value} {d3 : Option Value}, Rep E ad V M → kx45 V  = some out → G E X RX2 cX2_findCuts 4 none false (rmD 3) P M [d0, d1, d2, d3] 0 0 45 []) (hp : ∀ M, Rep E ad out.2 M → P none M) {V : St} {M : MH} {x0 : Int32} {x1 : Int32} {x2 : Int32} {d3 : Option Value} (hR : Rep E ad V M) (h : F_X2_findCuts_39 kh kx45 fu V x0 x1 x2 = some out) : G E X RX2 cX2_findCuts 4 none false (rmD 3) P M [some (rfq ad 1200 (x0)), some (.int (x1)), some (.int (x2)), d3] 0 0 39 [] := by
  unfold F_X2_findCuts_39 at h
  refine t_iinc (v := 2) (L' := [some (rfq ad 1200 (x0)), some (.int (x1)), some (.int (x2 + 2)), d3]) DX2_findCuts_39 rfl ki_2 (by decide) rfl ?_
  refine r_goto DX2_findCuts_42 ?_
  exact hkh hR h
theorem S_X2_findCuts_14 {E : EN} {X : CX} {P : Option Value → MH → Prop} {ad : AD} {fu : Nat} {out : Int32 × St} {kh : St → Int32 → Int32 → Int32 → RR} {kx45 : St → RR} (hkh : ∀ {V : St} {M : MH} {x0 : Int32} {x1 : Int32} {x2 : Int32} {d3 : Option Value}, Rep E ad V M → kh V x0 x1 x2 = some out → G E X RX2 cX2_findCuts 4 none false (rmD 3) P M [some (rfq ad 1200 (x0)), some (.int (x1)), some (.int (x2)), d3] 0 0 14 []) (hkx45 : ∀ {V : St} {M : MH} {d0 : Option Value} {d1 : Option Value} {d2 : Option Value} {d3 : Option Value}, Rep E ad V M → kx45 V  = some out → G E X RX2 cX2_findCuts 4 none false (rmD 3) P M [d0, d1, d2, d3] 0 0 45 []) (hp : ∀ M, Rep E ad out.2 M → P none M) {V : St} {M : MH} {x0 : Int32} {x1 : Int32} {x2 : Int32} {d3 : Option Value} (hR : Rep E ad V M) (h : F_X2_findCuts_14 kh kx45 fu V x0 x1 x2 = some out) : G E X RX2 cX2_findCuts 4 none false (rmD 3) P M [some (rfq ad 1200 (x0)), some (.int (x1)), some (.int (x2)), d3] 0 0 14 [] := by
  unfold F_X2_findCuts_14 at h
  refine r_iload_n DX2_findCuts_14 rfl ?_
  refine r_iload_n DX2_findCuts_15 rfl ?_
  refine r_icmp_ge DX2_findCuts_16 (fun c1 => ?_) (fun c1 => ?_)
  · have h := if_t c1 h
    exact hkx45 hR h
  · have h := if_f c1 h
    refine t_aload_n (rfq_or _ _ _) DX2_findCuts_19 rfl ?_
    refine r_iload_n DX2_findCuts_20 rfl ?_
    obtain ⟨⟨hx5, hi6⟩, h⟩ := gd_inv h
    obtain ⟨r2, V3, hc4, h⟩ := bd_inv h
    refine k_callQ (As := [.int (x2)]) (rest := []) (st1 := [.int (r2)]) (w := some (.int r2)) hx5 DX2_findCuts_21 cv_X2_92 hR ct_1200 hi6 rfl (C_X2_greatestLoad (out := (r2, V3)) (cxL X) hR hc4) rfl (by decide) (by decide) rfl (Nat.le_of_ble_eq_true rfl) rfl (fun M hR => ?_)
    refine t_istore_n (L' := [some (rfq ad 1200 (x0)), some (.int (x1)), some (.int (x2)), some (.int (r2))]) DX2_findCuts_24 (by decide) rfl ?_
    refine r_iload_n DX2_findCuts_25 rfl ?_
    refine r_if_le DX2_findCuts_26 (fun c7 => ?_) (fun c7 => ?_)
    · have h := if_t c7 h
      exact S_X2_findCuts_39 (fun hR h => hkh hR h) (fun hR h => hkx45 hR h) hp hR h
    · have h := if_f c7 h
      refine t_aload_n (rfq_or _ _ _) DX2_findCuts_29 rfl ?_
      refine t_aload_n (rfq_or _ _ _) DX2_findCuts_30 rfl ?_
      refine r_iload_n DX2_findCuts_31 rfl ?_
      obtain ⟨⟨hx11, hi12⟩, h⟩ := gd_inv h
      obtain ⟨r8, V9, hc10, h⟩ := bd_inv h
      refine k_callQ (As := [.int (x2)]) (rest := [rfq ad 1200 (x0)]) (st1 := [.int (r8), rfq ad 1200 (x0)]) (w := some (.int r8)) hx11 DX2_findCuts_32 cv_X2_96 hR ct_1200 hi12 rfl (C_X2_sticksOutOf (out := (r8, V9)) (cxL X) hR hc10) rfl (by decide) (by decide) rfl (by simp only [List.map_cons, List.map_nil, rfq_cat, List.sum_cons, List.sum_nil]; exact Nat.le_of_ble_eq_true rfl) rfl (fun M hR => ?_)
      refine r_iload_n DX2_findCuts_35 rfl ?_
      obtain ⟨⟨hx16, hi17⟩, h⟩ := gd_inv h
      obtain ⟨r13, V14, hc15, h⟩ := bd_inv h
      refine k_callQ (As := [.int (r8), .int (r2)]) (rest := []) (st1 := []) (w := none) hx16 DX2_findCuts_36 cv_X2_99 hR ct_1200 hi17 rfl (C_X2_addCut (out := (r13, V14)) (cxL X) hR hc15) rfl (by decide) (by decide) rfl (Nat.le_of_ble_eq_true rfl) rfl (fun M hR => ?_)
      exact S_X2_findCuts_39 (fun hR h => hkh hR h) (fun hR h => hkx45 hR h) hp hR h
theorem SL_X2_findCuts_14 {E : EN} {X : CX} {P : Option Value → MH → Prop} {ad : AD} {fu : Nat} {out : Int32 × St} {kx45 : St → RR} (hkx45 : ∀ {V : St} {M : MH} {d0 : Option Value} {d1 : Option Value} {d2 : Option Value} {d3 : Option Value}, Rep E ad V M → kx45 V  = some out → G E X RX2 cX2_findCuts 4 none false (rmD 3) P M [d0, d1, d2, d3] 0 0 45 []) (hp : ∀ M, Rep E ad out.2 M → P none M) : ∀ (n : Nat) {V : St} {M : MH} {x0 : Int32} {x1 : Int32} {x2 : Int32} {d3 : Option Value}, Rep E ad V M → Lp_X2_findCuts_14 kx45 fu n V x0 x1 x2 = some out → G E X RX2 cX2_findCuts 4 none false (rmD 3) P M [some (rfq ad 1200 (x0)), some (.int (x1)), some (.int (x2)), d3] 0 0 14 [] := by
  intro n
  induction n with
  | zero => intros; rename_i h; cases h
  | succ n ih => exact fun hR h => S_X2_findCuts_14 (fun hR h => ih hR h) (fun hR h => hkx45 hR h) hp hR h
theorem S_X2_findCuts_0 {E : EN} {X : CX} {P : Option Value → MH → Prop} {ad : AD} {fu : Nat} {out : Int32 × St} (hp : ∀ M, Rep E ad out.2 M → P none M) {V : St} {M : MH} {x0 : Int32} (hR : Rep E ad V M) (h : f_X2_findCuts fu V x0 = some out) : G E X RX2 cX2_findCuts 4 none false (rmD 3) P M [some (rfq ad 1200 (x0)), none, none, none] 0 0 0 [] := by
  unfold f_X2_findCuts at h
  refine t_aload_n (rfq_or _ _ _) DX2_findCuts_0 rfl ?_
  refine r_iconst (v := 0) DX2_findCuts_1 ki_0 ?_
  obtain ⟨⟨hx1, hi2⟩, h⟩ := gd_inv h
  obtain ⟨V3, hv4, h⟩ := bv_inv h
  refine q_puti hx1 DX2_findCuts_2 fp_X2_49 hR oks_1214 ct_1200 hi2 rfl rfl rfl (fun M hR => ?_)
  have hR := hR.cg hv4
  refine r_iconst (v := 1) DX2_findCuts_5 ki_1 ?_
  refine t_aload_n (rfq_or _ _ _) DX2_findCuts_6 rfl ?_
  have hi5 := cnt_keep hv4 (b := 2104) (by decide) hi2
  refine q_geti hx1 DX2_findCuts_7 fl_X2_59 hR ct_1200 hi5 rfl ?_
  refine r_ishl DX2_findCuts_10 ?_
  refine t_istore_n (L' := [some (rfq ad 1200 (x0)), some (.int ((1 : Int32) <<< ((V3 1201 (x0).toNatClampNeg 0) &&& 31))), none, none]) DX2_findCuts_11 (by decide) rfl ?_
  refine r_iconst (v := 2) DX2_findCuts_12 ki_2 ?_
  refine t_istore_n (L' := [some (rfq ad 1200 (x0)), some (.int ((1 : Int32) <<< ((V3 1201 (x0).toNatClampNeg 0) &&& 31))), some (.int ((2 : Int32))), none]) DX2_findCuts_13 (by decide) rfl ?_
  exact SL_X2_findCuts_14 (fun hR h => S_X2_findCuts_45 hp hR h) hp fu hR h
theorem C_X2_findCuts {E : EN} {ad : AD} {fu : Nat} {out : Int32 × St} {V : St} {M : MH} {x0 : Int32} (l : Launch) (hR : Rep E ad V M) (h : f_X2_findCuts fu V x0 = some out) : Ct E l yX2_findCuts cX2_findCuts 4 none (rmD 3) [rfq ad 1200 (x0)] M (fun v M => v = none ∧ Rep E ad out.2 M) :=
  Ct.of (own := RX2) (ini := false) (L := [some (rfq ad 1200 (x0)), none, none, none]) rfl rfl (fun h => by cases h) (by simp only [List.all_cons, List.all_nil, rfq_cat]; rfl) (Nat.le_of_ble_eq_true rfl) rfl (fun X _ => S_X2_findCuts_0 (fun M hR => ⟨rfl, hR⟩) hR h)
theorem S_X2_isSound_27 {E : EN} {X : CX} {P : Option Value → MH → Prop} {ad : AD} {fu : Nat} {out : Int32 × St} (hp : ∀ M, Rep E ad out.2 M → P (some (.int out.1)) M) {V : St} {M : MH} {d0 : Option Value} {d1 : Option Value} (hR : Rep E ad V M) (h : F_X2_isSound_27 fu V = some out) : G E X RX2 cX2_isSound 2 (some .boolean) false (rmD 1) P M [d0, d1] 0 0 27 [] := by
  unfold F_X2_isSound_27 at h
  refine r_iconst (v := 1) DX2_isSound_27 ki_1 ?_
  cases h
  exact r_zret DX2_isSound_28 rfl rfl ⟨Nat.le_refl 0, Nat.le_refl 0⟩ (hp M hR)
theorem S_X2_isSound_19 {E : EN} {X : CX} {P : Option Value → MH → Prop} {ad : AD} {fu : Nat} {out : Int32 × St} (hp : ∀ M, Rep E ad out.2 M → P (some (.int out.1)) M) {V : St} {M : MH} {d0 : Option Value} {d1 : Option Value} (hR : Rep E ad V M) (h : F_X2_isSound_19 fu V = some out) : G E X RX2 cX2_isSound 2 (some .boolean) false (rmD 1) P M [d0, d1] 0 0 19 [] := by
  unfold F_X2_isSound_19 at h
  refine r_iconst (v := 0) DX2_isSound_19 ki_0 ?_
  cases h
  exact r_zret DX2_isSound_20 rfl rfl ⟨Nat.le_refl 0, Nat.le_refl 0⟩ (hp M hR)
theorem S_X2_isSound_2 {E : EN} {X : CX} {P : Option Value → MH → Prop} {ad : AD} {fu : Nat} {out : Int32 × St} {kh : St → Int32 → Int32 → RR} {kx19 : St → RR} {kx27 : St → RR} (hkh : ∀ {V : St} {M : MH} {x0 : Int32} {x1 : Int32}, Rep E ad V M → kh V x0 x1 = some out → G E X RX2 cX2_isSound 2 (some .boolean) false (rmD 1) P M [some (rfq ad 1200 (x0)), some (.int (x1))] 0 0 2 []) (hkx19 : ∀ {V : St} {M : MH} {d0 : Option Value} {d1 : Option Value}, Rep E ad V M → kx19 V  = some out → G E X RX2 cX2_isSound 2 (some .boolean) false (rmD 1) P M [d0, d1] 0 0 19 []) (hkx27 : ∀ {V : St} {M : MH} {d0 : Option Value} {d1 : Option Value}, Rep E ad V M → kx27 V  = some out → G E X RX2 cX2_isSound 2 (some .boolean) false (rmD 1) P M [d0, d1] 0 0 27 []) (hp : ∀ M, Rep E ad out.2 M → P (some (.int out.1)) M) {V : St} {M : MH} {x0 : Int32} {x1 : Int32} (hR : Rep E ad V M) (h : F_X2_isSound_2 kh kx19 kx27 fu V x0 x1 = some out) : G E X RX2 cX2_isSound 2 (some .boolean) false (rmD 1) P M [some (rfq ad 1200 (x0)), some (.int (x1))] 0 0 2 [] := by
  unfold F_X2_isSound_2 at h
  refine r_iload_n DX2_isSound_2 rfl ?_
  refine t_aload_n (rfq_or _ _ _) DX2_isSound_3 rfl ?_
  obtain ⟨⟨hx1, hi2⟩, h⟩ := gd_inv h
  refine q_geti hx1 DX2_isSound_4 fl_X2_49 hR ct_1200 hi2 rfl ?_
  refine r_icmp_ge DX2_isSound_7 (fun c3 => ?_) (fun c3 => ?_)
  · have h := if_t c3 h
    exact hkx27 hR h
  · have h := if_f c3 h
    refine t_aload_n (rfq_or _ _ _) DX2_isSound_10 rfl ?_
    refine q_geta hx1 DX2_isSound_11 fl_X2_33 hR ct_1200 hi2 rfl ?_
    refine r_iload_n DX2_isSound_14 rfl ?_
    obtain ⟨hg4, h⟩ := gd_inv h
    refine s_iald DX2_isSound_15 hR ct_1209 (hi2) hg4 ?_
    refine r_if_ge DX2_isSound_16 (fun c5 => ?_) (fun c5 => ?_)
    · have h := if_t c5 h
      refine t_iinc (v := 1) (L' := [some (rfq ad 1200 (x0)), some (.int (x1 + 1))]) DX2_isSound_21 rfl ki_1 (by decide) rfl ?_
      refine r_goto DX2_isSound_24 ?_
      exact hkh hR h
    · have h := if_f c5 h
      exact hkx19 hR h
theorem SL_X2_isSound_2 {E : EN} {X : CX} {P : Option Value → MH → Prop} {ad : AD} {fu : Nat} {out : Int32 × St} {kx19 : St → RR} {kx27 : St → RR} (hkx19 : ∀ {V : St} {M : MH} {d0 : Option Value} {d1 : Option Value}, Rep E ad V M → kx19 V  = some out → G E X RX2 cX2_isSound 2 (some .boolean) false (rmD 1) P M [d0, d1] 0 0 19 []) (hkx27 : ∀ {V : St} {M : MH} {d0 : Option Value} {d1 : Option Value}, Rep E ad V M → kx27 V  = some out → G E X RX2 cX2_isSound 2 (some .boolean) false (rmD 1) P M [d0, d1] 0 0 27 []) (hp : ∀ M, Rep E ad out.2 M → P (some (.int out.1)) M) : ∀ (n : Nat) {V : St} {M : MH} {x0 : Int32} {x1 : Int32}, Rep E ad V M → Lp_X2_isSound_2 kx19 kx27 fu n V x0 x1 = some out → G E X RX2 cX2_isSound 2 (some .boolean) false (rmD 1) P M [some (rfq ad 1200 (x0)), some (.int (x1))] 0 0 2 [] := by
  intro n
  induction n with
  | zero => intros; rename_i h; cases h
  | succ n ih => exact fun hR h => S_X2_isSound_2 (fun hR h => ih hR h) (fun hR h => hkx19 hR h) (fun hR h => hkx27 hR h) hp hR h
theorem S_X2_isSound_0 {E : EN} {X : CX} {P : Option Value → MH → Prop} {ad : AD} {fu : Nat} {out : Int32 × St} (hp : ∀ M, Rep E ad out.2 M → P (some (.int out.1)) M) {V : St} {M : MH} {x0 : Int32} (hR : Rep E ad V M) (h : f_X2_isSound fu V x0 = some out) : G E X RX2 cX2_isSound 2 (some .boolean) false (rmD 1) P M [some (rfq ad 1200 (x0)), none] 0 0 0 [] := by
  unfold f_X2_isSound at h
  refine r_iconst (v := 0) DX2_isSound_0 ki_0 ?_
  refine t_istore_n (L' := [some (rfq ad 1200 (x0)), some (.int ((0 : Int32)))]) DX2_isSound_1 (by decide) rfl ?_
  exact SL_X2_isSound_2 (fun hR h => S_X2_isSound_19 hp hR h) (fun hR h => S_X2_isSound_27 hp hR h) hp fu hR h
theorem C_X2_isSound {E : EN} {ad : AD} {fu : Nat} {out : Int32 × St} {V : St} {M : MH} {x0 : Int32} (l : Launch) (hR : Rep E ad V M) (h : f_X2_isSound fu V x0 = some out) : Ct E l yX2_isSound cX2_isSound 2 (some .boolean) (rmD 1) [rfq ad 1200 (x0)] M (fun v M => v = (some (.int out.1)) ∧ Rep E ad out.2 M) :=
  Ct.of (own := RX2) (ini := false) (L := [some (rfq ad 1200 (x0)), none]) rfl rfl (fun h => by cases h) (by simp only [List.all_cons, List.all_nil, rfq_cat]; rfl) (Nat.le_of_ble_eq_true rfl) rfl (fun X _ => S_X2_isSound_0 (fun M hR => ⟨rfl, hR⟩) hR h)
theorem S_X2_takeFromCuts_40 {E : EN} {X : CX} {P : Option Value → MH → Prop} {ad : AD} {fu : Nat} {out : Int32 × St} (hp : ∀ M, Rep E ad out.2 M → P none M) {V : St} {M : MH} {d0 : Option Value} {d1 : Option Value} {d2 : Option Value} {d3 : Option Value} (hR : Rep E ad V M) (h : F_X2_takeFromCuts_40 fu V = some out) : G E X RX2 cX2_takeFromCuts 4 none false (rmD 1) P M [d0, d1, d2, d3] 0 0 40 [] := by
  unfold F_X2_takeFromCuts_40 at h
  cases h
  exact r_vret DX2_takeFromCuts_40 rfl ⟨Nat.le_refl 0, Nat.le_refl 0⟩ (hp M hR)
theorem S_X2_takeFromCuts_34 {E : EN} {X : CX} {P : Option Value → MH → Prop} {ad : AD} {fu : Nat} {out : Int32 × St} {kh : St → Int32 → Int32 → Int32 → Int32 → RR} {kx40 : St → RR} (hkh : ∀ {V : St} {M : MH} {x0 : Int32} {x1 : Int32} {x2 : Int32} {x3 : Int32}, Rep E ad V M → kh V x0 x1 x2 x3 = some out → G E X RX2 cX2_takeFromCuts 4 none false (rmD 1) P M [some (rfq ad 1200 (x0)), some (.int (x1)), some (.int (x2)), some (.int (x3))] 0 0 2 []) (hkx40 : ∀ {V : St} {M : MH} {d0 : Option Value} {d1 : Option Value} {d2 : Option Value} {d3 : Option Value}, Rep E ad V M → kx40 V  = some out → G E X RX2 cX2_takeFromCuts 4 none false (rmD 1) P M [d0, d1, d2, d3] 0 0 40 []) (hp : ∀ M, Rep E ad out.2 M → P none M) {V : St} {M : MH} {x0 : Int32} {x1 : Int32} {x2 : Int32} {x3 : Int32} (hR : Rep E ad V M) (h : F_X2_takeFromCuts_34 kh kx40 fu V x0 x1 x2 x3 = some out) : G E X RX2 cX2_takeFromCuts 4 none false (rmD 1) P M [some (rfq ad 1200 (x0)), some (.int (x1)), some (.int (x2)), some (.int (x3))] 0 0 34 [] := by
  unfold F_X2_takeFromCuts_34 at h
  refine t_iinc (v := 1) (L' := [some (rfq ad 1200 (x0)), some (.int (x1)), some (.int (x2)), some (.int (x3 + 1))]) DX2_takeFromCuts_34 rfl ki_1 (by decide) rfl ?_
  refine r_goto DX2_takeFromCuts_37 ?_
  exact hkh hR h
theorem S_X2_takeFromCuts_2 {E : EN} {X : CX} {P : Option Value → MH → Prop} {ad : AD} {fu : Nat} {out : Int32 × St} {kh : St → Int32 → Int32 → Int32 → Int32 → RR} {kx40 : St → RR} (hkh : ∀ {V : St} {M : MH} {x0 : Int32} {x1 : Int32} {x2 : Int32} {x3 : Int32}, Rep E ad V M → kh V x0 x1 x2 x3 = some out → G E X RX2 cX2_takeFromCuts 4 none false (rmD 1) P M [some (rfq ad 1200 (x0)), some (.int (x1)), some (.int (x2)), some (.int (x3))] 0 0 2 []) (hkx40 : ∀ {V : St} {M : MH} {d0 : Option Value} {d1 : Option Value} {d2 : Option Value} {d3 : Option Value}, Rep E ad V M → kx40 V  = some out → G E X RX2 cX2_takeFromCuts 4 none false (rmD 1) P M [d0, d1, d2, d3] 0 0 40 []) (hp : ∀ M, Rep E ad out.2 M → P none M) {V : St} {M : MH} {x0 : Int32} {x1 : Int32} {x2 : Int32} {x3 : Int32} (hR : Rep E ad V M) (h : F_X2_takeFromCuts_2 kh kx40 fu V x0 x1 x2 x3 = some out) : G E X RX2 cX2_takeFromCuts 4 none false (rmD 1) P M [some (rfq ad 1200 (x0)), some (.int (x1)), some (.int (x2)), some (.int (x3))] 0 0 2 [] := by
  unfold F_X2_takeFromCuts_2 at h
  refine r_iload_n DX2_takeFromCuts_2 rfl ?_
  refine t_aload_n (rfq_or _ _ _) DX2_takeFromCuts_3 rfl ?_
  obtain ⟨⟨hx1, hi2⟩, h⟩ := gd_inv h
  refine q_geti hx1 DX2_takeFromCuts_4 fl_X2_49 hR ct_1200 hi2 rfl ?_
  refine r_icmp_ge DX2_takeFromCuts_7 (fun c3 => ?_) (fun c3 => ?_)
  · have h := if_t c3 h
    exact hkx40 hR h
  · have h := if_f c3 h
    refine t_aload_n (rfq_or _ _ _) DX2_takeFromCuts_10 rfl ?_
    refine q_geta hx1 DX2_takeFromCuts_11 fl_X2_27 hR ct_1200 hi2 rfl ?_
    refine r_iload_n DX2_takeFromCuts_14 rfl ?_
    obtain ⟨hg4, h⟩ := gd_inv h
    refine s_iald DX2_takeFromCuts_15 hR ct_1207 (hi2) hg4 ?_
    refine r_iload_n DX2_takeFromCuts_16 rfl ?_
    refine r_ishr DX2_takeFromCuts_17 ?_
    refine r_iconst (v := 1) DX2_takeFromCuts_18 ki_1 ?_
    refine r_iand DX2_takeFromCuts_19 ?_
    refine r_iconst (v := 1) DX2_takeFromCuts_20 ki_1 ?_
    refine r_icmp_ne DX2_takeFromCuts_21 (fun c5 => ?_) (fun c5 => ?_)
    · have h := if_f c5 h
      exact S_X2_takeFromCuts_34 (fun hR h => hkh hR h) (fun hR h => hkx40 hR h) hp hR h
    · have h := if_t c5 h
      refine t_aload_n (rfq_or _ _ _) DX2_takeFromCuts_24 rfl ?_
      refine q_geta hx1 DX2_takeFromCuts_25 fl_X2_33 hR ct_1200 hi2 rfl ?_
      refine r_iload_n DX2_takeFromCuts_28 rfl ?_
      refine r_dup2 DX2_takeFromCuts_29 rfl rfl ?_
      obtain ⟨hg6, h⟩ := gd_inv h
      refine s_iald DX2_takeFromCuts_30 hR ct_1209 (hi2) hg6 ?_
      refine r_iload_n DX2_takeFromCuts_31 rfl ?_
      refine r_isub DX2_takeFromCuts_32 ?_
      obtain ⟨hg7, h⟩ := gd_inv h
      obtain ⟨V8, hv9, h⟩ := bv_inv h
      refine s_iast DX2_takeFromCuts_33 hR oka_1209 ct_1209 (hi2) hg7 (fun M hR => ?_)
      have hR := hR.cg hv9
      exact S_X2_takeFromCuts_34 (fun hR h => hkh hR h) (fun hR h => hkx40 hR h) hp hR h
theorem SL_X2_takeFromCuts_2 {E : EN} {X : CX} {P : Option Value → MH → Prop} {ad : AD} {fu : Nat} {out : Int32 × St} {kx40 : St → RR} (hkx40 : ∀ {V : St} {M : MH} {d0 : Option Value} {d1 : Option Value} {d2 : Option Value} {d3 : Option Value}, Rep E ad V M → kx40 V  = some out → G E X RX2 cX2_takeFromCuts 4 none false (rmD 1) P M [d0, d1, d2, d3] 0 0 40 []) (hp : ∀ M, Rep E ad out.2 M → P none M) : ∀ (n : Nat) {V : St} {M : MH} {x0 : Int32} {x1 : Int32} {x2 : Int32} {x3 : Int32}, Rep E ad V M → Lp_X2_takeFromCuts_2 kx40 fu n V x0 x1 x2 x3 = some out → G E X RX2 cX2_takeFromCuts 4 none false (rmD 1) P M [some (rfq ad 1200 (x0)), some (.int (x1)), some (.int (x2)), some (.int (x3))] 0 0 2 [] := by
  intro n
  induction n with
  | zero => intros; rename_i h; cases h
  | succ n ih => exact fun hR h => S_X2_takeFromCuts_2 (fun hR h => ih hR h) (fun hR h => hkx40 hR h) hp hR h
theorem S_X2_takeFromCuts_0 {E : EN} {X : CX} {P : Option Value → MH → Prop} {ad : AD} {fu : Nat} {out : Int32 × St} (hp : ∀ M, Rep E ad out.2 M → P none M) {V : St} {M : MH} {x0 : Int32} {x1 : Int32} {x2 : Int32} (hR : Rep E ad V M) (h : f_X2_takeFromCuts fu V x0 x1 x2 = some out) : G E X RX2 cX2_takeFromCuts 4 none false (rmD 1) P M [some (rfq ad 1200 (x0)), some (.int (x1)), some (.int (x2)), none] 0 0 0 [] := by
  unfold f_X2_takeFromCuts at h
  refine r_iconst (v := 0) DX2_takeFromCuts_0 ki_0 ?_
  refine t_istore_n (L' := [some (rfq ad 1200 (x0)), some (.int (x1)), some (.int (x2)), some (.int ((0 : Int32)))]) DX2_takeFromCuts_1 (by decide) rfl ?_
  exact SL_X2_takeFromCuts_2 (fun hR h => S_X2_takeFromCuts_40 hp hR h) hp fu hR h
theorem C_X2_takeFromCuts {E : EN} {ad : AD} {fu : Nat} {out : Int32 × St} {V : St} {M : MH} {x0 : Int32} {x1 : Int32} {x2 : Int32} (l : Launch) (hR : Rep E ad V M) (h : f_X2_takeFromCuts fu V x0 x1 x2 = some out) : Ct E l yX2_takeFromCuts cX2_takeFromCuts 4 none (rmD 1) [rfq ad 1200 (x0), .int (x1), .int (x2)] M (fun v M => v = none ∧ Rep E ad out.2 M) :=
  Ct.of (own := RX2) (ini := false) (L := [some (rfq ad 1200 (x0)), some (.int (x1)), some (.int (x2)), none]) rfl rfl (fun h => by cases h) (by simp only [List.all_cons, List.all_nil, rfq_cat]; rfl) (Nat.le_of_ble_eq_true rfl) rfl (fun X _ => S_X2_takeFromCuts_0 (fun M hR => ⟨rfl, hR⟩) hR h)
