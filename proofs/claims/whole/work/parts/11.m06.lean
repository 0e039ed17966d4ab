theorem S_X12_lengthOf_103 {E : EN} {X : CX} {P : Option Value → MH → Prop} {ad : AD} {fu : Nat} {out : Int32 × St} (hp : ∀ M, Rep E ad out.2 M → P (some (.int out.1)) M) {V : St} {M : MH} {x3 : Int32} {x4 : Int32} {d0 : Option Value} {d1 : Option Value} {d2 : Option Value} {d5 : Option Value} {d6 : Option Value} {d7 : Option Value} (hR : Rep E ad V M) (h : F_X12_lengthOf_103 fu V x3 x4 = some out) : G E X RX12 cX12_lengthOf 8 (some .int) false (rmD 1) P M [d0, d1, d2, some (.int (x3)), some (.int (x4)), d5, d6, d7] 0 0 103 [] := by
  unfold F_X12_lengthOf_103 at h
  refine r_iload_n DX12_lengthOf_103 rfl ?_
  refine r_iload DX12_lengthOf_104 rfl ?_
  refine r_iadd DX12_lengthOf_106 ?_
  cases h
  exact r_iret DX12_lengthOf_107 rfl ⟨Nat.le_refl 0, Nat.le_refl 0⟩ (hp M hR)
theorem S_X12_lengthOf_95 {E : EN} {X : CX} {P : Option Value → MH → Prop} {ad : AD} {fu : Nat} {out : Int32 × St} {kh : St → Int32 → Int32 → Int32 → Int32 → Int32 → Int32 → RR} {kx103 : St → Int32 → Int32 → RR} (hkh : ∀ {V : St} {M : MH} {x1 : Int32} {x2 : Int32} {x3 : Int32} {x4 : Int32} {x5 : Int32} {x6 : Int32} {d7 : Option Value}, Rep E ad V M → kh V x1 x2 x3 x4 x5 x6 = some out → G E X RX12 cX12_lengthOf 8 (some .int) false (rmD 1) P M [some (.ref (ad 2200 0)), some (.int (x1)), some (.int (x2)), some (.int (x3)), some (.int (x4)), some (.int (x5)), some (.int (x6)), d7] 0 0 11 []) (hkx103 : ∀ {V : St} {M : MH} {x3 : Int32} {x4 : Int32} {d0 : Option Value} {d1 : Option Value} {d2 : Option Value} {d5 : Option Value} {d6 : Option Value} {d7 : Option Value}, Rep E ad V M → kx103 V x3 x4 = some out → G E X RX12 cX12_lengthOf 8 (some .int) false (rmD 1) P M [d0, d1, d2, some (.int (x3)), some (.int (x4)), d5, d6, d7] 0 0 103 []) (hp : ∀ M, Rep E ad out.2 M → P (some (.int out.1)) M) {V : St} {M : MH} {x1 : Int32} {x2 : Int32} {x3 : Int32} {x5 : Int32} {x6 : Int32} {s0 : Int32} {d4 : Option Value} {d7 : Option Value} (hR : Rep E ad V M) (h : F_X12_lengthOf_95 kh kx103 fu V x1 x2 x3 x5 x6 s0 = some out) : G E X RX12 cX12_lengthOf 8 (some .int) false (rmD 1) P M [some (.ref (ad 2200 0)), some (.int (x1)), some (.int (x2)), some (.int (x3)), d4, some (.int (x5)), some (.int (x6)), d7] 0 0 95 [.int (s0)] := by
  unfold F_X12_lengthOf_95 at h
  refine t_istore (L' := [some (.ref (ad 2200 0)), some (.int (x1)), some (.int (x2)), some (.int (x3)), some (.int (s0)), some (.int (x5)), some (.int (x6)), d7]) DX12_lengthOf_95 (by decide) rfl ?_
  refine t_iinc (v := 1) (L' := [some (.ref (ad 2200 0)), some (.int (x1)), some (.int (x2)), some (.int (x3)), some (.int (s0)), some (.int (x5)), some (.int (x6 + 1)), d7]) DX12_lengthOf_97 rfl ki_1 (by decide) rfl ?_
  refine r_goto DX12_lengthOf_100 ?_
  exact hkh hR h
theorem S_X12_lengthOf_59 {E : EN} {X : CX} {P : Option Value → MH → Prop} {ad : AD} {fu : Nat} {out : Int32 × St} {kh : St → Int32 → Int32 → Int32 → Int32 → Int32 → Int32 → RR} {kx103 : St → Int32 → Int32 → RR} (hkh : ∀ {V : St} {M : MH} {x1 : Int32} {x2 : Int32} {x3 : Int32} {x4 : Int32} {x5 : Int32} {x6 : Int32} {d7 : Option Value}, Rep E ad V M → kh V x1 x2 x3 x4 x5 x6 = some out → G E X RX12 cX12_lengthOf 8 (some .int) false (rmD 1) P M [some (.ref (ad 2200 0)), some (.int (x1)), some (.int (x2)), some (.int (x3)), some (.int (x4)), some (.int (x5)), some (.int (x6)), d7] 0 0 11 []) (hkx103 : ∀ {V : St} {M : MH} {x3 : Int32} {x4 : Int32} {d0 : Option Value} {d1 : Option Value} {d2 : Option Value} {d5 : Option Value} {d6 : Option Value} {d7 : Option Value}, Rep E ad V M → kx103 V x3 x4 = some out → G E X RX12 cX12_lengthOf 8 (some .int) false (rmD 1) P M [d0, d1, d2, some (.int (x3)), some (.int (x4)), d5, d6, d7] 0 0 103 []) (hp : ∀ M, Rep E ad out.2 M → P (some (.int out.1)) M) {V : St} {M : MH} {x1 : Int32} {x2 : Int32} {x3 : Int32} {x4 : Int32} {x5 : Int32} {x6 : Int32} {x7 : Int32} (hR : Rep E ad V M) (h : F_X12_lengthOf_59 kh kx103 fu V x1 x2 x3 x4 x5 x6 x7 = some out) : G E X RX12 cX12_lengthOf 8 (some .int) false (rmD 1) P M [some (.ref (ad 2200 0)), some (.int (x1)), some (.int (x2)), some (.int (x3)), some (.int (x4)), some (.int (x5)), some (.int (x6)), some (.int (x7))] 0 0 59 [] := by
  unfold F_X12_lengthOf_59 at h
  refine r_iload DX12_lengthOf_59 rfl ?_
  refine r_aload_n DX12_lengthOf_61 rfl ?_
  refine s_geta DX12_lengthOf_62 fl_X12_70 hR ct_2200 (one_cnt _) rfl ?_
  refine r_iload DX12_lengthOf_65 rfl ?_
  obtain ⟨hg1, h⟩ := gd_inv h
  refine s_iald DX12_lengthOf_67 hR ct_2225 (one_cnt _) hg1 ?_
  refine r_isub DX12_lengthOf_68 ?_
  refine t_istore (L' := [some (.ref (ad 2200 0)), some (.int (x1)), some (.int (x2)), some (.int (x3)), some (.int (x4)), some (.int (x5 - (V 2225 (0) (x7).toNatClampNeg))), some (.int (x6)), some (.int (x7))]) DX12_lengthOf_69 (by decide) rfl ?_
  refine r_aload_n DX12_lengthOf_71 rfl ?_
  refine s_geta DX12_lengthOf_72 fl_X12_67 hR ct_2200 (one_cnt _) rfl ?_
  refine r_iload DX12_lengthOf_75 rfl ?_
  obtain ⟨hg2, h⟩ := gd_inv h
  refine s_iald DX12_lengthOf_77 hR ct_2224 (one_cnt _) hg2 ?_
  refine r_iload DX12_lengthOf_78 rfl ?_
  refine r_icmp_le DX12_lengthOf_80 (fun c3 => ?_) (fun c3 => ?_)
  · have h := if_t c3 h
    refine r_iload DX12_lengthOf_93 rfl ?_
    exact S_X12_lengthOf_95 (fun hR h => hkh hR h) (fun hR h => hkx103 hR h) hp hR h
  · have h := if_f c3 h
    refine r_aload_n DX12_lengthOf_83 rfl ?_
    refine s_geta DX12_lengthOf_84 fl_X12_67 hR ct_2200 (one_cnt _) rfl ?_
    refine r_iload DX12_lengthOf_87 rfl ?_
    obtain ⟨hg4, h⟩ := gd_inv h
    refine s_iald DX12_lengthOf_89 hR ct_2224 (one_cnt _) hg4 ?_
    refine r_goto DX12_lengthOf_90 ?_
    exact S_X12_lengthOf_95 (fun hR h => hkh hR h) (fun hR h => hkx103 hR h) hp hR h
theorem S_X12_lengthOf_11 {E : EN} {X : CX} {P : Option Value → MH → Prop} {ad : AD} {fu : Nat} {out : Int32 × St} {kh : St → Int32 → Int32 → Int32 → Int32 → Int32 → Int32 → RR} {kx103 : St → Int32 → Int32 → RR} (hkh : ∀ {V : St} {M : MH} {x1 : Int32} {x2 : Int32} {x3 : Int32} {x4 : Int32} {x5 : Int32} {x6 : Int32} {d7 : Option Value}, Rep E ad V M → kh V x1 x2 x3 x4 x5 x6 = some out → G E X RX12 cX12_lengthOf 8 (some .int) false (rmD 1) P M [some (.ref (ad 2200 0)), some (.int (x1)), some (.int (x2)), some (.int (x3)), some (.int (x4)), some (.int (x5)), some (.int (x6)), d7] 0 0 11 []) (hkx103 : ∀ {V : St} {M : MH} {x3 : Int32} {x4 : Int32} {d0 : Option Value} {d1 : Option Value} {d2 : Option Value} {d5 : Option Value} {d6 : Option Value} {d7 : Option Value}, Rep E ad V M → kx103 V x3 x4 = some out → G E X RX12 cX12_lengthOf 8 (some .int) false (rmD 1) P M [d0, d1, d2, some (.int (x3)), some (.int (x4)), d5, d6, d7] 0 0 103 []) (hp : ∀ M, Rep E ad out.2 M → P (some (.int out.1)) M) {V : St} {M : MH} {x1 : Int32} {x2 : Int32} {x3 : Int32} {x4 : Int32} {x5 : Int32} {x6 : Int32} {d7 : Option Value} (hR : Rep E ad V M) (h : F_X12_lengthOf_11 kh kx103 fu V x1 x2 x3 x4 x5 x6 = some out) : G E X RX12 cX12_lengthOf 8 (some .int) false (rmD 1) P M [some (.ref (ad 2200 0)), some (.int (x1)), some (.int (x2)), some (.int (x3)), some (.int (x4)), some (.int (x5)), some (.int (x6)), d7] 0 0 11 [] := by
  unfold F_X12_lengthOf_11 at h
  refine r_iload DX12_lengthOf_11 rfl ?_
  refine r_aload_n DX12_lengthOf_13 rfl ?_
  refine s_geta DX12_lengthOf_14 fl_X12_64 hR ct_2200 (one_cnt _) rfl ?_
  refine r_iload_n DX12_lengthOf_17 rfl ?_
  obtain ⟨hg1, h⟩ := gd_inv h
  refine s_iald DX12_lengthOf_18 hR ct_2223 (one_cnt _) hg1 ?_
  refine r_icmp_ge DX12_lengthOf_19 (fun c2 => ?_) (fun c2 => ?_)
  · have h := if_t c2 h
    exact hkx103 hR h
  · have h := if_f c2 h
    refine r_bipush (v := 9) DX12_lengthOf_22 kb_9 ?_
    refine r_iload_n DX12_lengthOf_24 rfl ?_
    refine r_imul DX12_lengthOf_25 ?_
    refine r_aload_n DX12_lengthOf_26 rfl ?_
    refine s_geta DX12_lengthOf_27 fl_X12_85 hR ct_2200 (one_cnt _) rfl ?_
    refine r_iload DX12_lengthOf_30 rfl ?_
    obtain ⟨hg3, h⟩ := gd_inv h
    refine s_iald DX12_lengthOf_32 hR ct_2230 (one_cnt _) hg3 ?_
    refine r_iadd DX12_lengthOf_33 ?_
    refine t_istore (L' := [some (.ref (ad 2200 0)), some (.int (x1)), some (.int (x2)), some (.int (x3)), some (.int (x4)), some (.int (x5)), some (.int (x6)), some (.int (((9 : Int32) * x1) + (V 2230 (0) (x6).toNatClampNeg)))]) DX12_lengthOf_34 (by decide) rfl ?_
    refine r_iload DX12_lengthOf_36 rfl ?_
    refine r_aload_n DX12_lengthOf_38 rfl ?_
    refine s_geta DX12_lengthOf_39 fl_X12_70 hR ct_2200 (one_cnt _) rfl ?_
    refine r_iload DX12_lengthOf_42 rfl ?_
    obtain ⟨hg4, h⟩ := gd_inv h
    refine s_iald DX12_lengthOf_44 hR ct_2225 (one_cnt _) hg4 ?_
    refine r_icmp_ge DX12_lengthOf_45 (fun c5 => ?_) (fun c5 => ?_)
    · have h := if_t c5 h
      exact S_X12_lengthOf_59 (fun hR h => hkh hR h) (fun hR h => hkx103 hR h) hp hR h
    · have h := if_f c5 h
      refine r_iload_n DX12_lengthOf_48 rfl ?_
      refine r_iload DX12_lengthOf_49 rfl ?_
      refine r_iadd DX12_lengthOf_51 ?_
      refine t_istore_n (L' := [some (.ref (ad 2200 0)), some (.int (x1)), some (.int (x2)), some (.int (x3 + x4)), some (.int (x4)), some (.int (x5)), some (.int (x6)), some (.int (((9 : Int32) * x1) + (V 2230 (0) (x6).toNatClampNeg)))]) DX12_lengthOf_52 (by decide) rfl ?_
      refine r_iconst (v := 0) DX12_lengthOf_53 ki_0 ?_
      refine t_istore (L' := [some (.ref (ad 2200 0)), some (.int (x1)), some (.int (x2)), some (.int (x3 + x4)), some (.int ((0 : Int32))), some (.int (x5)), some (.int (x6)), some (.int (((9 : Int32) * x1) + (V 2230 (0) (x6).toNatClampNeg)))]) DX12_lengthOf_54 (by decide) rfl ?_
      refine r_iload_n DX12_lengthOf_56 rfl ?_
      refine t_istore (L' := [some (.ref (ad 2200 0)), some (.int (x1)), some (.int (x2)), some (.int (x3 + x4)), some (.int ((0 : Int32))), some (.int (x2)), some (.int (x6)), some (.int (((9 : Int32) * x1) + (V 2230 (0) (x6).toNatClampNeg)))]) DX12_lengthOf_57 (by decide) rfl ?_
      exact S_X12_lengthOf_59 (fun hR h => hkh hR h) (fun hR h => hkx103 hR h) hp hR h
theorem SL_X12_lengthOf_11 {E : EN} {X : CX} {P : Option Value → MH → Prop} {ad : AD} {fu : Nat} {out : Int32 × St} {kx103 : St → Int32 → Int32 → RR} (hkx103 : ∀ {V : St} {M : MH} {x3 : Int32} {x4 : Int32} {d0 : Option Value} {d1 : Option Value} {d2 : Option Value} {d5 : Option Value} {d6 : Option Value} {d7 : Option Value}, Rep E ad V M → kx103 V x3 x4 = some out → G E X RX12 cX12_lengthOf 8 (some .int) false (rmD 1) P M [d0, d1, d2, some (.int (x3)), some (.int (x4)), d5, d6, d7] 0 0 103 []) (hp : ∀ M, Rep E ad out.2 M → P (some (.int out.1)) M) : ∀ (n : Nat) {V : St} {M : MH} {x1 : Int32} {x2 : Int32} {x3 : Int32} {x4 : Int32} {x5 : Int32} {x6 : Int32} {d7 : Option Value}, Rep E ad V M → Lp_X12_lengthOf_11 kx103 fu n V x1 x2 x3 x4 x5 x6 = some out → G E X RX12 cX12_lengthOf 8 (some .int) false (rmD 1) P M [some (.ref (ad 2200 0)), some (.int (x1)), some (.int (x2)), some (.int (x3)), some (.int (x4)), some (.int (x5)), some (.int (x6)), d7] 0 0 11 [] := by
  intro n
  induction n with
  | zero => intros; rename_i h; cases h
  | succ n ih => exact fun hR h => S_X12_lengthOf_11 (fun hR h => ih hR h) (fun hR h => hkx103 hR h) hp hR h
theorem S_X12_lengthOf_0 {E : EN} {X : CX} {P : Option Value → MH → Prop} {ad : AD} {fu : Nat} {out : Int32 × St} (hp : ∀ M, Rep E ad out.2 M → P (some (.int out.1)) M) {V : St} {M : MH} {x1 : Int32} {x2 : Int32} (hR : Rep E ad V M) (h : f_X12_lengthOf fu V x1 x2 = some out) : G E X RX12 cX12_lengthOf 8 (some .int) false (rmD 1) P M [some (.ref (ad 2200 0)), some (.int (x1)), some (.int (x2)), none, none, none, none, none] 0 0 0 [] := by
  unfold f_X12_lengthOf at h
  refine r_iconst (v := 0) DX12_lengthOf_0 ki_0 ?_
  refine t_istore_n (L' := [some (.ref (ad 2200 0)), some (.int (x1)), some (.int (x2)), some (.int ((0 : Int32))), none, none, none, none]) DX12_lengthOf_1 (by decide) rfl ?_
  refine r_iconst (v := 0) DX12_lengthOf_2 ki_0 ?_
  refine t_istore (L' := [some (.ref (ad 2200 0)), some (.int (x1)), some (.int (x2)), some (.int ((0 : Int32))), some (.int ((0 : Int32))), none, none, none]) DX12_lengthOf_3 (by decide) rfl ?_
  refine r_iconst (v := 0) DX12_lengthOf_5 ki_0 ?_
  refine t_istore (L' := [some (.ref (ad 2200 0)), some (.int (x1)), some (.int (x2)), some (.int ((0 : Int32))), some (.int ((0 : Int32))), some (.int ((0 : Int32))), none, none]) DX12_lengthOf_6 (by decide) rfl ?_
  refine r_iconst (v := 0) DX12_lengthOf_8 ki_0 ?_
  refine t_istore (L' := [some (.ref (ad 2200 0)), some (.int (x1)), some (.int (x2)), some (.int ((0 : Int32))), some (.int ((0 : Int32))), some (.int ((0 : Int32))), some (.int ((0 : Int32))), none]) DX12_lengthOf_9 (by decide) rfl ?_
  exact SL_X12_lengthOf_11 (fun hR h => S_X12_lengthOf_103 hp hR h) hp fu hR h
theorem C_X12_lengthOf {E : EN} {ad : AD} {fu : Nat} {out : Int32 × St} {V : St} {M : MH} {x1 : Int32} {x2 : Int32} (l : Launch) (hR : Rep E ad V M) (h : f_X12_lengthOf fu V x1 x2 = some out) : Ct E l yX12_lengthOf cX12_lengthOf 8 (some .int) (rmD 1) [.ref (ad 2200 0), .int (x1), .int (x2)] M (fun v M => v = (some (.int out.1)) ∧ Rep E ad out.2 M) :=
  Ct.of (own := RX12) (ini := false) (L := [some (.ref (ad 2200 0)), some (.int (x1)), some (.int (x2)), none, none, none, none, none]) rfl rfl (fun h => by cases h) rfl (Nat.le_of_ble_eq_true rfl) rfl (fun X _ => S_X12_lengthOf_0 (fun M hR => ⟨rfl, hR⟩) hR h)
theorem S_X12_laid_138 {E : EN} {X : CX} {P : Option Value → MH → Prop} {ad : AD} {fu : Nat} {out : Int32 × St} (hp : ∀ M, Rep E ad out.2 M → P (some (.int out.1)) M) {V : St} {M : MH} {x1 : Int32} {x2 : Int32} {d3 : Option Value} {d4 : Option Value} {d5 : Option Value} {d6 : Option Value} (hR : Rep E ad V M) (h : F_X12_laid_138 fu V x1 x2 = some out) : G E X RX12 cX12_laid 7 (some .int) false (rmD 2) P M [some (.ref (ad 2200 0)), some (.int (x1)), some (.int (x2)), d3, d4, d5, d6] 0 0 138 [] := by
  unfold F_X12_laid_138 at h
  refine r_aload_n DX12_laid_138 rfl ?_
  refine r_iload_n DX12_laid_139 rfl ?_
  refine r_iload_n DX12_laid_140 rfl ?_
  obtain ⟨r1, V2, hc3, h⟩ := bd_inv h
  refine k_callV (As := [.int (x1), .int (x2)]) (rest := []) (st1 := [.int (r1)]) (w := some (.int r1)) DX12_laid_141 cv_X12_281 hR ct_2200 (one_cnt _) rfl (C_X12_lengthOf (out := (r1, V2)) (cxL X) hR hc3) rfl (by decide) (by decide) rfl (Nat.le_of_ble_eq_true rfl) rfl (fun M hR => ?_)
  cases h
  exact r_iret DX12_laid_144 rfl ⟨Nat.le_refl 0, Nat.le_refl 0⟩ (hp M hR)
theorem S_X12_laid_111 {E : EN} {X : CX} {P : Option Value → MH → Prop} {ad : AD} {fu : Nat} {out : Int32 × St} (hp : ∀ M, Rep E ad out.2 M → P (some (.int out.1)) M) {V : St} {M : MH} {d0 : Option Value} {d1 : Option Value} {d2 : Option Value} {d3 : Option Value} {d4 : Option Value} {d5 : Option Value} {d6 : Option Value} (hR : Rep E ad V M) (h : F_X12_laid_111 fu V = some out) : G E X RX12 cX12_laid 7 (some .int) false (rmD 2) P M [d0, d1, d2, d3, d4, d5, d6] 0 0 111 [] := by
  unfold F_X12_laid_111 at h
  refine r_bipush (v := -2) DX12_laid_111 kb_m2 ?_
  cases h
  exact r_iret DX12_laid_113 rfl ⟨Nat.le_refl 0, Nat.le_refl 0⟩ (hp M hR)
theorem S_X12_laid_75 {E : EN} {X : CX} {P : Option Value → MH → Prop} {ad : AD} {fu : Nat} {out : Int32 × St} {kh : St → Int32 → Int32 → Int32 → Int32 → Int32 → RR} {kx111 : St → RR} {kx138 : St → Int32 → Int32 → RR} (hkh : ∀ {V : St} {M : MH} {x1 : Int32} {x2 : Int32} {x3 : Int32} {x4 : Int32} {x5 : Int32} {d6 : Option Value}, Rep E ad V M → kh V x1 x2 x3 x4 x5 = some out → G E X RX12 cX12_laid 7 (some .int) false (rmD 2) P M [some (.ref (ad 2200 0)), some (.int (x1)), some (.int (x2)), some (.int (x3)), some (.int (x4)), some (.int (x5)), d6] 0 0 75 []) (hkx111 : ∀ {V : St} {M : MH} {d0 : Option Value} {d1 : Option Value} {d2 : Option Value} {d3 : Option Value} {d4 : Option Value} {d5 : Option Value} {d6 : Option Value}, Rep E ad V M → kx111 V  = some out → G E X RX12 cX12_laid 7 (some .int) false (rmD 2) P M [d0, d1, d2, d3, d4, d5, d6] 0 0 111 []) (hkx138 : ∀ {V : St} {M : MH} {x1 : Int32} {x2 : Int32} {d3 : Option Value} {d4 : Option Value} {d5 : Option Value} {d6 : Option Value}, Rep E ad V M → kx138 V x1 x2 = some out → G E X RX12 cX12_laid 7 (some .int) false (rmD 2) P M [some (.ref (ad 2200 0)), some (.int (x1)), some (.int (x2)), d3, d4, d5, d6] 0 0 138 []) (hp : ∀ M, Rep E ad out.2 M → P (some (.int out.1)) M) {V : St} {M : MH} {x1 : Int32} {x2 : Int32} {x3 : Int32} {x4 : Int32} {x5 : Int32} {d6 : Option Value} (hR : Rep E ad V M) (h : F_X12_laid_75 kh kx111 kx138 fu V x1 x2 x3 x4 x5 = some out) : G E X RX12 cX12_laid 7 (some .int) false (rmD 2) P M [some (.ref (ad 2200 0)), some (.int (x1)), some (.int (x2)), some (.int (x3)), some (.int (x4)), some (.int (x5)), d6] 0 0 75 [] := by
  unfold F_X12_laid_75 at h
  refine r_iload DX12_laid_75 rfl ?_
  refine r_iload_n DX12_laid_77 rfl ?_
  refine r_icmp_ge DX12_laid_78 (fun c1 => ?_) (fun c1 => ?_)
  · have h := if_t c1 h
    exact hkx138 hR h
  · have h := if_f c1 h
    refine r_aload_n DX12_laid_81 rfl ?_
    refine s_geta DX12_laid_82 fl_X12_116 hR ct_2200 (one_cnt _) rfl ?_
    refine r_iload DX12_laid_85 rfl ?_
    obtain ⟨hg2, h⟩ := gd_inv h
    refine s_bald DX12_laid_87 hR ct_2241 (one_cnt _) hg2 ?_
    refine r_sipush (v := 255) DX12_laid_88 ks_255 ?_
    refine r_iand DX12_laid_91 ?_
    refine t_istore (L' := [some (.ref (ad 2200 0)), some (.int (x1)), some (.int (x2)), some (.int (x3)), some (.int (x4)), some (.int (x5)), some (.int ((V 2241 (0) (x5).toNatClampNeg) &&& (255 : Int32)))]) DX12_laid_92 (by decide) rfl ?_
    refine r_iload DX12_laid_94 rfl ?_
    refine r_iload_n DX12_laid_96 rfl ?_
    refine r_icmp_ge DX12_laid_97 (fun c3 => ?_) (fun c3 => ?_)
    · have h := if_t c3 h
      exact hkx111 hR h
    · have h := if_f c3 h
      refine r_iload DX12_laid_100 rfl ?_
      refine r_iload DX12_laid_102 rfl ?_
      refine r_ishr DX12_laid_104 ?_
      refine r_iconst (v := 1) DX12_laid_105 ki_1 ?_
      refine r_iand DX12_laid_106 ?_
      refine r_iconst (v := 1) DX12_laid_107 ki_1 ?_
      refine r_icmp_ne DX12_laid_108 (fun c4 => ?_) (fun c4 => ?_)
      · have h := if_f c4 h
        refine r_iload DX12_laid_114 rfl ?_
        refine r_iconst (v := 1) DX12_laid_116 ki_1 ?_
        refine r_iload DX12_laid_117 rfl ?_
        refine r_ishl DX12_laid_119 ?_
        refine r_ior DX12_laid_120 ?_
        refine t_istore (L' := [some (.ref (ad 2200 0)), some (.int (x1)), some (.int (x2)), some (.int (x3)), some (.int (x4 ||| ((1 : Int32) <<< (((V 2241 (0) (x5).toNatClampNeg) &&& (255 : Int32)) &&& 31)))), some (.int (x5)), some (.int ((V 2241 (0) (x5).toNatClampNeg) &&& (255 : Int32)))]) DX12_laid_121 (by decide) rfl ?_
        refine r_aload_n DX12_laid_123 rfl ?_
        refine s_geta DX12_laid_124 fl_X12_85 hR ct_2200 (one_cnt _) rfl ?_
        refine r_iload DX12_laid_127 rfl ?_
        refine r_iload DX12_laid_129 rfl ?_
        obtain ⟨hg5, h⟩ := gd_inv h
        obtain ⟨V6, hv7, h⟩ := bv_inv h
        refine s_iast DX12_laid_131 hR oka_2230 ct_2230 (one_cnt _) hg5 (fun M hR => ?_)
        have hR := hR.cg hv7
        refine t_iinc (v := 1) (L' := [some (.ref (ad 2200 0)), some (.int (x1)), some (.int (x2)), some (.int (x3)), some (.int (x4 ||| ((1 : Int32) <<< (((V 2241 (0) (x5).toNatClampNeg) &&& (255 : Int32)) &&& 31)))), some (.int (x5 + 1)), some (.int ((V 2241 (0) (x5).toNatClampNeg) &&& (255 : Int32)))]) DX12_laid_132 rfl ki_1 (by decide) rfl ?_
        refine r_goto DX12_laid_135 ?_
        exact hkh hR h
      · have h := if_t c4 h
        exact hkx111 hR h
theorem SL_X12_laid_75 {E : EN} {X : CX} {P : Option Value → MH → Prop} {ad : AD} {fu : Nat} {out : Int32 × St} {kx111 : St → RR} {kx138 : St → Int32 → Int32 → RR} (hkx111 : ∀ {V : St} {M : MH} {d0 : Option Value} {d1 : Option Value} {d2 : Option Value} {d3 : Option Value} {d4 : Option Value} {d5 : Option Value} {d6 : Option Value}, Rep E ad V M → kx111 V  = some out → G E X RX12 cX12_laid 7 (some .int) false (rmD 2) P M [d0, d1, d2, d3, d4, d5, d6] 0 0 111 []) (hkx138 : ∀ {V : St} {M : MH} {x1 : Int32} {x2 : Int32} {d3 : Option Value} {d4 : Option Value} {d5 : Option Value} {d6 : Option Value}, Rep E ad V M → kx138 V x1 x2 = some out → G E X RX12 cX12_laid 7 (some .int) false (rmD 2) P M [some (.ref (ad 2200 0)), some (.int (x1)), some (.int (x2)), d3, d4, d5, d6] 0 0 138 []) (hp : ∀ M, Rep E ad out.2 M → P (some (.int out.1)) M) : ∀ (n : Nat) {V : St} {M : MH} {x1 : Int32} {x2 : Int32} {x3 : Int32} {x4 : Int32} {x5 : Int32} {d6 : Option Value}, Rep E ad V M → Lp_X12_laid_75 kx111 kx138 fu n V x1 x2 x3 x4 x5 = some out → G E X RX12 cX12_laid 7 (some .int) false (rmD 2) P M [some (.ref (ad 2200 0)), some (.int (x1)), some (.int (x2)), some (.int (x3)), some (.int (x4)), some (.int (x5)), d6] 0 0 75 [] := by
  intro n
  induction n with
  | zero => intros; rename_i h; cases h
  | succ n ih => exact fun hR h => S_X12_laid_75 (fun hR h => ih hR h) (fun hR h => hkx111 hR h) (fun hR h => hkx138 hR h) hp hR h
theorem S_X12_laid_66 {E : EN} {X : CX} {P : Option Value → MH → Prop} {ad : AD} {fu : Nat} {out : Int32 × St} (hp : ∀ M, Rep E ad out.2 M → P (some (.int out.1)) M) {V : St} {M : MH} {d0 : Option Value} {d1 : Option Value} {d2 : Option Value} {d3 : Option Value} {d4 : Option Value} {d5 : Option Value} {d6 : Option Value} (hR : Rep E ad V M) (h : F_X12_laid_66 fu V = some out) : G E X RX12 cX12_laid 7 (some .int) false (rmD 2) P M [d0, d1, d2, d3, d4, d5, d6] 0 0 66 [] := by
  unfold F_X12_laid_66 at h
  refine r_bipush (v := -2) DX12_laid_66 kb_m2 ?_
  cases h
  exact r_iret DX12_laid_68 rfl ⟨Nat.le_refl 0, Nat.le_refl 0⟩ (hp M hR)
theorem S_X12_laid_40 {E : EN} {X : CX} {P : Option Value → MH → Prop} {ad : AD} {fu : Nat} {out : Int32 × St} (hp : ∀ M, Rep E ad out.2 M → P (some (.int out.1)) M) {V : St} {M : MH} {d0 : Option Value} {d1 : Option Value} {d2 : Option Value} {d3 : Option Value} {d4 : Option Value} {d5 : Option Value} {d6 : Option Value} (hR : Rep E ad V M) (h : F_X12_laid_40 fu V = some out) : G E X RX12 cX12_laid 7 (some .int) false (rmD 2) P M [d0, d1, d2, d3, d4, d5, d6] 0 0 40 [] := by
  unfold F_X12_laid_40 at h
  refine r_iconst (v := -1) DX12_laid_40 ki_m1 ?_
  cases h
  exact r_iret DX12_laid_41 rfl ⟨Nat.le_refl 0, Nat.le_refl 0⟩ (hp M hR)
theorem S_X12_laid_0 {E : EN} {X : CX} {P : Option Value → MH → Prop} {ad : AD} {fu : Nat} {out : Int32 × St} (hp : ∀ M, Rep E ad out.2 M → P (some (.int out.1)) M) {V : St} {M : MH} {x1 : Int32} {x2 : Int32} {x3 : Int32} (hR : Rep E ad V M) (h : f_X12_laid fu V x1 x2 x3 = some out) : G E X RX12 cX12_laid 7 (some .int) false (rmD 2) P M [some (.ref (ad 2200 0)), some (.int (x1)), some (.int (x2)), some (.int (x3)), none, none, none] 0 0 0 [] := by
  unfold f_X12_laid at h
  refine r_aload_n DX12_laid_0 rfl ?_
  refine r_iload_n DX12_laid_1 rfl ?_
  obtain ⟨r1, V2, hc3, h⟩ := bd_inv h
  refine k_callV (As := [.int (x1)]) (rest := []) (st1 := [.int (r1)]) (w := some (.int r1)) DX12_laid_2 cv_X12_271 hR ct_2200 (one_cnt _) rfl (C_X12_isThing (out := (r1, V2)) (cxL X) hR hc3) rfl (by decide) (by decide) rfl (Nat.le_of_ble_eq_true rfl) rfl (fun M hR => ?_)
  refine r_if_eq DX12_laid_5 (fun c4 => ?_) (fun c4 => ?_)
  · have h := if_t c4 h
    exact S_X12_laid_40 hp hR h
  · have h := if_f c4 h
    refine r_aload_n DX12_laid_8 rfl ?_
    refine s_geta DX12_laid_9 fl_X12_43 hR ct_2200 (one_cnt _) rfl ?_
    refine r_iload_n DX12_laid_12 rfl ?_
    obtain ⟨hg5, h⟩ := gd_inv h
    refine s_iald DX12_laid_13 hR ct_2216 (one_cnt _) hg5 ?_
    refine r_if_ne DX12_laid_14 (fun c6 => ?_) (fun c6 => ?_)
    · have h := if_f c6 h
      exact S_X12_laid_40 hp hR h
    · have h := if_t c6 h
      refine r_iload_n DX12_laid_17 rfl ?_
      refine r_iconst (v := 1) DX12_laid_18 ki_1 ?_
      refine r_sipush (v := 200) DX12_laid_19 ks_200 ?_
      obtain ⟨r7, V8, hc9, h⟩ := bd_inv h
      refine k_callS (As := [.int (x2), .int ((1 : Int32)), .int ((200 : Int32))]) (rest := []) (st1 := [.int (r7)]) (w := some (.int r7)) DX12_laid_22 cs_X12_245 (C_X12_in (out := (r7, V8)) (cxL X) hR hc9) rfl (by decide) (by decide) rfl (Nat.le_of_ble_eq_true rfl) rfl (fun M hR => ?_)
      refine r_if_eq DX12_laid_25 (fun c10 => ?_) (fun c10 => ?_)
      · have h := if_t c10 h
        exact S_X12_laid_40 hp hR h
      · have h := if_f c10 h
        refine r_iload_n DX12_laid_28 rfl ?_
        refine r_if_lt DX12_laid_29 (fun c11 => ?_) (fun c11 => ?_)
        · have h := if_t c11 h
          exact S_X12_laid_40 hp hR h
        · have h := if_f c11 h
          refine r_iload_n DX12_laid_32 rfl ?_
          refine r_aload_n DX12_laid_33 rfl ?_
          refine s_geti DX12_laid_34 fl_X12_274 hR ct_2200 (one_cnt _) rfl ?_
          refine r_icmp_le DX12_laid_37 (fun c12 => ?_) (fun c12 => ?_)
          · have h := if_t c12 h
            refine r_aload_n DX12_laid_42 rfl ?_
            refine r_iconst (v := 0) DX12_laid_43 ki_0 ?_
            obtain ⟨V13, hv14, h⟩ := bv_inv h
            refine s_puti DX12_laid_44 fp_X12_274 hR oks_2242 ct_2200 (one_cnt _) rfl rfl rfl (fun M hR => ?_)
            have hR := hR.cg hv14
            refine r_iload_n DX12_laid_47 rfl ?_
            refine r_aload_n DX12_laid_48 rfl ?_
            refine s_geta DX12_laid_49 fl_X12_64 hR ct_2200 (one_cnt _) rfl ?_
            refine r_iload_n DX12_laid_52 rfl ?_
            obtain ⟨hg15, h⟩ := gd_inv h
            refine s_iald DX12_laid_53 hR ct_2223 (one_cnt _) hg15 ?_
            refine r_icmp_ne DX12_laid_54 (fun c16 => ?_) (fun c16 => ?_)
            · have h := if_f c16 h
              exact S_X12_laid_66 hp hR h
            · have h := if_t c16 h
              refine r_aload_n DX12_laid_57 rfl ?_
              refine r_iload_n DX12_laid_58 rfl ?_
              refine r_iload_n DX12_laid_59 rfl ?_
              obtain ⟨r17, V18, hc19, h⟩ := bd_inv h
              refine k_callV (As := [.int (x1), .int (x2)]) (rest := []) (st1 := [.int (r17)]) (w := some (.int r17)) DX12_laid_60 cv_X12_277 hR ct_2200 (one_cnt _) rfl (C_X12_isWider (out := (r17, V18)) (cxL X) hR hc19) rfl (by decide) (by decide) rfl (Nat.le_of_ble_eq_true rfl) rfl (fun M hR => ?_)
              refine r_if_eq DX12_laid_63 (fun c20 => ?_) (fun c20 => ?_)
              · have h := if_t c20 h
                refine r_iconst (v := 0) DX12_laid_69 ki_0 ?_
                refine t_istore (L' := [some (.ref (ad 2200 0)), some (.int (x1)), some (.int (x2)), some (.int (x3)), some (.int ((0 : Int32))), none, none]) DX12_laid_70 (by decide) rfl ?_
                refine r_iconst (v := 0) DX12_laid_72 ki_0 ?_
                refine t_istore (L' := [some (.ref (ad 2200 0)), some (.int (x1)), some (.int (x2)), some (.int (x3)), some (.int ((0 : Int32))), some (.int ((0 : Int32))), none]) DX12_laid_73 (by decide) rfl ?_
                exact SL_X12_laid_75 (fun hR h => S_X12_laid_111 hp hR h) (fun hR h => S_X12_laid_138 hp hR h) hp fu hR h
              · have h := if_f c20 h
                exact S_X12_laid_66 hp hR h
          · have h := if_f c12 h
            exact S_X12_laid_40 hp hR h
theorem C_X12_laid {E : EN} {ad : AD} {fu : Nat} {out : Int32 × St} {V : St} {M : MH} {x1 : Int32} {x2 : Int32} {x3 : Int32} (l : Launch) (hR : Rep E ad V M) (h : f_X12_laid fu V x1 x2 x3 = some out) : Ct E l yX12_laid cX12_laid 7 (some .int) (rmD 2) [.ref (ad 2200 0), .int (x1), .int (x2), .int (x3)] M (fun v M => v = (some (.int out.1)) ∧ Rep E ad out.2 M) :=
  Ct.of (own := RX12) (ini := false) (L := [some (.ref (ad 2200 0)), some (.int (x1)), some (.int (x2)), some (.int (x3)), none, none, none]) rfl rfl (fun h => by cases h) rfl (Nat.le_of_ble_eq_true rfl) rfl (fun X _ => S_X12_laid_0 (fun M hR => ⟨rfl, hR⟩) hR h)
theorem S_X12_lands_76 {E : EN} {X : CX} {P : Option Value → MH → Prop} {ad : AD} {fu : Nat} {out : Int32 × St} (hp : ∀ M, Rep E ad out.2 M → P none M) {V : St} {M : MH} {d0 : Option Value} {d1 : Option Value} {d2 : Option Value} (hR : Rep E ad V M) (h : F_X12_lands_76 fu V = some out) : G E X RX12 cX12_lands 3 none false (rmD 2) P M [d0, d1, d2] 0 0 76 [] := by
  unfold F_X12_lands_76 at h
  cases h
  exact r_vret DX12_lands_76 rfl ⟨Nat.le_refl 0, Nat.le_refl 0⟩ (hp M hR)
theorem S_X12_lands_22 {E : EN} {X : CX} {P : Option Value → MH → Prop} {ad : AD} {fu : Nat} {out : Int32 × St} {kh : St → Int32 → RR} {kx76 : St → RR} (hkh : ∀ {V : St} {M : MH} {x1 : Int32} {d2 : Option Value}, Rep E ad V M → kh V x1 = some out → G E X RX12 cX12_lands 3 none false (rmD 2) P M [some (.ref (ad 2200 0)), some (.int (x1)), d2] 0 0 0 []) (hkx76 : ∀ {V : St} {M : MH} {d0 : Option Value} {d1 : Option Value} {d2 : Option Value}, Rep E ad V M → kx76 V  = some out → G E X RX12 cX12_lands 3 none false (rmD 2) P M [d0, d1, d2] 0 0 76 []) (hp : ∀ M, Rep E ad out.2 M → P none M) {V : St} {M : MH} {x1 : Int32} {d2 : Option Value} (hR : Rep E ad V M) (h : F_X12_lands_22 kh kx76 fu V x1 = some out) : G E X RX12 cX12_lands 3 none false (rmD 2) P M [some (.ref (ad 2200 0)), some (.int (x1)), d2] 0 0 22 [] := by
  unfold F_X12_lands_22 at h
  refine r_aload_n DX12_lands_22 rfl ?_
  refine s_geta DX12_lands_23 fl_X12_123 hR ct_2200 (one_cnt _) rfl ?_
  refine r_aload_n DX12_lands_26 rfl ?_
  refine s_geti DX12_lands_27 fl_X12_332 hR ct_2200 (one_cnt _) rfl ?_
  refine r_iconst (v := 1) DX12_lands_30 ki_1 ?_
  refine r_isub DX12_lands_31 ?_
  obtain ⟨hg1, h⟩ := gd_inv h
  refine s_iald DX12_lands_32 hR ct_2252 (one_cnt _) hg1 ?_
  refine r_ldcw (v := 1048576) DX12_lands_33 ck_X12_328 ?_
  refine r_irem DX12_lands_36 (by decide) ?_
  refine t_istore_n (L' := [some (.ref (ad 2200 0)), some (.int (x1)), some (.int (((V 2252 (0) ((V 2249 0 0) - (1 : Int32)).toNatClampNeg)) - ((V 2252 (0) ((V 2249 0 0) - (1 : Int32)).toNatClampNeg)) / ((1048576 : Int32)) * ((1048576 : Int32))))]) DX12_lands_37 (by decide) rfl ?_
  refine r_aload_n DX12_lands_38 rfl ?_
  refine s_geta DX12_lands_39 fl_X12_120 hR ct_2200 (one_cnt _) rfl ?_
  refine r_iload_n DX12_lands_42 rfl ?_
  refine r_ldcw (v := 1048576) DX12_lands_43 ck_X12_328 ?_
  refine r_aload_n DX12_lands_46 rfl ?_
  refine s_geta DX12_lands_47 fl_X12_120 hR ct_2200 (one_cnt _) rfl ?_
  refine r_iload_n DX12_lands_50 rfl ?_
  obtain ⟨hg2, h⟩ := gd_inv h
  refine s_iald DX12_lands_51 hR ct_2251 (one_cnt _) hg2 ?_
  refine r_ldcw (v := 1048576) DX12_lands_52 ck_X12_328 ?_
  refine r_idiv DX12_lands_55 (by decide) ?_
  refine r_imul DX12_lands_56 ?_
  refine r_aload_n DX12_lands_57 rfl ?_
  refine s_geti DX12_lands_58 fl_X12_325 hR ct_2200 (one_cnt _) rfl ?_
  refine r_iadd DX12_lands_61 ?_
  obtain ⟨hg3, h⟩ := gd_inv h
  obtain ⟨V4, hv5, h⟩ := bv_inv h
  refine s_iast DX12_lands_62 hR oka_2251 ct_2251 (one_cnt _) hg3 (fun M hR => ?_)
  have hR := hR.cg hv5
  refine r_aload_n DX12_lands_63 rfl ?_
  refine r_aload_n DX12_lands_64 rfl ?_
  refine s_geti DX12_lands_65 fl_X12_332 hR ct_2200 (one_cnt _) rfl ?_
  refine r_iconst (v := 1) DX12_lands_68 ki_1 ?_
  refine r_isub DX12_lands_69 ?_
  obtain ⟨V6, hv7, h⟩ := bv_inv h
  refine s_puti DX12_lands_70 fp_X12_332 hR oks_2249 ct_2200 (one_cnt _) rfl rfl rfl (fun M hR => ?_)
  have hR := hR.cg hv7
  refine r_goto DX12_lands_73 ?_
  exact hkh hR h
theorem S_X12_lands_0 {E : EN} {X : CX} {P : Option Value → MH → Prop} {ad : AD} {fu : Nat} {out : Int32 × St} {kh : St → Int32 → RR} {kx76 : St → RR} (hkh : ∀ {V : St} {M : MH} {x1 : Int32} {d2 : Option Value}, Rep E ad V M → kh V x1 = some out → G E X RX12 cX12_lands 3 none false (rmD 2) P M [some (.ref (ad 2200 0)), some (.int (x1)), d2] 0 0 0 []) (hkx76 : ∀ {V : St} {M : MH} {d0 : Option Value} {d1 : Option Value} {d2 : Option Value}, Rep E ad V M → kx76 V  = some out → G E X RX12 cX12_lands 3 none false (rmD 2) P M [d0, d1, d2] 0 0 76 []) (hp : ∀ M, Rep E ad out.2 M → P none M) {V : St} {M : MH} {x1 : Int32} {d2 : Option Value} (hR : Rep E ad V M) (h : F_X12_lands_0 kh kx76 fu V x1 = some out) : G E X RX12 cX12_lands 3 none false (rmD 2) P M [some (.ref (ad 2200 0)), some (.int (x1)), d2] 0 0 0 [] := by
  unfold F_X12_lands_0 at h
  refine r_aload_n DX12_lands_0 rfl ?_
  obtain ⟨r1, V2, hc3, h⟩ := bd_inv h
  refine k_callV (As := []) (rest := []) (st1 := [.int (r1)]) (w := some (.int r1)) DX12_lands_1 cv_X12_335 hR ct_2200 (one_cnt _) rfl (C_X12_top (out := (r1, V2)) (cxL X) hR hc3) rfl (by decide) (by decide) rfl (Nat.le_of_ble_eq_true rfl) rfl (fun M hR => ?_)
  refine r_bipush (v := 11) DX12_lands_4 kb_11 ?_
  refine r_icmp_eq DX12_lands_6 (fun c4 => ?_) (fun c4 => ?_)
  · have h := if_t c4 h
    exact S_X12_lands_22 (fun hR h => hkh hR h) (fun hR h => hkx76 hR h) hp hR h
  · have h := if_f c4 h
    refine r_iload_n DX12_lands_9 rfl ?_
    refine r_if_eq DX12_lands_10 (fun c5 => ?_) (fun c5 => ?_)
    · have h := if_t c5 h
      exact hkx76 hR h
    · have h := if_f c5 h
      refine r_aload_n DX12_lands_13 rfl ?_
      obtain ⟨r6, V7, hc8, h⟩ := bd_inv h
      refine k_callV (As := []) (rest := []) (st1 := [.int (r6)]) (w := some (.int r6)) DX12_lands_14 cv_X12_335 hR ct_2200 (one_cnt _) rfl (C_X12_top (out := (r6, V7)) (cxL X) hR hc8) rfl (by decide) (by decide) rfl (Nat.le_of_ble_eq_true rfl) rfl (fun M hR => ?_)
      refine r_bipush (v := 12) DX12_lands_17 kb_12 ?_
      refine r_icmp_ne DX12_lands_19 (fun c9 => ?_) (fun c9 => ?_)
      · have h := if_f c9 h
        exact hkx76 hR h
      · have h := if_t c9 h
        exact S_X12_lands_22 (fun hR h => hkh hR h) (fun hR h => hkx76 hR h) hp hR h
theorem SL_X12_lands_0 {E : EN} {X : CX} {P : Option Value → MH → Prop} {ad : AD} {fu : Nat} {out : Int32 × St} {kx76 : St → RR} (hkx76 : ∀ {V : St} {M : MH} {d0 : Option Value} {d1 : Option Value} {d2 : Option Value}, Rep E ad V M → kx76 V  = some out → G E X RX12 cX12_lands 3 none false (rmD 2) P M [d0, d1, d2] 0 0 76 []) (hp : ∀ M, Rep E ad out.2 M → P none M) : ∀ (n : Nat) {V : St} {M : MH} {x1 : Int32} {d2 : Option Value}, Rep E ad V M → Lp_X12_lands_0 kx76 fu n V x1 = some out → G E X RX12 cX12_lands 3 none false (rmD 2) P M [some (.ref (ad 2200 0)), some (.int (x1)), d2] 0 0 0 [] := by
  intro n
  induction n with
  | zero => intros; rename_i h; cases h
  | succ n ih => exact fun hR h => S_X12_lands_0 (fun hR h => ih hR h) (fun hR h => hkx76 hR h) hp hR h
theorem S_X12_lands_E {E : EN} {X : CX} {P : Option Value → MH → Prop} {ad : AD} {fu : Nat} {out : Int32 × St} (hp : ∀ M, Rep E ad out.2 M → P none M) {V : St} {M : MH} {x1 : Int32} (hR : Rep E ad V M) (h : f_X12_lands fu V x1 = some out) : G E X RX12 cX12_lands 3 none false (rmD 2) P M [some (.ref (ad 2200 0)), some (.int (x1)), none] 0 0 0 [] := by
  unfold f_X12_lands at h
  exact SL_X12_lands_0 (fun hR h => S_X12_lands_76 hp hR h) hp fu hR h
theorem C_X12_lands {E : EN} {ad : AD} {fu : Nat} {out : Int32 × St} {V : St} {M : MH} {x1 : Int32} (l : Launch) (hR : Rep E ad V M) (h : f_X12_lands fu V x1 = some out) : Ct E l yX12_lands cX12_lands 3 none (rmD 2) [.ref (ad 2200 0), .int (x1)] M (fun v M => v = none ∧ Rep E ad out.2 M) :=
  Ct.of (own := RX12) (ini := false) (L := [some (.ref (ad 2200 0)), some (.int (x1)), none]) rfl rfl (fun h => by cases h) rfl (Nat.le_of_ble_eq_true rfl) rfl (fun X _ => S_X12_lands_E (fun M hR => ⟨rfl, hR⟩) hR h)
theorem S_X12_swaps_0 {E : EN} {X : CX} {P : Option Value → MH → Prop} {ad : AD} {fu : Nat} {out : Int32 × St} (hp : ∀ M, Rep E ad out.2 M → P none M) {V : St} {M : MH} {x1 : Int32} {x2 : Int32} (hR : Rep E ad V M) (h : f_X12_swaps fu V x1 x2 = some out) : G E X RX12 cX12_swaps 4 none false (rmD 1) P M [some (.ref (ad 2200 0)), some (.int (x1)), some (.int (x2)), none] 0 0 0 [] := by
  unfold f_X12_swaps at h
  refine r_aload_n DX12_swaps_0 rfl ?_
  refine s_geta DX12_swaps_1 fl_X12_85 hR ct_2200 (one_cnt _) rfl ?_
  refine r_iload_n DX12_swaps_4 rfl ?_
  obtain ⟨hg1, h⟩ := gd_inv h
  refine s_iald DX12_swaps_5 hR ct_2230 (one_cnt _) hg1 ?_
  refine t_istore_n (L' := [some (.ref (ad 2200 0)), some (.int (x1)), some (.int (x2)), some (.int ((V 2230 (0) (x1).toNatClampNeg)))]) DX12_swaps_6 (by decide) rfl ?_
  refine r_aload_n DX12_swaps_7 rfl ?_
  refine s_geta DX12_swaps_8 fl_X12_85 hR ct_2200 (one_cnt _) rfl ?_
  refine r_iload_n DX12_swaps_11 rfl ?_
  refine r_aload_n DX12_swaps_12 rfl ?_
  refine s_geta DX12_swaps_13 fl_X12_85 hR ct_2200 (one_cnt _) rfl ?_
  refine r_iload_n DX12_swaps_16 rfl ?_
  obtain ⟨hg2, h⟩ := gd_inv h
  refine s_iald DX12_swaps_17 hR ct_2230 (one_cnt _) hg2 ?_
  obtain ⟨hg3, h⟩ := gd_inv h
  obtain ⟨V4, hv5, h⟩ := bv_inv h
  refine s_iast DX12_swaps_18 hR oka_2230 ct_2230 (one_cnt _) hg3 (fun M hR => ?_)
  have hR := hR.cg hv5
  refine r_aload_n DX12_swaps_19 rfl ?_
  refine s_geta DX12_swaps_20 fl_X12_85 hR ct_2200 (one_cnt _) rfl ?_
  refine r_iload_n DX12_swaps_23 rfl ?_
  refine r_iload_n DX12_swaps_24 rfl ?_
  obtain ⟨hg6, h⟩ := gd_inv h
  obtain ⟨V7, hv8, h⟩ := bv_inv h
  refine s_iast DX12_swaps_25 hR oka_2230 ct_2230 (one_cnt _) hg6 (fun M hR => ?_)
  have hR := hR.cg hv8
  cases h
  exact r_vret DX12_swaps_26 rfl ⟨Nat.le_refl 0, Nat.le_refl 0⟩ (hp M hR)
theorem C_X12_swaps {E : EN} {ad : AD} {fu : Nat} {out : Int32 × St} {V : St} {M : MH} {x1 : Int32} {x2 : Int32} (l : Launch) (hR : Rep E ad V M) (h : f_X12_swaps fu V x1 x2 = some out) : Ct E l yX12_swaps cX12_swaps 4 none (rmD 1) [.ref (ad 2200 0), .int (x1), .int (x2)] M (fun v M => v = none ∧ Rep E ad out.2 M) :=
  Ct.of (own := RX12) (ini := false) (L := [some (.ref (ad 2200 0)), some (.int (x1)), some (.int (x2)), none]) rfl rfl (fun h => by cases h) rfl (Nat.le_of_ble_eq_true rfl) rfl (fun X _ => S_X12_swaps_0 (fun M hR => ⟨rfl, hR⟩) hR h)
theorem S_X12_nextRow_110 {E : EN} {X : CX} {P : Option Value → MH → Prop} {ad : AD} {fu : Nat} {out : Int32 × St} (hp : ∀ M, Rep E ad out.2 M → P (some (.int out.1)) M) {V : St} {M : MH} {d0 : Option Value} {d1 : Option Value} {d2 : Option Value} {d3 : Option Value} {d4 : Option Value} {d5 : Option Value} (hR : Rep E ad V M) (h : F_X12_nextRow_110 fu V = some out) : G E X RX12 cX12_nextRow 6 (some .boolean) false (rmD 2) P M [d0, d1, d2, d3, d4, d5] 0 0 110 [] := by
  unfold F_X12_nextRow_110 at h
  refine r_iconst (v := 1) DX12_nextRow_110 ki_1 ?_
  cases h
  exact r_zret DX12_nextRow_111 rfl rfl ⟨Nat.le_refl 0, Nat.le_refl 0⟩ (hp M hR)
theorem S_X12_nextRow_80 {E : EN} {X : CX} {P : Option Value → MH → Prop} {ad : AD} {fu : Nat} {out : Int32 × St} {kh : St → Int32 → Int32 → RR} {kx110 : St → RR} (hkh : ∀ {V : St} {M : MH} {x4 : Int32} {x5 : Int32} {d1 : Option Value} {d2 : Option Value} {d3 : Option Value}, Rep E ad V M → kh V x4 x5 = some out → G E X RX12 cX12_nextRow 6 (some .boolean) false (rmD 2) P M [some (.ref (ad 2200 0)), d1, d2, d3, some (.int (x4)), some (.int (x5))] 0 0 80 []) (hkx110 : ∀ {V : St} {M : MH} {d0 : Option Value} {d1 : Option Value} {d2 : Option Value} {d3 : Option Value} {d4 : Option Value} {d5 : Option Value}, Rep E ad V M → kx110 V  = some out → G E X RX12 cX12_nextRow 6 (some .boolean) false (rmD 2) P M [d0, d1, d2, d3, d4, d5] 0 0 110 []) (hp : ∀ M, Rep E ad out.2 M → P (some (.int out.1)) M) {V : St} {M : MH} {x4 : Int32} {x5 : Int32} {d1 : Option Value} {d2 : Option Value} {d3 : Option Value} (hR : Rep E ad V M) (h : F_X12_nextRow_80 kh kx110 fu V x4 x5 = some out) : G E X RX12 cX12_nextRow 6 (some .boolean) false (rmD 2) P M [some (.ref (ad 2200 0)), d1, d2, d3, some (.int (x4)), some (.int (x5))] 0 0 80 [] := by
  unfold F_X12_nextRow_80 at h
  refine r_iload DX12_nextRow_80 rfl ?_
  refine r_iload DX12_nextRow_82 rfl ?_
  refine r_icmp_ge DX12_nextRow_84 (fun c1 => ?_) (fun c1 => ?_)
  · have h := if_t c1 h
    exact hkx110 hR h
  · have h := if_f c1 h
    refine r_aload_n DX12_nextRow_87 rfl ?_
    refine r_iload DX12_nextRow_88 rfl ?_
    refine r_iload DX12_nextRow_90 rfl ?_
    obtain ⟨r2, V3, hc4, h⟩ := bd_inv h
    refine k_callV (As := [.int (x4), .int (x5)]) (rest := []) (st1 := []) (w := none) DX12_nextRow_92 cv_X12_284 hR ct_2200 (one_cnt _) rfl (C_X12_swaps (out := (r2, V3)) (cxL X) hR hc4) rfl (by decide) (by decide) rfl (Nat.le_of_ble_eq_true rfl) rfl (fun M hR => ?_)
    refine r_iload DX12_nextRow_95 rfl ?_
    refine r_iconst (v := 1) DX12_nextRow_97 ki_1 ?_
    refine r_iadd DX12_nextRow_98 ?_
    refine t_istore (L' := [some (.ref (ad 2200 0)), d1, d2, d3, some (.int (x4 + (1 : Int32))), some (.int (x5))]) DX12_nextRow_99 (by decide) rfl ?_
    refine r_iload DX12_nextRow_101 rfl ?_
    refine r_iconst (v := 1) DX12_nextRow_103 ki_1 ?_
    refine r_isub DX12_nextRow_104 ?_
    refine t_istore (L' := [some (.ref (ad 2200 0)), d1, d2, d3, some (.int (x4 + (1 : Int32))), some (.int (x5 - (1 : Int32)))]) DX12_nextRow_105 (by decide) rfl ?_
    refine r_goto DX12_nextRow_107 ?_
    exact hkh hR h
theorem SL_X12_nextRow_80 {E : EN} {X : CX} {P : Option Value → MH → Prop} {ad : AD} {fu : Nat} {out : Int32 × St} {kx110 : St → RR} (hkx110 : ∀ {V : St} {M : MH} {d0 : Option Value} {d1 : Option Value} {d2 : Option Value} {d3 : Option Value} {d4 : Option Value} {d5 : Option Value}, Rep E ad V M → kx110 V  = some out → G E X RX12 cX12_nextRow 6 (some .boolean) false (rmD 2) P M [d0, d1, d2, d3, d4, d5] 0 0 110 []) (hp : ∀ M, Rep E ad out.2 M → P (some (.int out.1)) M) : ∀ (n : Nat) {V : St} {M : MH} {x4 : Int32} {x5 : Int32} {d1 : Option Value} {d2 : Option Value} {d3 : Option Value}, Rep E ad V M → Lp_X12_nextRow_80 kx110 fu n V x4 x5 = some out → G E X RX12 cX12_nextRow 6 (some .boolean) false (rmD 2) P M [some (.ref (ad 2200 0)), d1, d2, d3, some (.int (x4)), some (.int (x5))] 0 0 80 [] := by
  intro n
  induction n with
  | zero => intros; rename_i h; cases h
  | succ n ih => exact fun hR h => S_X12_nextRow_80 (fun hR h => ih hR h) (fun hR h => hkx110 hR h) hp hR h
theorem S_X12_nextRow_64 {E : EN} {X : CX} {P : Option Value → MH → Prop} {ad : AD} {fu : Nat} {out : Int32 × St} (hp : ∀ M, Rep E ad out.2 M → P (some (.int out.1)) M) {V : St} {M : MH} {x1 : Int32} {x2 : Int32} {x3 : Int32} {d4 : Option Value} {d5 : Option Value} (hR : Rep E ad V M) (h : F_X12_nextRow_64 fu V x1 x2 x3 = some out) : G E X RX12 cX12_nextRow 6 (some .boolean) false (rmD 2) P M [some (.ref (ad 2200 0)), some (.int (x1)), some (.int (x2)), some (.int (x3)), d4, d5] 0 0 64 [] := by
  unfold F_X12_nextRow_64 at h
  refine r_aload_n DX12_nextRow_64 rfl ?_
  refine r_iload_n DX12_nextRow_65 rfl ?_
  refine r_iload_n DX12_nextRow_66 rfl ?_
  obtain ⟨r1, V2, hc3, h⟩ := bd_inv h
  refine k_callV (As := [.int (x2), .int (x3)]) (rest := []) (st1 := []) (w := none) DX12_nextRow_67 cv_X12_284 hR ct_2200 (one_cnt _) rfl (C_X12_swaps (out := (r1, V2)) (cxL X) hR hc3) rfl (by decide) (by decide) rfl (Nat.le_of_ble_eq_true rfl) rfl (fun M hR => ?_)
  refine r_iload_n DX12_nextRow_70 rfl ?_
  refine r_iconst (v := 1) DX12_nextRow_71 ki_1 ?_
  refine r_iadd DX12_nextRow_72 ?_
  refine t_istore (L' := [some (.ref (ad 2200 0)), some (.int (x1)), some (.int (x2)), some (.int (x3)), some (.int (x2 + (1 : Int32))), d5]) DX12_nextRow_73 (by decide) rfl ?_
  refine r_iload_n DX12_nextRow_75 rfl ?_
  refine r_iconst (v := 1) DX12_nextRow_76 ki_1 ?_
  refine r_isub DX12_nextRow_77 ?_
  refine t_istore (L' := [some (.ref (ad 2200 0)), some (.int (x1)), some (.int (x2)), some (.int (x3)), some (.int (x2 + (1 : Int32))), some (.int (x1 - (1 : Int32)))]) DX12_nextRow_78 (by decide) rfl ?_
  exact SL_X12_nextRow_80 (fun hR h => S_X12_nextRow_110 hp hR h) hp fu hR h
theorem S_X12_nextRow_42 {E : EN} {X : CX} {P : Option Value → MH → Prop} {ad : AD} {fu : Nat} {out : Int32 × St} {kh : St → Int32 → Int32 → Int32 → RR} {kx64 : St → Int32 → Int32 → Int32 → RR} (hkh : ∀ {V : St} {M : MH} {x1 : Int32} {x2 : Int32} {x3 : Int32} {d4 : Option Value} {d5 : Option Value}, Rep E ad V M → kh V x1 x2 x3 = some out → G E X RX12 cX12_nextRow 6 (some .boolean) false (rmD 2) P M [some (.ref (ad 2200 0)), some (.int (x1)), some (.int (x2)), some (.int (x3)), d4, d5] 0 0 42 []) (hkx64 : ∀ {V : St} {M : MH} {x1 : Int32} {x2 : Int32} {x3 : Int32} {d4 : Option Value} {d5 : Option Value}, Rep E ad V M → kx64 V x1 x2 x3 = some out → G E X RX12 cX12_nextRow 6 (some .boolean) false (rmD 2) P M [some (.ref (ad 2200 0)), some (.int (x1)), some (.int (x2)), some (.int (x3)), d4, d5] 0 0 64 []) (hp : ∀ M, Rep E ad out.2 M → P (some (.int out.1)) M) {V : St} {M : MH} {x1 : Int32} {x2 : Int32} {x3 : Int32} {d4 : Option Value} {d5 : Option Value} (hR : Rep E ad V M) (h : F_X12_nextRow_42 kh kx64 fu V x1 x2 x3 = some out) : G E X RX12 cX12_nextRow 6 (some .boolean) false (rmD 2) P M [some (.ref (ad 2200 0)), some (.int (x1)), some (.int (x2)), some (.int (x3)), d4, d5] 0 0 42 [] := by
  unfold F_X12_nextRow_42 at h
  refine r_aload_n DX12_nextRow_42 rfl ?_
  refine s_geta DX12_nextRow_43 fl_X12_85 hR ct_2200 (one_cnt _) rfl ?_
  refine r_iload_n DX12_nextRow_46 rfl ?_
  obtain ⟨hg1, h⟩ := gd_inv h
  refine s_iald DX12_nextRow_47 hR ct_2230 (one_cnt _) hg1 ?_
  refine r_aload_n DX12_nextRow_48 rfl ?_
  refine s_geta DX12_nextRow_49 fl_X12_85 hR ct_2200 (one_cnt _) rfl ?_
  refine r_iload_n DX12_nextRow_52 rfl ?_
  obtain ⟨hg2, h⟩ := gd_inv h
  refine s_iald DX12_nextRow_53 hR ct_2230 (one_cnt _) hg2 ?_
  refine r_icmp_ge DX12_nextRow_54 (fun c3 => ?_) (fun c3 => ?_)
  · have h := if_t c3 h
    exact hkx64 hR h
  · have h := if_f c3 h
    refine r_iload_n DX12_nextRow_57 rfl ?_
    refine r_iconst (v := 1) DX12_nextRow_58 ki_1 ?_
    refine r_isub DX12_nextRow_59 ?_
    refine t_istore_n (L' := [some (.ref (ad 2200 0)), some (.int (x1)), some (.int (x2)), some (.int (x3 - (1 : Int32))), d4, d5]) DX12_nextRow_60 (by decide) rfl ?_
    refine r_goto DX12_nextRow_61 ?_
    exact hkh hR h
theorem SL_X12_nextRow_42 {E : EN} {X : CX} {P : Option Value → MH → Prop} {ad : AD} {fu : Nat} {out : Int32 × St} {kx64 : St → Int32 → Int32 → Int32 → RR} (hkx64 : ∀ {V : St} {M : MH} {x1 : Int32} {x2 : Int32} {x3 : Int32} {d4 : Option Value} {d5 : Option Value}, Rep E ad V M → kx64 V x1 x2 x3 = some out → G E X RX12 cX12_nextRow 6 (some .boolean) false (rmD 2) P M [some (.ref (ad 2200 0)), some (.int (x1)), some (.int (x2)), some (.int (x3)), d4, d5] 0 0 64 []) (hp : ∀ M, Rep E ad out.2 M → P (some (.int out.1)) M) : ∀ (n : Nat) {V : St} {M : MH} {x1 : Int32} {x2 : Int32} {x3 : Int32} {d4 : Option Value} {d5 : Option Value}, Rep E ad V M → Lp_X12_nextRow_42 kx64 fu n V x1 x2 x3 = some out → G E X RX12 cX12_nextRow 6 (some .boolean) false (rmD 2) P M [some (.ref (ad 2200 0)), some (.int (x1)), some (.int (x2)), some (.int (x3)), d4, d5] 0 0 42 [] := by
  intro n
  induction n with
  | zero => intros; rename_i h; cases h
  | succ n ih => exact fun hR h => S_X12_nextRow_42 (fun hR h => ih hR h) (fun hR h => hkx64 hR h) hp hR h
theorem S_X12_nextRow_32 {E : EN} {X : CX} {P : Option Value → MH → Prop} {ad : AD} {fu : Nat} {out : Int32 × St} (hp : ∀ M, Rep E ad out.2 M → P (some (.int out.1)) M) {V : St} {M : MH} {x1 : Int32} {x2 : Int32} {d3 : Option Value} {d4 : Option Value} {d5 : Option Value} (hR : Rep E ad V M) (h : F_X12_nextRow_32 fu V x1 x2 = some out) : G E X RX12 cX12_nextRow 6 (some .boolean) false (rmD 2) P M [some (.ref (ad 2200 0)), some (.int (x1)), some (.int (x2)), d3, d4, d5] 0 0 32 [] := by
  unfold F_X12_nextRow_32 at h
  refine r_iload_n DX12_nextRow_32 rfl ?_
  refine r_if_ge DX12_nextRow_33 (fun c1 => ?_) (fun c1 => ?_)
  · have h := if_t c1 h
    refine r_iload_n DX12_nextRow_38 rfl ?_
    refine r_iconst (v := 1) DX12_nextRow_39 ki_1 ?_
    refine r_isub DX12_nextRow_40 ?_
    refine t_istore_n (L' := [some (.ref (ad 2200 0)), some (.int (x1)), some (.int (x2)), some (.int (x1 - (1 : Int32))), d4, d5]) DX12_nextRow_41 (by decide) rfl ?_
    exact SL_X12_nextRow_42 (fun hR h => S_X12_nextRow_64 hp hR h) hp fu hR h
  · have h := if_f c1 h
    refine r_iconst (v := 0) DX12_nextRow_36 ki_0 ?_
    cases h
    exact r_zret DX12_nextRow_37 rfl rfl ⟨Nat.le_refl 0, Nat.le_refl 0⟩ (hp M hR)
theorem S_X12_nextRow_4 {E : EN} {X : CX} {P : Option Value → MH → Prop} {ad : AD} {fu : Nat} {out : Int32 × St} {kh : St → Int32 → Int32 → RR} {kx32 : St → Int32 → Int32 → RR} (hkh : ∀ {V : St} {M : MH} {x1 : Int32} {x2 : Int32} {d3 : Option Value} {d4 : Option Value} {d5 : Option Value}, Rep E ad V M → kh V x1 x2 = some out → G E X RX12 cX12_nextRow 6 (some .boolean) false (rmD 2) P M [some (.ref (ad 2200 0)), some (.int (x1)), some (.int (x2)), d3, d4, d5] 0 0 4 []) (hkx32 : ∀ {V : St} {M : MH} {x1 : Int32} {x2 : Int32} {d3 : Option Value} {d4 : Option Value} {d5 : Option Value}, Rep E ad V M → kx32 V x1 x2 = some out → G E X RX12 cX12_nextRow 6 (some .boolean) false (rmD 2) P M [some (.ref (ad 2200 0)), some (.int (x1)), some (.int (x2)), d3, d4, d5] 0 0 32 []) (hp : ∀ M, Rep E ad out.2 M → P (some (.int out.1)) M) {V : St} {M : MH} {x1 : Int32} {x2 : Int32} {d3 : Option Value} {d4 : Option Value} {d5 : Option Value} (hR : Rep E ad V M) (h : F_X12_nextRow_4 kh kx32 fu V x1 x2 = some out) : G E X RX12 cX12_nextRow 6 (some .boolean) false (rmD 2) P M [some (.ref (ad 2200 0)), some (.int (x1)), some (.int (x2)), d3, d4, d5] 0 0 4 [] := by
  unfold F_X12_nextRow_4 at h
  refine r_iload_n DX12_nextRow_4 rfl ?_
  refine r_if_lt DX12_nextRow_5 (fun c1 => ?_) (fun c1 => ?_)
  · have h := if_t c1 h
    exact hkx32 hR h
  · have h := if_f c1 h
    refine r_aload_n DX12_nextRow_8 rfl ?_
    refine s_geta DX12_nextRow_9 fl_X12_85 hR ct_2200 (one_cnt _) rfl ?_
    refine r_iload_n DX12_nextRow_12 rfl ?_
    obtain ⟨hg2, h⟩ := gd_inv h
    refine s_iald DX12_nextRow_13 hR ct_2230 (one_cnt _) hg2 ?_
    refine r_aload_n DX12_nextRow_14 rfl ?_
    refine s_geta DX12_nextRow_15 fl_X12_85 hR ct_2200 (one_cnt _) rfl ?_
    refine r_iload_n DX12_nextRow_18 rfl ?_
    refine r_iconst (v := 1) DX12_nextRow_19 ki_1 ?_
    refine r_iadd DX12_nextRow_20 ?_
    obtain ⟨hg3, h⟩ := gd_inv h
    refine s_iald DX12_nextRow_21 hR ct_2230 (one_cnt _) hg3 ?_
    refine r_icmp_le DX12_nextRow_22 (fun c4 => ?_) (fun c4 => ?_)
    · have h := if_t c4 h
      exact hkx32 hR h
    · have h := if_f c4 h
      refine r_iload_n DX12_nextRow_25 rfl ?_
      refine r_iconst (v := 1) DX12_nextRow_26 ki_1 ?_
      refine r_isub DX12_nextRow_27 ?_
      refine t_istore_n (L' := [some (.ref (ad 2200 0)), some (.int (x1)), some (.int (x2 - (1 : Int32))), d3, d4, d5]) DX12_nextRow_28 (by decide) rfl ?_
      refine r_goto DX12_nextRow_29 ?_
      exact hkh hR h
theorem SL_X12_nextRow_4 {E : EN} {X : CX} {P : Option Value → MH → Prop} {ad : AD} {fu : Nat} {out : Int32 × St} {kx32 : St → Int32 → Int32 → RR} (hkx32 : ∀ {V : St} {M : MH} {x1 : Int32} {x2 : Int32} {d3 : Option Value} {d4 : Option Value} {d5 : Option Value}, Rep E ad V M → kx32 V x1 x2 = some out → G E X RX12 cX12_nextRow 6 (some .boolean) false (rmD 2) P M [some (.ref (ad 2200 0)), some (.int (x1)), some (.int (x2)), d3, d4, d5] 0 0 32 []) (hp : ∀ M, Rep E ad out.2 M → P (some (.int out.1)) M) : ∀ (n : Nat) {V : St} {M : MH} {x1 : Int32} {x2 : Int32} {d3 : Option Value} {d4 : Option Value} {d5 : Option Value}, Rep E ad V M → Lp_X12_nextRow_4 kx32 fu n V x1 x2 = some out → G E X RX12 cX12_nextRow 6 (some .boolean) false (rmD 2) P M [some (.ref (ad 2200 0)), some (.int (x1)), some (.int (x2)), d3, d4, d5] 0 0 4 [] := by
  intro n
  induction n with
  | zero => intros; rename_i h; cases h
  | succ n ih => exact fun hR h => S_X12_nextRow_4 (fun hR h => ih hR h) (fun hR h => hkx32 hR h) hp hR h
theorem S_X12_nextRow_0 {E : EN} {X : CX} {P : Option Value → MH → Prop} {ad : AD} {fu : Nat} {out : Int32 × St} (hp : ∀ M, Rep E ad out.2 M → P (some (.int out.1)) M) {V : St} {M : MH} {x1 : Int32} (hR : Rep E ad V M) (h : f_X12_nextRow fu V x1 = some out) : G E X RX12 cX12_nextRow 6 (some .boolean) false (rmD 2) P M [some (.ref (ad 2200 0)), some (.int (x1)), none, none, none, none] 0 0 0 [] := by
  unfold f_X12_nextRow at h
  refine r_iload_n DX12_nextRow_0 rfl ?_
  refine r_iconst (v := 2) DX12_nextRow_1 ki_2 ?_
  refine r_isub DX12_nextRow_2 ?_
  refine t_istore_n (L' := [some (.ref (ad 2200 0)), some (.int (x1)), some (.int (x1 - (2 : Int32))), none, none, none]) DX12_nextRow_3 (by decide) rfl ?_
  exact SL_X12_nextRow_4 (fun hR h => S_X12_nextRow_32 hp hR h) hp fu hR h
theorem C_X12_nextRow {E : EN} {ad : AD} {fu : Nat} {out : Int32 × St} {V : St} {M : MH} {x1 : Int32} (l : Launch) (hR : Rep E ad V M) (h : f_X12_nextRow fu V x1 = some out) : Ct E l yX12_nextRow cX12_nextRow 6 (some .boolean) (rmD 2) [.ref (ad 2200 0), .int (x1)] M (fun v M => v = (some (.int out.1)) ∧ Rep E ad out.2 M) :=
  Ct.of (own := RX12) (ini := false) (L := [some (.ref (ad 2200 0)), some (.int (x1)), none, none, none, none]) rfl rfl (fun h => by cases h) rfl (Nat.le_of_ble_eq_true rfl) rfl (fun X _ => S_X12_nextRow_0 (fun M hR => ⟨rfl, hR⟩) hR h)
theorem S_X12_least_181 {E : EN} {X : CX} {P : Option Value → MH → Prop} {ad : AD} {fu : Nat} {out : Int32 × St} (hp : ∀ M, Rep E ad out.2 M → P (some (.int out.1)) M) {V : St} {M : MH} {s0 : Int32} {d0 : Option Value} {d1 : Option Value} {d2 : Option Value} {d3 : Option Value} {d4 : Option Value} {d5 : Option Value} {d6 : Option Value} {d7 : Option Value} {d8 : Option Value} (hR : Rep E ad V M) (h : F_X12_least_181 fu V s0 = some out) : G E X RX12 cX12_least 9 (some .int) false (rmD 3) P M [d0, d1, d2, d3, d4, d5, d6, d7, d8] 0 0 181 [.int (s0)] := by
  unfold F_X12_least_181 at h
  cases h
  exact r_iret DX12_least_181 rfl ⟨Nat.le_refl 0, Nat.le_refl 0⟩ (hp M hR)
theorem S_X12_least_165 {E : EN} {X : CX} {P : Option Value → MH → Prop} {ad : AD} {fu : Nat} {out : Int32 × St} (hp : ∀ M, Rep E ad out.2 M → P (some (.int out.1)) M) {V : St} {M : MH} {x3 : Int32} {x5 : Int32} {d1 : Option Value} {d2 : Option Value} {d4 : Option Value} {d6 : Option Value} {d7 : Option Value} {d8 : Option Value} (hR : Rep E ad V M) (h : F_X12_least_165 fu V x3 x5 = some out) : G E X RX12 cX12_least 9 (some .int) false (rmD 3) P M [some (.ref (ad 2200 0)), d1, d2, some (.int (x3)), d4, some (.int (x5)), d6, d7, d8] 0 0 165 [] := by
  unfold F_X12_least_165 at h
  refine r_iload_n DX12_least_165 rfl ?_
  refine r_iconst (v := -1) DX12_least_166 ki_m1 ?_
  refine r_icmp_ne DX12_least_167 (fun c1 => ?_) (fun c1 => ?_)
  · have h := if_f c1 h
    refine r_aload_n DX12_least_175 rfl ?_
    refine s_geta DX12_least_176 fl_X12_88 hR ct_2200 (one_cnt _) rfl ?_
    refine r_iload_n DX12_least_179 rfl ?_
    obtain ⟨hg2, h⟩ := gd_inv h
    refine s_iald DX12_least_180 hR ct_2231 (one_cnt _) hg2 ?_
    exact S_X12_least_181 hp hR h
  · have h := if_t c1 h
    refine r_iload DX12_least_170 rfl ?_
    refine r_goto DX12_least_172 ?_
    exact S_X12_least_181 hp hR h
theorem S_X12_least_154 {E : EN} {X : CX} {P : Option Value → MH → Prop} {ad : AD} {fu : Nat} {out : Int32 × St} {kh : St → Int32 → Int32 → Int32 → Int32 → Int32 → Int32 → RR} {kx165 : St → Int32 → Int32 → RR} (hkh : ∀ {V : St} {M : MH} {x1 : Int32} {x2 : Int32} {x3 : Int32} {x4 : Int32} {x5 : Int32} {x6 : Int32} {d7 : Option Value} {d8 : Option Value}, Rep E ad V M → kh V x1 x2 x3 x4 x5 x6 = some out → G E X RX12 cX12_least 9 (some .int) false (rmD 3) P M [some (.ref (ad 2200 0)), some (.int (x1)), some (.int (x2)), some (.int (x3)), some (.int (x4)), some (.int (x5)), some (.int (x6)), d7, d8] 0 0 94 []) (hkx165 : ∀ {V : St} {M : MH} {x3 : Int32} {x5 : Int32} {d1 : Option Value} {d2 : Option Value} {d4 : Option Value} {d6 : Option Value} {d7 : Option Value} {d8 : Option Value}, Rep E ad V M → kx165 V x3 x5 = some out → G E X RX12 cX12_least 9 (some .int) false (rmD 3) P M [some (.ref (ad 2200 0)), d1, d2, some (.int (x3)), d4, some (.int (x5)), d6, d7, d8] 0 0 165 []) (hp : ∀ M, Rep E ad out.2 M → P (some (.int out.1)) M) {V : St} {M : MH} {x1 : Int32} {x2 : Int32} {x3 : Int32} {x4 : Int32} {x5 : Int32} {d6 : Option Value} {d7 : Option Value} {d8 : Option Value} (hR : Rep E ad V M) (h : F_X12_least_154 kh kx165 fu V x1 x2 x3 x4 x5 = some out) : G E X RX12 cX12_least 9 (some .int) false (rmD 3) P M [some (.ref (ad 2200 0)), some (.int (x1)), some (.int (x2)), some (.int (x3)), some (.int (x4)), some (.int (x5)), d6, d7, d8] 0 0 154 [] := by
  unfold F_X12_least_154 at h
  refine r_aload_n DX12_least_154 rfl ?_
  refine r_iload DX12_least_155 rfl ?_
  obtain ⟨r1, V2, hc3, h⟩ := bd_inv h
  refine k_callV (As := [.int (x4)]) (rest := []) (st1 := [.int (r1)]) (w := some (.int r1)) DX12_least_157 cv_X12_288 hR ct_2200 (one_cnt _) rfl (C_X12_nextRow (out := (r1, V2)) (cxL X) hR hc3) rfl (by decide) (by decide) rfl (Nat.le_of_ble_eq_true rfl) rfl (fun M hR => ?_)
  refine t_istore (L' := [some (.ref (ad 2200 0)), some (.int (x1)), some (.int (x2)), some (.int (x3)), some (.int (x4)), some (.int (x5)), some (.int (r1)), d7, d8]) DX12_least_160 (by decide) rfl ?_
  refine r_goto DX12_least_162 ?_
  exact hkh hR h
theorem S_X12_least_127 {E : EN} {X : CX} {P : Option Value → MH → Prop} {ad : AD} {fu : Nat} {out : Int32 × St} {kh : St → Int32 → Int32 → Int32 → Int32 → Int32 → Int32 → RR} {kx154 : St → Int32 → Int32 → Int32 → Int32 → Int32 → RR} (hkh : ∀ {V : St} {M : MH} {x1 : Int32} {x2 : Int32} {x3 : Int32} {x4 : Int32} {x5 : Int32} {x8 : Int32} {d6 : Option Value} {d7 : Option Value}, Rep E ad V M → kh V x1 x2 x3 x4 x5 x8 = some out → G E X RX12 cX12_least 9 (some .int) false (rmD 3) P M [some (.ref (ad 2200 0)), some (.int (x1)), some (.int (x2)), some (.int (x3)), some (.int (x4)), some (.int (x5)), d6, d7, some (.int (x8))] 0 0 127 []) (hkx154 : ∀ {V : St} {M : MH} {x1 : Int32} {x2 : Int32} {x3 : Int32} {x4 : Int32} {x5 : Int32} {d6 : Option Value} {d7 : Option Value} {d8 : Option Value}, Rep E ad V M → kx154 V x1 x2 x3 x4 x5 = some out → G E X RX12 cX12_least 9 (some .int) false (rmD 3) P M [some (.ref (ad 2200 0)), some (.int (x1)), some (.int (x2)), some (.int (x3)), some (.int (x4)), some (.int (x5)), d6, d7, d8] 0 0 154 []) (hp : ∀ M, Rep E ad out.2 M → P (some (.int out.1)) M) {V : St} {M : MH} {x1 : Int32} {x2 : Int32} {x3 : Int32} {x4 : Int32} {x5 : Int32} {x8 : Int32} {d6 : Option Value} {d7 : Option Value} (hR : Rep E ad V M) (h : F_X12_least_127 kh kx154 fu V x1 x2 x3 x4 x5 x8 = some out) : G E X RX12 cX12_least 9 (some .int) false (rmD 3) P M [some (.ref (ad 2200 0)), some (.int (x1)), some (.int (x2)), some (.int (x3)), some (.int (x4)), some (.int (x5)), d6, d7, some (.int (x8))] 0 0 127 [] := by
  unfold F_X12_least_127 at h
  refine r_iload DX12_least_127 rfl ?_
  refine r_iload DX12_least_129 rfl ?_
  refine r_icmp_ge DX12_least_131 (fun c1 => ?_) (fun c1 => ?_)
  · have h := if_t c1 h
    exact hkx154 hR h
  · have h := if_f c1 h
    refine r_aload_n DX12_least_134 rfl ?_
    refine s_geta DX12_least_135 fl_X12_88 hR ct_2200 (one_cnt _) rfl ?_
    refine r_iload DX12_least_138 rfl ?_
    refine r_aload_n DX12_least_140 rfl ?_
    refine s_geta DX12_least_141 fl_X12_85 hR ct_2200 (one_cnt _) rfl ?_
    refine r_iload DX12_least_144 rfl ?_
    obtain ⟨hg2, h⟩ := gd_inv h
    refine s_iald DX12_least_146 hR ct_2230 (one_cnt _) hg2 ?_
    obtain ⟨hg3, h⟩ := gd_inv h
    obtain ⟨V4, hv5, h⟩ := bv_inv h
    refine s_iast DX12_least_147 hR oka_2231 ct_2231 (one_cnt _) hg3 (fun M hR => ?_)
    have hR := hR.cg hv5
    refine t_iinc (v := 1) (L' := [some (.ref (ad 2200 0)), some (.int (x1)), some (.int (x2)), some (.int (x3)), some (.int (x4)), some (.int (x5)), d6, d7, some (.int (x8 + 1))]) DX12_least_148 rfl ki_1 (by decide) rfl ?_
    refine r_goto DX12_least_151 ?_
    exact hkh hR h
theorem SL_X12_least_127 {E : EN} {X : CX} {P : Option Value → MH → Prop} {ad : AD} {fu : Nat} {out : Int32 × St} {kx154 : St → Int32 → Int32 → Int32 → Int32 → Int32 → RR} (hkx154 : ∀ {V : St} {M : MH} {x1 : Int32} {x2 : Int32} {x3 : Int32} {x4 : Int32} {x5 : Int32} {d6 : Option Value} {d7 : Option Value} {d8 : Option Value}, Rep E ad V M → kx154 V x1 x2 x3 x4 x5 = some out → G E X RX12 cX12_least 9 (some .int) false (rmD 3) P M [some (.ref (ad 2200 0)), some (.int (x1)), some (.int (x2)), some (.int (x3)), some (.int (x4)), some (.int (x5)), d6, d7, d8] 0 0 154 []) (hp : ∀ M, Rep E ad out.2 M → P (some (.int out.1)) M) : ∀ (n : Nat) {V : St} {M : MH} {x1 : Int32} {x2 : Int32} {x3 : Int32} {x4 : Int32} {x5 : Int32} {x8 : Int32} {d6 : Option Value} {d7 : Option Value}, Rep E ad V M → Lp_X12_least_127 kx154 fu n V x1 x2 x3 x4 x5 x8 = some out → G E X RX12 cX12_least 9 (some .int) false (rmD 3) P M [some (.ref (ad 2200 0)), some (.int (x1)), some (.int (x2)), some (.int (x3)), some (.int (x4)), some (.int (x5)), d6, d7, some (.int (x8))] 0 0 127 [] := by
  intro n
  induction n with
  | zero => intros; rename_i h; cases h
  | succ n ih => exact fun hR h => S_X12_least_127 (fun hR h => ih hR h) (fun hR h => hkx154 hR h) hp hR h
theorem S_X12_least_120 {E : EN} {X : CX} {P : Option Value → MH → Prop} {ad : AD} {fu : Nat} {out : Int32 × St} {kh : St → Int32 → Int32 → Int32 → Int32 → Int32 → Int32 → RR} {kx165 : St → Int32 → Int32 → RR} (hkh : ∀ {V : St} {M : MH} {x1 : Int32} {x2 : Int32} {x3 : Int32} {x4 : Int32} {x5 : Int32} {x6 : Int32} {d7 : Option Value} {d8 : Option Value}, Rep E ad V M → kh V x1 x2 x3 x4 x5 x6 = some out → G E X RX12 cX12_least 9 (some .int) false (rmD 3) P M [some (.ref (ad 2200 0)), some (.int (x1)), some (.int (x2)), some (.int (x3)), some (.int (x4)), some (.int (x5)), some (.int (x6)), d7, d8] 0 0 94 []) (hkx165 : ∀ {V : St} {M : MH} {x3 : Int32} {x5 : Int32} {d1 : Option Value} {d2 : Option Value} {d4 : Option Value} {d6 : Option Value} {d7 : Option Value} {d8 : Option Value}, Rep E ad V M → kx165 V x3 x5 = some out → G E X RX12 cX12_least 9 (some .int) false (rmD 3) P M [some (.ref (ad 2200 0)), d1, d2, some (.int (x3)), d4, some (.int (x5)), d6, d7, d8] 0 0 165 []) (hp : ∀ M, Rep E ad out.2 M → P (some (.int out.1)) M) {V : St} {M : MH} {x1 : Int32} {x2 : Int32} {x3 : Int32} {x4 : Int32} {x7 : Int32} {d5 : Option Value} {d6 : Option Value} {d8 : Option Value} (hR : Rep E ad V M) (h : F_X12_least_120 kh kx165 fu V x1 x2 x3 x4 x7 = some out) : G E X RX12 cX12_least 9 (some .int) false (rmD 3) P M [some (.ref (ad 2200 0)), some (.int (x1)), some (.int (x2)), some (.int (x3)), some (.int (x4)), d5, d6, some (.int (x7)), d8] 0 0 120 [] := by
  unfold F_X12_least_120 at h
  refine r_iload DX12_least_120 rfl ?_
  refine t_istore (L' := [some (.ref (ad 2200 0)), some (.int (x1)), some (.int (x2)), some (.int (x3)), some (.int (x4)), some (.int (x7)), d6, some (.int (x7)), d8]) DX12_least_122 (by decide) rfl ?_
  refine r_iconst (v := 0) DX12_least_124 ki_0 ?_
  refine t_istore (L' := [some (.ref (ad 2200 0)), some (.int (x1)), some (.int (x2)), some (.int (x3)), some (.int (x4)), some (.int (x7)), d6, some (.int (x7)), some (.int ((0 : Int32)))]) DX12_least_125 (by decide) rfl ?_
  exact SL_X12_least_127 (fun hR h => S_X12_least_154 (fun hR h => hkh hR h) (fun hR h => hkx165 hR h) hp hR h) hp fu hR h
theorem S_X12_least_94 {E : EN} {X : CX} {P : Option Value → MH → Prop} {ad : AD} {fu : Nat} {out : Int32 × St} {kh : St → Int32 → Int32 → Int32 → Int32 → Int32 → Int32 → RR} {kx165 : St → Int32 → Int32 → RR} (hkh : ∀ {V : St} {M : MH} {x1 : Int32} {x2 : Int32} {x3 : Int32} {x4 : Int32} {x5 : Int32} {x6 : Int32} {d7 : Option Value} {d8 : Option Value}, Rep E ad V M → kh V x1 x2 x3 x4 x5 x6 = some out → G E X RX12 cX12_least 9 (some .int) false (rmD 3) P M [some (.ref (ad 2200 0)), some (.int (x1)), some (.int (x2)), some (.int (x3)), some (.int (x4)), some (.int (x5)), some (.int (x6)), d7, d8] 0 0 94 []) (hkx165 : ∀ {V : St} {M : MH} {x3 : Int32} {x5 : Int32} {d1 : Option Value} {d2 : Option Value} {d4 : Option Value} {d6 : Option Value} {d7 : Option Value} {d8 : Option Value}, Rep E ad V M → kx165 V x3 x5 = some out → G E X RX12 cX12_least 9 (some .int) false (rmD 3) P M [some (.ref (ad 2200 0)), d1, d2, some (.int (x3)), d4, some (.int (x5)), d6, d7, d8] 0 0 165 []) (hp : ∀ M, Rep E ad out.2 M → P (some (.int out.1)) M) {V : St} {M : MH} {x1 : Int32} {x2 : Int32} {x3 : Int32} {x4 : Int32} {x5 : Int32} {x6 : Int32} {d7 : Option Value} {d8 : Option Value} (hR : Rep E ad V M) (h : F_X12_least_94 kh kx165 fu V x1 x2 x3 x4 x5 x6 = some out) : G E X RX12 cX12_least 9 (some .int) false (rmD 3) P M [some (.ref (ad 2200 0)), some (.int (x1)), some (.int (x2)), some (.int (x3)), some (.int (x4)), some (.int (x5)), some (.int (x6)), d7, d8] 0 0 94 [] := by
  unfold F_X12_least_94 at h
  refine r_iload DX12_least_94 rfl ?_
  refine r_if_eq DX12_least_96 (fun c1 => ?_) (fun c1 => ?_)
  · have h := if_t c1 h
    exact hkx165 hR h
  · have h := if_f c1 h
    refine r_aload_n DX12_least_99 rfl ?_
    refine r_iload_n DX12_least_100 rfl ?_
    refine r_iload_n DX12_least_101 rfl ?_
    obtain ⟨r2, V3, hc4, h⟩ := bd_inv h
    refine k_callV (As := [.int (x1), .int (x2)]) (rest := []) (st1 := [.int (r2)]) (w := some (.int r2)) DX12_least_102 cv_X12_281 hR ct_2200 (one_cnt _) rfl (C_X12_lengthOf (out := (r2, V3)) (cxL X) hR hc4) rfl (by decide) (by decide) rfl (Nat.le_of_ble_eq_true rfl) rfl (fun M hR => ?_)
    refine t_istore (L' := [some (.ref (ad 2200 0)), some (.int (x1)), some (.int (x2)), some (.int (x3)), some (.int (x4)), some (.int (x5)), some (.int (x6)), some (.int (r2)), d8]) DX12_least_105 (by decide) rfl ?_
    refine r_iload DX12_least_107 rfl ?_
    refine r_iconst (v := -1) DX12_least_109 ki_m1 ?_
    refine r_icmp_eq DX12_least_110 (fun c5 => ?_) (fun c5 => ?_)
    · have h := if_t c5 h
      exact S_X12_least_120 (fun hR h => hkh hR h) (fun hR h => hkx165 hR h) hp hR h
    · have h := if_f c5 h
      refine r_iload DX12_least_113 rfl ?_
      refine r_iload DX12_least_115 rfl ?_
      refine r_icmp_ge DX12_least_117 (fun c6 => ?_) (fun c6 => ?_)
      · have h := if_t c6 h
        exact S_X12_least_154 (fun hR h => hkh hR h) (fun hR h => hkx165 hR h) hp hR h
      · have h := if_f c6 h
        exact S_X12_least_120 (fun hR h => hkh hR h) (fun hR h => hkx165 hR h) hp hR h
theorem SL_X12_least_94 {E : EN} {X : CX} {P : Option Value → MH → Prop} {ad : AD} {fu : Nat} {out : Int32 × St} {kx165 : St → Int32 → Int32 → RR} (hkx165 : ∀ {V : St} {M : MH} {x3 : Int32} {x5 : Int32} {d1 : Option Value} {d2 : Option Value} {d4 : Option Value} {d6 : Option Value} {d7 : Option Value} {d8 : Option Value}, Rep E ad V M → kx165 V x3 x5 = some out → G E X RX12 cX12_least 9 (some .int) false (rmD 3) P M [some (.ref (ad 2200 0)), d1, d2, some (.int (x3)), d4, some (.int (x5)), d6, d7, d8] 0 0 165 []) (hp : ∀ M, Rep E ad out.2 M → P (some (.int out.1)) M) : ∀ (n : Nat) {V : St} {M : MH} {x1 : Int32} {x2 : Int32} {x3 : Int32} {x4 : Int32} {x5 : Int32} {x6 : Int32} {d7 : Option Value} {d8 : Option Value}, Rep E ad V M → Lp_X12_least_94 kx165 fu n V x1 x2 x3 x4 x5 x6 = some out → G E X RX12 cX12_least 9 (some .int) false (rmD 3) P M [some (.ref (ad 2200 0)), some (.int (x1)), some (.int (x2)), some (.int (x3)), some (.int (x4)), some (.int (x5)), some (.int (x6)), d7, d8] 0 0 94 [] := by
  intro n
  induction n with
  | zero => intros; rename_i h; cases h
  | succ n ih => exact fun hR h => S_X12_least_94 (fun hR h => ih hR h) (fun hR h => hkx165 hR h) hp hR h
theorem S_X12_least_88 {E : EN} {X : CX} {P : Option Value → MH → Prop} {ad : AD} {fu : Nat} {out : Int32 × St} (hp : ∀ M, Rep E ad out.2 M → P (some (.int out.1)) M) {V : St} {M : MH} {x1 : Int32} {x2 : Int32} {x3 : Int32} {x4 : Int32} {d5 : Option Value} {d6 : Option Value} {d7 : Option Value} {d8 : Option Value} (hR : Rep E ad V M) (h : F_X12_least_88 fu V x1 x2 x3 x4 = some out) : G E X RX12 cX12_least 9 (some .int) false (rmD 3) P M [some (.ref (ad 2200 0)), some (.int (x1)), some (.int (x2)), some (.int (x3)), some (.int (x4)), d5, d6, d7, d8] 0 0 88 [] := by
  unfold F_X12_least_88 at h
  refine r_iconst (v := -1) DX12_least_88 ki_m1 ?_
  refine t_istore (L' := [some (.ref (ad 2200 0)), some (.int (x1)), some (.int (x2)), some (.int (x3)), some (.int (x4)), some (.int ((-1 : Int32))), d6, d7, d8]) DX12_least_89 (by decide) rfl ?_
  refine r_iconst (v := 1) DX12_least_91 ki_1 ?_
  refine t_istore (L' := [some (.ref (ad 2200 0)), some (.int (x1)), some (.int (x2)), some (.int (x3)), some (.int (x4)), some (.int ((-1 : Int32))), some (.int ((1 : Int32))), d7, d8]) DX12_least_92 (by decide) rfl ?_
  exact SL_X12_least_94 (fun hR h => S_X12_least_165 hp hR h) hp fu hR h
theorem S_X12_least_66 {E : EN} {X : CX} {P : Option Value → MH → Prop} {ad : AD} {fu : Nat} {out : Int32 × St} {kh : St → Int32 → Int32 → Int32 → Int32 → Int32 → RR} {kx88 : St → Int32 → Int32 → Int32 → Int32 → RR} (hkh : ∀ {V : St} {M : MH} {x1 : Int32} {x2 : Int32} {x3 : Int32} {x4 : Int32} {x5 : Int32} {d6 : Option Value} {d7 : Option Value} {d8 : Option Value}, Rep E ad V M → kh V x1 x2 x3 x4 x5 = some out → G E X RX12 cX12_least 9 (some .int) false (rmD 3) P M [some (.ref (ad 2200 0)), some (.int (x1)), some (.int (x2)), some (.int (x3)), some (.int (x4)), some (.int (x5)), d6, d7, d8] 0 0 66 []) (hkx88 : ∀ {V : St} {M : MH} {x1 : Int32} {x2 : Int32} {x3 : Int32} {x4 : Int32} {d5 : Option Value} {d6 : Option Value} {d7 : Option Value} {d8 : Option Value}, Rep E ad V M → kx88 V x1 x2 x3 x4 = some out → G E X RX12 cX12_least 9 (some .int) false (rmD 3) P M [some (.ref (ad 2200 0)), some (.int (x1)), some (.int (x2)), some (.int (x3)), some (.int (x4)), d5, d6, d7, d8] 0 0 88 []) (hp : ∀ M, Rep E ad out.2 M → P (some (.int out.1)) M) {V : St} {M : MH} {x1 : Int32} {x2 : Int32} {x3 : Int32} {x4 : Int32} {x5 : Int32} {d6 : Option Value} {d7 : Option Value} {d8 : Option Value} (hR : Rep E ad V M) (h : F_X12_least_66 kh kx88 fu V x1 x2 x3 x4 x5 = some out) : G E X RX12 cX12_least 9 (some .int) false (rmD 3) P M [some (.ref (ad 2200 0)), some (.int (x1)), some (.int (x2)), some (.int (x3)), some (.int (x4)), some (.int (x5)), d6, d7, d8] 0 0 66 [] := by
  unfold F_X12_least_66 at h
  refine r_iload DX12_least_66 rfl ?_
  refine r_iload DX12_least_68 rfl ?_
  refine r_icmp_ge DX12_least_70 (fun c1 => ?_) (fun c1 => ?_)
  · have h := if_t c1 h
    exact hkx88 hR h
  · have h := if_f c1 h
    refine r_aload_n DX12_least_73 rfl ?_
    refine s_geta DX12_least_74 fl_X12_85 hR ct_2200 (one_cnt _) rfl ?_
    refine r_iload DX12_least_77 rfl ?_
    refine r_iload DX12_least_79 rfl ?_
    obtain ⟨hg2, h⟩ := gd_inv h
    obtain ⟨V3, hv4, h⟩ := bv_inv h
    refine s_iast DX12_least_81 hR oka_2230 ct_2230 (one_cnt _) hg2 (fun M hR => ?_)
    have hR := hR.cg hv4
    refine t_iinc (v := 1) (L' := [some (.ref (ad 2200 0)), some (.int (x1)), some (.int (x2)), some (.int (x3)), some (.int (x4)), some (.int (x5 + 1)), d6, d7, d8]) DX12_least_82 rfl ki_1 (by decide) rfl ?_
    refine r_goto DX12_least_85 ?_
    exact hkh hR h
theorem SL_X12_least_66 {E : EN} {X : CX} {P : Option Value → MH → Prop} {ad : AD} {fu : Nat} {out : Int32 × St} {kx88 : St → Int32 → Int32 → Int32 → Int32 → RR} (hkx88 : ∀ {V : St} {M : MH} {x1 : Int32} {x2 : Int32} {x3 : Int32} {x4 : Int32} {d5 : Option Value} {d6 : Option Value} {d7 : Option Value} {d8 : Option Value}, Rep E ad V M → kx88 V x1 x2 x3 x4 = some out → G E X RX12 cX12_least 9 (some .int) false (rmD 3) P M [some (.ref (ad 2200 0)), some (.int (x1)), some (.int (x2)), some (.int (x3)), some (.int (x4)), d5, d6, d7, d8] 0 0 88 []) (hp : ∀ M, Rep E ad out.2 M → P (some (.int out.1)) M) : ∀ (n : Nat) {V : St} {M : MH} {x1 : Int32} {x2 : Int32} {x3 : Int32} {x4 : Int32} {x5 : Int32} {d6 : Option Value} {d7 : Option Value} {d8 : Option Value}, Rep E ad V M → Lp_X12_least_66 kx88 fu n V x1 x2 x3 x4 x5 = some out → G E X RX12 cX12_least 9 (some .int) false (rmD 3) P M [some (.ref (ad 2200 0)), some (.int (x1)), some (.int (x2)), some (.int (x3)), some (.int (x4)), some (.int (x5)), d6, d7, d8] 0 0 66 [] := by
  intro n
  induction n with
  | zero => intros; rename_i h; cases h
  | succ n ih => exact fun hR h => S_X12_least_66 (fun hR h => ih hR h) (fun hR h => hkx88 hR h) hp hR h
theorem S_X12_least_53 {E : EN} {X : CX} {P : Option Value → MH → Prop} {ad : AD} {fu : Nat} {out : Int32 × St} (hp : ∀ M, Rep E ad out.2 M → P (some (.int out.1)) M) {V : St} {M : MH} {d0 : Option Value} {d1 : Option Value} {d2 : Option Value} {d3 : Option Value} {d4 : Option Value} {d5 : Option Value} {d6 : Option Value} {d7 : Option Value} {d8 : Option Value} (hR : Rep E ad V M) (h : F_X12_least_53 fu V = some out) : G E X RX12 cX12_least 9 (some .int) false (rmD 3) P M [d0, d1, d2, d3, d4, d5, d6, d7, d8] 0 0 53 [] := by
  unfold F_X12_least_53 at h
  refine r_iconst (v := -1) DX12_least_53 ki_m1 ?_
  cases h
  exact r_iret DX12_least_54 rfl ⟨Nat.le_refl 0, Nat.le_refl 0⟩ (hp M hR)
theorem S_X12_least_0 {E : EN} {X : CX} {P : Option Value → MH → Prop} {ad : AD} {fu : Nat} {out : Int32 × St} (hp : ∀ M, Rep E ad out.2 M → P (some (.int out.1)) M) {V : St} {M : MH} {x1 : Int32} {x2 : Int32} {x3 : Int32} (hR : Rep E ad V M) (h : f_X12_least fu V x1 x2 x3 = some out) : G E X RX12 cX12_least 9 (some .int) false (rmD 3) P M [some (.ref (ad 2200 0)), some (.int (x1)), some (.int (x2)), some (.int (x3)), none, none, none, none, none] 0 0 0 [] := by
  unfold f_X12_least at h
  refine r_aload_n DX12_least_0 rfl ?_
  refine r_iload_n DX12_least_1 rfl ?_
  obtain ⟨r1, V2, hc3, h⟩ := bd_inv h
  refine k_callV (As := [.int (x1)]) (rest := []) (st1 := [.int (r1)]) (w := some (.int r1)) DX12_least_2 cv_X12_271 hR ct_2200 (one_cnt _) rfl (C_X12_isThing (out := (r1, V2)) (cxL X) hR hc3) rfl (by decide) (by decide) rfl (Nat.le_of_ble_eq_true rfl) rfl (fun M hR => ?_)
  refine r_if_eq DX12_least_5 (fun c4 => ?_) (fun c4 => ?_)
  · have h := if_t c4 h
    exact S_X12_least_53 hp hR h
  · have h := if_f c4 h
    refine r_aload_n DX12_least_8 rfl ?_
    refine s_geta DX12_least_9 fl_X12_43 hR ct_2200 (one_cnt _) rfl ?_
    refine r_iload_n DX12_least_12 rfl ?_
    obtain ⟨hg5, h⟩ := gd_inv h
    refine s_iald DX12_least_13 hR ct_2216 (one_cnt _) hg5 ?_
    refine r_if_ne DX12_least_14 (fun c6 => ?_) (fun c6 => ?_)
    · have h := if_f c6 h
      exact S_X12_least_53 hp hR h
    · have h := if_t c6 h
      refine r_iload_n DX12_least_17 rfl ?_
      refine r_iconst (v := 1) DX12_least_18 ki_1 ?_
      refine r_sipush (v := 200) DX12_least_19 ks_200 ?_
      obtain ⟨r7, V8, hc9, h⟩ := bd_inv h
      refine k_callS (As := [.int (x2), .int ((1 : Int32)), .int ((200 : Int32))]) (rest := []) (st1 := [.int (r7)]) (w := some (.int r7)) DX12_least_22 cs_X12_245 (C_X12_in (out := (r7, V8)) (cxL X) hR hc9) rfl (by decide) (by decide) rfl (Nat.le_of_ble_eq_true rfl) rfl (fun M hR => ?_)
      refine r_if_eq DX12_least_25 (fun c10 => ?_) (fun c10 => ?_)
      · have h := if_t c10 h
        exact S_X12_least_53 hp hR h
      · have h := if_f c10 h
        refine r_iload_n DX12_least_28 rfl ?_
        refine r_iconst (v := -1) DX12_least_29 ki_m1 ?_
        refine r_aload_n DX12_least_30 rfl ?_
        refine s_geta DX12_least_31 fl_X12_64 hR ct_2200 (one_cnt _) rfl ?_
        refine r_iload_n DX12_least_34 rfl ?_
        obtain ⟨hg11, h⟩ := gd_inv h
        refine s_iald DX12_least_35 hR ct_2223 (one_cnt _) hg11 ?_
        refine r_iconst (v := 1) DX12_least_36 ki_1 ?_
        refine r_isub DX12_least_37 ?_
        obtain ⟨r12, V13, hc14, h⟩ := bd_inv h
        refine k_callS (As := [.int (x3), .int ((-1 : Int32)), .int ((V8 2223 (0) (x1).toNatClampNeg) - (1 : Int32))]) (rest := []) (st1 := [.int (r12)]) (w := some (.int r12)) DX12_least_38 cs_X12_245 (C_X12_in (out := (r12, V13)) (cxL X) hR hc14) rfl (by decide) (by decide) rfl (Nat.le_of_ble_eq_true rfl) rfl (fun M hR => ?_)
        refine r_if_eq DX12_least_41 (fun c15 => ?_) (fun c15 => ?_)
        · have h := if_t c15 h
          exact S_X12_least_53 hp hR h
        · have h := if_f c15 h
          refine r_aload_n DX12_least_44 rfl ?_
          refine r_iload_n DX12_least_45 rfl ?_
          refine r_iload_n DX12_least_46 rfl ?_
          obtain ⟨r16, V17, hc18, h⟩ := bd_inv h
          refine k_callV (As := [.int (x1), .int (x2)]) (rest := []) (st1 := [.int (r16)]) (w := some (.int r16)) DX12_least_47 cv_X12_277 hR ct_2200 (one_cnt _) rfl (C_X12_isWider (out := (r16, V17)) (cxL X) hR hc18) rfl (by decide) (by decide) rfl (Nat.le_of_ble_eq_true rfl) rfl (fun M hR => ?_)
          refine r_if_eq DX12_least_50 (fun c19 => ?_) (fun c19 => ?_)
          · have h := if_t c19 h
            refine r_aload_n DX12_least_55 rfl ?_
            refine s_geta DX12_least_56 fl_X12_64 hR ct_2200 (one_cnt _) rfl ?_
            refine r_iload_n DX12_least_59 rfl ?_
            obtain ⟨hg20, h⟩ := gd_inv h
            refine s_iald DX12_least_60 hR ct_2223 (one_cnt _) hg20 ?_
            refine t_istore (L' := [some (.ref (ad 2200 0)), some (.int (x1)), some (.int (x2)), some (.int (x3)), some (.int ((V17 2223 (0) (x1).toNatClampNeg))), none, none, none, none]) DX12_least_61 (by decide) rfl ?_
            refine r_iconst (v := 0) DX12_least_63 ki_0 ?_
            refine t_istore (L' := [some (.ref (ad 2200 0)), some (.int (x1)), some (.int (x2)), some (.int (x3)), some (.int ((V17 2223 (0) (x1).toNatClampNeg))), some (.int ((0 : Int32))), none, none, none]) DX12_least_64 (by decide) rfl ?_
            exact SL_X12_least_66 (fun hR h => S_X12_least_88 hp hR h) hp fu hR h
          · have h := if_f c19 h
            exact S_X12_least_53 hp hR h
theorem C_X12_least {E : EN} {ad : AD} {fu : Nat} {out : Int32 × St} {V : St} {M : MH} {x1 : Int32} {x2 : Int32} {x3 : Int32} (l : Launch) (hR : Rep E ad V M) (h : f_X12_least fu V x1 x2 x3 = some out) : Ct E l yX12_least cX12_least 9 (some .int) (rmD 3) [.ref (ad 2200 0), .int (x1), .int (x2), .int (x3)] M (fun v M => v = (some (.int out.1)) ∧ Rep E ad out.2 M) :=
  Ct.of (own := RX12) (ini := false) (L := [some (.ref (ad 2200 0)), some (.int (x1)), some (.int (x2)), some (.int (x3)), none, none, none, none, none]) rfl rfl (fun h => by cases h) rfl (Nat.le_of_ble_eq_true rfl) rfl (fun X _ => S_X12_least_0 (fun M hR => ⟨rfl, hR⟩) hR h)
theorem S_X12_load_46 {E : EN} {X : CX} {P : Option Value → MH → Prop} {ad : AD} {fu : Nat} {out : Int32 × St} (hp : ∀ M, Rep E ad out.2 M → P (some (.int out.1)) M) {V : St} {M : MH} {d0 : Option Value} {d1 : Option Value} {d2 : Option Value} {d3 : Option Value} (hR : Rep E ad V M) (h : F_X12_load_46 fu V = some out) : G E X RX12 cX12_load 4 (some .boolean) false (rmD 2) P M [d0, d1, d2, d3] 0 0 46 [] := by
  unfold F_X12_load_46 at h
  refine r_iconst (v := 0) DX12_load_46 ki_0 ?_
  cases h
  exact r_zret DX12_load_47 rfl rfl ⟨Nat.le_refl 0, Nat.le_refl 0⟩ (hp M hR)
theorem S_X12_load_0 {E : EN} {X : CX} {P : Option Value → MH → Prop} {ad : AD} {fu : Nat} {out : Int32 × St} (hp : ∀ M, Rep E ad out.2 M → P (some (.int out.1)) M) {V : St} {M : MH} {x1 : Int32} {x2 : Int32} {x3 : Int32} (hR : Rep E ad V M) (h : f_X12_load fu V x1 x2 x3 = some out) : G E X RX12 cX12_load 4 (some .boolean) false (rmD 2) P M [some (.ref (ad 2200 0)), some (.int (x1)), some (.int (x2)), some (.int (x3))] 0 0 0 [] := by
  unfold f_X12_load at h
  refine r_aload_n DX12_load_0 rfl ?_
  refine r_iload_n DX12_load_1 rfl ?_
  obtain ⟨r1, V2, hc3, h⟩ := bd_inv h
  refine k_callV (As := [.int (x1)]) (rest := []) (st1 := [.int (r1)]) (w := some (.int r1)) DX12_load_2 cv_X12_249 hR ct_2200 (one_cnt _) rfl (C_X12_isDrawing (out := (r1, V2)) (cxL X) hR hc3) rfl (by decide) (by decide) rfl (Nat.le_of_ble_eq_true rfl) rfl (fun M hR => ?_)
  refine r_if_eq DX12_load_5 (fun c4 => ?_) (fun c4 => ?_)
  · have h := if_t c4 h
    exact S_X12_load_46 hp hR h
  · have h := if_f c4 h
    refine r_iload_n DX12_load_8 rfl ?_
    refine r_iconst (v := 1) DX12_load_9 ki_1 ?_
    refine r_aload_n DX12_load_10 rfl ?_
    refine s_geta DX12_load_11 fl_X12_19 hR ct_2200 (one_cnt _) rfl ?_
    refine r_iload_n DX12_load_14 rfl ?_
    obtain ⟨hg5, h⟩ := gd_inv h
    refine s_iald DX12_load_15 hR ct_2208 (one_cnt _) hg5 ?_
    refine r_iconst (v := 1) DX12_load_16 ki_1 ?_
    refine r_isub DX12_load_17 ?_
    obtain ⟨r6, V7, hc8, h⟩ := bd_inv h
    refine k_callS (As := [.int (x2), .int ((1 : Int32)), .int ((V2 2208 (0) (x1).toNatClampNeg) - (1 : Int32))]) (rest := []) (st1 := [.int (r6)]) (w := some (.int r6)) DX12_load_18 cs_X12_245 (C_X12_in (out := (r6, V7)) (cxL X) hR hc8) rfl (by decide) (by decide) rfl (Nat.le_of_ble_eq_true rfl) rfl (fun M hR => ?_)
    refine r_if_eq DX12_load_21 (fun c9 => ?_) (fun c9 => ?_)
    · have h := if_t c9 h
      exact S_X12_load_46 hp hR h
    · have h := if_f c9 h
      refine r_iload_n DX12_load_24 rfl ?_
      refine r_iconst (v := 1) DX12_load_25 ki_1 ?_
      refine r_sipush (v := 500) DX12_load_26 ks_500 ?_
      obtain ⟨r10, V11, hc12, h⟩ := bd_inv h
      refine k_callS (As := [.int (x3), .int ((1 : Int32)), .int ((500 : Int32))]) (rest := []) (st1 := [.int (r10)]) (w := some (.int r10)) DX12_load_29 cs_X12_245 (C_X12_in (out := (r10, V11)) (cxL X) hR hc12) rfl (by decide) (by decide) rfl (Nat.le_of_ble_eq_true rfl) rfl (fun M hR => ?_)
      refine r_if_eq DX12_load_32 (fun c13 => ?_) (fun c13 => ?_)
      · have h := if_t c13 h
        exact S_X12_load_46 hp hR h
      · have h := if_f c13 h
        refine r_aload_n DX12_load_35 rfl ?_
        refine s_geta DX12_load_36 fl_X12_25 hR ct_2200 (one_cnt _) rfl ?_
        refine r_iload_n DX12_load_39 rfl ?_
        obtain ⟨hg14, h⟩ := gd_inv h
        refine s_iald DX12_load_40 hR ct_2210 (one_cnt _) hg14 ?_
        refine r_bipush (v := 8) DX12_load_41 kb_8 ?_
        refine r_icmp_ne DX12_load_43 (fun c15 => ?_) (fun c15 => ?_)
        · have h := if_f c15 h
          refine r_aload_n DX12_load_48 rfl ?_
          refine s_geta DX12_load_49 fl_X12_37 hR ct_2200 (one_cnt _) rfl ?_
          refine r_bipush (v := 8) DX12_load_52 kb_8 ?_
          refine r_iload_n DX12_load_54 rfl ?_
          refine r_imul DX12_load_55 ?_
          refine r_aload_n DX12_load_56 rfl ?_
          refine s_geta DX12_load_57 fl_X12_25 hR ct_2200 (one_cnt _) rfl ?_
          refine r_iload_n DX12_load_60 rfl ?_
          obtain ⟨hg16, h⟩ := gd_inv h
          refine s_iald DX12_load_61 hR ct_2210 (one_cnt _) hg16 ?_
          refine r_iadd DX12_load_62 ?_
          refine r_iload_n DX12_load_63 rfl ?_
          obtain ⟨hg17, h⟩ := gd_inv h
          obtain ⟨V18, hv19, h⟩ := bv_inv h
          refine s_iast DX12_load_64 hR oka_2214 ct_2214 (one_cnt _) hg17 (fun M hR => ?_)
          have hR := hR.cg hv19
          refine r_aload_n DX12_load_65 rfl ?_
          refine s_geta DX12_load_66 fl_X12_40 hR ct_2200 (one_cnt _) rfl ?_
          refine r_bipush (v := 8) DX12_load_69 kb_8 ?_
          refine r_iload_n DX12_load_71 rfl ?_
          refine r_imul DX12_load_72 ?_
          refine r_aload_n DX12_load_73 rfl ?_
          refine s_geta DX12_load_74 fl_X12_25 hR ct_2200 (one_cnt _) rfl ?_
          refine r_iload_n DX12_load_77 rfl ?_
          obtain ⟨hg20, h⟩ := gd_inv h
          refine s_iald DX12_load_78 hR ct_2210 (one_cnt _) hg20 ?_
          refine r_iadd DX12_load_79 ?_
          refine r_iload_n DX12_load_80 rfl ?_
          obtain ⟨hg21, h⟩ := gd_inv h
          obtain ⟨V22, hv23, h⟩ := bv_inv h
          refine s_iast DX12_load_81 hR oka_2215 ct_2215 (one_cnt _) hg21 (fun M hR => ?_)
          have hR := hR.cg hv23
          refine r_aload_n DX12_load_82 rfl ?_
          refine s_geta DX12_load_83 fl_X12_25 hR ct_2200 (one_cnt _) rfl ?_
          refine r_iload_n DX12_load_86 rfl ?_
          refine r_aload_n DX12_load_87 rfl ?_
          refine s_geta DX12_load_88 fl_X12_25 hR ct_2200 (one_cnt _) rfl ?_
          refine r_iload_n DX12_load_91 rfl ?_
          obtain ⟨hg24, h⟩ := gd_inv h
          refine s_iald DX12_load_92 hR ct_2210 (one_cnt _) hg24 ?_
          refine r_iconst (v := 1) DX12_load_93 ki_1 ?_
          refine r_iadd DX12_load_94 ?_
          obtain ⟨hg25, h⟩ := gd_inv h
          obtain ⟨V26, hv27, h⟩ := bv_inv h
          refine s_iast DX12_load_95 hR oka_2210 ct_2210 (one_cnt _) hg25 (fun M hR => ?_)
          have hR := hR.cg hv27
          refine r_iconst (v := 1) DX12_load_96 ki_1 ?_
          cases h
          exact r_zret DX12_load_97 rfl rfl ⟨Nat.le_refl 0, Nat.le_refl 0⟩ (hp M hR)
        · have h := if_t c15 h
          exact S_X12_load_46 hp hR h
theorem C_X12_load {E : EN} {ad : AD} {fu : Nat} {out : Int32 × St} {V : St} {M : MH} {x1 : Int32} {x2 : Int32} {x3 : Int32} (l : Launch) (hR : Rep E ad V M) (h : f_X12_load fu V x1 x2 x3 = some out) : Ct E l yX12_load cX12_load 4 (some .boolean) (rmD 2) [.ref (ad 2200 0), .int (x1), .int (x2), .int (x3)] M (fun v M => v = (some (.int out.1)) ∧ Rep E ad out.2 M) :=
  Ct.of (own := RX12) (ini := false) (L := [some (.ref (ad 2200 0)), some (.int (x1)), some (.int (x2)), some (.int (x3))]) rfl rfl (fun h => by cases h) rfl (Nat.le_of_ble_eq_true rfl) rfl (fun X _ => S_X12_load_0 (fun M hR => ⟨rfl, hR⟩) hR h)
theorem S_X12_look_103 {E : EN} {X : CX} {P : Option Value → MH → Prop} {ad : AD} {fu : Nat} {out : Int32 × St} (hp : ∀ M, Rep E ad out.2 M → P (some (.int out.1)) M) {V : St} {M : MH} {s0 : Int32} {d0 : Option Value} {d1 : Option Value} {d2 : Option Value} {d3 : Option Value} (hR : Rep E ad V M) (h : F_X12_look_103 fu V s0 = some out) : G E X RX12 cX12_look 4 (some .int) false (rmD 2) P M [d0, d1, d2, d3] 0 0 103 [.int (s0)] := by
  unfold F_X12_look_103 at h
  cases h
  exact r_iret DX12_look_103 rfl ⟨Nat.le_refl 0, Nat.le_refl 0⟩ (hp M hR)
theorem S_X12_look_102 {E : EN} {X : CX} {P : Option Value → MH → Prop} {ad : AD} {fu : Nat} {out : Int32 × St} (hp : ∀ M, Rep E ad out.2 M → P (some (.int out.1)) M) {V : St} {M : MH} {d0 : Option Value} {d1 : Option Value} {d2 : Option Value} {d3 : Option Value} (hR : Rep E ad V M) (h : F_X12_look_102 fu V = some out) : G E X RX12 cX12_look 4 (some .int) false (rmD 2) P M [d0, d1, d2, d3] 0 0 102 [] := by
  unfold F_X12_look_102 at h
  refine r_iconst (v := -1) DX12_look_102 ki_m1 ?_
  exact S_X12_look_103 hp hR h
theorem S_X12_look_51 {E : EN} {X : CX} {P : Option Value → MH → Prop} {ad : AD} {fu : Nat} {out : Int32 × St} (hp : ∀ M, Rep E ad out.2 M → P (some (.int out.1)) M) {V : St} {M : MH} {x2 : Int32} {s0 : Int32} {d1 : Option Value} {d3 : Option Value} (hR : Rep E ad V M) (h : F_X12_look_51 fu V x2 s0 = some out) : G E X RX12 cX12_look 4 (some .int) false (rmD 2) P M [some (.ref (ad 2200 0)), d1, some (.int (x2)), d3] 0 0 51 [.int (s0)] := by
  unfold F_X12_look_51 at h
  refine t_istore_n (L' := [some (.ref (ad 2200 0)), d1, some (.int (x2)), some (.int (s0))]) DX12_look_51 (by decide) rfl ?_
  refine r_aload_n DX12_look_52 rfl ?_
  refine r_iload_n DX12_look_53 rfl ?_
  obtain ⟨r1, V2, hc3, h⟩ := bd_inv h
  refine k_callV (As := [.int (s0)]) (rest := []) (st1 := [.int (r1)]) (w := some (.int r1)) DX12_look_54 cv_X12_294 hR ct_2200 (one_cnt _) rfl (C_X12_isMaker (out := (r1, V2)) (cxL X) hR hc3) rfl (by decide) (by decide) rfl (Nat.le_of_ble_eq_true rfl) rfl (fun M hR => ?_)
  refine r_if_ne DX12_look_57 (fun c4 => ?_) (fun c4 => ?_)
  · have h := if_f c4 h
    refine r_iload_n DX12_look_62 rfl ?_
    refine r_if_ne DX12_look_63 (fun c5 => ?_) (fun c5 => ?_)
    · have h := if_f c5 h
      refine r_iload_n DX12_look_73 rfl ?_
      refine r_iconst (v := 1) DX12_look_74 ki_1 ?_
      refine r_icmp_lt DX12_look_75 (fun c6 => ?_) (fun c6 => ?_)
      · have h := if_t c6 h
        exact S_X12_look_102 hp hR h
      · have h := if_f c6 h
        refine r_iload_n DX12_look_78 rfl ?_
        refine r_aload_n DX12_look_79 rfl ?_
        refine s_geti DX12_look_80 fl_X12_236 hR ct_2200 (one_cnt _) rfl ?_
        refine r_icmp_gt DX12_look_83 (fun c7 => ?_) (fun c7 => ?_)
        · have h := if_t c7 h
          exact S_X12_look_102 hp hR h
        · have h := if_f c7 h
          refine r_aload_n DX12_look_86 rfl ?_
          refine s_geta DX12_look_87 fl_X12_106 hR ct_2200 (one_cnt _) rfl ?_
          refine r_bipush (v := 20) DX12_look_90 kb_20 ?_
          refine r_iload_n DX12_look_92 rfl ?_
          refine r_imul DX12_look_93 ?_
          refine r_iload_n DX12_look_94 rfl ?_
          refine r_iadd DX12_look_95 ?_
          refine r_iconst (v := 1) DX12_look_96 ki_1 ?_
          refine r_isub DX12_look_97 ?_
          obtain ⟨hg8, h⟩ := gd_inv h
          refine s_iald DX12_look_98 hR ct_2238 (one_cnt _) hg8 ?_
          refine r_goto DX12_look_99 ?_
          exact S_X12_look_103 hp hR h
    · have h := if_t c5 h
      refine r_aload_n DX12_look_66 rfl ?_
      refine s_geta DX12_look_67 fl_X12_109 hR ct_2200 (one_cnt _) rfl ?_
      refine r_iload_n DX12_look_70 rfl ?_
      obtain ⟨hg6, h⟩ := gd_inv h
      refine s_iald DX12_look_71 hR ct_2239 (one_cnt _) hg6 ?_
      cases h
      exact r_iret DX12_look_72 rfl ⟨Nat.le_refl 0, Nat.le_refl 0⟩ (hp M hR)
  · have h := if_t c4 h
    refine r_iconst (v := -1) DX12_look_60 ki_m1 ?_
    cases h
    exact r_iret DX12_look_61 rfl ⟨Nat.le_refl 0, Nat.le_refl 0⟩ (hp M hR)
theorem S_X12_look_36 {E : EN} {X : CX} {P : Option Value → MH → Prop} {ad : AD} {fu : Nat} {out : Int32 × St} (hp : ∀ M, Rep E ad out.2 M → P (some (.int out.1)) M) {V : St} {M : MH} {s0 : Int32} {d0 : Option Value} {d1 : Option Value} {d2 : Option Value} {d3 : Option Value} (hR : Rep E ad V M) (h : F_X12_look_36 fu V s0 = some out) : G E X RX12 cX12_look 4 (some .int) false (rmD 2) P M [d0, d1, d2, d3] 0 0 36 [.int (s0)] := by
  unfold F_X12_look_36 at h
  cases h
  exact r_iret DX12_look_36 rfl ⟨Nat.le_refl 0, Nat.le_refl 0⟩ (hp M hR)
theorem S_X12_look_0 {E : EN} {X : CX} {P : Option Value → MH → Prop} {ad : AD} {fu : Nat} {out : Int32 × St} (hp : ∀ M, Rep E ad out.2 M → P (some (.int out.1)) M) {V : St} {M : MH} {x1 : Int32} {x2 : Int32} (hR : Rep E ad V M) (h : f_X12_look fu V x1 x2 = some out) : G E X RX12 cX12_look 4 (some .int) false (rmD 2) P M [some (.ref (ad 2200 0)), some (.int (x1)), some (.int (x2)), none] 0 0 0 [] := by
  unfold f_X12_look at h
  refine r_aload_n DX12_look_0 rfl ?_
  refine r_iload_n DX12_look_1 rfl ?_
  obtain ⟨r1, V2, hc3, h⟩ := bd_inv h
  refine k_callV (As := [.int (x1)]) (rest := []) (st1 := [.int (r1)]) (w := some (.int r1)) DX12_look_2 cv_X12_443 hR ct_2200 (one_cnt _) rfl (C_X12_isPerson (out := (r1, V2)) (cxL X) hR hc3) rfl (by decide) (by decide) rfl (Nat.le_of_ble_eq_true rfl) rfl (fun M hR => ?_)
  refine r_if_eq DX12_look_5 (fun c4 => ?_) (fun c4 => ?_)
  · have h := if_t c4 h
    refine r_iload_n DX12_look_37 rfl ?_
    refine r_bipush (v := 100) DX12_look_38 kb_100 ?_
    refine r_icmp_ge DX12_look_40 (fun c5 => ?_) (fun c5 => ?_)
    · have h := if_t c5 h
      refine r_iload_n DX12_look_47 rfl ?_
      refine r_bipush (v := 100) DX12_look_48 kb_100 ?_
      refine r_isub DX12_look_50 ?_
      exact S_X12_look_51 hp hR h
    · have h := if_f c5 h
      refine r_iconst (v := -1) DX12_look_43 ki_m1 ?_
      refine r_goto DX12_look_44 ?_
      exact S_X12_look_51 hp hR h
  · have h := if_f c4 h
    refine r_iload_n DX12_look_8 rfl ?_
    refine r_if_ne DX12_look_9 (fun c5 => ?_) (fun c5 => ?_)
    · have h := if_f c5 h
      refine r_iload_n DX12_look_21 rfl ?_
      refine r_iconst (v := 1) DX12_look_22 ki_1 ?_
      refine r_icmp_ne DX12_look_23 (fun c6 => ?_) (fun c6 => ?_)
      · have h := if_f c6 h
        refine r_iconst (v := -1) DX12_look_35 ki_m1 ?_
        exact S_X12_look_36 hp hR h
      · have h := if_t c6 h
        refine r_aload_n DX12_look_26 rfl ?_
        refine s_geta DX12_look_27 fl_X12_194 hR ct_2200 (one_cnt _) rfl ?_
        refine r_iload_n DX12_look_30 rfl ?_
        obtain ⟨hg7, h⟩ := gd_inv h
        refine s_iald DX12_look_31 hR ct_2279 (one_cnt _) hg7 ?_
        refine r_goto DX12_look_32 ?_
        exact S_X12_look_36 hp hR h
    · have h := if_t c5 h
      refine r_aload_n DX12_look_12 rfl ?_
      refine s_geta DX12_look_13 fl_X12_191 hR ct_2200 (one_cnt _) rfl ?_
      refine r_iload_n DX12_look_16 rfl ?_
      obtain ⟨hg6, h⟩ := gd_inv h
      refine s_iald DX12_look_17 hR ct_2278 (one_cnt _) hg6 ?_
      refine r_goto DX12_look_18 ?_
      exact S_X12_look_36 hp hR h
theorem C_X12_look {E : EN} {ad : AD} {fu : Nat} {out : Int32 × St} {V : St} {M : MH} {x1 : Int32} {x2 : Int32} (l : Launch) (hR : Rep E ad V M) (h : f_X12_look fu V x1 x2 = some out) : Ct E l yX12_look cX12_look 4 (some .int) (rmD 2) [.ref (ad 2200 0), .int (x1), .int (x2)] M (fun v M => v = (some (.int out.1)) ∧ Rep E ad out.2 M) :=
  Ct.of (own := RX12) (ini := false) (L := [some (.ref (ad 2200 0)), some (.int (x1)), some (.int (x2)), none]) rfl rfl (fun h => by cases h) rfl (Nat.le_of_ble_eq_true rfl) rfl (fun X _ => S_X12_look_0 (fun M hR => ⟨rfl, hR⟩) hR h)
theorem S_X12_loses_75 {E : EN} {X : CX} {P : Option Value → MH → Prop} {ad : AD} {fu : Nat} {out : Int32 × St} (hp : ∀ M, Rep E ad out.2 M → P (some (.int out.1)) M) {V : St} {M : MH} {x1 : Int32} {x2 : Int32} {s0 : Int32} {d3 : Option Value} {d4 : Option Value} {d5 : Option Value} (hR : Rep E ad V M) (h : F_X12_loses_75 fu V x1 x2 s0 = some out) : G E X RX12 cX12_loses 6 (some .int) false (rmD 6) P M [some (.ref (ad 2200 0)), some (.int (x1)), some (.int (x2)), d3, d4, d5] 0 0 75 [.int (s0)] := by
  unfold F_X12_loses_75 at h
  refine t_istore_n (L' := [some (.ref (ad 2200 0)), some (.int (x1)), some (.int (x2)), some (.int (s0)), d4, d5]) DX12_loses_75 (by decide) rfl ?_
  refine r_aload_n DX12_loses_76 rfl ?_
  refine r_iload_n DX12_loses_77 rfl ?_
  obtain ⟨r1, V2, hc3, h⟩ := bd_inv h
  refine k_callV (As := [.int (x2)]) (rest := []) (st1 := [.int (r1)]) (w := some (.int r1)) DX12_loses_78 cv_X12_446 hR ct_2200 (one_cnt _) rfl (C_X12_paidFor (out := (r1, V2)) (cxL X) hR hc3) rfl (by decide) (by decide) rfl (Nat.le_of_ble_eq_true rfl) rfl (fun M hR => ?_)
  refine t_istore (L' := [some (.ref (ad 2200 0)), some (.int (x1)), some (.int (x2)), some (.int (s0)), some (.int (r1)), d5]) DX12_loses_81 (by decide) rfl ?_
  refine r_aload_n DX12_loses_83 rfl ?_
  refine r_bipush (v := 100) DX12_loses_84 kb_100 ?_
  refine r_iload_n DX12_loses_86 rfl ?_
  refine r_iconst (v := -1) DX12_loses_87 ki_m1 ?_
  refine r_aload_n DX12_loses_88 rfl ?_
  refine s_geti DX12_loses_89 fl_X12_400 hR ct_2200 (one_cnt _) rfl ?_
  refine r_aload_n DX12_loses_92 rfl ?_
  refine s_geti DX12_loses_93 fl_X12_400 hR ct_2200 (one_cnt _) rfl ?_
  obtain ⟨r4, V5, hc6, h⟩ := bd_inv h
  refine k_callV (As := [.int ((100 : Int32)), .int (x2), .int ((-1 : Int32)), .int ((V2 2201 0 0)), .int ((V2 2201 0 0))]) (rest := []) (st1 := [.int (r4)]) (w := some (.int r4)) DX12_loses_96 cv_X12_430 hR ct_2200 (one_cnt _) rfl (C_X12_orNothing (out := (r4, V5)) (cxL X) hR hc6) rfl (by decide) (by decide) rfl (Nat.le_of_ble_eq_true rfl) rfl (fun M hR => ?_)
  refine t_istore (L' := [some (.ref (ad 2200 0)), some (.int (x1)), some (.int (x2)), some (.int (s0)), some (.int (r1)), some (.int (r4))]) DX12_loses_99 (by decide) rfl ?_
  refine r_iload_n DX12_loses_101 rfl ?_
  refine r_aload_n DX12_loses_102 rfl ?_
  refine s_geta DX12_loses_103 fl_X12_103 hR ct_2200 (one_cnt _) rfl ?_
  refine r_iload_n DX12_loses_106 rfl ?_
  obtain ⟨hg7, h⟩ := gd_inv h
  refine s_iald DX12_loses_107 hR ct_2237 (one_cnt _) hg7 ?_
  refine r_aload_n DX12_loses_108 rfl ?_
  refine s_geta DX12_loses_109 fl_X12_100 hR ct_2200 (one_cnt _) rfl ?_
  refine r_iload_n DX12_loses_112 rfl ?_
  obtain ⟨hg8, h⟩ := gd_inv h
  refine s_iald DX12_loses_113 hR ct_2236 (one_cnt _) hg8 ?_
  obtain ⟨r9, V10, hc11, h⟩ := bd_inv h
  refine k_callS (As := [.int ((V5 2237 (0) (x1).toNatClampNeg)), .int ((V5 2236 (0) (x1).toNatClampNeg))]) (rest := [.int (s0)]) (st1 := [.int (r9), .int (s0)]) (w := some (.int r9)) DX12_loses_114 cs_X12_437 (C_X12_up (out := (r9, V10)) (cxL X) hR hc11) rfl (by decide) (by decide) rfl (Nat.le_of_ble_eq_true rfl) rfl (fun M hR => ?_)
  refine r_iadd DX12_loses_117 ?_
  refine r_iload DX12_loses_118 rfl ?_
  refine r_iload DX12_loses_120 rfl ?_
  refine r_iload DX12_loses_122 rfl ?_
  refine r_imul DX12_loses_124 ?_
  refine r_bipush (v := 100) DX12_loses_125 kb_100 ?_
  refine r_idiv DX12_loses_127 (by decide) ?_
  refine r_isub DX12_loses_128 ?_
  refine r_isub DX12_loses_129 ?_
  cases h
  exact r_iret DX12_loses_130 rfl ⟨Nat.le_refl 0, Nat.le_refl 0⟩ (hp M hR)
theorem S_X12_loses_16 {E : EN} {X : CX} {P : Option Value → MH → Prop} {ad : AD} {fu : Nat} {out : Int32 × St} (hp : ∀ M, Rep E ad out.2 M → P (some (.int out.1)) M) {V : St} {M : MH} {d0 : Option Value} {d1 : Option Value} {d2 : Option Value} {d3 : Option Value} {d4 : Option Value} {d5 : Option Value} (hR : Rep E ad V M) (h : F_X12_loses_16 fu V = some out) : G E X RX12 cX12_loses 6 (some .int) false (rmD 6) P M [d0, d1, d2, d3, d4, d5] 0 0 16 [] := by
  unfold F_X12_loses_16 at h
  refine r_ldcw (v := -1000000000) DX12_loses_16 ck_X12_476 ?_
  cases h
  exact r_iret DX12_loses_19 rfl ⟨Nat.le_refl 0, Nat.le_refl 0⟩ (hp M hR)
theorem S_X12_loses_0 {E : EN} {X : CX} {P : Option Value → MH → Prop} {ad : AD} {fu : Nat} {out : Int32 × St} (hp : ∀ M, Rep E ad out.2 M → P (some (.int out.1)) M) {V : St} {M : MH} {x1 : Int32} {x2 : Int32} (hR : Rep E ad V M) (h : f_X12_loses fu V x1 x2 = some out) : G E X RX12 cX12_loses 6 (some .int) false (rmD 6) P M [some (.ref (ad 2200 0)), some (.int (x1)), some (.int (x2)), none, none, none] 0 0 0 [] := by
  unfold f_X12_loses at h
  refine r_aload_n DX12_loses_0 rfl ?_
  refine r_iload_n DX12_loses_1 rfl ?_
  obtain ⟨r1, V2, hc3, h⟩ := bd_inv h
  refine k_callV (As := [.int (x1)]) (rest := []) (st1 := [.int (r1)]) (w := some (.int r1)) DX12_loses_2 cv_X12_294 hR ct_2200 (one_cnt _) rfl (C_X12_isMaker (out := (r1, V2)) (cxL X) hR hc3) rfl (by decide) (by decide) rfl (Nat.le_of_ble_eq_true rfl) rfl (fun M hR => ?_)
  refine r_if_eq DX12_loses_5 (fun c4 => ?_) (fun c4 => ?_)
  · have h := if_t c4 h
    exact S_X12_loses_16 hp hR h
  · have h := if_f c4 h
    refine r_aload_n DX12_loses_8 rfl ?_
    refine r_iload_n DX12_loses_9 rfl ?_
    obtain ⟨r5, V6, hc7, h⟩ := bd_inv h
    refine k_callV (As := [.int (x2)]) (rest := []) (st1 := [.int (r5)]) (w := some (.int r5)) DX12_loses_10 cv_X12_271 hR ct_2200 (one_cnt _) rfl (C_X12_isThing (out := (r5, V6)) (cxL X) hR hc7) rfl (by decide) (by decide) rfl (Nat.le_of_ble_eq_true rfl) rfl (fun M hR => ?_)
    refine r_if_ne DX12_loses_13 (fun c8 => ?_) (fun c8 => ?_)
    · have h := if_f c8 h
      refine r_aload_n DX12_loses_20 rfl ?_
      refine s_geta DX12_loses_21 fl_X12_43 hR ct_2200 (one_cnt _) rfl ?_
      refine r_iload_n DX12_loses_24 rfl ?_
      obtain ⟨hg9, h⟩ := gd_inv h
      refine s_iald DX12_loses_25 hR ct_2216 (one_cnt _) hg9 ?_
      refine r_if_ne DX12_loses_26 (fun c10 => ?_) (fun c10 => ?_)
      · have h := if_f c10 h
        refine r_aload_n DX12_loses_55 rfl ?_
        refine s_geta DX12_loses_56 fl_X12_43 hR ct_2200 (one_cnt _) rfl ?_
        refine r_iload_n DX12_loses_59 rfl ?_
        obtain ⟨hg11, h⟩ := gd_inv h
        refine s_iald DX12_loses_60 hR ct_2216 (one_cnt _) hg11 ?_
        refine r_iconst (v := 1) DX12_loses_61 ki_1 ?_
        refine r_icmp_ne DX12_loses_62 (fun c12 => ?_) (fun c12 => ?_)
        · have h := if_f c12 h
          refine r_iconst (v := 0) DX12_loses_74 ki_0 ?_
          exact S_X12_loses_75 hp hR h
        · have h := if_t c12 h
          refine r_aload_n DX12_loses_65 rfl ?_
          refine s_geta DX12_loses_66 fl_X12_52 hR ct_2200 (one_cnt _) rfl ?_
          refine r_iload_n DX12_loses_69 rfl ?_
          obtain ⟨hg13, h⟩ := gd_inv h
          refine s_iald DX12_loses_70 hR ct_2219 (one_cnt _) hg13 ?_
          refine r_goto DX12_loses_71 ?_
          exact S_X12_loses_75 hp hR h
      · have h := if_t c10 h
        refine r_aload_n DX12_loses_29 rfl ?_
        refine s_geta DX12_loses_30 fl_X12_52 hR ct_2200 (one_cnt _) rfl ?_
        refine r_iload_n DX12_loses_33 rfl ?_
        obtain ⟨hg12, h⟩ := gd_inv h
        refine s_iald DX12_loses_34 hR ct_2219 (one_cnt _) hg12 ?_
        refine r_aload_n DX12_loses_35 rfl ?_
        refine s_geta DX12_loses_36 fl_X12_16 hR ct_2200 (one_cnt _) rfl ?_
        refine r_aload_n DX12_loses_39 rfl ?_
        refine s_geta DX12_loses_40 fl_X12_46 hR ct_2200 (one_cnt _) rfl ?_
        refine r_iload_n DX12_loses_43 rfl ?_
        obtain ⟨hg13, h⟩ := gd_inv h
        refine s_iald DX12_loses_44 hR ct_2217 (one_cnt _) hg13 ?_
        obtain ⟨hg14, h⟩ := gd_inv h
        refine s_iald DX12_loses_45 hR ct_2207 (one_cnt _) hg14 ?_
        refine r_imul DX12_loses_46 ?_
        refine r_bipush (v := 36) DX12_loses_47 kb_36 ?_
        obtain ⟨r15, V16, hc17, h⟩ := bd_inv h
        refine k_callS (As := [.int ((V6 2219 (0) (x2).toNatClampNeg) * (V6 2207 (0) ((V6 2217 (0) (x2).toNatClampNeg)).toNatClampNeg)), .int ((36 : Int32))]) (rest := []) (st1 := [.int (r15)]) (w := some (.int r15)) DX12_loses_49 cs_X12_437 (C_X12_up (out := (r15, V16)) (cxL X) hR hc17) rfl (by decide) (by decide) rfl (Nat.le_of_ble_eq_true rfl) rfl (fun M hR => ?_)
        refine r_goto DX12_loses_52 ?_
        exact S_X12_loses_75 hp hR h
    · have h := if_t c8 h
      exact S_X12_loses_16 hp hR h
theorem C_X12_loses {E : EN} {ad : AD} {fu : Nat} {out : Int32 × St} {V : St} {M : MH} {x1 : Int32} {x2 : Int32} (l : Launch) (hR : Rep E ad V M) (h : f_X12_loses fu V x1 x2 = some out) : Ct E l yX12_loses cX12_loses 6 (some .int) (rmD 6) [.ref (ad 2200 0), .int (x1), .int (x2)] M (fun v M => v = (some (.int out.1)) ∧ Rep E ad out.2 M) :=
  Ct.of (own := RX12) (ini := false) (L := [some (.ref (ad 2200 0)), some (.int (x1)), some (.int (x2)), none, none, none]) rfl rfl (fun h => by cases h) rfl (Nat.le_of_ble_eq_true rfl) rfl (fun X _ => S_X12_loses_0 (fun M hR => ⟨rfl, hR⟩) hR h)
