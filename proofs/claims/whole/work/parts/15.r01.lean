theorem S_X9_read_88 {E : EN} {X : CX} {P : Option Value → MH → Prop} {ad : AD} {fu : Nat} {out : Int32 × St} (hp : ∀ M, Rep E ad out.2 M → P (some (.int out.1)) M) {V : St} {M : MH} {d1 : Option Value} {d2 : Option Value} {d3 : Option Value} (hR : Rep E ad V M) (h : F_X9_read_88 fu V = some out) : G E X RX9 cX9_read 4 (some .int) false (rmD 38) P M [some (.ref (ad 1900 0)), d1, d2, d3] 0 0 88 [] := by
  unfold F_X9_read_88 at h
  refine r_aload_n DX9_read_88 rfl ?_
  refine s_geti DX9_read_89 fl_X9_44 hR ct_1900 (one_cnt _) rfl ?_
  cases h
  exact r_iret DX9_read_92 rfl ⟨Nat.le_refl 0, Nat.le_refl 0⟩ (hp M hR)
theorem S_X9_read_77 {E : EN} {X : CX} {P : Option Value → MH → Prop} {ad : AD} {fu : Nat} {out : Int32 × St} (hp : ∀ M, Rep E ad out.2 M → P (some (.int out.1)) M) {V : St} {M : MH} {d1 : Option Value} {d2 : Option Value} {d3 : Option Value} (hR : Rep E ad V M) (h : F_X9_read_77 fu V = some out) : G E X RX9 cX9_read 4 (some .int) false (rmD 38) P M [some (.ref (ad 1900 0)), d1, d2, d3] 0 0 77 [] := by
  unfold F_X9_read_77 at h
  refine r_aload_n DX9_read_77 rfl ?_
  refine s_geti DX9_read_78 fl_X9_44 hR ct_1900 (one_cnt _) rfl ?_
  cases h
  exact r_iret DX9_read_81 rfl ⟨Nat.le_refl 0, Nat.le_refl 0⟩ (hp M hR)
theorem S_X9_read_66 {E : EN} {X : CX} {P : Option Value → MH → Prop} {ad : AD} {fu : Nat} {out : Int32 × St} (hp : ∀ M, Rep E ad out.2 M → P (some (.int out.1)) M) {V : St} {M : MH} {d0 : Option Value} {d1 : Option Value} {d2 : Option Value} {d3 : Option Value} (hR : Rep E ad V M) (h : F_X9_read_66 fu V = some out) : G E X RX9 cX9_read 4 (some .int) false (rmD 38) P M [d0, d1, d2, d3] 0 0 66 [] := by
  unfold F_X9_read_66 at h
  refine r_iconst (v := 0) DX9_read_66 ki_0 ?_
  cases h
  exact r_iret DX9_read_67 rfl ⟨Nat.le_refl 0, Nat.le_refl 0⟩ (hp M hR)
theorem S_X9_read_50 {E : EN} {X : CX} {P : Option Value → MH → Prop} {ad : AD} {fu : Nat} {out : Int32 × St} (hp : ∀ M, Rep E ad out.2 M → P (some (.int out.1)) M) {V : St} {M : MH} {d1 : Option Value} {d2 : Option Value} {d3 : Option Value} (hR : Rep E ad V M) (h : F_X9_read_50 fu V = some out) : G E X RX9 cX9_read 4 (some .int) false (rmD 38) P M [some (.ref (ad 1900 0)), d1, d2, d3] 0 0 50 [] := by
  unfold F_X9_read_50 at h
  refine r_aload_n DX9_read_50 rfl ?_
  refine s_geti DX9_read_51 fl_X9_44 hR ct_1900 (one_cnt _) rfl ?_
  cases h
  exact r_iret DX9_read_54 rfl ⟨Nat.le_refl 0, Nat.le_refl 0⟩ (hp M hR)
theorem S_X9_read_37 {E : EN} {X : CX} {P : Option Value → MH → Prop} {ad : AD} {fu : Nat} {out : Int32 × St} {kh : St → Int32 → RR} {kx50 : St → RR} {kx66 : St → RR} {kx77 : St → RR} {kx88 : St → RR} (hkh : ∀ {V : St} {M : MH} {x3 : Int32} {d1 : Option Value} {d2 : Option Value}, Rep E ad V M → kh V x3 = some out → G E X RX9 cX9_read 4 (some .int) false (rmD 38) P M [some (.ref (ad 1900 0)), d1, d2, some (.int (x3))] 0 0 37 []) (hkx50 : ∀ {V : St} {M : MH} {d1 : Option Value} {d2 : Option Value} {d3 : Option Value}, Rep E ad V M → kx50 V  = some out → G E X RX9 cX9_read 4 (some .int) false (rmD 38) P M [some (.ref (ad 1900 0)), d1, d2, d3] 0 0 50 []) (hkx66 : ∀ {V : St} {M : MH} {d0 : Option Value} {d1 : Option Value} {d2 : Option Value} {d3 : Option Value}, Rep E ad V M → kx66 V  = some out → G E X RX9 cX9_read 4 (some .int) false (rmD 38) P M [d0, d1, d2, d3] 0 0 66 []) (hkx77 : ∀ {V : St} {M : MH} {d1 : Option Value} {d2 : Option Value} {d3 : Option Value}, Rep E ad V M → kx77 V  = some out → G E X RX9 cX9_read 4 (some .int) false (rmD 38) P M [some (.ref (ad 1900 0)), d1, d2, d3] 0 0 77 []) (hkx88 : ∀ {V : St} {M : MH} {d1 : Option Value} {d2 : Option Value} {d3 : Option Value}, Rep E ad V M → kx88 V  = some out → G E X RX9 cX9_read 4 (some .int) false (rmD 38) P M [some (.ref (ad 1900 0)), d1, d2, d3] 0 0 88 []) (hp : ∀ M, Rep E ad out.2 M → P (some (.int out.1)) M) {V : St} {M : MH} {x3 : Int32} {d1 : Option Value} {d2 : Option Value} (hR : Rep E ad V M) (h : F_X9_read_37 kh kx50 kx66 kx77 kx88 fu V x3 = some out) : G E X RX9 cX9_read 4 (some .int) false (rmD 38) P M [some (.ref (ad 1900 0)), d1, d2, some (.int (x3))] 0 0 37 [] := by
  unfold F_X9_read_37 at h
  refine r_iload_n DX9_read_37 rfl ?_
  refine r_bipush (v := 12) DX9_read_38 kb_12 ?_
  refine r_icmp_gt DX9_read_40 (fun c1 => ?_) (fun c1 => ?_)
  · have h := if_t c1 h
    exact hkx88 hR h
  · have h := if_f c1 h
    refine r_aload_n DX9_read_43 rfl ?_
    obtain ⟨r2, V3, hc4, h⟩ := bd_inv h
    refine k_callV (As := []) (rest := []) (st1 := [.int (r2)]) (w := some (.int r2)) DX9_read_44 cv_X9_53 hR ct_1900 (one_cnt _) rfl (C_X9_readClause (out := (r2, V3)) (cxL X) hR hc4) rfl (by decide) (by decide) rfl (Nat.le_of_ble_eq_true rfl) rfl (fun M hR => ?_)
    refine r_if_ne DX9_read_47 (fun c5 => ?_) (fun c5 => ?_)
    · have h := if_f c5 h
      refine r_aload_n DX9_read_55 rfl ?_
      refine s_geti DX9_read_56 fl_X9_41 hR ct_1900 (one_cnt _) rfl ?_
      refine r_aload_n DX9_read_59 rfl ?_
      refine s_geti DX9_read_60 fl_X9_38 hR ct_1900 (one_cnt _) rfl ?_
      refine r_icmp_lt DX9_read_63 (fun c6 => ?_) (fun c6 => ?_)
      · have h := if_t c6 h
        refine r_aload_n DX9_read_68 rfl ?_
        refine r_bipush (v := 59) DX9_read_69 kb_59 ?_
        obtain ⟨r7, V8, hc9, h⟩ := bd_inv h
        refine k_callV (As := [.int ((59 : Int32))]) (rest := []) (st1 := [.int (r7)]) (w := some (.int r7)) DX9_read_71 cv_X9_57 hR ct_1900 (one_cnt _) rfl (C_X9_take (out := (r7, V8)) (cxL X) hR hc9) rfl (by decide) (by decide) rfl (Nat.le_of_ble_eq_true rfl) rfl (fun M hR => ?_)
        refine r_if_ne DX9_read_74 (fun c10 => ?_) (fun c10 => ?_)
        · have h := if_f c10 h
          refine t_iinc (v := 1) (L' := [some (.ref (ad 1900 0)), d1, d2, some (.int (x3 + 1))]) DX9_read_82 rfl ki_1 (by decide) rfl ?_
          refine r_goto DX9_read_85 ?_
          exact hkh hR h
        · have h := if_t c10 h
          exact hkx77 hR h
      · have h := if_f c6 h
        exact hkx66 hR h
    · have h := if_t c5 h
      exact hkx50 hR h
theorem SL_X9_read_37 {E : EN} {X : CX} {P : Option Value → MH → Prop} {ad : AD} {fu : Nat} {out : Int32 × St} {kx50 : St → RR} {kx66 : St → RR} {kx77 : St → RR} {kx88 : St → RR} (hkx50 : ∀ {V : St} {M : MH} {d1 : Option Value} {d2 : Option Value} {d3 : Option Value}, Rep E ad V M → kx50 V  = some out → G E X RX9 cX9_read 4 (some .int) false (rmD 38) P M [some (.ref (ad 1900 0)), d1, d2, d3] 0 0 50 []) (hkx66 : ∀ {V : St} {M : MH} {d0 : Option Value} {d1 : Option Value} {d2 : Option Value} {d3 : Option Value}, Rep E ad V M → kx66 V  = some out → G E X RX9 cX9_read 4 (some .int) false (rmD 38) P M [d0, d1, d2, d3] 0 0 66 []) (hkx77 : ∀ {V : St} {M : MH} {d1 : Option Value} {d2 : Option Value} {d3 : Option Value}, Rep E ad V M → kx77 V  = some out → G E X RX9 cX9_read 4 (some .int) false (rmD 38) P M [some (.ref (ad 1900 0)), d1, d2, d3] 0 0 77 []) (hkx88 : ∀ {V : St} {M : MH} {d1 : Option Value} {d2 : Option Value} {d3 : Option Value}, Rep E ad V M → kx88 V  = some out → G E X RX9 cX9_read 4 (some .int) false (rmD 38) P M [some (.ref (ad 1900 0)), d1, d2, d3] 0 0 88 []) (hp : ∀ M, Rep E ad out.2 M → P (some (.int out.1)) M) : ∀ (n : Nat) {V : St} {M : MH} {x3 : Int32} {d1 : Option Value} {d2 : Option Value}, Rep E ad V M → Lp_X9_read_37 kx50 kx66 kx77 kx88 fu n V x3 = some out → G E X RX9 cX9_read 4 (some .int) false (rmD 38) P M [some (.ref (ad 1900 0)), d1, d2, some (.int (x3))] 0 0 37 [] := by
  intro n
  induction n with
  | zero => intros; rename_i h; cases h
  | succ n ih => exact fun hR h => S_X9_read_37 (fun hR h => ih hR h) (fun hR h => hkx50 hR h) (fun hR h => hkx66 hR h) (fun hR h => hkx77 hR h) (fun hR h => hkx88 hR h) hp hR h
theorem S_X9_read_0 {E : EN} {X : CX} {P : Option Value → MH → Prop} {ad : AD} {fu : Nat} {out : Int32 × St} (hp : ∀ M, Rep E ad out.2 M → P (some (.int out.1)) M) {V : St} {M : MH} {x2 : Int32} (hR : Rep E ad V M) (h : f_X9_read fu V x2 = some out) : G E X RX9 cX9_read 4 (some .int) false (rmD 38) P M [some (.ref (ad 1900 0)), some (.ref (ad 2113 (0))), some (.int (x2)), none] 0 0 0 [] := by
  unfold f_X9_read at h
  refine r_aload_n DX9_read_0 rfl ?_
  refine r_aload_n DX9_read_1 rfl ?_
  obtain ⟨V1, hv2, h⟩ := bv_inv h
  refine s_putT DX9_read_2 fp_X9_34 hR oks_1908 ct_1900 (one_cnt _) rfl (fun _ => rfl) (fun _ => rfl) (fun M hR => ?_)
  have hR := hR.cg hv2
  refine r_aload_n DX9_read_5 rfl ?_
  refine r_iload_n DX9_read_6 rfl ?_
  refine r_aload_n DX9_read_7 rfl ?_
  refine s_blen DX9_read_8 hR ct_2113 (two_cnt _) ?_
  refine r_mmin DX9_read_9 wd_837 (by decide) (Nat.le_of_ble_eq_true rfl) ?_
  obtain ⟨V3, hv4, h⟩ := bv_inv h
  refine s_puti DX9_read_12 fp_X9_38 hR oks_1909 ct_1900 (one_cnt _) rfl rfl rfl (fun M hR => ?_)
  have hR := hR.cg hv4
  refine r_aload_n DX9_read_15 rfl ?_
  refine r_iconst (v := 0) DX9_read_16 ki_0 ?_
  obtain ⟨V5, hv6, h⟩ := bv_inv h
  refine s_puti DX9_read_17 fp_X9_41 hR oks_1910 ct_1900 (one_cnt _) rfl rfl rfl (fun M hR => ?_)
  have hR := hR.cg hv6
  refine r_aload_n DX9_read_20 rfl ?_
  refine r_iconst (v := 0) DX9_read_21 ki_0 ?_
  obtain ⟨V7, hv8, h⟩ := bv_inv h
  refine s_puti DX9_read_22 fp_X9_44 hR oks_1911 ct_1900 (one_cnt _) rfl rfl rfl (fun M hR => ?_)
  have hR := hR.cg hv8
  refine r_aload_n DX9_read_25 rfl ?_
  refine r_iconst (v := 0) DX9_read_26 ki_0 ?_
  obtain ⟨V9, hv10, h⟩ := bv_inv h
  refine s_puti DX9_read_27 fp_X9_27 hR oks_1906 ct_1900 (one_cnt _) rfl rfl rfl (fun M hR => ?_)
  have hR := hR.cg hv10
  refine r_aload_n DX9_read_30 rfl ?_
  refine r_iconst (v := 0) DX9_read_31 ki_0 ?_
  obtain ⟨V11, hv12, h⟩ := bv_inv h
  refine s_puti DX9_read_32 fp_X9_31 hR oks_1907 ct_1900 (one_cnt _) rfl rfl rfl (fun M hR => ?_)
  have hR := hR.cg hv12
  refine r_iconst (v := 0) DX9_read_35 ki_0 ?_
  refine t_istore_n (L' := [some (.ref (ad 1900 0)), some (.ref (ad 2113 (0))), some (.int (x2)), some (.int ((0 : Int32)))]) DX9_read_36 (by decide) rfl ?_
  exact SL_X9_read_37 (fun hR h => S_X9_read_50 hp hR h) (fun hR h => S_X9_read_66 hp hR h) (fun hR h => S_X9_read_77 hp hR h) (fun hR h => S_X9_read_88 hp hR h) hp fu hR h
theorem C_X9_read {E : EN} {ad : AD} {fu : Nat} {out : Int32 × St} {V : St} {M : MH} {x2 : Int32} (l : Launch) (hR : Rep E ad V M) (h : f_X9_read fu V x2 = some out) : Ct E l yX9_read cX9_read 4 (some .int) (rmD 38) [.ref (ad 1900 0), .ref (ad 2113 (0)), .int (x2)] M (fun v M => v = (some (.int out.1)) ∧ Rep E ad out.2 M) :=
  Ct.of (own := RX9) (ini := false) (L := [some (.ref (ad 1900 0)), some (.ref (ad 2113 (0))), some (.int (x2)), none]) rfl rfl (fun h => by cases h) rfl (Nat.le_of_ble_eq_true rfl) rfl (fun X _ => S_X9_read_0 (fun M hR => ⟨rfl, hR⟩) hR h)
theorem S_X2_choose_143 {E : EN} {X : CX} {P : Option Value → MH → Prop} {ad : AD} {fu : Nat} {dp : Nat} {out : Int32 × St} {rc_X2_choose : St → Int32 → Int32 → Int32 → RR} (hrc_X2_choose : ∀ (l : Launch) {V : St} {M : MH} {o : Int32 × St} {x0 : Int32} {x1 : Int32} {x2 : Int32}, Rep E ad V M → rc_X2_choose V x0 x1 x2 = some o → Ct E l yX2_choose cX2_choose 7 none (rmD (dp + 6)) [rfq ad 1200 (x0), .int (x1), .int (x2)] M (fun v M => v = none ∧ Rep E ad o.2 M)) (hp : ∀ M, Rep E ad out.2 M → P none M) {V : St} {M : MH} {d0 : Option Value} {d1 : Option Value} {d2 : Option Value} {d3 : Option Value} {d4 : Option Value} {d5 : Option Value} {d6 : Option Value} (hR : Rep E ad V M) (h : F_X2_choose_143 rc_X2_choose fu V = some out) : G E X RX2 cX2_choose 7 none false (rmD (dp + 1 + 6)) P M [d0, d1, d2, d3, d4, d5, d6] 0 0 143 [] := by
  unfold F_X2_choose_143 at h
  cases h
  exact r_vret DX2_choose_143 rfl ⟨Nat.le_refl 0, Nat.le_refl 0⟩ (hp M hR)
theorem S_X2_choose_137 {E : EN} {X : CX} {P : Option Value → MH → Prop} {ad : AD} {fu : Nat} {dp : Nat} {out : Int32 × St} {rc_X2_choose : St → Int32 → Int32 → Int32 → RR} {kh : St → Int32 → Int32 → Int32 → Int32 → Int32 → RR} {kx143 : St → RR} (hrc_X2_choose : ∀ (l : Launch) {V : St} {M : MH} {o : Int32 × St} {x0 : Int32} {x1 : Int32} {x2 : Int32}, Rep E ad V M → rc_X2_choose V x0 x1 x2 = some o → Ct E l yX2_choose cX2_choose 7 none (rmD (dp + 6)) [rfq ad 1200 (x0), .int (x1), .int (x2)] M (fun v M => v = none ∧ Rep E ad o.2 M)) (hkh : ∀ {V : St} {M : MH} {x0 : Int32} {x1 : Int32} {x2 : Int32} {x3 : Int32} {x4 : Int32} {d5 : Option Value} {d6 : Option Value}, Rep E ad V M → kh V x0 x1 x2 x3 x4 = some out → G E X RX2 cX2_choose 7 none false (rmD (dp + 1 + 6)) P M [some (rfq ad 1200 (x0)), some (.int (x1)), some (.int (x2)), some (.int (x3)), some (.int (x4)), d5, d6] 0 0 49 []) (hkx143 : ∀ {V : St} {M : MH} {d0 : Option Value} {d1 : Option Value} {d2 : Option Value} {d3 : Option Value} {d4 : Option Value} {d5 : Option Value} {d6 : Option Value}, Rep E ad V M → kx143 V  = some out → G E X RX2 cX2_choose 7 none false (rmD (dp + 1 + 6)) P M [d0, d1, d2, d3, d4, d5, d6] 0 0 143 []) (hp : ∀ M, Rep E ad out.2 M → P none M) {V : St} {M : MH} {x0 : Int32} {x1 : Int32} {x2 : Int32} {x3 : Int32} {x4 : Int32} {d5 : Option Value} {d6 : Option Value} (hR : Rep E ad V M) (h : F_X2_choose_137 rc_X2_choose kh kx143 fu V x0 x1 x2 x3 x4 = some out) : G E X RX2 cX2_choose 7 none false (rmD (dp + 1 + 6)) P M [some (rfq ad 1200 (x0)), some (.int (x1)), some (.int (x2)), some (.int (x3)), some (.int (x4)), d5, d6] 0 0 137 [] := by
  unfold F_X2_choose_137 at h
  refine t_iinc (v := 1) (L' := [some (rfq ad 1200 (x0)), some (.int (x1)), some (.int (x2)), some (.int (x3)), some (.int (x4 + 1)), d5, d6]) DX2_choose_137 rfl ki_1 (by decide) rfl ?_
  refine r_goto DX2_choose_140 ?_
  exact hkh hR h
theorem S_X2_choose_129 {E : EN} {X : CX} {P : Option Value → MH → Prop} {ad : AD} {fu : Nat} {dp : Nat} {out : Int32 × St} {rc_X2_choose : St → Int32 → Int32 → Int32 → RR} {kh : St → Int32 → Int32 → Int32 → Int32 → Int32 → RR} {kx143 : St → RR} (hrc_X2_choose : ∀ (l : Launch) {V : St} {M : MH} {o : Int32 × St} {x0 : Int32} {x1 : Int32} {x2 : Int32}, Rep E ad V M → rc_X2_choose V x0 x1 x2 = some o → Ct E l yX2_choose cX2_choose 7 none (rmD (dp + 6)) [rfq ad 1200 (x0), .int (x1), .int (x2)] M (fun v M => v = none ∧ Rep E ad o.2 M)) (hkh : ∀ {V : St} {M : MH} {x0 : Int32} {x1 : Int32} {x2 : Int32} {x3 : Int32} {x4 : Int32} {d5 : Option Value} {d6 : Option Value}, Rep E ad V M → kh V x0 x1 x2 x3 x4 = some out → G E X RX2 cX2_choose 7 none false (rmD (dp + 1 + 6)) P M [some (rfq ad 1200 (x0)), some (.int (x1)), some (.int (x2)), some (.int (x3)), some (.int (x4)), d5, d6] 0 0 49 []) (hkx143 : ∀ {V : St} {M : MH} {d0 : Option Value} {d1 : Option Value} {d2 : Option Value} {d3 : Option Value} {d4 : Option Value} {d5 : Option Value} {d6 : Option Value}, Rep E ad V M → kx143 V  = some out → G E X RX2 cX2_choose 7 none false (rmD (dp + 1 + 6)) P M [d0, d1, d2, d3, d4, d5, d6] 0 0 143 []) (hp : ∀ M, Rep E ad out.2 M → P none M) {V : St} {M : MH} {x0 : Int32} {x1 : Int32} {x2 : Int32} {x3 : Int32} {x4 : Int32} {x6 : Int32} {d5 : Option Value} (hR : Rep E ad V M) (h : F_X2_choose_129 rc_X2_choose kh kx143 fu V x0 x1 x2 x3 x4 x6 = some out) : G E X RX2 cX2_choose 7 none false (rmD (dp + 1 + 6)) P M [some (rfq ad 1200 (x0)), some (.int (x1)), some (.int (x2)), some (.int (x3)), some (.int (x4)), d5, some (.int (x6))] 0 0 129 [] := by
  unfold F_X2_choose_129 at h
  refine t_aload_n (rfq_or _ _ _) DX2_choose_129 rfl ?_
  refine r_iload_n DX2_choose_130 rfl ?_
  refine r_iload DX2_choose_131 rfl ?_
  refine r_ineg DX2_choose_133 ?_
  obtain ⟨⟨hx4, hi5⟩, h⟩ := gd_inv h
  obtain ⟨r1, V2, hc3, h⟩ := bd_inv h
  refine k_callQ (As := [.int (x1), .int (-(x6))]) (rest := []) (st1 := []) (w := none) hx4 DX2_choose_134 cv_X2_72 hR ct_1200 hi5 rfl (C_X2_takeFromCuts (out := (r1, V2)) (cxL X) hR hc3) rfl (by omega) (by decide) rfl (Nat.le_of_ble_eq_true rfl) rfl (fun M hR => ?_)
  exact S_X2_choose_137 (fun l => hrc_X2_choose l) (fun hR h => hkh hR h) (fun hR h => hkx143 hR h) hp hR h
theorem S_X2_choose_84 {E : EN} {X : CX} {P : Option Value → MH → Prop} {ad : AD} {fu : Nat} {dp : Nat} {out : Int32 × St} {rc_X2_choose : St → Int32 → Int32 → Int32 → RR} {kh : St → Int32 → Int32 → Int32 → Int32 → Int32 → RR} {kx143 : St → RR} (hrc_X2_choose : ∀ (l : Launch) {V : St} {M : MH} {o : Int32 × St} {x0 : Int32} {x1 : Int32} {x2 : Int32}, Rep E ad V M → rc_X2_choose V x0 x1 x2 = some o → Ct E l yX2_choose cX2_choose 7 none (rmD (dp + 6)) [rfq ad 1200 (x0), .int (x1), .int (x2)] M (fun v M => v = none ∧ Rep E ad o.2 M)) (hkh : ∀ {V : St} {M : MH} {x0 : Int32} {x1 : Int32} {x2 : Int32} {x3 : Int32} {x4 : Int32} {d5 : Option Value} {d6 : Option Value}, Rep E ad V M → kh V x0 x1 x2 x3 x4 = some out → G E X RX2 cX2_choose 7 none false (rmD (dp + 1 + 6)) P M [some (rfq ad 1200 (x0)), some (.int (x1)), some (.int (x2)), some (.int (x3)), some (.int (x4)), d5, d6] 0 0 49 []) (hkx143 : ∀ {V : St} {M : MH} {d0 : Option Value} {d1 : Option Value} {d2 : Option Value} {d3 : Option Value} {d4 : Option Value} {d5 : Option Value} {d6 : Option Value}, Rep E ad V M → kx143 V  = some out → G E X RX2 cX2_choose 7 none false (rmD (dp + 1 + 6)) P M [d0, d1, d2, d3, d4, d5, d6] 0 0 143 []) (hp : ∀ M, Rep E ad out.2 M → P none M) {V : St} {M : MH} {x0 : Int32} {x1 : Int32} {x2 : Int32} {x3 : Int32} {x4 : Int32} {x5 : Int32} {d6 : Option Value} (hR : Rep E ad V M) (h : F_X2_choose_84 rc_X2_choose kh kx143 fu V x0 x1 x2 x3 x4 x5 = some out) : G E X RX2 cX2_choose 7 none false (rmD (dp + 1 + 6)) P M [some (rfq ad 1200 (x0)), some (.int (x1)), some (.int (x2)), some (.int (x3)), some (.int (x4)), some (.int (x5)), d6] 0 0 84 [] := by
  unfold F_X2_choose_84 at h
  refine s_gets0 DX2_choose_84 wd_602 ?_
  refine r_iconst (v := 2) DX2_choose_87 ki_2 ?_
  obtain ⟨hg1, h⟩ := gd_inv h
  refine s_gald0 DX2_choose_88 hg1 ?_
  refine s_gets0 DX2_choose_89 wd_602 ?_
  refine r_iload DX2_choose_92 rfl ?_
  obtain ⟨hg2, h⟩ := gd_inv h
  refine s_gald0 DX2_choose_94 hg2 ?_
  refine r_isub DX2_choose_95 ?_
  refine t_istore (L' := [some (rfq ad 1200 (x0)), some (.int (x1)), some (.int (x2)), some (.int (x3)), some (.int (x4)), some (.int (x5)), some (.int ((gT0 ((2 : Int32))) - (gT0 (x4))))]) DX2_choose_96 (by decide) rfl ?_
  refine t_aload_n (rfq_or _ _ _) DX2_choose_98 rfl ?_
  obtain ⟨⟨hx3, hi4⟩, h⟩ := gd_inv h
  refine q_geta hx3 DX2_choose_99 fl_X2_36 hR ct_1200 hi4 rfl ?_
  refine r_iload_n DX2_choose_102 rfl ?_
  refine r_iload DX2_choose_103 rfl ?_
  obtain ⟨hg5, h⟩ := gd_inv h
  obtain ⟨V6, hv7, h⟩ := bv_inv h
  refine s_iast DX2_choose_105 hR oka_1210 ct_1210 (hi4) hg5 (fun M hR => ?_)
  have hR := hR.cg hv7
  refine t_aload_n (rfq_or _ _ _) DX2_choose_106 rfl ?_
  refine r_iload_n DX2_choose_107 rfl ?_
  refine r_iload DX2_choose_108 rfl ?_
  have hi11 := cnt_keep hv7 (b := 2104) (by decide) hi4
  obtain ⟨r8, V9, hc10, h⟩ := bd_inv h
  refine k_callQ (As := [.int (x1), .int ((gT0 ((2 : Int32))) - (gT0 (x4)))]) (rest := []) (st1 := []) (w := none) hx3 DX2_choose_110 cv_X2_72 hR ct_1200 hi11 rfl (C_X2_takeFromCuts (out := (r8, V9)) (cxL X) hR hc10) rfl (by omega) (by decide) rfl (Nat.le_of_ble_eq_true rfl) rfl (fun M hR => ?_)
  refine t_aload_n (rfq_or _ _ _) DX2_choose_113 rfl ?_
  obtain ⟨⟨hx15, hi16⟩, h⟩ := gd_inv h
  obtain ⟨r12, V13, hc14, h⟩ := bd_inv h
  refine k_callQ (As := []) (rest := []) (st1 := [.int (r12)]) (w := some (.int r12)) hx15 DX2_choose_114 cv_X2_76 hR ct_1200 hi16 rfl (C_X2_isSound (out := (r12, V13)) (cxL X) hR hc14) rfl (by omega) (by decide) rfl (Nat.le_of_ble_eq_true rfl) rfl (fun M hR => ?_)
  refine r_if_eq DX2_choose_117 (fun c17 => ?_) (fun c17 => ?_)
  · have h := if_t c17 h
    exact S_X2_choose_129 (fun l => hrc_X2_choose l) (fun hR h => hkh hR h) (fun hR h => hkx143 hR h) hp hR h
  · have h := if_f c17 h
    refine t_aload_n (rfq_or _ _ _) DX2_choose_120 rfl ?_
    refine r_iload_n DX2_choose_121 rfl ?_
    refine r_iconst (v := 1) DX2_choose_122 ki_1 ?_
    refine r_iadd DX2_choose_123 ?_
    refine r_iload DX2_choose_124 rfl ?_
    obtain ⟨⟨hx21, hi22⟩, h⟩ := gd_inv h
    obtain ⟨r18, V19, hc20, h⟩ := bd_inv h
    refine k_callQ (As := [.int (x1 + (1 : Int32)), .int (x5)]) (rest := []) (st1 := []) (w := none) hx21 DX2_choose_126 cv_X2_80 hR ct_1200 hi22 rfl (hrc_X2_choose (o := (r18, V19)) (cxL X) hR hc20) rfl (by omega) (by decide) rfl (Nat.le_of_ble_eq_true rfl) rfl (fun M hR => ?_)
    exact S_X2_choose_129 (fun l => hrc_X2_choose l) (fun hR h => hkh hR h) (fun hR h => hkx143 hR h) hp hR h
theorem S_X2_choose_49 {E : EN} {X : CX} {P : Option Value → MH → Prop} {ad : AD} {fu : Nat} {dp : Nat} {out : Int32 × St} {rc_X2_choose : St → Int32 → Int32 → Int32 → RR} {kh : St → Int32 → Int32 → Int32 → Int32 → Int32 → RR} {kx143 : St → RR} (hrc_X2_choose : ∀ (l : Launch) {V : St} {M : MH} {o : Int32 × St} {x0 : Int32} {x1 : Int32} {x2 : Int32}, Rep E ad V M → rc_X2_choose V x0 x1 x2 = some o → Ct E l yX2_choose cX2_choose 7 none (rmD (dp + 6)) [rfq ad 1200 (x0), .int (x1), .int (x2)] M (fun v M => v = none ∧ Rep E ad o.2 M)) (hkh : ∀ {V : St} {M : MH} {x0 : Int32} {x1 : Int32} {x2 : Int32} {x3 : Int32} {x4 : Int32} {d5 : Option Value} {d6 : Option Value}, Rep E ad V M → kh V x0 x1 x2 x3 x4 = some out → G E X RX2 cX2_choose 7 none false (rmD (dp + 1 + 6)) P M [some (rfq ad 1200 (x0)), some (.int (x1)), some (.int (x2)), some (.int (x3)), some (.int (x4)), d5, d6] 0 0 49 []) (hkx143 : ∀ {V : St} {M : MH} {d0 : Option Value} {d1 : Option Value} {d2 : Option Value} {d3 : Option Value} {d4 : Option Value} {d5 : Option Value} {d6 : Option Value}, Rep E ad V M → kx143 V  = some out → G E X RX2 cX2_choose 7 none false (rmD (dp + 1 + 6)) P M [d0, d1, d2, d3, d4, d5, d6] 0 0 143 []) (hp : ∀ M, Rep E ad out.2 M → P none M) {V : St} {M : MH} {x0 : Int32} {x1 : Int32} {x2 : Int32} {x3 : Int32} {x4 : Int32} {d5 : Option Value} {d6 : Option Value} (hR : Rep E ad V M) (h : F_X2_choose_49 rc_X2_choose kh kx143 fu V x0 x1 x2 x3 x4 = some out) : G E X RX2 cX2_choose 7 none false (rmD (dp + 1 + 6)) P M [some (rfq ad 1200 (x0)), some (.int (x1)), some (.int (x2)), some (.int (x3)), some (.int (x4)), d5, d6] 0 0 49 [] := by
  unfold F_X2_choose_49 at h
  refine r_iload DX2_choose_49 rfl ?_
  refine r_iconst (v := 2) DX2_choose_51 ki_2 ?_
  refine r_icmp_gt DX2_choose_52 (fun c1 => ?_) (fun c1 => ?_)
  · have h := if_t c1 h
    exact hkx143 hR h
  · have h := if_f c1 h
    refine r_iload_n DX2_choose_55 rfl ?_
    refine s_gets1 DX2_choose_56 wd_631 ?_
    refine r_iload DX2_choose_59 rfl ?_
    obtain ⟨hg2, h⟩ := gd_inv h
    refine s_gald1 DX2_choose_61 hg2 ?_
    refine r_iadd DX2_choose_62 ?_
    refine t_istore (L' := [some (rfq ad 1200 (x0)), some (.int (x1)), some (.int (x2)), some (.int (x3)), some (.int (x4)), some (.int (x2 + (gT1 (x4)))), d6]) DX2_choose_63 (by decide) rfl ?_
    refine t_aload_n (rfq_or _ _ _) DX2_choose_65 rfl ?_
    obtain ⟨⟨hx3, hi4⟩, h⟩ := gd_inv h
    refine q_geti hx3 DX2_choose_66 fl_X2_52 hR ct_1200 hi4 rfl ?_
    refine r_iconst (v := -1) DX2_choose_69 ki_m1 ?_
    refine r_icmp_eq DX2_choose_70 (fun c5 => ?_) (fun c5 => ?_)
    · have h := if_t c5 h
      exact S_X2_choose_84 (fun l => hrc_X2_choose l) (fun hR h => hkh hR h) (fun hR h => hkx143 hR h) hp hR h
    · have h := if_f c5 h
      refine r_iload DX2_choose_73 rfl ?_
      refine r_iload_n DX2_choose_75 rfl ?_
      refine r_iadd DX2_choose_76 ?_
      refine t_aload_n (rfq_or _ _ _) DX2_choose_77 rfl ?_
      refine q_geti hx3 DX2_choose_78 fl_X2_52 hR ct_1200 hi4 rfl ?_
      refine r_icmp_ge DX2_choose_81 (fun c6 => ?_) (fun c6 => ?_)
      · have h := if_t c6 h
        exact S_X2_choose_137 (fun l => hrc_X2_choose l) (fun hR h => hkh hR h) (fun hR h => hkx143 hR h) hp hR h
      · have h := if_f c6 h
        exact S_X2_choose_84 (fun l => hrc_X2_choose l) (fun hR h => hkh hR h) (fun hR h => hkx143 hR h) hp hR h
theorem SL_X2_choose_49 {E : EN} {X : CX} {P : Option Value → MH → Prop} {ad : AD} {fu : Nat} {dp : Nat} {out : Int32 × St} {rc_X2_choose : St → Int32 → Int32 → Int32 → RR} {kx143 : St → RR} (hrc_X2_choose : ∀ (l : Launch) {V : St} {M : MH} {o : Int32 × St} {x0 : Int32} {x1 : Int32} {x2 : Int32}, Rep E ad V M → rc_X2_choose V x0 x1 x2 = some o → Ct E l yX2_choose cX2_choose 7 none (rmD (dp + 6)) [rfq ad 1200 (x0), .int (x1), .int (x2)] M (fun v M => v = none ∧ Rep E ad o.2 M)) (hkx143 : ∀ {V : St} {M : MH} {d0 : Option Value} {d1 : Option Value} {d2 : Option Value} {d3 : Option Value} {d4 : Option Value} {d5 : Option Value} {d6 : Option Value}, Rep E ad V M → kx143 V  = some out → G E X RX2 cX2_choose 7 none false (rmD (dp + 1 + 6)) P M [d0, d1, d2, d3, d4, d5, d6] 0 0 143 []) (hp : ∀ M, Rep E ad out.2 M → P none M) : ∀ (n : Nat) {V : St} {M : MH} {x0 : Int32} {x1 : Int32} {x2 : Int32} {x3 : Int32} {x4 : Int32} {d5 : Option Value} {d6 : Option Value}, Rep E ad V M → Lp_X2_choose_49 rc_X2_choose kx143 fu n V x0 x1 x2 x3 x4 = some out → G E X RX2 cX2_choose 7 none false (rmD (dp + 1 + 6)) P M [some (rfq ad 1200 (x0)), some (.int (x1)), some (.int (x2)), some (.int (x3)), some (.int (x4)), d5, d6] 0 0 49 [] := by
  intro n
  induction n with
  | zero => intros; rename_i h; cases h
  | succ n ih => exact fun hR h => S_X2_choose_49 (fun l => hrc_X2_choose l) (fun hR h => ih hR h) (fun hR h => hkx143 hR h) hp hR h
theorem S_X2_choose_0 {E : EN} {X : CX} {P : Option Value → MH → Prop} {ad : AD} {fu : Nat} {dp : Nat} {out : Int32 × St} {rc_X2_choose : St → Int32 → Int32 → Int32 → RR} (hrc_X2_choose : ∀ (l : Launch) {V : St} {M : MH} {o : Int32 × St} {x0 : Int32} {x1 : Int32} {x2 : Int32}, Rep E ad V M → rc_X2_choose V x0 x1 x2 = some o → Ct E l yX2_choose cX2_choose 7 none (rmD (dp + 6)) [rfq ad 1200 (x0), .int (x1), .int (x2)] M (fun v M => v = none ∧ Rep E ad o.2 M)) (hp : ∀ M, Rep E ad out.2 M → P none M) {V : St} {M : MH} {x0 : Int32} {x1 : Int32} {x2 : Int32} (hR : Rep E ad V M) (h : fb_X2_choose rc_X2_choose fu V x0 x1 x2 = some out) : G E X RX2 cX2_choose 7 none false (rmD (dp + 1 + 6)) P M [some (rfq ad 1200 (x0)), some (.int (x1)), some (.int (x2)), none, none, none, none] 0 0 0 [] := by
  unfold fb_X2_choose at h
  refine r_iload_n DX2_choose_0 rfl ?_
  refine t_aload_n (rfq_or _ _ _) DX2_choose_1 rfl ?_
  obtain ⟨⟨hx1, hi2⟩, h⟩ := gd_inv h
  refine q_geti hx1 DX2_choose_2 fl_X2_42 hR ct_1200 hi2 rfl ?_
  refine r_icmp_lt DX2_choose_5 (fun c3 => ?_) (fun c3 => ?_)
  · have h := if_t c3 h
    refine s_gets1 DX2_choose_31 wd_631 ?_
    refine r_iconst (v := 0) DX2_choose_34 ki_0 ?_
    obtain ⟨hg4, h⟩ := gd_inv h
    refine s_gald1 DX2_choose_35 hg4 ?_
    refine t_aload_n (rfq_or _ _ _) DX2_choose_36 rfl ?_
    refine q_geti hx1 DX2_choose_37 fl_X2_42 hR ct_1200 hi2 rfl ?_
    refine r_iload_n DX2_choose_40 rfl ?_
    refine r_isub DX2_choose_41 ?_
    refine r_iconst (v := 1) DX2_choose_42 ki_1 ?_
    refine r_isub DX2_choose_43 ?_
    refine r_imul DX2_choose_44 ?_
    refine t_istore_n (L' := [some (rfq ad 1200 (x0)), some (.int (x1)), some (.int (x2)), some (.int ((gT1 ((0 : Int32))) * (((V 1212 (x0).toNatClampNeg 0) - x1) - (1 : Int32)))), none, none, none]) DX2_choose_45 (by decide) rfl ?_
    refine r_iconst (v := 0) DX2_choose_46 ki_0 ?_
    refine t_istore (L' := [some (rfq ad 1200 (x0)), some (.int (x1)), some (.int (x2)), some (.int ((gT1 ((0 : Int32))) * (((V 1212 (x0).toNatClampNeg 0) - x1) - (1 : Int32)))), some (.int ((0 : Int32))), none, none]) DX2_choose_47 (by decide) rfl ?_
    exact SL_X2_choose_49 (fun l => hrc_X2_choose l) (fun hR h => S_X2_choose_143 (fun l => hrc_X2_choose l) hp hR h) hp fu hR h
  · have h := if_f c3 h
    refine t_aload_n (rfq_or _ _ _) DX2_choose_8 rfl ?_
    refine r_iload_n DX2_choose_9 rfl ?_
    obtain ⟨V5, hv6, h⟩ := bv_inv h
    refine q_puti hx1 DX2_choose_10 fp_X2_52 hR oks_1215 ct_1200 hi2 rfl rfl rfl (fun M hR => ?_)
    have hR := hR.cg hv6
    refine t_aload_n (rfq_or _ _ _) DX2_choose_13 rfl ?_
    have hi7 := cnt_keep hv6 (b := 2104) (by decide) hi2
    refine q_geta hx1 DX2_choose_14 fl_X2_36 hR ct_1200 hi7 rfl ?_
    refine r_iconst (v := 0) DX2_choose_17 ki_0 ?_
    refine t_aload_n (rfq_or _ _ _) DX2_choose_18 rfl ?_
    refine q_geta hx1 DX2_choose_19 fl_X2_39 hR ct_1200 hi7 rfl ?_
    refine r_iconst (v := 0) DX2_choose_22 ki_0 ?_
    refine t_aload_n (rfq_or _ _ _) DX2_choose_23 rfl ?_
    refine q_geti hx1 DX2_choose_24 fl_X2_42 hR ct_1200 hi7 rfl ?_
    obtain ⟨hg8, h⟩ := gd_inv h
    obtain ⟨V9, hv10, h⟩ := bv_inv h
    refine s_copy DX2_choose_27 wd_630 hR oka_1211 ct_1210 ct_1211 hi7 hi7 hg8 (by omega) rfl (fun M hR => ?_)
    have hR := hR.cg hv10
    cases h
    exact r_vret DX2_choose_30 rfl ⟨Nat.le_refl 0, Nat.le_refl 0⟩ (hp M hR)
theorem CB_X2_choose {E : EN} {ad : AD} {fu : Nat} {dp : Nat} {out : Int32 × St} {rc_X2_choose : St → Int32 → Int32 → Int32 → RR} (hrc_X2_choose : ∀ (l : Launch) {V : St} {M : MH} {o : Int32 × St} {x0 : Int32} {x1 : Int32} {x2 : Int32}, Rep E ad V M → rc_X2_choose V x0 x1 x2 = some o → Ct E l yX2_choose cX2_choose 7 none (rmD (dp + 6)) [rfq ad 1200 (x0), .int (x1), .int (x2)] M (fun v M => v = none ∧ Rep E ad o.2 M)) {V : St} {M : MH} {x0 : Int32} {x1 : Int32} {x2 : Int32} (l : Launch) (hR : Rep E ad V M) (h : fb_X2_choose rc_X2_choose fu V x0 x1 x2 = some out) : Ct E l yX2_choose cX2_choose 7 none (rmD (dp + 1 + 6)) [rfq ad 1200 (x0), .int (x1), .int (x2)] M (fun v M => v = none ∧ Rep E ad out.2 M) :=
  Ct.of (own := RX2) (ini := false) (L := [some (rfq ad 1200 (x0)), some (.int (x1)), some (.int (x2)), none, none, none, none]) rfl rfl (fun h => by cases h) (by simp only [List.all_cons, List.all_nil, rfq_cat]; rfl) (Nat.le_of_ble_eq_true rfl) rfl (fun X _ => S_X2_choose_0 (fun l => hrc_X2_choose l) (fun M hR => ⟨rfl, hR⟩) hR h)
theorem CG_X2_choose {E : EN} {ad : AD} {fu : Nat} : ∀ (n : Nat) (l : Launch) {V : St} {M : MH} {out : Int32 × St} {x0 : Int32} {x1 : Int32} {x2 : Int32}, Rep E ad V M → g_X2_choose fu n V x0 x1 x2 = some out → Ct E l yX2_choose cX2_choose 7 none (rmD (n + 6)) [rfq ad 1200 (x0), .int (x1), .int (x2)] M (fun v M => v = none ∧ Rep E ad out.2 M) := by
  intro n
  induction n with
  | zero => intros; rename_i h; cases h
  | succ n ih => exact fun l {V M out} {x0 x1 x2} hR h => CB_X2_choose (dp := n) (fun l => ih l) l hR h
theorem C_X2_choose {E : EN} {ad : AD} {fu : Nat} {out : Int32 × St} {V : St} {M : MH} {x0 : Int32} {x1 : Int32} {x2 : Int32} (l : Launch) (hR : Rep E ad V M) (h : f_X2_choose fu V x0 x1 x2 = some out) : Ct E l yX2_choose cX2_choose 7 none (rmD 18) [rfq ad 1200 (x0), .int (x1), .int (x2)] M (fun v M => v = none ∧ Rep E ad out.2 M) := CG_X2_choose 12 l hR h
theorem S_X2_fewestInches_34 {E : EN} {X : CX} {P : Option Value → MH → Prop} {ad : AD} {fu : Nat} {out : Int32 × St} (hp : ∀ M, Rep E ad out.2 M → P (some (.int out.1)) M) {V : St} {M : MH} {x0 : Int32} (hR : Rep E ad V M) (h : F_X2_fewestInches_34 fu V x0 = some out) : G E X RX2 cX2_fewestInches 1 (some .int) false (rmD 19) P M [some (rfq ad 1200 (x0))] 0 0 34 [] := by
  unfold F_X2_fewestInches_34 at h
  refine t_aload_n (rfq_or _ _ _) DX2_fewestInches_34 rfl ?_
  obtain ⟨⟨hx1, hi2⟩, h⟩ := gd_inv h
  refine q_geti hx1 DX2_fewestInches_35 fl_X2_52 hR ct_1200 hi2 rfl ?_
  cases h
  exact r_iret DX2_fewestInches_38 rfl ⟨Nat.le_refl 0, Nat.le_refl 0⟩ (hp M hR)
theorem S_X2_fewestInches_29 {E : EN} {X : CX} {P : Option Value → MH → Prop} {ad : AD} {fu : Nat} {out : Int32 × St} (hp : ∀ M, Rep E ad out.2 M → P (some (.int out.1)) M) {V : St} {M : MH} {x0 : Int32} (hR : Rep E ad V M) (h : F_X2_fewestInches_29 fu V x0 = some out) : G E X RX2 cX2_fewestInches 1 (some .int) false (rmD 19) P M [some (rfq ad 1200 (x0))] 0 0 29 [] := by
  unfold F_X2_fewestInches_29 at h
  refine t_aload_n (rfq_or _ _ _) DX2_fewestInches_29 rfl ?_
  refine r_iconst (v := 1) DX2_fewestInches_30 ki_1 ?_
  obtain ⟨⟨hx1, hi2⟩, h⟩ := gd_inv h
  obtain ⟨V3, hv4, h⟩ := bv_inv h
  refine q_puti hx1 DX2_fewestInches_31 fp_X2_55 hR oks_1216 ct_1200 hi2 rfl rfl rfl (fun M hR => ?_)
  have hR := hR.cg hv4
  exact S_X2_fewestInches_34 hp hR h
theorem S_X2_fewestInches_0 {E : EN} {X : CX} {P : Option Value → MH → Prop} {ad : AD} {fu : Nat} {out : Int32 × St} (hp : ∀ M, Rep E ad out.2 M → P (some (.int out.1)) M) {V : St} {M : MH} {x0 : Int32} (hR : Rep E ad V M) (h : f_X2_fewestInches fu V x0 = some out) : G E X RX2 cX2_fewestInches 1 (some .int) false (rmD 19) P M [some (rfq ad 1200 (x0))] 0 0 0 [] := by
  unfold f_X2_fewestInches at h
  refine t_aload_n (rfq_or _ _ _) DX2_fewestInches_0 rfl ?_
  obtain ⟨⟨hx1, hi2⟩, h⟩ := gd_inv h
  refine q_geti hx1 DX2_fewestInches_1 fl_X2_55 hR ct_1200 hi2 rfl ?_
  refine r_if_ne DX2_fewestInches_4 (fun c3 => ?_) (fun c3 => ?_)
  · have h := if_f c3 h
    exact S_X2_fewestInches_34 hp hR h
  · have h := if_t c3 h
    refine t_aload_n (rfq_or _ _ _) DX2_fewestInches_7 rfl ?_
    refine r_iconst (v := -1) DX2_fewestInches_8 ki_m1 ?_
    obtain ⟨V4, hv5, h⟩ := bv_inv h
    refine q_puti hx1 DX2_fewestInches_9 fp_X2_52 hR oks_1215 ct_1200 hi2 rfl rfl rfl (fun M hR => ?_)
    have hR := hR.cg hv5
    refine t_aload_n (rfq_or _ _ _) DX2_fewestInches_12 rfl ?_
    have hi9 := cnt_keep hv5 (b := 2104) (by decide) hi2
    obtain ⟨r6, V7, hc8, h⟩ := bd_inv h
    refine k_callQ (As := []) (rest := []) (st1 := []) (w := none) hx1 DX2_fewestInches_13 cv_X2_66 hR ct_1200 hi9 rfl (C_X2_findCuts (out := (r6, V7)) (cxL X) hR hc8) rfl (by decide) (by decide) rfl (Nat.le_of_ble_eq_true rfl) rfl (fun M hR => ?_)
    refine t_aload_n (rfq_or _ _ _) DX2_fewestInches_16 rfl ?_
    obtain ⟨⟨hx13, hi14⟩, h⟩ := gd_inv h
    obtain ⟨r10, V11, hc12, h⟩ := bd_inv h
    refine k_callQ (As := []) (rest := []) (st1 := [.int (r10)]) (w := some (.int r10)) hx13 DX2_fewestInches_17 cv_X2_76 hR ct_1200 hi14 rfl (C_X2_isSound (out := (r10, V11)) (cxL X) hR hc12) rfl (by decide) (by decide) rfl (Nat.le_of_ble_eq_true rfl) rfl (fun M hR => ?_)
    refine r_if_eq DX2_fewestInches_20 (fun c15 => ?_) (fun c15 => ?_)
    · have h := if_t c15 h
      exact S_X2_fewestInches_29 hp hR h
    · have h := if_f c15 h
      refine t_aload_n (rfq_or _ _ _) DX2_fewestInches_23 rfl ?_
      refine r_iconst (v := 0) DX2_fewestInches_24 ki_0 ?_
      refine r_iconst (v := 0) DX2_fewestInches_25 ki_0 ?_
      obtain ⟨⟨hx19, hi20⟩, h⟩ := gd_inv h
      obtain ⟨r16, V17, hc18, h⟩ := bd_inv h
      refine k_callQ (As := [.int ((0 : Int32)), .int ((0 : Int32))]) (rest := []) (st1 := []) (w := none) hx19 DX2_fewestInches_26 cv_X2_80 hR ct_1200 hi20 rfl (C_X2_choose (out := (r16, V17)) (cxL X) hR hc18) rfl (by decide) (by decide) rfl (Nat.le_of_ble_eq_true rfl) rfl (fun M hR => ?_)
      exact S_X2_fewestInches_29 hp hR h
theorem C_X2_fewestInches {E : EN} {ad : AD} {fu : Nat} {out : Int32 × St} {V : St} {M : MH} {x0 : Int32} (l : Launch) (hR : Rep E ad V M) (h : f_X2_fewestInches fu V x0 = some out) : Ct E l yX2_fewestInches cX2_fewestInches 1 (some .int) (rmD 19) [rfq ad 1200 (x0)] M (fun v M => v = (some (.int out.1)) ∧ Rep E ad out.2 M) :=
  Ct.of (own := RX2) (ini := false) (L := [some (rfq ad 1200 (x0))]) rfl rfl (fun h => by cases h) (by simp only [List.all_cons, List.all_nil, rfq_cat]; rfl) (Nat.le_of_ble_eq_true rfl) rfl (fun X _ => S_X2_fewestInches_0 (fun M hR => ⟨rfl, hR⟩) hR h)
theorem S_X11_cheapest_54 {E : EN} {X : CX} {P : Option Value → MH → Prop} {ad : AD} {fu : Nat} {out : Int32 × St} (hp : ∀ M, Rep E ad out.2 M → P (some (.int out.1)) M) {V : St} {M : MH} {s0 : Int32} {d0 : Option Value} {d1 : Option Value} {d2 : Option Value} {d3 : Option Value} {d4 : Option Value} (hR : Rep E ad V M) (h : F_X11_cheapest_54 fu V s0 = some out) : G E X RX11 cX11_cheapest 5 (some .int) false (rmD 20) P M [d0, d1, d2, d3, d4] 0 0 54 [.int (s0)] := by
  unfold F_X11_cheapest_54 at h
  cases h
  exact r_iret DX11_cheapest_54 rfl ⟨Nat.le_refl 0, Nat.le_refl 0⟩ (hp M hR)
theorem S_X11_cheapest_43 {E : EN} {X : CX} {P : Option Value → MH → Prop} {ad : AD} {fu : Nat} {out : Int32 × St} (hp : ∀ M, Rep E ad out.2 M → P (some (.int out.1)) M) {V : St} {M : MH} {x4 : Int32} {d0 : Option Value} {d1 : Option Value} {d2 : Option Value} {d3 : Option Value} (hR : Rep E ad V M) (h : F_X11_cheapest_43 fu V x4 = some out) : G E X RX11 cX11_cheapest 5 (some .int) false (rmD 20) P M [d0, d1, d2, d3, some (.int (x4))] 0 0 43 [] := by
  unfold F_X11_cheapest_43 at h
  refine r_iload DX11_cheapest_43 rfl ?_
  refine r_goto DX11_cheapest_45 ?_
  exact S_X11_cheapest_54 hp hR h
theorem S_X11_cheapest_24 {E : EN} {X : CX} {P : Option Value → MH → Prop} {ad : AD} {fu : Nat} {out : Int32 × St} (hp : ∀ M, Rep E ad out.2 M → P (some (.int out.1)) M) {V : St} {M : MH} {d0 : Option Value} {d1 : Option Value} {d2 : Option Value} {d3 : Option Value} {d4 : Option Value} (hR : Rep E ad V M) (h : F_X11_cheapest_24 fu V = some out) : G E X RX11 cX11_cheapest 5 (some .int) false (rmD 20) P M [d0, d1, d2, d3, d4] 0 0 24 [] := by
  unfold F_X11_cheapest_24 at h
  refine r_iconst (v := -1) DX11_cheapest_24 ki_m1 ?_
  cases h
  exact r_iret DX11_cheapest_25 rfl ⟨Nat.le_refl 0, Nat.le_refl 0⟩ (hp M hR)
theorem S_X11_cheapest_0 {E : EN} {X : CX} {P : Option Value → MH → Prop} {ad : AD} {fu : Nat} {out : Int32 × St} (hp : ∀ M, Rep E ad out.2 M → P (some (.int out.1)) M) {V : St} {M : MH} {x1 : Int32} {x2 : Int32} (hR : Rep E ad V M) (h : f_X11_cheapest fu V x1 x2 = some out) : G E X RX11 cX11_cheapest 5 (some .int) false (rmD 20) P M [some (.ref (ad 2100 0)), some (.int (x1)), some (.int (x2)), none, none] 0 0 0 [] := by
  unfold f_X11_cheapest at h
  refine r_aload_n DX11_cheapest_0 rfl ?_
  refine r_iload_n DX11_cheapest_1 rfl ?_
  obtain ⟨r1, V2, hc3, h⟩ := bd_inv h
  refine k_callV (As := [.int (x1)]) (rest := []) (st1 := [rfq ad 1200 (r1)]) (w := some (rfq ad 1200 r1)) DX11_cheapest_2 cv_X11_133 hR ct_2100 (one_cnt _) rfl (C_X11_findDrawing (out := (r1, V2)) (cxL X) hR hc3) rfl (by decide) (by decide) rfl (Nat.le_of_ble_eq_true rfl) rfl (fun M hR => ?_)
  refine t_astore_n (L' := [some (.ref (ad 2100 0)), some (.int (x1)), some (.int (x2)), some (rfq ad 1200 (r1)), none]) (rfq_or _ _ _) DX11_cheapest_5 (by decide) rfl ?_
  refine t_aload_n (rfq_or _ _ _) DX11_cheapest_6 rfl ?_
  refine q_ifnull DX11_cheapest_7 (fun c4 => ?_) (fun c4 => ?_)
  · have h := if_t c4 h
    exact S_X11_cheapest_24 hp hR h
  · have h := if_f c4 h
    refine r_iload_n DX11_cheapest_10 rfl ?_
    refine r_iconst (v := -1) DX11_cheapest_11 ki_m1 ?_
    refine t_aload_n (rfq_or _ _ _) DX11_cheapest_12 rfl ?_
    obtain ⟨⟨hx5, hi6⟩, h⟩ := gd_inv h
    refine q_geti hx5 DX11_cheapest_13 fl_X11_149 hR ct_1200 hi6 rfl ?_
    refine r_iconst (v := 1) DX11_cheapest_16 ki_1 ?_
    refine r_isub DX11_cheapest_17 ?_
    obtain ⟨r7, V8, hc9, h⟩ := bd_inv h
    refine k_callS (As := [.int (x2), .int ((-1 : Int32)), .int ((V2 1212 (r1).toNatClampNeg 0) - (1 : Int32))]) (rest := []) (st1 := [.int (r7)]) (w := some (.int r7)) DX11_cheapest_18 cs_X11_111 (C_X11_within (out := (r7, V8)) (cxL X) hR hc9) rfl (by decide) (by decide) rfl (Nat.le_of_ble_eq_true rfl) rfl (fun M hR => ?_)
    refine r_if_ne DX11_cheapest_21 (fun c10 => ?_) (fun c10 => ?_)
    · have h := if_f c10 h
      refine t_aload_n (rfq_or _ _ _) DX11_cheapest_26 rfl ?_
      obtain ⟨⟨hx14, hi15⟩, h⟩ := gd_inv h
      obtain ⟨r11, V12, hc13, h⟩ := bd_inv h
      refine k_callQ (As := []) (rest := []) (st1 := [.int (r11)]) (w := some (.int r11)) hx14 DX11_cheapest_27 cv_X11_152 hR ct_1200 hi15 rfl (C_X2_fewestInches (out := (r11, V12)) (cxL X) hR hc13) rfl (by decide) (by decide) rfl (Nat.le_of_ble_eq_true rfl) rfl (fun M hR => ?_)
      refine t_istore (L' := [some (.ref (ad 2100 0)), some (.int (x1)), some (.int (x2)), some (rfq ad 1200 (r1)), some (.int (r11))]) DX11_cheapest_30 (by decide) rfl ?_
      refine r_iload_n DX11_cheapest_32 rfl ?_
      refine r_iconst (v := -1) DX11_cheapest_33 ki_m1 ?_
      refine r_icmp_eq DX11_cheapest_34 (fun c16 => ?_) (fun c16 => ?_)
      · have h := if_t c16 h
        exact S_X11_cheapest_43 hp hR h
      · have h := if_f c16 h
        refine r_iload DX11_cheapest_37 rfl ?_
        refine r_iconst (v := -1) DX11_cheapest_39 ki_m1 ?_
        refine r_icmp_ne DX11_cheapest_40 (fun c17 => ?_) (fun c17 => ?_)
        · have h := if_f c17 h
          refine t_aload_n (rfq_or _ _ _) DX11_cheapest_48 rfl ?_
          obtain ⟨⟨hx18, hi19⟩, h⟩ := gd_inv h
          refine q_geta hx18 DX11_cheapest_49 fl_X11_155 hR ct_1200 hi19 rfl ?_
          refine r_iload_n DX11_cheapest_52 rfl ?_
          obtain ⟨hg20, h⟩ := gd_inv h
          refine s_iald DX11_cheapest_53 hR ct_1211 (hi19) hg20 ?_
          exact S_X11_cheapest_54 hp hR h
        · have h := if_t c17 h
          exact S_X11_cheapest_43 hp hR h
    · have h := if_t c10 h
      exact S_X11_cheapest_24 hp hR h
theorem C_X11_cheapest {E : EN} {ad : AD} {fu : Nat} {out : Int32 × St} {V : St} {M : MH} {x1 : Int32} {x2 : Int32} (l : Launch) (hR : Rep E ad V M) (h : f_X11_cheapest fu V x1 x2 = some out) : Ct E l yX11_cheapest cX11_cheapest 5 (some .int) (rmD 20) [.ref (ad 2100 0), .int (x1), .int (x2)] M (fun v M => v = (some (.int out.1)) ∧ Rep E ad out.2 M) :=
  Ct.of (own := RX11) (ini := false) (L := [some (.ref (ad 2100 0)), some (.int (x1)), some (.int (x2)), none, none]) rfl rfl (fun h => by cases h) rfl (Nat.le_of_ble_eq_true rfl) rfl (fun X _ => S_X11_cheapest_0 (fun M hR => ⟨rfl, hR⟩) hR h)
theorem S_X5_place_188 {E : EN} {X : CX} {P : Option Value → MH → Prop} {ad : AD} {fu : Nat} {dp : Nat} {out : Int32 × St} {rc_X5_place : St → Int32 → Int32 → Int32 → Int32 → Int32 → Int32 → RR} (hrc_X5_place : ∀ (l : Launch) {V : St} {M : MH} {o : Int32 × St} {x1 : Int32} {x2 : Int32} {x3 : Int32} {x4 : Int32} {x5 : Int32} {x6 : Int32}, Rep E ad V M → rc_X5_place V x1 x2 x3 x4 x5 x6 = some o → Ct E l yX5_place cX5_place 13 (some .boolean) (rmD (dp + 6)) [.ref (ad 1500 0), rfq ad 2000 (x1), .int (x2), .int (x3), .int (x4), .int (x5), .int (x6)] M (fun v M => v = (some (.int o.1)) ∧ Rep E ad o.2 M)) (hp : ∀ M, Rep E ad out.2 M → P (some (.int out.1)) M) {V : St} {M : MH} {d0 : Option Value} {d1 : Option Value} {d2 : Option Value} {d3 : Option Value} {d4 : Option Value} {d5 : Option Value} {d6 : Option Value} {d7 : Option Value} {d8 : Option Value} {d9 : Option Value} {d10 : Option Value} {d11 : Option Value} {d12 : Option Value} (hR : Rep E ad V M) (h : F_X5_place_188 rc_X5_place fu V = some out) : G E X RX5 cX5_place 13 (some .boolean) false (rmD (dp + 1 + 6)) P M [d0, d1, d2, d3, d4, d5, d6, d7, d8, d9, d10, d11, d12] 0 0 188 [] := by
  unfold F_X5_place_188 at h
  refine r_iconst (v := 0) DX5_place_188 ki_0 ?_
  cases h
  exact r_zret DX5_place_189 rfl rfl ⟨Nat.le_refl 0, Nat.le_refl 0⟩ (hp M hR)
theorem S_X5_place_182 {E : EN} {X : CX} {P : Option Value → MH → Prop} {ad : AD} {fu : Nat} {dp : Nat} {out : Int32 × St} {rc_X5_place : St → Int32 → Int32 → Int32 → Int32 → Int32 → Int32 → RR} {kh : St → Int32 → Int32 → Int32 → Int32 → Int32 → Int32 → Int32 → RR} {kx180 : St → RR} {kx188 : St → RR} (hrc_X5_place : ∀ (l : Launch) {V : St} {M : MH} {o : Int32 × St} {x1 : Int32} {x2 : Int32} {x3 : Int32} {x4 : Int32} {x5 : Int32} {x6 : Int32}, Rep E ad V M → rc_X5_place V x1 x2 x3 x4 x5 x6 = some o → Ct E l yX5_place cX5_place 13 (some .boolean) (rmD (dp + 6)) [.ref (ad 1500 0), rfq ad 2000 (x1), .int (x2), .int (x3), .int (x4), .int (x5), .int (x6)] M (fun v M => v = (some (.int o.1)) ∧ Rep E ad o.2 M)) (hkh : ∀ {V : St} {M : MH} {x1 : Int32} {x2 : Int32} {x3 : Int32} {x4 : Int32} {x5 : Int32} {x6 : Int32} {x7 : Int32} {d8 : Option Value} {d9 : Option Value} {d10 : Option Value} {d11 : Option Value} {d12 : Option Value}, Rep E ad V M → kh V x1 x2 x3 x4 x5 x6 x7 = some out → G E X RX5 cX5_place 13 (some .boolean) false (rmD (dp + 1 + 6)) P M [some (.ref (ad 1500 0)), some (rfq ad 2000 (x1)), some (.int (x2)), some (.int (x3)), some (.int (x4)), some (.int (x5)), some (.int (x6)), some (.int (x7)), d8, d9, d10, d11, d12] 0 0 23 []) (hkx180 : ∀ {V : St} {M : MH} {d0 : Option Value} {d1 : Option Value} {d2 : Option Value} {d3 : Option Value} {d4 : Option Value} {d5 : Option Value} {d6 : Option Value} {d7 : Option Value} {d8 : Option Value} {d9 : Option Value} {d10 : Option Value} {d11 : Option Value} {d12 : Option Value}, Rep E ad V M → kx180 V  = some out → G E X RX5 cX5_place 13 (some .boolean) false (rmD (dp + 1 + 6)) P M [d0, d1, d2, d3, d4, d5, d6, d7, d8, d9, d10, d11, d12] 0 0 180 []) (hkx188 : ∀ {V : St} {M : MH} {d0 : Option Value} {d1 : Option Value} {d2 : Option Value} {d3 : Option Value} {d4 : Option Value} {d5 : Option Value} {d6 : Option Value} {d7 : Option Value} {d8 : Option Value} {d9 : Option Value} {d10 : Option Value} {d11 : Option Value} {d12 : Option Value}, Rep E ad V M → kx188 V  = some out → G E X RX5 cX5_place 13 (some .boolean) false (rmD (dp + 1 + 6)) P M [d0, d1, d2, d3, d4, d5, d6, d7, d8, d9, d10, d11, d12] 0 0 188 []) (hp : ∀ M, Rep E ad out.2 M → P (some (.int out.1)) M) {V : St} {M : MH} {x1 : Int32} {x2 : Int32} {x3 : Int32} {x4 : Int32} {x5 : Int32} {x6 : Int32} {x7 : Int32} {d8 : Option Value} {d9 : Option Value} {d10 : Option Value} {d11 : Option Value} {d12 : Option Value} (hR : Rep E ad V M) (h : F_X5_place_182 rc_X5_place kh kx180 kx188 fu V x1 x2 x3 x4 x5 x6 x7 = some out) : G E X RX5 cX5_place 13 (some .boolean) false (rmD (dp + 1 + 6)) P M [some (.ref (ad 1500 0)), some (rfq ad 2000 (x1)), some (.int (x2)), some (.int (x3)), some (.int (x4)), some (.int (x5)), some (.int (x6)), some (.int (x7)), d8, d9, d10, d11, d12] 0 0 182 [] := by
  unfold F_X5_place_182 at h
  refine t_iinc (v := 1) (L' := [some (.ref (ad 1500 0)), some (rfq ad 2000 (x1)), some (.int (x2)), some (.int (x3)), some (.int (x4)), some (.int (x5)), some (.int (x6)), some (.int (x7 + 1)), d8, d9, d10, d11, d12]) DX5_place_182 rfl ki_1 (by decide) rfl ?_
  refine r_goto DX5_place_185 ?_
  exact hkh hR h
theorem S_X5_place_180 {E : EN} {X : CX} {P : Option Value → MH → Prop} {ad : AD} {fu : Nat} {dp : Nat} {out : Int32 × St} {rc_X5_place : St → Int32 → Int32 → Int32 → Int32 → Int32 → Int32 → RR} (hrc_X5_place : ∀ (l : Launch) {V : St} {M : MH} {o : Int32 × St} {x1 : Int32} {x2 : Int32} {x3 : Int32} {x4 : Int32} {x5 : Int32} {x6 : Int32}, Rep E ad V M → rc_X5_place V x1 x2 x3 x4 x5 x6 = some o → Ct E l yX5_place cX5_place 13 (some .boolean) (rmD (dp + 6)) [.ref (ad 1500 0), rfq ad 2000 (x1), .int (x2), .int (x3), .int (x4), .int (x5), .int (x6)] M (fun v M => v = (some (.int o.1)) ∧ Rep E ad o.2 M)) (hp : ∀ M, Rep E ad out.2 M → P (some (.int out.1)) M) {V : St} {M : MH} {d0 : Option Value} {d1 : Option Value} {d2 : Option Value} {d3 : Option Value} {d4 : Option Value} {d5 : Option Value} {d6 : Option Value} {d7 : Option Value} {d8 : Option Value} {d9 : Option Value} {d10 : Option Value} {d11 : Option Value} {d12 : Option Value} (hR : Rep E ad V M) (h : F_X5_place_180 rc_X5_place fu V = some out) : G E X RX5 cX5_place 13 (some .boolean) false (rmD (dp + 1 + 6)) P M [d0, d1, d2, d3, d4, d5, d6, d7, d8, d9, d10, d11, d12] 0 0 180 [] := by
  unfold F_X5_place_180 at h
  refine r_iconst (v := 1) DX5_place_180 ki_1 ?_
  cases h
  exact r_zret DX5_place_181 rfl rfl ⟨Nat.le_refl 0, Nat.le_refl 0⟩ (hp M hR)
theorem S_X5_place_121 {E : EN} {X : CX} {P : Option Value → MH → Prop} {ad : AD} {fu : Nat} {dp : Nat} {out : Int32 × St} {rc_X5_place : St → Int32 → Int32 → Int32 → Int32 → Int32 → Int32 → RR} {kh : St → Int32 → Int32 → Int32 → Int32 → Int32 → Int32 → Int32 → RR} {kx180 : St → RR} {kx188 : St → RR} (hrc_X5_place : ∀ (l : Launch) {V : St} {M : MH} {o : Int32 × St} {x1 : Int32} {x2 : Int32} {x3 : Int32} {x4 : Int32} {x5 : Int32} {x6 : Int32}, Rep E ad V M → rc_X5_place V x1 x2 x3 x4 x5 x6 = some o → Ct E l yX5_place cX5_place 13 (some .boolean) (rmD (dp + 6)) [.ref (ad 1500 0), rfq ad 2000 (x1), .int (x2), .int (x3), .int (x4), .int (x5), .int (x6)] M (fun v M => v = (some (.int o.1)) ∧ Rep E ad o.2 M)) (hkh : ∀ {V : St} {M : MH} {x1 : Int32} {x2 : Int32} {x3 : Int32} {x4 : Int32} {x5 : Int32} {x6 : Int32} {x7 : Int32} {d8 : Option Value} {d9 : Option Value} {d10 : Option Value} {d11 : Option Value} {d12 : Option Value}, Rep E ad V M → kh V x1 x2 x3 x4 x5 x6 x7 = some out → G E X RX5 cX5_place 13 (some .boolean) false (rmD (dp + 1 + 6)) P M [some (.ref (ad 1500 0)), some (rfq ad 2000 (x1)), some (.int (x2)), some (.int (x3)), some (.int (x4)), some (.int (x5)), some (.int (x6)), some (.int (x7)), d8, d9, d10, d11, d12] 0 0 23 []) (hkx180 : ∀ {V : St} {M : MH} {d0 : Option Value} {d1 : Option Value} {d2 : Option Value} {d3 : Option Value} {d4 : Option Value} {d5 : Option Value} {d6 : Option Value} {d7 : Option Value} {d8 : Option Value} {d9 : Option Value} {d10 : Option Value} {d11 : Option Value} {d12 : Option Value}, Rep E ad V M → kx180 V  = some out → G E X RX5 cX5_place 13 (some .boolean) false (rmD (dp + 1 + 6)) P M [d0, d1, d2, d3, d4, d5, d6, d7, d8, d9, d10, d11, d12] 0 0 180 []) (hkx188 : ∀ {V : St} {M : MH} {d0 : Option Value} {d1 : Option Value} {d2 : Option Value} {d3 : Option Value} {d4 : Option Value} {d5 : Option Value} {d6 : Option Value} {d7 : Option Value} {d8 : Option Value} {d9 : Option Value} {d10 : Option Value} {d11 : Option Value} {d12 : Option Value}, Rep E ad V M → kx188 V  = some out → G E X RX5 cX5_place 13 (some .boolean) false (rmD (dp + 1 + 6)) P M [d0, d1, d2, d3, d4, d5, d6, d7, d8, d9, d10, d11, d12] 0 0 188 []) (hp : ∀ M, Rep E ad out.2 M → P (some (.int out.1)) M) {V : St} {M : MH} {x1 : Int32} {x2 : Int32} {x3 : Int32} {x4 : Int32} {x5 : Int32} {x6 : Int32} {x7 : Int32} {x9 : Int32} {x10 : Int32} {x11 : Int32} {s0 : Int32} {d8 : Option Value} {d12 : Option Value} (hR : Rep E ad V M) (h : F_X5_place_121 rc_X5_place kh kx180 kx188 fu V x1 x2 x3 x4 x5 x6 x7 x9 x10 x11 s0 = some out) : G E X RX5 cX5_place 13 (some .boolean) false (rmD (dp + 1 + 6)) P M [some (.ref (ad 1500 0)), some (rfq ad 2000 (x1)), some (.int (x2)), some (.int (x3)), some (.int (x4)), some (.int (x5)), some (.int (x6)), some (.int (x7)), d8, some (.int (x9)), some (.int (x10)), some (.int (x11)), d12] 0 0 121 [.int (s0)] := by
  unfold F_X5_place_121 at h
  refine t_aload_n (rfq_or _ _ _) DX5_place_121 rfl ?_
  obtain ⟨⟨hx1, hi2⟩, h⟩ := gd_inv h
  refine q_geta hx1 DX5_place_122 fl_X5_48 hR ct_2000 hi2 rfl ?_
  refine r_iload DX5_place_125 rfl ?_
  obtain ⟨hg3, h⟩ := gd_inv h
  refine s_iald DX5_place_127 hR ct_2007 (hi2) hg3 ?_
  refine r_mmax DX5_place_128 wd_730 (by omega) (Nat.le_of_ble_eq_true rfl) ?_
  refine t_istore (L' := [some (.ref (ad 1500 0)), some (rfq ad 2000 (x1)), some (.int (x2)), some (.int (x3)), some (.int (x4)), some (.int (x5)), some (.int (x6)), some (.int (x7)), d8, some (.int (x9)), some (.int (x10)), some (.int (x11)), some (.int ((if s0 < (V 2007 ((x1).toNatClampNeg) (x7).toNatClampNeg) then (V 2007 ((x1).toNatClampNeg) (x7).toNatClampNeg) else s0)))]) DX5_place_131 (by decide) rfl ?_
  refine r_aload_n DX5_place_133 rfl ?_
  refine s_geta DX5_place_134 fl_X5_21 hR ct_1500 (one_cnt _) rfl ?_
  refine r_iload_n DX5_place_137 rfl ?_
  refine r_iload DX5_place_138 rfl ?_
  obtain ⟨hg4, h⟩ := gd_inv h
  obtain ⟨V5, hv6, h⟩ := bv_inv h
  refine s_iast DX5_place_140 hR oka_1504 ct_1504 (one_cnt _) hg4 (fun M hR => ?_)
  have hR := hR.cg hv6
  refine r_iload DX5_place_141 rfl ?_
  refine r_aload_n DX5_place_143 rfl ?_
  refine r_iload DX5_place_144 rfl ?_
  refine r_iload DX5_place_146 rfl ?_
  refine r_iload DX5_place_148 rfl ?_
  obtain ⟨r7, V8, hc9, h⟩ := bd_inv h
  refine k_callV (As := [.int (x9), .int (x11), .int ((if s0 < (V 2007 ((x1).toNatClampNeg) (x7).toNatClampNeg) then (V 2007 ((x1).toNatClampNeg) (x7).toNatClampNeg) else s0))]) (rest := [.int (x10)]) (st1 := [.int (r7), .int (x10)]) (w := some (.int r7)) DX5_place_150 cv_X5_78 hR ct_1500 (one_cnt _) rfl (C_X5_atLeast (out := (r7, V8)) (cxL X) hR hc9) rfl (by omega) (by decide) rfl (Nat.le_of_ble_eq_true rfl) rfl (fun M hR => ?_)
  refine r_iadd DX5_place_153 ?_
  refine r_aload_n DX5_place_154 rfl ?_
  refine s_geti DX5_place_155 fl_X5_24 hR ct_1500 (one_cnt _) rfl ?_
  refine r_icmp_gt DX5_place_158 (fun c10 => ?_) (fun c10 => ?_)
  · have h := if_t c10 h
    exact S_X5_place_182 (fun l => hrc_X5_place l) (fun hR h => hkh hR h) (fun hR h => hkx180 hR h) (fun hR h => hkx188 hR h) hp hR h
  · have h := if_f c10 h
    refine r_aload_n DX5_place_161 rfl ?_
    refine t_aload_n (rfq_or _ _ _) DX5_place_162 rfl ?_
    refine r_iload_n DX5_place_163 rfl ?_
    refine r_iconst (v := 1) DX5_place_164 ki_1 ?_
    refine r_iadd DX5_place_165 ?_
    refine r_iload DX5_place_166 rfl ?_
    refine r_iload DX5_place_168 rfl ?_
    refine r_iload DX5_place_170 rfl ?_
    refine r_iload DX5_place_172 rfl ?_
    obtain ⟨r11, V12, hc13, h⟩ := bd_inv h
    refine k_callV (As := [rfq ad 2000 (x1), .int (x2 + (1 : Int32)), .int (x9), .int (x10), .int (x11), .int ((if s0 < (V 2007 ((x1).toNatClampNeg) (x7).toNatClampNeg) then (V 2007 ((x1).toNatClampNeg) (x7).toNatClampNeg) else s0))]) (rest := []) (st1 := [.int (r11)]) (w := some (.int r11)) DX5_place_174 cv_X5_65 hR ct_1500 (one_cnt _) rfl (hrc_X5_place (o := (r11, V12)) (cxL X) hR hc13) rfl (by omega) (by decide) rfl (Nat.le_of_ble_eq_true rfl) rfl (fun M hR => ?_)
    refine r_if_eq DX5_place_177 (fun c14 => ?_) (fun c14 => ?_)
    · have h := if_t c14 h
      exact S_X5_place_182 (fun l => hrc_X5_place l) (fun hR h => hkh hR h) (fun hR h => hkx180 hR h) (fun hR h => hkx188 hR h) hp hR h
    · have h := if_f c14 h
      exact hkx180 hR h
theorem S_X5_place_100 {E : EN} {X : CX} {P : Option Value → MH → Prop} {ad : AD} {fu : Nat} {dp : Nat} {out : Int32 × St} {rc_X5_place : St → Int32 → Int32 → Int32 → Int32 → Int32 → Int32 → RR} {kh : St → Int32 → Int32 → Int32 → Int32 → Int32 → Int32 → Int32 → RR} {kx180 : St → RR} {kx188 : St → RR} (hrc_X5_place : ∀ (l : Launch) {V : St} {M : MH} {o : Int32 × St} {x1 : Int32} {x2 : Int32} {x3 : Int32} {x4 : Int32} {x5 : Int32} {x6 : Int32}, Rep E ad V M → rc_X5_place V x1 x2 x3 x4 x5 x6 = some o → Ct E l yX5_place cX5_place 13 (some .boolean) (rmD (dp + 6)) [.ref (ad 1500 0), rfq ad 2000 (x1), .int (x2), .int (x3), .int (x4), .int (x5), .int (x6)] M (fun v M => v = (some (.int o.1)) ∧ Rep E ad o.2 M)) (hkh : ∀ {V : St} {M : MH} {x1 : Int32} {x2 : Int32} {x3 : Int32} {x4 : Int32} {x5 : Int32} {x6 : Int32} {x7 : Int32} {d8 : Option Value} {d9 : Option Value} {d10 : Option Value} {d11 : Option Value} {d12 : Option Value}, Rep E ad V M → kh V x1 x2 x3 x4 x5 x6 x7 = some out → G E X RX5 cX5_place 13 (some .boolean) false (rmD (dp + 1 + 6)) P M [some (.ref (ad 1500 0)), some (rfq ad 2000 (x1)), some (.int (x2)), some (.int (x3)), some (.int (x4)), some (.int (x5)), some (.int (x6)), some (.int (x7)), d8, d9, d10, d11, d12] 0 0 23 []) (hkx180 : ∀ {V : St} {M : MH} {d0 : Option Value} {d1 : Option Value} {d2 : Option Value} {d3 : Option Value} {d4 : Option Value} {d5 : Option Value} {d6 : Option Value} {d7 : Option Value} {d8 : Option Value} {d9 : Option Value} {d10 : Option Value} {d11 : Option Value} {d12 : Option Value}, Rep E ad V M → kx180 V  = some out → G E X RX5 cX5_place 13 (some .boolean) false (rmD (dp + 1 + 6)) P M [d0, d1, d2, d3, d4, d5, d6, d7, d8, d9, d10, d11, d12] 0 0 180 []) (hkx188 : ∀ {V : St} {M : MH} {d0 : Option Value} {d1 : Option Value} {d2 : Option Value} {d3 : Option Value} {d4 : Option Value} {d5 : Option Value} {d6 : Option Value} {d7 : Option Value} {d8 : Option Value} {d9 : Option Value} {d10 : Option Value} {d11 : Option Value} {d12 : Option Value}, Rep E ad V M → kx188 V  = some out → G E X RX5 cX5_place 13 (some .boolean) false (rmD (dp + 1 + 6)) P M [d0, d1, d2, d3, d4, d5, d6, d7, d8, d9, d10, d11, d12] 0 0 188 []) (hp : ∀ M, Rep E ad out.2 M → P (some (.int out.1)) M) {V : St} {M : MH} {x1 : Int32} {x2 : Int32} {x3 : Int32} {x4 : Int32} {x5 : Int32} {x6 : Int32} {x7 : Int32} {x8 : Int32} {x9 : Int32} {x10 : Int32} {s0 : Int32} {d11 : Option Value} {d12 : Option Value} (hR : Rep E ad V M) (h : F_X5_place_100 rc_X5_place kh kx180 kx188 fu V x1 x2 x3 x4 x5 x6 x7 x8 x9 x10 s0 = some out) : G E X RX5 cX5_place 13 (some .boolean) false (rmD (dp + 1 + 6)) P M [some (.ref (ad 1500 0)), some (rfq ad 2000 (x1)), some (.int (x2)), some (.int (x3)), some (.int (x4)), some (.int (x5)), some (.int (x6)), some (.int (x7)), some (.int (x8)), some (.int (x9)), some (.int (x10)), d11, d12] 0 0 100 [.int (s0)] := by
  unfold F_X5_place_100 at h
  refine t_aload_n (rfq_or _ _ _) DX5_place_100 rfl ?_
  obtain ⟨⟨hx1, hi2⟩, h⟩ := gd_inv h
  refine q_geta hx1 DX5_place_101 fl_X5_45 hR ct_2000 hi2 rfl ?_
  refine r_iload DX5_place_104 rfl ?_
  obtain ⟨hg3, h⟩ := gd_inv h
  refine s_iald DX5_place_106 hR ct_2008 (hi2) hg3 ?_
  refine r_isub DX5_place_107 ?_
  refine t_istore (L' := [some (.ref (ad 1500 0)), some (rfq ad 2000 (x1)), some (.int (x2)), some (.int (x3)), some (.int (x4)), some (.int (x5)), some (.int (x6)), some (.int (x7)), some (.int (x8)), some (.int (x9)), some (.int (x10)), some (.int (s0 - (V 2008 ((x1).toNatClampNeg) (x7).toNatClampNeg))), d12]) DX5_place_108 (by decide) rfl ?_
  refine r_iload DX5_place_110 rfl ?_
  refine r_if_eq DX5_place_112 (fun c4 => ?_) (fun c4 => ?_)
  · have h := if_t c4 h
    refine r_iconst (v := 0) DX5_place_120 ki_0 ?_
    exact S_X5_place_121 (fun l => hrc_X5_place l) (fun hR h => hkh hR h) (fun hR h => hkx180 hR h) (fun hR h => hkx188 hR h) hp hR h
  · have h := if_f c4 h
    refine r_iload DX5_place_115 rfl ?_
    refine r_goto DX5_place_117 ?_
    exact S_X5_place_121 (fun l => hrc_X5_place l) (fun hR h => hkh hR h) (fun hR h => hkx180 hR h) (fun hR h => hkx188 hR h) hp hR h
theorem S_X5_place_84 {E : EN} {X : CX} {P : Option Value → MH → Prop} {ad : AD} {fu : Nat} {dp : Nat} {out : Int32 × St} {rc_X5_place : St → Int32 → Int32 → Int32 → Int32 → Int32 → Int32 → RR} {kh : St → Int32 → Int32 → Int32 → Int32 → Int32 → Int32 → Int32 → RR} {kx180 : St → RR} {kx188 : St → RR} (hrc_X5_place : ∀ (l : Launch) {V : St} {M : MH} {o : Int32 × St} {x1 : Int32} {x2 : Int32} {x3 : Int32} {x4 : Int32} {x5 : Int32} {x6 : Int32}, Rep E ad V M → rc_X5_place V x1 x2 x3 x4 x5 x6 = some o → Ct E l yX5_place cX5_place 13 (some .boolean) (rmD (dp + 6)) [.ref (ad 1500 0), rfq ad 2000 (x1), .int (x2), .int (x3), .int (x4), .int (x5), .int (x6)] M (fun v M => v = (some (.int o.1)) ∧ Rep E ad o.2 M)) (hkh : ∀ {V : St} {M : MH} {x1 : Int32} {x2 : Int32} {x3 : Int32} {x4 : Int32} {x5 : Int32} {x6 : Int32} {x7 : Int32} {d8 : Option Value} {d9 : Option Value} {d10 : Option Value} {d11 : Option Value} {d12 : Option Value}, Rep E ad V M → kh V x1 x2 x3 x4 x5 x6 x7 = some out → G E X RX5 cX5_place 13 (some .boolean) false (rmD (dp + 1 + 6)) P M [some (.ref (ad 1500 0)), some (rfq ad 2000 (x1)), some (.int (x2)), some (.int (x3)), some (.int (x4)), some (.int (x5)), some (.int (x6)), some (.int (x7)), d8, d9, d10, d11, d12] 0 0 23 []) (hkx180 : ∀ {V : St} {M : MH} {d0 : Option Value} {d1 : Option Value} {d2 : Option Value} {d3 : Option Value} {d4 : Option Value} {d5 : Option Value} {d6 : Option Value} {d7 : Option Value} {d8 : Option Value} {d9 : Option Value} {d10 : Option Value} {d11 : Option Value} {d12 : Option Value}, Rep E ad V M → kx180 V  = some out → G E X RX5 cX5_place 13 (some .boolean) false (rmD (dp + 1 + 6)) P M [d0, d1, d2, d3, d4, d5, d6, d7, d8, d9, d10, d11, d12] 0 0 180 []) (hkx188 : ∀ {V : St} {M : MH} {d0 : Option Value} {d1 : Option Value} {d2 : Option Value} {d3 : Option Value} {d4 : Option Value} {d5 : Option Value} {d6 : Option Value} {d7 : Option Value} {d8 : Option Value} {d9 : Option Value} {d10 : Option Value} {d11 : Option Value} {d12 : Option Value}, Rep E ad V M → kx188 V  = some out → G E X RX5 cX5_place 13 (some .boolean) false (rmD (dp + 1 + 6)) P M [d0, d1, d2, d3, d4, d5, d6, d7, d8, d9, d10, d11, d12] 0 0 188 []) (hp : ∀ M, Rep E ad out.2 M → P (some (.int out.1)) M) {V : St} {M : MH} {x1 : Int32} {x2 : Int32} {x3 : Int32} {x4 : Int32} {x5 : Int32} {x6 : Int32} {x7 : Int32} {x8 : Int32} {x9 : Int32} {s0 : Int32} {d10 : Option Value} {d11 : Option Value} {d12 : Option Value} (hR : Rep E ad V M) (h : F_X5_place_84 rc_X5_place kh kx180 kx188 fu V x1 x2 x3 x4 x5 x6 x7 x8 x9 s0 = some out) : G E X RX5 cX5_place 13 (some .boolean) false (rmD (dp + 1 + 6)) P M [some (.ref (ad 1500 0)), some (rfq ad 2000 (x1)), some (.int (x2)), some (.int (x3)), some (.int (x4)), some (.int (x5)), some (.int (x6)), some (.int (x7)), some (.int (x8)), some (.int (x9)), d10, d11, d12] 0 0 84 [.int (s0)] := by
  unfold F_X5_place_84 at h
  refine t_istore (L' := [some (.ref (ad 1500 0)), some (rfq ad 2000 (x1)), some (.int (x2)), some (.int (x3)), some (.int (x4)), some (.int (x5)), some (.int (x6)), some (.int (x7)), some (.int (x8)), some (.int (x9)), some (.int (s0)), d11, d12]) DX5_place_84 (by decide) rfl ?_
  refine r_iload DX5_place_86 rfl ?_
  refine r_if_eq DX5_place_88 (fun c1 => ?_) (fun c1 => ?_)
  · have h := if_t c1 h
    refine r_aload_n DX5_place_96 rfl ?_
    refine s_geti DX5_place_97 fl_X5_32 hR ct_1500 (one_cnt _) rfl ?_
    exact S_X5_place_100 (fun l => hrc_X5_place l) (fun hR h => hkh hR h) (fun hR h => hkx180 hR h) (fun hR h => hkx188 hR h) hp hR h
  · have h := if_f c1 h
    refine r_iload DX5_place_91 rfl ?_
    refine r_goto DX5_place_93 ?_
    exact S_X5_place_100 (fun l => hrc_X5_place l) (fun hR h => hkh hR h) (fun hR h => hkx180 hR h) (fun hR h => hkx188 hR h) hp hR h
theorem S_X5_place_59 {E : EN} {X : CX} {P : Option Value → MH → Prop} {ad : AD} {fu : Nat} {dp : Nat} {out : Int32 × St} {rc_X5_place : St → Int32 → Int32 → Int32 → Int32 → Int32 → Int32 → RR} {kh : St → Int32 → Int32 → Int32 → Int32 → Int32 → Int32 → Int32 → RR} {kx180 : St → RR} {kx188 : St → RR} (hrc_X5_place : ∀ (l : Launch) {V : St} {M : MH} {o : Int32 × St} {x1 : Int32} {x2 : Int32} {x3 : Int32} {x4 : Int32} {x5 : Int32} {x6 : Int32}, Rep E ad V M → rc_X5_place V x1 x2 x3 x4 x5 x6 = some o → Ct E l yX5_place cX5_place 13 (some .boolean) (rmD (dp + 6)) [.ref (ad 1500 0), rfq ad 2000 (x1), .int (x2), .int (x3), .int (x4), .int (x5), .int (x6)] M (fun v M => v = (some (.int o.1)) ∧ Rep E ad o.2 M)) (hkh : ∀ {V : St} {M : MH} {x1 : Int32} {x2 : Int32} {x3 : Int32} {x4 : Int32} {x5 : Int32} {x6 : Int32} {x7 : Int32} {d8 : Option Value} {d9 : Option Value} {d10 : Option Value} {d11 : Option Value} {d12 : Option Value}, Rep E ad V M → kh V x1 x2 x3 x4 x5 x6 x7 = some out → G E X RX5 cX5_place 13 (some .boolean) false (rmD (dp + 1 + 6)) P M [some (.ref (ad 1500 0)), some (rfq ad 2000 (x1)), some (.int (x2)), some (.int (x3)), some (.int (x4)), some (.int (x5)), some (.int (x6)), some (.int (x7)), d8, d9, d10, d11, d12] 0 0 23 []) (hkx180 : ∀ {V : St} {M : MH} {d0 : Option Value} {d1 : Option Value} {d2 : Option Value} {d3 : Option Value} {d4 : Option Value} {d5 : Option Value} {d6 : Option Value} {d7 : Option Value} {d8 : Option Value} {d9 : Option Value} {d10 : Option Value} {d11 : Option Value} {d12 : Option Value}, Rep E ad V M → kx180 V  = some out → G E X RX5 cX5_place 13 (some .boolean) false (rmD (dp + 1 + 6)) P M [d0, d1, d2, d3, d4, d5, d6, d7, d8, d9, d10, d11, d12] 0 0 180 []) (hkx188 : ∀ {V : St} {M : MH} {d0 : Option Value} {d1 : Option Value} {d2 : Option Value} {d3 : Option Value} {d4 : Option Value} {d5 : Option Value} {d6 : Option Value} {d7 : Option Value} {d8 : Option Value} {d9 : Option Value} {d10 : Option Value} {d11 : Option Value} {d12 : Option Value}, Rep E ad V M → kx188 V  = some out → G E X RX5 cX5_place 13 (some .boolean) false (rmD (dp + 1 + 6)) P M [d0, d1, d2, d3, d4, d5, d6, d7, d8, d9, d10, d11, d12] 0 0 188 []) (hp : ∀ M, Rep E ad out.2 M → P (some (.int out.1)) M) {V : St} {M : MH} {x1 : Int32} {x2 : Int32} {x3 : Int32} {x4 : Int32} {x5 : Int32} {x6 : Int32} {x7 : Int32} {s0 : Int32} {d8 : Option Value} {d9 : Option Value} {d10 : Option Value} {d11 : Option Value} {d12 : Option Value} (hR : Rep E ad V M) (h : F_X5_place_59 rc_X5_place kh kx180 kx188 fu V x1 x2 x3 x4 x5 x6 x7 s0 = some out) : G E X RX5 cX5_place 13 (some .boolean) false (rmD (dp + 1 + 6)) P M [some (.ref (ad 1500 0)), some (rfq ad 2000 (x1)), some (.int (x2)), some (.int (x3)), some (.int (x4)), some (.int (x5)), some (.int (x6)), some (.int (x7)), d8, d9, d10, d11, d12] 0 0 59 [.int (s0)] := by
  unfold F_X5_place_59 at h
  refine t_istore (L' := [some (.ref (ad 1500 0)), some (rfq ad 2000 (x1)), some (.int (x2)), some (.int (x3)), some (.int (x4)), some (.int (x5)), some (.int (x6)), some (.int (x7)), some (.int (s0)), d9, d10, d11, d12]) DX5_place_59 (by decide) rfl ?_
  refine r_iload_n DX5_place_61 rfl ?_
  refine r_iconst (v := 1) DX5_place_62 ki_1 ?_
  refine r_iload DX5_place_63 rfl ?_
  refine r_ishl DX5_place_65 ?_
  refine r_ixor DX5_place_66 ?_
  refine t_istore (L' := [some (.ref (ad 1500 0)), some (rfq ad 2000 (x1)), some (.int (x2)), some (.int (x3)), some (.int (x4)), some (.int (x5)), some (.int (x6)), some (.int (x7)), some (.int (s0)), some (.int (x3 ^^^ ((1 : Int32) <<< (x7 &&& 31)))), d10, d11, d12]) DX5_place_67 (by decide) rfl ?_
  refine r_iload DX5_place_69 rfl ?_
  refine r_if_eq DX5_place_71 (fun c1 => ?_) (fun c1 => ?_)
  · have h := if_t c1 h
    refine r_iload DX5_place_79 rfl ?_
    refine r_iload DX5_place_81 rfl ?_
    refine r_iadd DX5_place_83 ?_
    exact S_X5_place_84 (fun l => hrc_X5_place l) (fun hR h => hkh hR h) (fun hR h => hkx180 hR h) (fun hR h => hkx188 hR h) hp hR h
  · have h := if_f c1 h
    refine r_iload DX5_place_74 rfl ?_
    refine r_goto DX5_place_76 ?_
    exact S_X5_place_84 (fun l => hrc_X5_place l) (fun hR h => hkh hR h) (fun hR h => hkx180 hR h) (fun hR h => hkx188 hR h) hp hR h
theorem S_X5_place_23 {E : EN} {X : CX} {P : Option Value → MH → Prop} {ad : AD} {fu : Nat} {dp : Nat} {out : Int32 × St} {rc_X5_place : St → Int32 → Int32 → Int32 → Int32 → Int32 → Int32 → RR} {kh : St → Int32 → Int32 → Int32 → Int32 → Int32 → Int32 → Int32 → RR} {kx180 : St → RR} {kx188 : St → RR} (hrc_X5_place : ∀ (l : Launch) {V : St} {M : MH} {o : Int32 × St} {x1 : Int32} {x2 : Int32} {x3 : Int32} {x4 : Int32} {x5 : Int32} {x6 : Int32}, Rep E ad V M → rc_X5_place V x1 x2 x3 x4 x5 x6 = some o → Ct E l yX5_place cX5_place 13 (some .boolean) (rmD (dp + 6)) [.ref (ad 1500 0), rfq ad 2000 (x1), .int (x2), .int (x3), .int (x4), .int (x5), .int (x6)] M (fun v M => v = (some (.int o.1)) ∧ Rep E ad o.2 M)) (hkh : ∀ {V : St} {M : MH} {x1 : Int32} {x2 : Int32} {x3 : Int32} {x4 : Int32} {x5 : Int32} {x6 : Int32} {x7 : Int32} {d8 : Option Value} {d9 : Option Value} {d10 : Option Value} {d11 : Option Value} {d12 : Option Value}, Rep E ad V M → kh V x1 x2 x3 x4 x5 x6 x7 = some out → G E X RX5 cX5_place 13 (some .boolean) false (rmD (dp + 1 + 6)) P M [some (.ref (ad 1500 0)), some (rfq ad 2000 (x1)), some (.int (x2)), some (.int (x3)), some (.int (x4)), some (.int (x5)), some (.int (x6)), some (.int (x7)), d8, d9, d10, d11, d12] 0 0 23 []) (hkx180 : ∀ {V : St} {M : MH} {d0 : Option Value} {d1 : Option Value} {d2 : Option Value} {d3 : Option Value} {d4 : Option Value} {d5 : Option Value} {d6 : Option Value} {d7 : Option Value} {d8 : Option Value} {d9 : Option Value} {d10 : Option Value} {d11 : Option Value} {d12 : Option Value}, Rep E ad V M → kx180 V  = some out → G E X RX5 cX5_place 13 (some .boolean) false (rmD (dp + 1 + 6)) P M [d0, d1, d2, d3, d4, d5, d6, d7, d8, d9, d10, d11, d12] 0 0 180 []) (hkx188 : ∀ {V : St} {M : MH} {d0 : Option Value} {d1 : Option Value} {d2 : Option Value} {d3 : Option Value} {d4 : Option Value} {d5 : Option Value} {d6 : Option Value} {d7 : Option Value} {d8 : Option Value} {d9 : Option Value} {d10 : Option Value} {d11 : Option Value} {d12 : Option Value}, Rep E ad V M → kx188 V  = some out → G E X RX5 cX5_place 13 (some .boolean) false (rmD (dp + 1 + 6)) P M [d0, d1, d2, d3, d4, d5, d6, d7, d8, d9, d10, d11, d12] 0 0 188 []) (hp : ∀ M, Rep E ad out.2 M → P (some (.int out.1)) M) {V : St} {M : MH} {x1 : Int32} {x2 : Int32} {x3 : Int32} {x4 : Int32} {x5 : Int32} {x6 : Int32} {x7 : Int32} {d8 : Option Value} {d9 : Option Value} {d10 : Option Value} {d11 : Option Value} {d12 : Option Value} (hR : Rep E ad V M) (h : F_X5_place_23 rc_X5_place kh kx180 kx188 fu V x1 x2 x3 x4 x5 x6 x7 = some out) : G E X RX5 cX5_place 13 (some .boolean) false (rmD (dp + 1 + 6)) P M [some (.ref (ad 1500 0)), some (rfq ad 2000 (x1)), some (.int (x2)), some (.int (x3)), some (.int (x4)), some (.int (x5)), some (.int (x6)), some (.int (x7)), d8, d9, d10, d11, d12] 0 0 23 [] := by
  unfold F_X5_place_23 at h
  refine r_iload DX5_place_23 rfl ?_
  refine t_aload_n (rfq_or _ _ _) DX5_place_25 rfl ?_
  obtain ⟨⟨hx1, hi2⟩, h⟩ := gd_inv h
  refine q_geti hx1 DX5_place_26 fl_X5_38 hR ct_2000 hi2 rfl ?_
  refine r_icmp_ge DX5_place_29 (fun c3 => ?_) (fun c3 => ?_)
  · have h := if_t c3 h
    exact hkx188 hR h
  · have h := if_f c3 h
    refine r_iload_n DX5_place_32 rfl ?_
    refine r_iload DX5_place_33 rfl ?_
    refine r_ishr DX5_place_35 ?_
    refine r_iconst (v := 1) DX5_place_36 ki_1 ?_
    refine r_iand DX5_place_37 ?_
    refine r_iconst (v := 1) DX5_place_38 ki_1 ?_
    refine r_icmp_ne DX5_place_39 (fun c4 => ?_) (fun c4 => ?_)
    · have h := if_f c4 h
      exact S_X5_place_182 (fun l => hrc_X5_place l) (fun hR h => hkh hR h) (fun hR h => hkx180 hR h) (fun hR h => hkx188 hR h) hp hR h
    · have h := if_t c4 h
      refine t_aload_n (rfq_or _ _ _) DX5_place_42 rfl ?_
      refine q_geta hx1 DX5_place_43 fl_X5_45 hR ct_2000 hi2 rfl ?_
      refine r_iload DX5_place_46 rfl ?_
      obtain ⟨hg5, h⟩ := gd_inv h
      refine s_iald DX5_place_48 hR ct_2008 (hi2) hg5 ?_
      refine r_iload DX5_place_49 rfl ?_
      refine r_icmp_gt DX5_place_51 (fun c6 => ?_) (fun c6 => ?_)
      · have h := if_t c6 h
        refine r_iconst (v := 0) DX5_place_58 ki_0 ?_
        exact S_X5_place_59 (fun l => hrc_X5_place l) (fun hR h => hkh hR h) (fun hR h => hkx180 hR h) (fun hR h => hkx188 hR h) hp hR h
      · have h := if_f c6 h
        refine r_iconst (v := 1) DX5_place_54 ki_1 ?_
        refine r_goto DX5_place_55 ?_
        exact S_X5_place_59 (fun l => hrc_X5_place l) (fun hR h => hkh hR h) (fun hR h => hkx180 hR h) (fun hR h => hkx188 hR h) hp hR h
theorem SL_X5_place_23 {E : EN} {X : CX} {P : Option Value → MH → Prop} {ad : AD} {fu : Nat} {dp : Nat} {out : Int32 × St} {rc_X5_place : St → Int32 → Int32 → Int32 → Int32 → Int32 → Int32 → RR} {kx180 : St → RR} {kx188 : St → RR} (hrc_X5_place : ∀ (l : Launch) {V : St} {M : MH} {o : Int32 × St} {x1 : Int32} {x2 : Int32} {x3 : Int32} {x4 : Int32} {x5 : Int32} {x6 : Int32}, Rep E ad V M → rc_X5_place V x1 x2 x3 x4 x5 x6 = some o → Ct E l yX5_place cX5_place 13 (some .boolean) (rmD (dp + 6)) [.ref (ad 1500 0), rfq ad 2000 (x1), .int (x2), .int (x3), .int (x4), .int (x5), .int (x6)] M (fun v M => v = (some (.int o.1)) ∧ Rep E ad o.2 M)) (hkx180 : ∀ {V : St} {M : MH} {d0 : Option Value} {d1 : Option Value} {d2 : Option Value} {d3 : Option Value} {d4 : Option Value} {d5 : Option Value} {d6 : Option Value} {d7 : Option Value} {d8 : Option Value} {d9 : Option Value} {d10 : Option Value} {d11 : Option Value} {d12 : Option Value}, Rep E ad V M → kx180 V  = some out → G E X RX5 cX5_place 13 (some .boolean) false (rmD (dp + 1 + 6)) P M [d0, d1, d2, d3, d4, d5, d6, d7, d8, d9, d10, d11, d12] 0 0 180 []) (hkx188 : ∀ {V : St} {M : MH} {d0 : Option Value} {d1 : Option Value} {d2 : Option Value} {d3 : Option Value} {d4 : Option Value} {d5 : Option Value} {d6 : Option Value} {d7 : Option Value} {d8 : Option Value} {d9 : Option Value} {d10 : Option Value} {d11 : Option Value} {d12 : Option Value}, Rep E ad V M → kx188 V  = some out → G E X RX5 cX5_place 13 (some .boolean) false (rmD (dp + 1 + 6)) P M [d0, d1, d2, d3, d4, d5, d6, d7, d8, d9, d10, d11, d12] 0 0 188 []) (hp : ∀ M, Rep E ad out.2 M → P (some (.int out.1)) M) : ∀ (n : Nat) {V : St} {M : MH} {x1 : Int32} {x2 : Int32} {x3 : Int32} {x4 : Int32} {x5 : Int32} {x6 : Int32} {x7 : Int32} {d8 : Option Value} {d9 : Option Value} {d10 : Option Value} {d11 : Option Value} {d12 : Option Value}, Rep E ad V M → Lp_X5_place_23 rc_X5_place kx180 kx188 fu n V x1 x2 x3 x4 x5 x6 x7 = some out → G E X RX5 cX5_place 13 (some .boolean) false (rmD (dp + 1 + 6)) P M [some (.ref (ad 1500 0)), some (rfq ad 2000 (x1)), some (.int (x2)), some (.int (x3)), some (.int (x4)), some (.int (x5)), some (.int (x6)), some (.int (x7)), d8, d9, d10, d11, d12] 0 0 23 [] := by
  intro n
  induction n with
  | zero => intros; rename_i h; cases h
  | succ n ih => exact fun hR h => S_X5_place_23 (fun l => hrc_X5_place l) (fun hR h => ih hR h) (fun hR h => hkx180 hR h) (fun hR h => hkx188 hR h) hp hR h
theorem S_X5_place_19 {E : EN} {X : CX} {P : Option Value → MH → Prop} {ad : AD} {fu : Nat} {dp : Nat} {out : Int32 × St} {rc_X5_place : St → Int32 → Int32 → Int32 → Int32 → Int32 → Int32 → RR} (hrc_X5_place : ∀ (l : Launch) {V : St} {M : MH} {o : Int32 × St} {x1 : Int32} {x2 : Int32} {x3 : Int32} {x4 : Int32} {x5 : Int32} {x6 : Int32}, Rep E ad V M → rc_X5_place V x1 x2 x3 x4 x5 x6 = some o → Ct E l yX5_place cX5_place 13 (some .boolean) (rmD (dp + 6)) [.ref (ad 1500 0), rfq ad 2000 (x1), .int (x2), .int (x3), .int (x4), .int (x5), .int (x6)] M (fun v M => v = (some (.int o.1)) ∧ Rep E ad o.2 M)) (hp : ∀ M, Rep E ad out.2 M → P (some (.int out.1)) M) {V : St} {M : MH} {s0 : Int32} {d0 : Option Value} {d1 : Option Value} {d2 : Option Value} {d3 : Option Value} {d4 : Option Value} {d5 : Option Value} {d6 : Option Value} {d7 : Option Value} {d8 : Option Value} {d9 : Option Value} {d10 : Option Value} {d11 : Option Value} {d12 : Option Value} (hR : Rep E ad V M) (h : F_X5_place_19 rc_X5_place fu V s0 = some out) : G E X RX5 cX5_place 13 (some .boolean) false (rmD (dp + 1 + 6)) P M [d0, d1, d2, d3, d4, d5, d6, d7, d8, d9, d10, d11, d12] 0 0 19 [.int (s0)] := by
  unfold F_X5_place_19 at h
  obtain ⟨hz1, h⟩ := gd_inv h
  cases h
  exact r_zret DX5_place_19 rfl (nz_nar hz1) ⟨Nat.le_refl 0, Nat.le_refl 0⟩ (hp M hR)
theorem S_X5_place_10 {E : EN} {X : CX} {P : Option Value → MH → Prop} {ad : AD} {fu : Nat} {dp : Nat} {out : Int32 × St} {rc_X5_place : St → Int32 → Int32 → Int32 → Int32 → Int32 → Int32 → RR} (hrc_X5_place : ∀ (l : Launch) {V : St} {M : MH} {o : Int32 × St} {x1 : Int32} {x2 : Int32} {x3 : Int32} {x4 : Int32} {x5 : Int32} {x6 : Int32}, Rep E ad V M → rc_X5_place V x1 x2 x3 x4 x5 x6 = some o → Ct E l yX5_place cX5_place 13 (some .boolean) (rmD (dp + 6)) [.ref (ad 1500 0), rfq ad 2000 (x1), .int (x2), .int (x3), .int (x4), .int (x5), .int (x6)] M (fun v M => v = (some (.int o.1)) ∧ Rep E ad o.2 M)) (hp : ∀ M, Rep E ad out.2 M → P (some (.int out.1)) M) {V : St} {M : MH} {x3 : Int32} {d0 : Option Value} {d1 : Option Value} {d2 : Option Value} {d4 : Option Value} {d5 : Option Value} {d6 : Option Value} {d7 : Option Value} {d8 : Option Value} {d9 : Option Value} {d10 : Option Value} {d11 : Option Value} {d12 : Option Value} (hR : Rep E ad V M) (h : F_X5_place_10 rc_X5_place fu V x3 = some out) : G E X RX5 cX5_place 13 (some .boolean) false (rmD (dp + 1 + 6)) P M [d0, d1, d2, some (.int (x3)), d4, d5, d6, d7, d8, d9, d10, d11, d12] 0 0 10 [] := by
  unfold F_X5_place_10 at h
  refine r_iload_n DX5_place_10 rfl ?_
  refine r_if_ne DX5_place_11 (fun c1 => ?_) (fun c1 => ?_)
  · have h := if_f c1 h
    refine r_iconst (v := 0) DX5_place_18 ki_0 ?_
    exact S_X5_place_19 (fun l => hrc_X5_place l) hp hR h
  · have h := if_t c1 h
    refine r_iconst (v := 1) DX5_place_14 ki_1 ?_
    refine r_goto DX5_place_15 ?_
    exact S_X5_place_19 (fun l => hrc_X5_place l) hp hR h
theorem S_X5_place_0 {E : EN} {X : CX} {P : Option Value → MH → Prop} {ad : AD} {fu : Nat} {dp : Nat} {out : Int32 × St} {rc_X5_place : St → Int32 → Int32 → Int32 → Int32 → Int32 → Int32 → RR} (hrc_X5_place : ∀ (l : Launch) {V : St} {M : MH} {o : Int32 × St} {x1 : Int32} {x2 : Int32} {x3 : Int32} {x4 : Int32} {x5 : Int32} {x6 : Int32}, Rep E ad V M → rc_X5_place V x1 x2 x3 x4 x5 x6 = some o → Ct E l yX5_place cX5_place 13 (some .boolean) (rmD (dp + 6)) [.ref (ad 1500 0), rfq ad 2000 (x1), .int (x2), .int (x3), .int (x4), .int (x5), .int (x6)] M (fun v M => v = (some (.int o.1)) ∧ Rep E ad o.2 M)) (hp : ∀ M, Rep E ad out.2 M → P (some (.int out.1)) M) {V : St} {M : MH} {x1 : Int32} {x2 : Int32} {x3 : Int32} {x4 : Int32} {x5 : Int32} {x6 : Int32} (hR : Rep E ad V M) (h : fb_X5_place rc_X5_place fu V x1 x2 x3 x4 x5 x6 = some out) : G E X RX5 cX5_place 13 (some .boolean) false (rmD (dp + 1 + 6)) P M [some (.ref (ad 1500 0)), some (rfq ad 2000 (x1)), some (.int (x2)), some (.int (x3)), some (.int (x4)), some (.int (x5)), some (.int (x6)), none, none, none, none, none, none] 0 0 0 [] := by
  unfold fb_X5_place at h
  refine r_iload_n DX5_place_0 rfl ?_
  refine r_if_eq DX5_place_1 (fun c1 => ?_) (fun c1 => ?_)
  · have h := if_t c1 h
    exact S_X5_place_10 (fun l => hrc_X5_place l) hp hR h
  · have h := if_f c1 h
    refine r_iload_n DX5_place_4 rfl ?_
    refine r_bipush (v := 9) DX5_place_5 kb_9 ?_
    refine r_icmp_lt DX5_place_7 (fun c2 => ?_) (fun c2 => ?_)
    · have h := if_t c2 h
      refine r_iconst (v := 0) DX5_place_20 ki_0 ?_
      refine t_istore (L' := [some (.ref (ad 1500 0)), some (rfq ad 2000 (x1)), some (.int (x2)), some (.int (x3)), some (.int (x4)), some (.int (x5)), some (.int (x6)), some (.int ((0 : Int32))), none, none, none, none, none]) DX5_place_21 (by decide) rfl ?_
      exact SL_X5_place_23 (fun l => hrc_X5_place l) (fun hR h => S_X5_place_180 (fun l => hrc_X5_place l) hp hR h) (fun hR h => S_X5_place_188 (fun l => hrc_X5_place l) hp hR h) hp fu hR h
    · have h := if_f c2 h
      exact S_X5_place_10 (fun l => hrc_X5_place l) hp hR h
theorem CB_X5_place {E : EN} {ad : AD} {fu : Nat} {dp : Nat} {out : Int32 × St} {rc_X5_place : St → Int32 → Int32 → Int32 → Int32 → Int32 → Int32 → RR} (hrc_X5_place : ∀ (l : Launch) {V : St} {M : MH} {o : Int32 × St} {x1 : Int32} {x2 : Int32} {x3 : Int32} {x4 : Int32} {x5 : Int32} {x6 : Int32}, Rep E ad V M → rc_X5_place V x1 x2 x3 x4 x5 x6 = some o → Ct E l yX5_place cX5_place 13 (some .boolean) (rmD (dp + 6)) [.ref (ad 1500 0), rfq ad 2000 (x1), .int (x2), .int (x3), .int (x4), .int (x5), .int (x6)] M (fun v M => v = (some (.int o.1)) ∧ Rep E ad o.2 M)) {V : St} {M : MH} {x1 : Int32} {x2 : Int32} {x3 : Int32} {x4 : Int32} {x5 : Int32} {x6 : Int32} (l : Launch) (hR : Rep E ad V M) (h : fb_X5_place rc_X5_place fu V x1 x2 x3 x4 x5 x6 = some out) : Ct E l yX5_place cX5_place 13 (some .boolean) (rmD (dp + 1 + 6)) [.ref (ad 1500 0), rfq ad 2000 (x1), .int (x2), .int (x3), .int (x4), .int (x5), .int (x6)] M (fun v M => v = (some (.int out.1)) ∧ Rep E ad out.2 M) :=
  Ct.of (own := RX5) (ini := false) (L := [some (.ref (ad 1500 0)), some (rfq ad 2000 (x1)), some (.int (x2)), some (.int (x3)), some (.int (x4)), some (.int (x5)), some (.int (x6)), none, none, none, none, none, none]) rfl rfl (fun h => by cases h) (by simp only [List.all_cons, List.all_nil, rfq_cat]; rfl) (Nat.le_of_ble_eq_true rfl) rfl (fun X _ => S_X5_place_0 (fun l => hrc_X5_place l) (fun M hR => ⟨rfl, hR⟩) hR h)
theorem CG_X5_place {E : EN} {ad : AD} {fu : Nat} : ∀ (n : Nat) (l : Launch) {V : St} {M : MH} {out : Int32 × St} {x1 : Int32} {x2 : Int32} {x3 : Int32} {x4 : Int32} {x5 : Int32} {x6 : Int32}, Rep E ad V M → g_X5_place fu n V x1 x2 x3 x4 x5 x6 = some out → Ct E l yX5_place cX5_place 13 (some .boolean) (rmD (n + 6)) [.ref (ad 1500 0), rfq ad 2000 (x1), .int (x2), .int (x3), .int (x4), .int (x5), .int (x6)] M (fun v M => v = (some (.int out.1)) ∧ Rep E ad out.2 M) := by
  intro n
  induction n with
  | zero => intros; rename_i h; cases h
  | succ n ih => exact fun l {V M out} {x1 x2 x3 x4 x5 x6} hR h => CB_X5_place (dp := n) (fun l => ih l) l hR h
theorem C_X5_place {E : EN} {ad : AD} {fu : Nat} {out : Int32 × St} {V : St} {M : MH} {x1 : Int32} {x2 : Int32} {x3 : Int32} {x4 : Int32} {x5 : Int32} {x6 : Int32} (l : Launch) (hR : Rep E ad V M) (h : f_X5_place fu V x1 x2 x3 x4 x5 x6 = some out) : Ct E l yX5_place cX5_place 13 (some .boolean) (rmD 18) [.ref (ad 1500 0), rfq ad 2000 (x1), .int (x2), .int (x3), .int (x4), .int (x5), .int (x6)] M (fun v M => v = (some (.int out.1)) ∧ Rep E ad out.2 M) := CG_X5_place 12 l hR h
theorem S_X5_search_28 {E : EN} {X : CX} {P : Option Value → MH → Prop} {ad : AD} {fu : Nat} {out : Int32 × St} (hp : ∀ M, Rep E ad out.2 M → P none M) {V : St} {M : MH} {x1 : Int32} {x2 : Int32} {d3 : Option Value} (hR : Rep E ad V M) (h : F_X5_search_28 fu V x1 x2 = some out) : G E X RX5 cX5_search 4 none false (rmD 19) P M [some (.ref (ad 1500 0)), some (rfq ad 2000 (x1)), some (.int (x2)), d3] 0 0 28 [] := by
  unfold F_X5_search_28 at h
  refine r_aload_n DX5_search_28 rfl ?_
  refine t_aload_n (rfq_or _ _ _) DX5_search_29 rfl ?_
  obtain ⟨V1, hv2, h⟩ := bv_inv h
  refine s_putQ DX5_search_30 fp_X5_28 hR oks_1506 ct_1500 (one_cnt _) rfl (fun _ => ⟨rfl, rfl⟩) ⟨rfl, rfl⟩ (fun M hR => ?_)
  have hR := hR.cg hv2
  refine r_aload_n DX5_search_33 rfl ?_
  refine r_iload_n DX5_search_34 rfl ?_
  obtain ⟨V3, hv4, h⟩ := bv_inv h
  refine s_puti DX5_search_35 fp_X5_32 hR oks_1507 ct_1500 (one_cnt _) rfl rfl rfl (fun M hR => ?_)
  have hR := hR.cg hv4
  refine r_aload_n DX5_search_38 rfl ?_
  refine t_aload_n (rfq_or _ _ _) DX5_search_39 rfl ?_
  obtain ⟨⟨hx5, hi6⟩, h⟩ := gd_inv h
  refine q_geti hx5 DX5_search_40 fl_X5_38 hR ct_2000 hi6 rfl ?_
  obtain ⟨V7, hv8, h⟩ := bv_inv h
  refine s_puti DX5_search_43 fp_X5_35 hR oks_1508 ct_1500 (one_cnt _) rfl rfl rfl (fun M hR => ?_)
  have hR := hR.cg hv8
  refine r_aload_n DX5_search_46 rfl ?_
  refine t_aload_n (rfq_or _ _ _) DX5_search_47 rfl ?_
  obtain ⟨r9, V10, hc11, h⟩ := bd_inv h
  refine k_callV (As := [rfq ad 2000 (x1)]) (rest := []) (st1 := []) (w := none) DX5_search_48 cv_X5_57 hR ct_1500 (one_cnt _) rfl (C_X5_measureSets (out := (r9, V10)) (cxL X) hR hc11) rfl (by decide) (by decide) rfl (Nat.le_of_ble_eq_true rfl) rfl (fun M hR => ?_)
  refine r_aload_n DX5_search_51 rfl ?_
  refine r_iload_n DX5_search_52 rfl ?_
  obtain ⟨r12, V13, hc14, h⟩ := bd_inv h
  refine k_callV (As := [.int (x2)]) (rest := []) (st1 := []) (w := none) DX5_search_53 cv_X5_61 hR ct_1500 (one_cnt _) rfl (C_X5_shortenSets (out := (r12, V13)) (cxL X) hR hc14) rfl (by decide) (by decide) rfl (Nat.le_of_ble_eq_true rfl) rfl (fun M hR => ?_)
  refine r_iconst (v := 1) DX5_search_56 ki_1 ?_
  refine r_aload_n DX5_search_57 rfl ?_
  refine s_geti DX5_search_58 fl_X5_35 hR ct_1500 (one_cnt _) rfl ?_
  refine r_ishl DX5_search_61 ?_
  refine r_iconst (v := 1) DX5_search_62 ki_1 ?_
  refine r_isub DX5_search_63 ?_
  refine t_istore_n (L' := [some (.ref (ad 1500 0)), some (rfq ad 2000 (x1)), some (.int (x2)), some (.int (((1 : Int32) <<< ((V13 1508 0 0) &&& 31)) - (1 : Int32)))]) DX5_search_64 (by decide) rfl ?_
  refine r_aload_n DX5_search_65 rfl ?_
  refine r_aload_n DX5_search_66 rfl ?_
  refine s_geta DX5_search_67 fl_X5_18 hR ct_1500 (one_cnt _) rfl ?_
  refine r_iload_n DX5_search_70 rfl ?_
  obtain ⟨hg15, h⟩ := gd_inv h
  refine s_iald DX5_search_71 hR ct_1503 (one_cnt _) hg15 ?_
  obtain ⟨V16, hv17, h⟩ := bv_inv h
  refine s_puti DX5_search_72 fp_X5_24 hR oks_1505 ct_1500 (one_cnt _) rfl rfl rfl (fun M hR => ?_)
  have hR := hR.cg hv17
  refine r_aload_n DX5_search_75 rfl ?_
  refine t_aload_n (rfq_or _ _ _) DX5_search_76 rfl ?_
  refine r_iconst (v := 0) DX5_search_77 ki_0 ?_
  refine r_iload_n DX5_search_78 rfl ?_
  refine r_iconst (v := 0) DX5_search_79 ki_0 ?_
  refine r_iload_n DX5_search_80 rfl ?_
  refine r_iconst (v := 0) DX5_search_81 ki_0 ?_
  obtain ⟨r18, V19, hc20, h⟩ := bd_inv h
  refine k_callV (As := [rfq ad 2000 (x1), .int ((0 : Int32)), .int (((1 : Int32) <<< ((V13 1508 0 0) &&& 31)) - (1 : Int32)), .int ((0 : Int32)), .int (x2), .int ((0 : Int32))]) (rest := []) (st1 := [.int (r18)]) (w := some (.int r18)) DX5_search_82 cv_X5_65 hR ct_1500 (one_cnt _) rfl (C_X5_place (out := (r18, V19)) (cxL X) hR hc20) rfl (by decide) (by decide) rfl (Nat.le_of_ble_eq_true rfl) rfl (fun M hR => ?_)
  refine r_pop DX5_search_85 rfl ?_
  cases h
  exact r_vret DX5_search_86 rfl ⟨Nat.le_refl 0, Nat.le_refl 0⟩ (hp M hR)
theorem S_X5_search_0 {E : EN} {X : CX} {P : Option Value → MH → Prop} {ad : AD} {fu : Nat} {out : Int32 × St} (hp : ∀ M, Rep E ad out.2 M → P none M) {V : St} {M : MH} {x1 : Int32} {x2 : Int32} (hR : Rep E ad V M) (h : f_X5_search fu V x1 x2 = some out) : G E X RX5 cX5_search 4 none false (rmD 19) P M [some (.ref (ad 1500 0)), some (rfq ad 2000 (x1)), some (.int (x2)), none] 0 0 0 [] := by
  unfold f_X5_search at h
  refine r_aload_n DX5_search_0 rfl ?_
  refine s_getq DX5_search_1 fl_X5_28 hR ct_1500 (one_cnt _) rfl ?_
  refine t_aload_n (rfq_or _ _ _) DX5_search_4 rfl ?_
  obtain ⟨⟨hx1, hi2⟩, h⟩ := gd_inv h
  obtain ⟨ha3, h⟩ := gd_inv h
  refine q_acmp_ne (acmp_in hR ct_2000 ha3 hi2) hx1 DX5_search_5 (fun c4 => ?_) (fun c4 => ?_)
  · have h := if_f c4 h
    exact S_X5_search_28 hp hR h
  · have h := if_t c4 h
    refine r_aload_n DX5_search_8 rfl ?_
    refine s_geti DX5_search_9 fl_X5_32 hR ct_1500 (one_cnt _) rfl ?_
    refine r_iload_n DX5_search_12 rfl ?_
    refine r_icmp_ne DX5_search_13 (fun c5 => ?_) (fun c5 => ?_)
    · have h := if_f c5 h
      exact S_X5_search_28 hp hR h
    · have h := if_t c5 h
      refine r_aload_n DX5_search_16 rfl ?_
      refine s_geti DX5_search_17 fl_X5_35 hR ct_1500 (one_cnt _) rfl ?_
      refine t_aload_n (rfq_or _ _ _) DX5_search_20 rfl ?_
      refine q_geti hx1 DX5_search_21 fl_X5_38 hR ct_2000 hi2 rfl ?_
      refine r_icmp_ne DX5_search_24 (fun c6 => ?_) (fun c6 => ?_)
      · have h := if_f c6 h
        exact S_X5_search_28 hp hR h
      · have h := if_t c6 h
        cases h
        exact r_vret DX5_search_27 rfl ⟨Nat.le_refl 0, Nat.le_refl 0⟩ (hp M hR)
theorem C_X5_search {E : EN} {ad : AD} {fu : Nat} {out : Int32 × St} {V : St} {M : MH} {x1 : Int32} {x2 : Int32} (l : Launch) (hR : Rep E ad V M) (h : f_X5_search fu V x1 x2 = some out) : Ct E l yX5_search cX5_search 4 none (rmD 19) [.ref (ad 1500 0), rfq ad 2000 (x1), .int (x2)] M (fun v M => v = none ∧ Rep E ad out.2 M) :=
  Ct.of (own := RX5) (ini := false) (L := [some (.ref (ad 1500 0)), some (rfq ad 2000 (x1)), some (.int (x2)), none]) rfl rfl (fun h => by cases h) (by simp only [List.all_cons, List.all_nil, rfq_cat]; rfl) (Nat.le_of_ble_eq_true rfl) rfl (fun X _ => S_X5_search_0 (fun M hR => ⟨rfl, hR⟩) hR h)
theorem S_X11_least_85 {E : EN} {X : CX} {P : Option Value → MH → Prop} {ad : AD} {fu : Nat} {out : Int32 × St} (hp : ∀ M, Rep E ad out.2 M → P (some (.int out.1)) M) {V : St} {M : MH} {s0 : Int32} {d0 : Option Value} {d1 : Option Value} {d2 : Option Value} {d3 : Option Value} {d4 : Option Value} (hR : Rep E ad V M) (h : F_X11_least_85 fu V s0 = some out) : G E X RX11 cX11_least 5 (some .int) false (rmD 20) P M [d0, d1, d2, d3, d4] 0 0 85 [.int (s0)] := by
  unfold F_X11_least_85 at h
  cases h
  exact r_iret DX11_least_85 rfl ⟨Nat.le_refl 0, Nat.le_refl 0⟩ (hp M hR)
theorem S_X11_least_38 {E : EN} {X : CX} {P : Option Value → MH → Prop} {ad : AD} {fu : Nat} {out : Int32 × St} (hp : ∀ M, Rep E ad out.2 M → P (some (.int out.1)) M) {V : St} {M : MH} {d0 : Option Value} {d1 : Option Value} {d2 : Option Value} {d3 : Option Value} {d4 : Option Value} (hR : Rep E ad V M) (h : F_X11_least_38 fu V = some out) : G E X RX11 cX11_least 5 (some .int) false (rmD 20) P M [d0, d1, d2, d3, d4] 0 0 38 [] := by
  unfold F_X11_least_38 at h
  refine r_iconst (v := -1) DX11_least_38 ki_m1 ?_
  cases h
  exact r_iret DX11_least_39 rfl ⟨Nat.le_refl 0, Nat.le_refl 0⟩ (hp M hR)
theorem S_X11_least_0 {E : EN} {X : CX} {P : Option Value → MH → Prop} {ad : AD} {fu : Nat} {out : Int32 × St} (hp : ∀ M, Rep E ad out.2 M → P (some (.int out.1)) M) {V : St} {M : MH} {x1 : Int32} {x2 : Int32} {x3 : Int32} (hR : Rep E ad V M) (h : f_X11_least fu V x1 x2 x3 = some out) : G E X RX11 cX11_least 5 (some .int) false (rmD 20) P M [some (.ref (ad 2100 0)), some (.int (x1)), some (.int (x2)), some (.int (x3)), none] 0 0 0 [] := by
  unfold f_X11_least at h
  refine r_aload_n DX11_least_0 rfl ?_
  refine r_iload_n DX11_least_1 rfl ?_
  obtain ⟨r1, V2, hc3, h⟩ := bd_inv h
  refine k_callV (As := [.int (x1)]) (rest := []) (st1 := [rfq ad 2000 (r1)]) (w := some (rfq ad 2000 r1)) DX11_least_2 cv_X11_170 hR ct_2100 (one_cnt _) rfl (C_X11_findCoat (out := (r1, V2)) (cxL X) hR hc3) rfl (by decide) (by decide) rfl (Nat.le_of_ble_eq_true rfl) rfl (fun M hR => ?_)
  refine t_astore (L' := [some (.ref (ad 2100 0)), some (.int (x1)), some (.int (x2)), some (.int (x3)), some (rfq ad 2000 (r1))]) (rfq_or _ _ _) DX11_least_5 (by decide) rfl ?_
  refine t_aload (rfq_or _ _ _) DX11_least_7 rfl ?_
  refine q_ifnull DX11_least_9 (fun c4 => ?_) (fun c4 => ?_)
  · have h := if_t c4 h
    exact S_X11_least_38 hp hR h
  · have h := if_f c4 h
    refine r_iload_n DX11_least_12 rfl ?_
    refine r_iconst (v := 1) DX11_least_13 ki_1 ?_
    refine r_sipush (v := 200) DX11_least_14 ks_200 ?_
    obtain ⟨r5, V6, hc7, h⟩ := bd_inv h
    refine k_callS (As := [.int (x2), .int ((1 : Int32)), .int ((200 : Int32))]) (rest := []) (st1 := [.int (r5)]) (w := some (.int r5)) DX11_least_17 cs_X11_111 (C_X11_within (out := (r5, V6)) (cxL X) hR hc7) rfl (by decide) (by decide) rfl (Nat.le_of_ble_eq_true rfl) rfl (fun M hR => ?_)
    refine r_if_eq DX11_least_20 (fun c8 => ?_) (fun c8 => ?_)
    · have h := if_t c8 h
      exact S_X11_least_38 hp hR h
    · have h := if_f c8 h
      refine r_iload_n DX11_least_23 rfl ?_
      refine r_iconst (v := -1) DX11_least_24 ki_m1 ?_
      refine t_aload (rfq_or _ _ _) DX11_least_25 rfl ?_
      obtain ⟨⟨hx9, hi10⟩, h⟩ := gd_inv h
      refine q_geti hx9 DX11_least_27 fl_X11_188 hR ct_2000 hi10 rfl ?_
      refine r_iconst (v := 1) DX11_least_30 ki_1 ?_
      refine r_isub DX11_least_31 ?_
      obtain ⟨r11, V12, hc13, h⟩ := bd_inv h
      refine k_callS (As := [.int (x3), .int ((-1 : Int32)), .int ((V6 2009 (r1).toNatClampNeg 0) - (1 : Int32))]) (rest := []) (st1 := [.int (r11)]) (w := some (.int r11)) DX11_least_32 cs_X11_111 (C_X11_within (out := (r11, V12)) (cxL X) hR hc13) rfl (by decide) (by decide) rfl (Nat.le_of_ble_eq_true rfl) rfl (fun M hR => ?_)
      refine r_if_ne DX11_least_35 (fun c14 => ?_) (fun c14 => ?_)
      · have h := if_f c14 h
        refine t_aload (rfq_or _ _ _) DX11_least_40 rfl ?_
        obtain ⟨⟨hx18, hi19⟩, h⟩ := gd_inv h
        obtain ⟨r15, V16, hc17, h⟩ := bd_inv h
        refine k_callQ (As := []) (rest := []) (st1 := [.int (r15)]) (w := some (.int r15)) hx18 DX11_least_42 cv_X11_181 hR ct_2000 hi19 rfl (C_X10_widest (out := (r15, V16)) (cxL X) hR hc17) rfl (by decide) (by decide) rfl (Nat.le_of_ble_eq_true rfl) rfl (fun M hR => ?_)
        refine r_iload_n DX11_least_45 rfl ?_
        refine r_icmp_le DX11_least_46 (fun c20 => ?_) (fun c20 => ?_)
        · have h := if_t c20 h
          refine r_aload_n DX11_least_51 rfl ?_
          refine s_geto DX11_least_52 fl_X11_75 hR ct_2100 (one_cnt _) rfl ?_
          refine t_aload (rfq_or _ _ _) DX11_least_55 rfl ?_
          refine r_iload_n DX11_least_57 rfl ?_
          obtain ⟨r21, V22, hc23, h⟩ := bd_inv h
          refine k_callV (As := [rfq ad 2000 (r1), .int (x2)]) (rest := []) (st1 := []) (w := none) DX11_least_58 cv_X11_191 hR ct_1500 (one_cnt _) rfl (C_X5_search (out := (r21, V22)) (cxL X) hR hc23) rfl (by decide) (by decide) rfl (Nat.le_of_ble_eq_true rfl) rfl (fun M hR => ?_)
          refine r_iload_n DX11_least_61 rfl ?_
          refine r_iconst (v := -1) DX11_least_62 ki_m1 ?_
          refine r_icmp_ne DX11_least_63 (fun c24 => ?_) (fun c24 => ?_)
          · have h := if_f c24 h
            refine r_aload_n DX11_least_76 rfl ?_
            refine s_geto DX11_least_77 fl_X11_75 hR ct_2100 (one_cnt _) rfl ?_
            refine s_geta DX11_least_80 fl_X11_198 hR ct_1500 (one_cnt _) rfl ?_
            refine r_iload_n DX11_least_83 rfl ?_
            obtain ⟨hg25, h⟩ := gd_inv h
            refine s_iald DX11_least_84 hR ct_1504 (one_cnt _) hg25 ?_
            exact S_X11_least_85 hp hR h
          · have h := if_t c24 h
            refine r_aload_n DX11_least_66 rfl ?_
            refine s_geto DX11_least_67 fl_X11_75 hR ct_2100 (one_cnt _) rfl ?_
            refine s_geti DX11_least_70 fl_X11_195 hR ct_1500 (one_cnt _) rfl ?_
            refine r_goto DX11_least_73 ?_
            exact S_X11_least_85 hp hR h
        · have h := if_f c20 h
          refine r_iconst (v := -1) DX11_least_49 ki_m1 ?_
          cases h
          exact r_iret DX11_least_50 rfl ⟨Nat.le_refl 0, Nat.le_refl 0⟩ (hp M hR)
      · have h := if_t c14 h
        exact S_X11_least_38 hp hR h
theorem C_X11_least {E : EN} {ad : AD} {fu : Nat} {out : Int32 × St} {V : St} {M : MH} {x1 : Int32} {x2 : Int32} {x3 : Int32} (l : Launch) (hR : Rep E ad V M) (h : f_X11_least fu V x1 x2 x3 = some out) : Ct E l yX11_least cX11_least 5 (some .int) (rmD 20) [.ref (ad 2100 0), .int (x1), .int (x2), .int (x3)] M (fun v M => v = (some (.int out.1)) ∧ Rep E ad out.2 M) :=
  Ct.of (own := RX11) (ini := false) (L := [some (.ref (ad 2100 0)), some (.int (x1)), some (.int (x2)), some (.int (x3)), none]) rfl rfl (fun h => by cases h) rfl (Nat.le_of_ble_eq_true rfl) rfl (fun X _ => S_X11_least_0 (fun M hR => ⟨rfl, hR⟩) hR h)
theorem S_X11_number_191 {E : EN} {X : CX} {P : Option Value → MH → Prop} {ad : AD} {fu : Nat} {out : Int32 × St} (hp : ∀ M, Rep E ad out.2 M → P (some (.int out.1)) M) {V : St} {M : MH} {s0 : Int32} {d0 : Option Value} {d1 : Option Value} {d2 : Option Value} {d3 : Option Value} {d4 : Option Value} {d5 : Option Value} {d6 : Option Value} {d7 : Option Value} {d8 : Option Value} {d9 : Option Value} {d10 : Option Value} (hR : Rep E ad V M) (h : F_X11_number_191 fu V s0 = some out) : G E X RX11 cX11_number 11 (some .int) false (rmD 6) P M [d0, d1, d2, d3, d4, d5, d6, d7, d8, d9, d10] 0 0 191 [.int (s0)] := by
  unfold F_X11_number_191 at h
  cases h
  exact r_iret DX11_number_191 rfl ⟨Nat.le_refl 0, Nat.le_refl 0⟩ (hp M hR)
theorem S_X11_number_172 {E : EN} {X : CX} {P : Option Value → MH → Prop} {ad : AD} {fu : Nat} {out : Int32 × St} (hp : ∀ M, Rep E ad out.2 M → P (some (.int out.1)) M) {V : St} {M : MH} {s0 : Int32} {d0 : Option Value} {d1 : Option Value} {d2 : Option Value} {d3 : Option Value} {d4 : Option Value} {d5 : Option Value} {d6 : Option Value} {d7 : Option Value} {d8 : Option Value} {d9 : Option Value} {d10 : Option Value} (hR : Rep E ad V M) (h : F_X11_number_172 fu V s0 = some out) : G E X RX11 cX11_number 11 (some .int) false (rmD 6) P M [d0, d1, d2, d3, d4, d5, d6, d7, d8, d9, d10] 0 0 172 [.int (s0)] := by
  unfold F_X11_number_172 at h
  cases h
  exact r_iret DX11_number_172 rfl ⟨Nat.le_refl 0, Nat.le_refl 0⟩ (hp M hR)
theorem S_X11_number_161 {E : EN} {X : CX} {P : Option Value → MH → Prop} {ad : AD} {fu : Nat} {out : Int32 × St} (hp : ∀ M, Rep E ad out.2 M → P (some (.int out.1)) M) {V : St} {M : MH} {x10 : Int32} {d0 : Option Value} {d1 : Option Value} {d2 : Option Value} {d3 : Option Value} {d4 : Option Value} {d5 : Option Value} {d6 : Option Value} {d7 : Option Value} {d8 : Option Value} {d9 : Option Value} (hR : Rep E ad V M) (h : F_X11_number_161 fu V x10 = some out) : G E X RX11 cX11_number 11 (some .int) false (rmD 6) P M [d0, d1, d2, d3, d4, d5, d6, d7, d8, d9, some (.int (x10))] 0 0 161 [] := by
  unfold F_X11_number_161 at h
  refine r_iload DX11_number_161 rfl ?_
  refine r_iconst (v := -1) DX11_number_163 ki_m1 ?_
  refine r_icmp_ne DX11_number_164 (fun c1 => ?_) (fun c1 => ?_)
  · have h := if_f c1 h
    refine r_iconst (v := 1) DX11_number_171 ki_1 ?_
    exact S_X11_number_172 hp hR h
  · have h := if_t c1 h
    refine r_iconst (v := 0) DX11_number_167 ki_0 ?_
    refine r_goto DX11_number_168 ?_
    exact S_X11_number_172 hp hR h
theorem S_X11_number_102 {E : EN} {X : CX} {P : Option Value → MH → Prop} {ad : AD} {fu : Nat} {out : Int32 × St} (hp : ∀ M, Rep E ad out.2 M → P (some (.int out.1)) M) {V : St} {M : MH} {x4 : Int32} {x5 : Int32} {x6 : Int32} {x7 : Int32} {x8 : Int32} {s0 : Int32} {d1 : Option Value} {d2 : Option Value} {d3 : Option Value} {d9 : Option Value} {d10 : Option Value} (hR : Rep E ad V M) (h : F_X11_number_102 fu V x4 x5 x6 x7 x8 s0 = some out) : G E X RX11 cX11_number 11 (some .int) false (rmD 6) P M [some (.ref (ad 2100 0)), d1, d2, d3, some (.int (x4)), some (.int (x5)), some (.int (x6)), some (rfq ad 2000 (x7)), some (rfq ad 1600 (x8)), d9, d10] 0 0 102 [.int (s0)] := by
  unfold F_X11_number_102 at h
  refine t_istore (L' := [some (.ref (ad 2100 0)), d1, d2, d3, some (.int (x4)), some (.int (x5)), some (.int (x6)), some (rfq ad 2000 (x7)), some (rfq ad 1600 (x8)), some (.int (s0)), d10]) DX11_number_102 (by decide) rfl ?_
  refine r_iload DX11_number_104 rfl ?_
  refine r_if_ne DX11_number_106 (fun c1 => ?_) (fun c1 => ?_)
  · have h := if_f c1 h
    refine r_aload_n DX11_number_111 rfl ?_
    refine s_geto DX11_number_112 fl_X11_68 hR ct_2100 (one_cnt _) rfl ?_
    refine r_iload DX11_number_115 rfl ?_
    refine r_iload DX11_number_117 rfl ?_
    refine r_iconst (v := -1) DX11_number_119 ki_m1 ?_
    obtain ⟨r2, V3, hc4, h⟩ := bd_inv h
    refine k_callV (As := [.int (x4), .int (x5), .int ((-1 : Int32))]) (rest := []) (st1 := []) (w := none) DX11_number_120 cv_X11_245 hR ct_1400 (one_cnt _) rfl (C_X4_weigh (out := (r2, V3)) (cxL X) hR hc4) rfl (by decide) (by decide) rfl (Nat.le_of_ble_eq_true rfl) rfl (fun M hR => ?_)
    refine r_aload_n DX11_number_123 rfl ?_
    refine s_geto DX11_number_124 fl_X11_68 hR ct_2100 (one_cnt _) rfl ?_
    refine r_iload DX11_number_127 rfl ?_
    refine t_aload (rfq_or _ _ _) DX11_number_129 rfl ?_
    refine t_aload (rfq_or _ _ _) DX11_number_131 rfl ?_
    obtain ⟨r5, V6, hc7, h⟩ := bd_inv h
    refine k_callV (As := [.int (x4), rfq ad 2000 (x7), rfq ad 1600 (x8)]) (rest := []) (st1 := []) (w := none) DX11_number_133 cv_X11_248 hR ct_1400 (one_cnt _) rfl (C_X4_setLetters (out := (r5, V6)) (cxL X) hR hc7) rfl (by decide) (by decide) rfl (Nat.le_of_ble_eq_true rfl) rfl (fun M hR => ?_)
    refine r_aload_n DX11_number_136 rfl ?_
    refine s_geto DX11_number_137 fl_X11_68 hR ct_2100 (one_cnt _) rfl ?_
    refine r_iload DX11_number_140 rfl ?_
    obtain ⟨r8, V9, hc10, h⟩ := bd_inv h
    refine k_callV (As := [.int (x6)]) (rest := []) (st1 := [.int (r8)]) (w := some (.int r8)) DX11_number_142 cv_X11_252 hR ct_1400 (one_cnt _) rfl (C_X4_lastNumber (out := (r8, V9)) (cxL X) hR hc10) rfl (by decide) (by decide) rfl (Nat.le_of_ble_eq_true rfl) rfl (fun M hR => ?_)
    refine t_istore (L' := [some (.ref (ad 2100 0)), d1, d2, d3, some (.int (x4)), some (.int (x5)), some (.int (x6)), some (rfq ad 2000 (x7)), some (rfq ad 1600 (x8)), some (.int (s0)), some (.int (r8))]) DX11_number_145 (by decide) rfl ?_
    refine r_iload DX11_number_147 rfl ?_
    refine r_bipush (v := 109) DX11_number_149 kb_109 ?_
    refine r_icmp_eq DX11_number_151 (fun c11 => ?_) (fun c11 => ?_)
    · have h := if_t c11 h
      exact S_X11_number_161 hp hR h
    · have h := if_f c11 h
      refine r_iload DX11_number_154 rfl ?_
      refine r_bipush (v := 98) DX11_number_156 kb_98 ?_
      refine r_icmp_ne DX11_number_158 (fun c12 => ?_) (fun c12 => ?_)
      · have h := if_f c12 h
        refine r_iload DX11_number_173 rfl ?_
        refine r_bipush (v := 99) DX11_number_175 kb_99 ?_
        refine r_icmp_ne DX11_number_177 (fun c13 => ?_) (fun c13 => ?_)
        · have h := if_f c13 h
          refine r_iconst (v := 0) DX11_number_185 ki_0 ?_
          refine r_iload DX11_number_186 rfl ?_
          refine r_mmax DX11_number_188 wd_395 (by decide) (Nat.le_of_ble_eq_true rfl) ?_
          exact S_X11_number_191 hp hR h
        · have h := if_t c13 h
          refine r_iload DX11_number_180 rfl ?_
          refine r_goto DX11_number_182 ?_
          exact S_X11_number_191 hp hR h
      · have h := if_t c12 h
        exact S_X11_number_161 hp hR h
  · have h := if_t c1 h
    refine r_iconst (v := -1) DX11_number_109 ki_m1 ?_
    cases h
    exact r_iret DX11_number_110 rfl ⟨Nat.le_refl 0, Nat.le_refl 0⟩ (hp M hR)
theorem S_X11_number_101 {E : EN} {X : CX} {P : Option Value → MH → Prop} {ad : AD} {fu : Nat} {out : Int32 × St} (hp : ∀ M, Rep E ad out.2 M → P (some (.int out.1)) M) {V : St} {M : MH} {x4 : Int32} {x5 : Int32} {x6 : Int32} {x7 : Int32} {x8 : Int32} {d1 : Option Value} {d2 : Option Value} {d3 : Option Value} {d9 : Option Value} {d10 : Option Value} (hR : Rep E ad V M) (h : F_X11_number_101 fu V x4 x5 x6 x7 x8 = some out) : G E X RX11 cX11_number 11 (some .int) false (rmD 6) P M [some (.ref (ad 2100 0)), d1, d2, d3, some (.int (x4)), some (.int (x5)), some (.int (x6)), some (rfq ad 2000 (x7)), some (rfq ad 1600 (x8)), d9, d10] 0 0 101 [] := by
  unfold F_X11_number_101 at h
  refine r_iconst (v := 0) DX11_number_101 ki_0 ?_
  exact S_X11_number_102 hp hR h
theorem S_X11_number_97 {E : EN} {X : CX} {P : Option Value → MH → Prop} {ad : AD} {fu : Nat} {out : Int32 × St} (hp : ∀ M, Rep E ad out.2 M → P (some (.int out.1)) M) {V : St} {M : MH} {x4 : Int32} {x5 : Int32} {x6 : Int32} {x7 : Int32} {x8 : Int32} {d1 : Option Value} {d2 : Option Value} {d3 : Option Value} {d9 : Option Value} {d10 : Option Value} (hR : Rep E ad V M) (h : F_X11_number_97 fu V x4 x5 x6 x7 x8 = some out) : G E X RX11 cX11_number 11 (some .int) false (rmD 6) P M [some (.ref (ad 2100 0)), d1, d2, d3, some (.int (x4)), some (.int (x5)), some (.int (x6)), some (rfq ad 2000 (x7)), some (rfq ad 1600 (x8)), d9, d10] 0 0 97 [] := by
  unfold F_X11_number_97 at h
  refine r_iconst (v := 1) DX11_number_97 ki_1 ?_
  refine r_goto DX11_number_98 ?_
  exact S_X11_number_102 hp hR h
theorem S_X11_number_78 {E : EN} {X : CX} {P : Option Value → MH → Prop} {ad : AD} {fu : Nat} {out : Int32 × St} (hp : ∀ M, Rep E ad out.2 M → P (some (.int out.1)) M) {V : St} {M : MH} {x4 : Int32} {x5 : Int32} {x6 : Int32} {x7 : Int32} {x8 : Int32} {d1 : Option Value} {d2 : Option Value} {d3 : Option Value} {d9 : Option Value} {d10 : Option Value} (hR : Rep E ad V M) (h : F_X11_number_78 fu V x4 x5 x6 x7 x8 = some out) : G E X RX11 cX11_number 11 (some .int) false (rmD 6) P M [some (.ref (ad 2100 0)), d1, d2, d3, some (.int (x4)), some (.int (x5)), some (.int (x6)), some (rfq ad 2000 (x7)), some (rfq ad 1600 (x8)), d9, d10] 0 0 78 [] := by
  unfold F_X11_number_78 at h
  refine r_iconst (v := 0) DX11_number_78 ki_0 ?_
  refine r_goto DX11_number_79 ?_
  exact S_X11_number_102 hp hR h
theorem S_X11_number_33 {E : EN} {X : CX} {P : Option Value → MH → Prop} {ad : AD} {fu : Nat} {out : Int32 × St} (hp : ∀ M, Rep E ad out.2 M → P (some (.int out.1)) M) {V : St} {M : MH} {d0 : Option Value} {d1 : Option Value} {d2 : Option Value} {d3 : Option Value} {d4 : Option Value} {d5 : Option Value} {d6 : Option Value} {d7 : Option Value} {d8 : Option Value} {d9 : Option Value} {d10 : Option Value} (hR : Rep E ad V M) (h : F_X11_number_33 fu V = some out) : G E X RX11 cX11_number 11 (some .int) false (rmD 6) P M [d0, d1, d2, d3, d4, d5, d6, d7, d8, d9, d10] 0 0 33 [] := by
  unfold F_X11_number_33 at h
  refine r_iconst (v := -1) DX11_number_33 ki_m1 ?_
  cases h
  exact r_iret DX11_number_34 rfl ⟨Nat.le_refl 0, Nat.le_refl 0⟩ (hp M hR)
theorem S_X11_number_0 {E : EN} {X : CX} {P : Option Value → MH → Prop} {ad : AD} {fu : Nat} {out : Int32 × St} (hp : ∀ M, Rep E ad out.2 M → P (some (.int out.1)) M) {V : St} {M : MH} {x1 : Int32} {x2 : Int32} {x3 : Int32} {x4 : Int32} {x5 : Int32} (hR : Rep E ad V M) (h : f_X11_number fu V x1 x2 x3 x4 x5 = some out) : G E X RX11 cX11_number 11 (some .int) false (rmD 6) P M [some (.ref (ad 2100 0)), some (.int (x1)), some (.int (x2)), some (.int (x3)), some (.int (x4)), some (.int (x5)), none, none, none, none, none] 0 0 0 [] := by
  unfold f_X11_number at h
  refine r_iload_n DX11_number_0 rfl ?_
  refine r_iconst (v := 0) DX11_number_1 ki_0 ?_
  refine r_iconst (v := 5) DX11_number_2 ki_5 ?_
  obtain ⟨r1, V2, hc3, h⟩ := bd_inv h
  refine k_callS (As := [.int (x1), .int ((0 : Int32)), .int ((5 : Int32))]) (rest := []) (st1 := [.int (r1)]) (w := some (.int r1)) DX11_number_3 cs_X11_111 (C_X11_within (out := (r1, V2)) (cxL X) hR hc3) rfl (by decide) (by decide) rfl (Nat.le_of_ble_eq_true rfl) rfl (fun M hR => ?_)
  refine r_if_eq DX11_number_6 (fun c4 => ?_) (fun c4 => ?_)
  · have h := if_t c4 h
    exact S_X11_number_33 hp hR h
  · have h := if_f c4 h
    refine r_iload DX11_number_9 rfl ?_
    refine r_iconst (v := 0) DX11_number_11 ki_0 ?_
    refine r_sipush (v := 499) DX11_number_12 ks_499 ?_
    obtain ⟨r5, V6, hc7, h⟩ := bd_inv h
    refine k_callS (As := [.int (x4), .int ((0 : Int32)), .int ((499 : Int32))]) (rest := []) (st1 := [.int (r5)]) (w := some (.int r5)) DX11_number_15 cs_X11_111 (C_X11_within (out := (r5, V6)) (cxL X) hR hc7) rfl (by decide) (by decide) rfl (Nat.le_of_ble_eq_true rfl) rfl (fun M hR => ?_)
    refine r_if_eq DX11_number_18 (fun c8 => ?_) (fun c8 => ?_)
    · have h := if_t c8 h
      exact S_X11_number_33 hp hR h
    · have h := if_f c8 h
      refine r_iload DX11_number_21 rfl ?_
      refine r_iconst (v := 0) DX11_number_23 ki_0 ?_
      refine r_sipush (v := 499) DX11_number_24 ks_499 ?_
      obtain ⟨r9, V10, hc11, h⟩ := bd_inv h
      refine k_callS (As := [.int (x5), .int ((0 : Int32)), .int ((499 : Int32))]) (rest := []) (st1 := [.int (r9)]) (w := some (.int r9)) DX11_number_27 cs_X11_111 (C_X11_within (out := (r9, V10)) (cxL X) hR hc11) rfl (by decide) (by decide) rfl (Nat.le_of_ble_eq_true rfl) rfl (fun M hR => ?_)
      refine r_if_ne DX11_number_30 (fun c12 => ?_) (fun c12 => ?_)
      · have h := if_f c12 h
        refine r_ldcS (i := 6) DX11_number_35 rfl ?_
        refine r_iload_n DX11_number_37 rfl ?_
        obtain ⟨hg13, h⟩ := gd_inv h
        refine k_charAt (i := 6) DX11_number_38 cv_X11_236 hR (by decide) hg13 (by decide) (Nat.le_of_ble_eq_true rfl) (fun M hR => ?_)
        refine t_istore (L' := [some (.ref (ad 2100 0)), some (.int (x1)), some (.int (x2)), some (.int (x3)), some (.int (x4)), some (.int (x5)), some (.int ((sAt 6 (x1)))), none, none, none, none]) DX11_number_41 (by decide) rfl ?_
        refine r_aload_n DX11_number_43 rfl ?_
        refine r_iload_n DX11_number_44 rfl ?_
        obtain ⟨r14, V15, hc16, h⟩ := bd_inv h
        refine k_callV (As := [.int (x2)]) (rest := []) (st1 := [rfq ad 2000 (r14)]) (w := some (rfq ad 2000 r14)) DX11_number_45 cv_X11_242 hR ct_2100 (one_cnt _) rfl (C_X11_findThing (out := (r14, V15)) (cxL X) hR hc16) rfl (by decide) (by decide) rfl (Nat.le_of_ble_eq_true rfl) rfl (fun M hR => ?_)
        refine t_astore (L' := [some (.ref (ad 2100 0)), some (.int (x1)), some (.int (x2)), some (.int (x3)), some (.int (x4)), some (.int (x5)), some (.int ((sAt 6 (x1)))), some (rfq ad 2000 (r14)), none, none, none]) (rfq_or _ _ _) DX11_number_48 (by decide) rfl ?_
        refine r_aload_n DX11_number_50 rfl ?_
        refine r_iload_n DX11_number_51 rfl ?_
        obtain ⟨r17, V18, hc19, h⟩ := bd_inv h
        refine k_callV (As := [.int (x3)]) (rest := []) (st1 := [rfq ad 1600 (r17)]) (w := some (rfq ad 1600 r17)) DX11_number_52 cv_X11_208 hR ct_2100 (one_cnt _) rfl (C_X11_findMaker (out := (r17, V18)) (cxL X) hR hc19) rfl (by decide) (by decide) rfl (Nat.le_of_ble_eq_true rfl) rfl (fun M hR => ?_)
        refine t_astore (L' := [some (.ref (ad 2100 0)), some (.int (x1)), some (.int (x2)), some (.int (x3)), some (.int (x4)), some (.int (x5)), some (.int ((sAt 6 (x1)))), some (rfq ad 2000 (r14)), some (rfq ad 1600 (r17)), none, none]) (rfq_or _ _ _) DX11_number_55 (by decide) rfl ?_
        refine r_iload DX11_number_57 rfl ?_
        refine r_bipush (v := 103) DX11_number_59 kb_103 ?_
        refine r_icmp_ne DX11_number_61 (fun c20 => ?_) (fun c20 => ?_)
        · have h := if_f c20 h
          refine t_aload (rfq_or _ _ _) DX11_number_82 rfl ?_
          refine q_ifnull DX11_number_84 (fun c21 => ?_) (fun c21 => ?_)
          · have h := if_t c21 h
            exact S_X11_number_101 hp hR h
          · have h := if_f c21 h
            refine t_aload (rfq_or _ _ _) DX11_number_87 rfl ?_
            refine q_ifnonnull DX11_number_89 (fun c22 => ?_) (fun c22 => ?_)
            · have h := if_f c22 h
              exact S_X11_number_97 hp hR h
            · have h := if_t c22 h
              refine r_iload_n DX11_number_92 rfl ?_
              refine r_iconst (v := -1) DX11_number_93 ki_m1 ?_
              refine r_icmp_ne DX11_number_94 (fun c23 => ?_) (fun c23 => ?_)
              · have h := if_f c23 h
                exact S_X11_number_101 hp hR h
              · have h := if_t c23 h
                exact S_X11_number_97 hp hR h
        · have h := if_t c20 h
          refine r_iload_n DX11_number_64 rfl ?_
          refine r_iconst (v := -1) DX11_number_65 ki_m1 ?_
          refine r_icmp_ne DX11_number_66 (fun c21 => ?_) (fun c21 => ?_)
          · have h := if_f c21 h
            exact S_X11_number_78 hp hR h
          · have h := if_t c21 h
            refine r_iload_n DX11_number_69 rfl ?_
            refine r_iconst (v := -1) DX11_number_70 ki_m1 ?_
            refine r_icmp_ne DX11_number_71 (fun c22 => ?_) (fun c22 => ?_)
            · have h := if_f c22 h
              exact S_X11_number_78 hp hR h
            · have h := if_t c22 h
              refine r_iconst (v := 1) DX11_number_74 ki_1 ?_
              refine r_goto DX11_number_75 ?_
              exact S_X11_number_102 hp hR h
      · have h := if_t c12 h
        exact S_X11_number_33 hp hR h
theorem C_X11_number {E : EN} {ad : AD} {fu : Nat} {out : Int32 × St} {V : St} {M : MH} {x1 : Int32} {x2 : Int32} {x3 : Int32} {x4 : Int32} {x5 : Int32} (l : Launch) (hR : Rep E ad V M) (h : f_X11_number fu V x1 x2 x3 x4 x5 = some out) : Ct E l yX11_number cX11_number 11 (some .int) (rmD 6) [.ref (ad 2100 0), .int (x1), .int (x2), .int (x3), .int (x4), .int (x5)] M (fun v M => v = (some (.int out.1)) ∧ Rep E ad out.2 M) :=
  Ct.of (own := RX11) (ini := false) (L := [some (.ref (ad 2100 0)), some (.int (x1)), some (.int (x2)), some (.int (x3)), some (.int (x4)), some (.int (x5)), none, none, none, none, none]) rfl rfl (fun h => by cases h) rfl (Nat.le_of_ble_eq_true rfl) rfl (fun X _ => S_X11_number_0 (fun M hR => ⟨rfl, hR⟩) hR h)
