theorem S_X9_readCondition_108 {E : EN} {X : CX} {P : Option Value → MH → Prop} {ad : AD} {fu : Nat} {dp : Nat} {out : Int32 × St} {rc_X9_readPiece : St → Int32 → RR} (hrc_X9_readPiece : ∀ (l : Launch) {V : St} {M : MH} {o : Int32 × St} {x1 : Int32}, Rep E ad V M → rc_X9_readPiece V x1 = some o → Ct E l yX9_readPiece cX9_readPiece 4 (some .boolean) (rmD (dp + 6)) [.ref (ad 1900 0), .int (x1)] M (fun v M => v = (some (.int o.1)) ∧ Rep E ad o.2 M)) (hp : ∀ M, Rep E ad out.2 M → P (some (.int out.1)) M) {V : St} {M : MH} {d1 : Option Value} {d2 : Option Value} {d3 : Option Value} {d4 : Option Value} {d5 : Option Value} (hR : Rep E ad V M) (h : F_X9_readCondition_108 rc_X9_readPiece fu V = some out) : G E X RX9 cX9_readCondition 6 (some .boolean) false (rmD (dp + 1 + 6)) P M [some (.ref (ad 1900 0)), d1, d2, d3, d4, d5] 0 0 108 [] := by
  unfold F_X9_readCondition_108 at h
  refine r_aload_n DX9_readCondition_108 rfl ?_
  refine r_iconst (v := 1) DX9_readCondition_109 ki_1 ?_
  obtain ⟨r1, V2, hc3, h⟩ := bd_inv h
  refine k_callV (As := [.int ((1 : Int32))]) (rest := []) (st1 := [.int (r1)]) (w := some (.int r1)) DX9_readCondition_110 cv_X9_71 hR ct_1900 (one_cnt _) rfl (C_X9_fail (out := (r1, V2)) (cxL X) hR hc3) rfl (by omega) (by decide) rfl (Nat.le_of_ble_eq_true rfl) rfl (fun M hR => ?_)
  obtain ⟨hz4, h⟩ := gd_inv h
  cases h
  exact r_zret DX9_readCondition_113 rfl (nz_nar hz4) ⟨Nat.le_refl 0, Nat.le_refl 0⟩ (hp M hR)
theorem S_X9_readCondition_92 {E : EN} {X : CX} {P : Option Value → MH → Prop} {ad : AD} {fu : Nat} {dp : Nat} {out : Int32 × St} {rc_X9_readPiece : St → Int32 → RR} {kh : St → Int32 → Int32 → Int32 → Int32 → RR} {kx30 : St → RR} {kx70 : St → Int32 → RR} {kx108 : St → RR} (hrc_X9_readPiece : ∀ (l : Launch) {V : St} {M : MH} {o : Int32 × St} {x1 : Int32}, Rep E ad V M → rc_X9_readPiece V x1 = some o → Ct E l yX9_readPiece cX9_readPiece 4 (some .boolean) (rmD (dp + 6)) [.ref (ad 1900 0), .int (x1)] M (fun v M => v = (some (.int o.1)) ∧ Rep E ad o.2 M)) (hkh : ∀ {V : St} {M : MH} {x1 : Int32} {x2 : Int32} {x3 : Int32} {x4 : Int32} {d5 : Option Value}, Rep E ad V M → kh V x1 x2 x3 x4 = some out → G E X RX9 cX9_readCondition 6 (some .boolean) false (rmD (dp + 1 + 6)) P M [some (.ref (ad 1900 0)), some (.int (x1)), some (.int (x2)), some (.int (x3)), some (.int (x4)), d5] 0 0 13 []) (hkx30 : ∀ {V : St} {M : MH} {d0 : Option Value} {d1 : Option Value} {d2 : Option Value} {d3 : Option Value} {d4 : Option Value} {d5 : Option Value}, Rep E ad V M → kx30 V  = some out → G E X RX9 cX9_readCondition 6 (some .boolean) false (rmD (dp + 1 + 6)) P M [d0, d1, d2, d3, d4, d5] 0 0 30 []) (hkx70 : ∀ {V : St} {M : MH} {x2 : Int32} {d1 : Option Value} {d3 : Option Value} {d4 : Option Value} {d5 : Option Value}, Rep E ad V M → kx70 V x2 = some out → G E X RX9 cX9_readCondition 6 (some .boolean) false (rmD (dp + 1 + 6)) P M [some (.ref (ad 1900 0)), d1, some (.int (x2)), d3, d4, d5] 0 0 70 []) (hkx108 : ∀ {V : St} {M : MH} {d1 : Option Value} {d2 : Option Value} {d3 : Option Value} {d4 : Option Value} {d5 : Option Value}, Rep E ad V M → kx108 V  = some out → G E X RX9 cX9_readCondition 6 (some .boolean) false (rmD (dp + 1 + 6)) P M [some (.ref (ad 1900 0)), d1, d2, d3, d4, d5] 0 0 108 []) (hp : ∀ M, Rep E ad out.2 M → P (some (.int out.1)) M) {V : St} {M : MH} {x1 : Int32} {x2 : Int32} {x3 : Int32} {x4 : Int32} {d5 : Option Value} (hR : Rep E ad V M) (h : F_X9_readCondition_92 rc_X9_readPiece kh kx30 kx70 kx108 fu V x1 x2 x3 x4 = some out) : G E X RX9 cX9_readCondition 6 (some .boolean) false (rmD (dp + 1 + 6)) P M [some (.ref (ad 1900 0)), some (.int (x1)), some (.int (x2)), some (.int (x3)), some (.int (x4)), d5] 0 0 92 [] := by
  unfold F_X9_readCondition_92 at h
  refine r_aload_n DX9_readCondition_92 rfl ?_
  refine r_dup DX9_readCondition_93 rfl ?_
  refine s_geti DX9_readCondition_94 fl_X9_41 hR ct_1900 (one_cnt _) rfl ?_
  refine r_iconst (v := 1) DX9_readCondition_97 ki_1 ?_
  refine r_iadd DX9_readCondition_98 ?_
  obtain ⟨V1, hv2, h⟩ := bv_inv h
  refine s_puti DX9_readCondition_99 fp_X9_41 hR oks_1910 ct_1900 (one_cnt _) rfl rfl rfl (fun M hR => ?_)
  have hR := hR.cg hv2
  refine t_iinc (v := 1) (L' := [some (.ref (ad 1900 0)), some (.int (x1)), some (.int (x2)), some (.int (x3)), some (.int (x4 + 1)), d5]) DX9_readCondition_102 rfl ki_1 (by decide) rfl ?_
  refine r_goto DX9_readCondition_105 ?_
  exact hkh hR h
theorem S_X9_readCondition_70 {E : EN} {X : CX} {P : Option Value → MH → Prop} {ad : AD} {fu : Nat} {dp : Nat} {out : Int32 × St} {rc_X9_readPiece : St → Int32 → RR} (hrc_X9_readPiece : ∀ (l : Launch) {V : St} {M : MH} {o : Int32 × St} {x1 : Int32}, Rep E ad V M → rc_X9_readPiece V x1 = some o → Ct E l yX9_readPiece cX9_readPiece 4 (some .boolean) (rmD (dp + 6)) [.ref (ad 1900 0), .int (x1)] M (fun v M => v = (some (.int o.1)) ∧ Rep E ad o.2 M)) (hp : ∀ M, Rep E ad out.2 M → P (some (.int out.1)) M) {V : St} {M : MH} {x2 : Int32} {d1 : Option Value} {d3 : Option Value} {d4 : Option Value} {d5 : Option Value} (hR : Rep E ad V M) (h : F_X9_readCondition_70 rc_X9_readPiece fu V x2 = some out) : G E X RX9 cX9_readCondition 6 (some .boolean) false (rmD (dp + 1 + 6)) P M [some (.ref (ad 1900 0)), d1, some (.int (x2)), d3, d4, d5] 0 0 70 [] := by
  unfold F_X9_readCondition_70 at h
  refine r_aload_n DX9_readCondition_70 rfl ?_
  refine r_bipush (v := 124) DX9_readCondition_71 kb_124 ?_
  refine r_iload_n DX9_readCondition_73 rfl ?_
  obtain ⟨r1, V2, hc3, h⟩ := bd_inv h
  refine k_callV (As := [.int ((124 : Int32)), .int (x2)]) (rest := []) (st1 := []) (w := none) DX9_readCondition_74 cv_X9_92 hR ct_1900 (one_cnt _) rfl (C_X9_leadHere (out := (r1, V2)) (cxL X) hR hc3) rfl (by omega) (by decide) rfl (Nat.le_of_ble_eq_true rfl) rfl (fun M hR => ?_)
  refine r_iconst (v := 1) DX9_readCondition_77 ki_1 ?_
  cases h
  exact r_zret DX9_readCondition_78 rfl rfl ⟨Nat.le_refl 0, Nat.le_refl 0⟩ (hp M hR)
theorem S_X9_readCondition_30 {E : EN} {X : CX} {P : Option Value → MH → Prop} {ad : AD} {fu : Nat} {dp : Nat} {out : Int32 × St} {rc_X9_readPiece : St → Int32 → RR} (hrc_X9_readPiece : ∀ (l : Launch) {V : St} {M : MH} {o : Int32 × St} {x1 : Int32}, Rep E ad V M → rc_X9_readPiece V x1 = some o → Ct E l yX9_readPiece cX9_readPiece 4 (some .boolean) (rmD (dp + 6)) [.ref (ad 1900 0), .int (x1)] M (fun v M => v = (some (.int o.1)) ∧ Rep E ad o.2 M)) (hp : ∀ M, Rep E ad out.2 M → P (some (.int out.1)) M) {V : St} {M : MH} {d0 : Option Value} {d1 : Option Value} {d2 : Option Value} {d3 : Option Value} {d4 : Option Value} {d5 : Option Value} (hR : Rep E ad V M) (h : F_X9_readCondition_30 rc_X9_readPiece fu V = some out) : G E X RX9 cX9_readCondition 6 (some .boolean) false (rmD (dp + 1 + 6)) P M [d0, d1, d2, d3, d4, d5] 0 0 30 [] := by
  unfold F_X9_readCondition_30 at h
  refine r_iconst (v := 0) DX9_readCondition_30 ki_0 ?_
  cases h
  exact r_zret DX9_readCondition_31 rfl rfl ⟨Nat.le_refl 0, Nat.le_refl 0⟩ (hp M hR)
theorem S_X9_readCondition_13 {E : EN} {X : CX} {P : Option Value → MH → Prop} {ad : AD} {fu : Nat} {dp : Nat} {out : Int32 × St} {rc_X9_readPiece : St → Int32 → RR} {kh : St → Int32 → Int32 → Int32 → Int32 → RR} {kx30 : St → RR} {kx70 : St → Int32 → RR} {kx108 : St → RR} (hrc_X9_readPiece : ∀ (l : Launch) {V : St} {M : MH} {o : Int32 × St} {x1 : Int32}, Rep E ad V M → rc_X9_readPiece V x1 = some o → Ct E l yX9_readPiece cX9_readPiece 4 (some .boolean) (rmD (dp + 6)) [.ref (ad 1900 0), .int (x1)] M (fun v M => v = (some (.int o.1)) ∧ Rep E ad o.2 M)) (hkh : ∀ {V : St} {M : MH} {x1 : Int32} {x2 : Int32} {x3 : Int32} {x4 : Int32} {d5 : Option Value}, Rep E ad V M → kh V x1 x2 x3 x4 = some out → G E X RX9 cX9_readCondition 6 (some .boolean) false (rmD (dp + 1 + 6)) P M [some (.ref (ad 1900 0)), some (.int (x1)), some (.int (x2)), some (.int (x3)), some (.int (x4)), d5] 0 0 13 []) (hkx30 : ∀ {V : St} {M : MH} {d0 : Option Value} {d1 : Option Value} {d2 : Option Value} {d3 : Option Value} {d4 : Option Value} {d5 : Option Value}, Rep E ad V M → kx30 V  = some out → G E X RX9 cX9_readCondition 6 (some .boolean) false (rmD (dp + 1 + 6)) P M [d0, d1, d2, d3, d4, d5] 0 0 30 []) (hkx70 : ∀ {V : St} {M : MH} {x2 : Int32} {d1 : Option Value} {d3 : Option Value} {d4 : Option Value} {d5 : Option Value}, Rep E ad V M → kx70 V x2 = some out → G E X RX9 cX9_readCondition 6 (some .boolean) false (rmD (dp + 1 + 6)) P M [some (.ref (ad 1900 0)), d1, some (.int (x2)), d3, d4, d5] 0 0 70 []) (hkx108 : ∀ {V : St} {M : MH} {d1 : Option Value} {d2 : Option Value} {d3 : Option Value} {d4 : Option Value} {d5 : Option Value}, Rep E ad V M → kx108 V  = some out → G E X RX9 cX9_readCondition 6 (some .boolean) false (rmD (dp + 1 + 6)) P M [some (.ref (ad 1900 0)), d1, d2, d3, d4, d5] 0 0 108 []) (hp : ∀ M, Rep E ad out.2 M → P (some (.int out.1)) M) {V : St} {M : MH} {x1 : Int32} {x2 : Int32} {x3 : Int32} {x4 : Int32} {d5 : Option Value} (hR : Rep E ad V M) (h : F_X9_readCondition_13 rc_X9_readPiece kh kx30 kx70 kx108 fu V x1 x2 x3 x4 = some out) : G E X RX9 cX9_readCondition 6 (some .boolean) false (rmD (dp + 1 + 6)) P M [some (.ref (ad 1900 0)), some (.int (x1)), some (.int (x2)), some (.int (x3)), some (.int (x4)), d5] 0 0 13 [] := by
  unfold F_X9_readCondition_13 at h
  refine r_iload DX9_readCondition_13 rfl ?_
  refine r_aload_n DX9_readCondition_15 rfl ?_
  refine s_geti DX9_readCondition_16 fl_X9_38 hR ct_1900 (one_cnt _) rfl ?_
  refine r_icmp_gt DX9_readCondition_19 (fun c1 => ?_) (fun c1 => ?_)
  · have h := if_t c1 h
    exact hkx108 hR h
  · have h := if_f c1 h
    refine r_aload_n DX9_readCondition_22 rfl ?_
    refine r_iload_n DX9_readCondition_23 rfl ?_
    obtain ⟨r2, V3, hc4, h⟩ := bd_inv h
    refine k_callV (As := [.int (x1)]) (rest := []) (st1 := [.int (r2)]) (w := some (.int r2)) DX9_readCondition_24 cv_X9_85 hR ct_1900 (one_cnt _) rfl (hrc_X9_readPiece (o := (r2, V3)) (cxL X) hR hc4) rfl (by omega) (by decide) rfl (Nat.le_of_ble_eq_true rfl) rfl (fun M hR => ?_)
    refine r_if_ne DX9_readCondition_27 (fun c5 => ?_) (fun c5 => ?_)
    · have h := if_f c5 h
      refine r_aload_n DX9_readCondition_32 rfl ?_
      obtain ⟨r6, V7, hc8, h⟩ := bd_inv h
      refine k_callV (As := []) (rest := []) (st1 := [.int (r6)]) (w := some (.int r6)) DX9_readCondition_33 cv_X9_61 hR ct_1900 (one_cnt _) rfl (C_X9_here (out := (r6, V7)) (cxL X) hR hc8) rfl (by omega) (by decide) rfl (Nat.le_of_ble_eq_true rfl) rfl (fun M hR => ?_)
      refine t_istore (L' := [some (.ref (ad 1900 0)), some (.int (x1)), some (.int (x2)), some (.int (x3)), some (.int (x4)), some (.int (r6))]) DX9_readCondition_36 (by decide) rfl ?_
      refine r_iload DX9_readCondition_38 rfl ?_
      refine r_bipush (v := 38) DX9_readCondition_40 kb_38 ?_
      refine r_icmp_ne DX9_readCondition_42 (fun c9 => ?_) (fun c9 => ?_)
      · have h := if_f c9 h
        refine r_aload_n DX9_readCondition_56 rfl ?_
        refine r_bipush (v := 38) DX9_readCondition_57 kb_38 ?_
        refine r_iload_n DX9_readCondition_59 rfl ?_
        obtain ⟨r10, V11, hc12, h⟩ := bd_inv h
        refine k_callV (As := [.int ((38 : Int32)), .int (x3)]) (rest := []) (st1 := []) (w := none) DX9_readCondition_60 cv_X9_92 hR ct_1900 (one_cnt _) rfl (C_X9_leadHere (out := (r10, V11)) (cxL X) hR hc12) rfl (by omega) (by decide) rfl (Nat.le_of_ble_eq_true rfl) rfl (fun M hR => ?_)
        refine r_iload DX9_readCondition_63 rfl ?_
        refine r_bipush (v := 124) DX9_readCondition_65 kb_124 ?_
        refine r_icmp_eq DX9_readCondition_67 (fun c13 => ?_) (fun c13 => ?_)
        · have h := if_t c13 h
          refine r_aload_n DX9_readCondition_79 rfl ?_
          refine r_bipush (v := 124) DX9_readCondition_80 kb_124 ?_
          refine r_iconst (v := 0) DX9_readCondition_82 ki_0 ?_
          obtain ⟨r14, V15, hc16, h⟩ := bd_inv h
          refine k_callV (As := [.int ((124 : Int32)), .int ((0 : Int32))]) (rest := []) (st1 := [.int (r14)]) (w := some (.int r14)) DX9_readCondition_83 cv_X9_88 hR ct_1900 (one_cnt _) rfl (C_X9_emit (out := (r14, V15)) (cxL X) hR hc16) rfl (by omega) (by decide) rfl (Nat.le_of_ble_eq_true rfl) rfl (fun M hR => ?_)
          refine r_pop DX9_readCondition_86 rfl ?_
          refine r_aload_n DX9_readCondition_87 rfl ?_
          refine s_geti DX9_readCondition_88 fl_X9_31 hR ct_1900 (one_cnt _) rfl ?_
          refine t_istore_n (L' := [some (.ref (ad 1900 0)), some (.int (x1)), some (.int (x2)), some (.int ((V15 1907 0 0))), some (.int (x4)), some (.int (r6))]) DX9_readCondition_91 (by decide) rfl ?_
          exact S_X9_readCondition_92 (fun l => hrc_X9_readPiece l) (fun hR h => hkh hR h) (fun hR h => hkx30 hR h) (fun hR h => hkx70 hR h) (fun hR h => hkx108 hR h) hp hR h
        · have h := if_f c13 h
          exact hkx70 hR h
      · have h := if_t c9 h
        refine r_aload_n DX9_readCondition_45 rfl ?_
        refine r_bipush (v := 38) DX9_readCondition_46 kb_38 ?_
        refine r_iconst (v := 0) DX9_readCondition_48 ki_0 ?_
        obtain ⟨r13, V14, hc15, h⟩ := bd_inv h
        refine k_callV (As := [.int ((38 : Int32)), .int ((0 : Int32))]) (rest := []) (st1 := [.int (r13)]) (w := some (.int r13)) DX9_readCondition_49 cv_X9_88 hR ct_1900 (one_cnt _) rfl (C_X9_emit (out := (r13, V14)) (cxL X) hR hc15) rfl (by omega) (by decide) rfl (Nat.le_of_ble_eq_true rfl) rfl (fun M hR => ?_)
        refine r_pop DX9_readCondition_52 rfl ?_
        refine r_goto DX9_readCondition_53 ?_
        exact S_X9_readCondition_92 (fun l => hrc_X9_readPiece l) (fun hR h => hkh hR h) (fun hR h => hkx30 hR h) (fun hR h => hkx70 hR h) (fun hR h => hkx108 hR h) hp hR h
    · have h := if_t c5 h
      exact hkx30 hR h
theorem SL_X9_readCondition_13 {E : EN} {X : CX} {P : Option Value → MH → Prop} {ad : AD} {fu : Nat} {dp : Nat} {out : Int32 × St} {rc_X9_readPiece : St → Int32 → RR} {kx30 : St → RR} {kx70 : St → Int32 → RR} {kx108 : St → RR} (hrc_X9_readPiece : ∀ (l : Launch) {V : St} {M : MH} {o : Int32 × St} {x1 : Int32}, Rep E ad V M → rc_X9_readPiece V x1 = some o → Ct E l yX9_readPiece cX9_readPiece 4 (some .boolean) (rmD (dp + 6)) [.ref (ad 1900 0), .int (x1)] M (fun v M => v = (some (.int o.1)) ∧ Rep E ad o.2 M)) (hkx30 : ∀ {V : St} {M : MH} {d0 : Option Value} {d1 : Option Value} {d2 : Option Value} {d3 : Option Value} {d4 : Option Value} {d5 : Option Value}, Rep E ad V M → kx30 V  = some out → G E X RX9 cX9_readCondition 6 (some .boolean) false (rmD (dp + 1 + 6)) P M [d0, d1, d2, d3, d4, d5] 0 0 30 []) (hkx70 : ∀ {V : St} {M : MH} {x2 : Int32} {d1 : Option Value} {d3 : Option Value} {d4 : Option Value} {d5 : Option Value}, Rep E ad V M → kx70 V x2 = some out → G E X RX9 cX9_readCondition 6 (some .boolean) false (rmD (dp + 1 + 6)) P M [some (.ref (ad 1900 0)), d1, some (.int (x2)), d3, d4, d5] 0 0 70 []) (hkx108 : ∀ {V : St} {M : MH} {d1 : Option Value} {d2 : Option Value} {d3 : Option Value} {d4 : Option Value} {d5 : Option Value}, Rep E ad V M → kx108 V  = some out → G E X RX9 cX9_readCondition 6 (some .boolean) false (rmD (dp + 1 + 6)) P M [some (.ref (ad 1900 0)), d1, d2, d3, d4, d5] 0 0 108 []) (hp : ∀ M, Rep E ad out.2 M → P (some (.int out.1)) M) : ∀ (n : Nat) {V : St} {M : MH} {x1 : Int32} {x2 : Int32} {x3 : Int32} {x4 : Int32} {d5 : Option Value}, Rep E ad V M → Lp_X9_readCondition_13 rc_X9_readPiece kx30 kx70 kx108 fu n V x1 x2 x3 x4 = some out → G E X RX9 cX9_readCondition 6 (some .boolean) false (rmD (dp + 1 + 6)) P M [some (.ref (ad 1900 0)), some (.int (x1)), some (.int (x2)), some (.int (x3)), some (.int (x4)), d5] 0 0 13 [] := by
  intro n
  induction n with
  | zero => intros; rename_i h; cases h
  | succ n ih => exact fun hR h => S_X9_readCondition_13 (fun l => hrc_X9_readPiece l) (fun hR h => ih hR h) (fun hR h => hkx30 hR h) (fun hR h => hkx70 hR h) (fun hR h => hkx108 hR h) hp hR h
theorem S_X9_readCondition_0 {E : EN} {X : CX} {P : Option Value → MH → Prop} {ad : AD} {fu : Nat} {dp : Nat} {out : Int32 × St} {rc_X9_readPiece : St → Int32 → RR} (hrc_X9_readPiece : ∀ (l : Launch) {V : St} {M : MH} {o : Int32 × St} {x1 : Int32}, Rep E ad V M → rc_X9_readPiece V x1 = some o → Ct E l yX9_readPiece cX9_readPiece 4 (some .boolean) (rmD (dp + 6)) [.ref (ad 1900 0), .int (x1)] M (fun v M => v = (some (.int o.1)) ∧ Rep E ad o.2 M)) (hp : ∀ M, Rep E ad out.2 M → P (some (.int out.1)) M) {V : St} {M : MH} {x1 : Int32} (hR : Rep E ad V M) (h : fb_X9_readCondition rc_X9_readPiece fu V x1 = some out) : G E X RX9 cX9_readCondition 6 (some .boolean) false (rmD (dp + 1 + 6)) P M [some (.ref (ad 1900 0)), some (.int (x1)), none, none, none, none] 0 0 0 [] := by
  unfold fb_X9_readCondition at h
  refine r_aload_n DX9_readCondition_0 rfl ?_
  refine s_geti DX9_readCondition_1 fl_X9_31 hR ct_1900 (one_cnt _) rfl ?_
  refine t_istore_n (L' := [some (.ref (ad 1900 0)), some (.int (x1)), some (.int ((V 1907 0 0))), none, none, none]) DX9_readCondition_4 (by decide) rfl ?_
  refine r_aload_n DX9_readCondition_5 rfl ?_
  refine s_geti DX9_readCondition_6 fl_X9_31 hR ct_1900 (one_cnt _) rfl ?_
  refine t_istore_n (L' := [some (.ref (ad 1900 0)), some (.int (x1)), some (.int ((V 1907 0 0))), some (.int ((V 1907 0 0))), none, none]) DX9_readCondition_9 (by decide) rfl ?_
  refine r_iconst (v := 0) DX9_readCondition_10 ki_0 ?_
  refine t_istore (L' := [some (.ref (ad 1900 0)), some (.int (x1)), some (.int ((V 1907 0 0))), some (.int ((V 1907 0 0))), some (.int ((0 : Int32))), none]) DX9_readCondition_11 (by decide) rfl ?_
  exact SL_X9_readCondition_13 (fun l => hrc_X9_readPiece l) (fun hR h => S_X9_readCondition_30 (fun l => hrc_X9_readPiece l) hp hR h) (fun hR h => S_X9_readCondition_70 (fun l => hrc_X9_readPiece l) hp hR h) (fun hR h => S_X9_readCondition_108 (fun l => hrc_X9_readPiece l) hp hR h) hp fu hR h
theorem CB_X9_readCondition {E : EN} {ad : AD} {fu : Nat} {dp : Nat} {out : Int32 × St} {rc_X9_readPiece : St → Int32 → RR} (hrc_X9_readPiece : ∀ (l : Launch) {V : St} {M : MH} {o : Int32 × St} {x1 : Int32}, Rep E ad V M → rc_X9_readPiece V x1 = some o → Ct E l yX9_readPiece cX9_readPiece 4 (some .boolean) (rmD (dp + 6)) [.ref (ad 1900 0), .int (x1)] M (fun v M => v = (some (.int o.1)) ∧ Rep E ad o.2 M)) {V : St} {M : MH} {x1 : Int32} (l : Launch) (hR : Rep E ad V M) (h : fb_X9_readCondition rc_X9_readPiece fu V x1 = some out) : Ct E l yX9_readCondition cX9_readCondition 6 (some .boolean) (rmD (dp + 1 + 6)) [.ref (ad 1900 0), .int (x1)] M (fun v M => v = (some (.int out.1)) ∧ Rep E ad out.2 M) :=
  Ct.of (own := RX9) (ini := false) (L := [some (.ref (ad 1900 0)), some (.int (x1)), none, none, none, none]) rfl rfl (fun h => by cases h) rfl (Nat.le_of_ble_eq_true rfl) rfl (fun X _ => S_X9_readCondition_0 (fun l => hrc_X9_readPiece l) (fun M hR => ⟨rfl, hR⟩) hR h)
theorem S_X9_readPiece_158 {E : EN} {X : CX} {P : Option Value → MH → Prop} {ad : AD} {fu : Nat} {dp : Nat} {out : Int32 × St} {rc_X9_readCondition : St → Int32 → RR} {rc_X9_readPiece : St → Int32 → RR} {rc_X9_readSum : St → Int32 → RR} (hrc_X9_readCondition : ∀ (l : Launch) {V : St} {M : MH} {o : Int32 × St} {x1 : Int32}, Rep E ad V M → rc_X9_readCondition V x1 = some o → Ct E l yX9_readCondition cX9_readCondition 6 (some .boolean) (rmD (dp + 6)) [.ref (ad 1900 0), .int (x1)] M (fun v M => v = (some (.int o.1)) ∧ Rep E ad o.2 M)) (hrc_X9_readPiece : ∀ (l : Launch) {V : St} {M : MH} {o : Int32 × St} {x1 : Int32}, Rep E ad V M → rc_X9_readPiece V x1 = some o → Ct E l yX9_readPiece cX9_readPiece 4 (some .boolean) (rmD (dp + 6)) [.ref (ad 1900 0), .int (x1)] M (fun v M => v = (some (.int o.1)) ∧ Rep E ad o.2 M)) (hrc_X9_readSum : ∀ (l : Launch) {V : St} {M : MH} {o : Int32 × St} {x1 : Int32}, Rep E ad V M → rc_X9_readSum V x1 = some o → Ct E l yX9_readSum cX9_readSum 6 (some .boolean) (rmD (dp + 6)) [.ref (ad 1900 0), .int (x1)] M (fun v M => v = (some (.int o.1)) ∧ Rep E ad o.2 M)) (hp : ∀ M, Rep E ad out.2 M → P (some (.int out.1)) M) {V : St} {M : MH} {s0 : Int32} {d0 : Option Value} {d1 : Option Value} {d2 : Option Value} {d3 : Option Value} (hR : Rep E ad V M) (h : F_X9_readPiece_158 rc_X9_readCondition rc_X9_readPiece rc_X9_readSum fu V s0 = some out) : G E X RX9 cX9_readPiece 4 (some .boolean) false (rmD (dp + 1 + 6)) P M [d0, d1, d2, d3] 0 0 158 [.int (s0)] := by
  unfold F_X9_readPiece_158 at h
  obtain ⟨hz1, h⟩ := gd_inv h
  cases h
  exact r_zret DX9_readPiece_158 rfl (nz_nar hz1) ⟨Nat.le_refl 0, Nat.le_refl 0⟩ (hp M hR)
theorem S_X9_readPiece_157 {E : EN} {X : CX} {P : Option Value → MH → Prop} {ad : AD} {fu : Nat} {dp : Nat} {out : Int32 × St} {rc_X9_readCondition : St → Int32 → RR} {rc_X9_readPiece : St → Int32 → RR} {rc_X9_readSum : St → Int32 → RR} (hrc_X9_readCondition : ∀ (l : Launch) {V : St} {M : MH} {o : Int32 × St} {x1 : Int32}, Rep E ad V M → rc_X9_readCondition V x1 = some o → Ct E l yX9_readCondition cX9_readCondition 6 (some .boolean) (rmD (dp + 6)) [.ref (ad 1900 0), .int (x1)] M (fun v M => v = (some (.int o.1)) ∧ Rep E ad o.2 M)) (hrc_X9_readPiece : ∀ (l : Launch) {V : St} {M : MH} {o : Int32 × St} {x1 : Int32}, Rep E ad V M → rc_X9_readPiece V x1 = some o → Ct E l yX9_readPiece cX9_readPiece 4 (some .boolean) (rmD (dp + 6)) [.ref (ad 1900 0), .int (x1)] M (fun v M => v = (some (.int o.1)) ∧ Rep E ad o.2 M)) (hrc_X9_readSum : ∀ (l : Launch) {V : St} {M : MH} {o : Int32 × St} {x1 : Int32}, Rep E ad V M → rc_X9_readSum V x1 = some o → Ct E l yX9_readSum cX9_readSum 6 (some .boolean) (rmD (dp + 6)) [.ref (ad 1900 0), .int (x1)] M (fun v M => v = (some (.int o.1)) ∧ Rep E ad o.2 M)) (hp : ∀ M, Rep E ad out.2 M → P (some (.int out.1)) M) {V : St} {M : MH} {d0 : Option Value} {d1 : Option Value} {d2 : Option Value} {d3 : Option Value} (hR : Rep E ad V M) (h : F_X9_readPiece_157 rc_X9_readCondition rc_X9_readPiece rc_X9_readSum fu V = some out) : G E X RX9 cX9_readPiece 4 (some .boolean) false (rmD (dp + 1 + 6)) P M [d0, d1, d2, d3] 0 0 157 [] := by
  unfold F_X9_readPiece_157 at h
  refine r_iconst (v := 0) DX9_readPiece_157 ki_0 ?_
  exact S_X9_readPiece_158 (fun l => hrc_X9_readCondition l) (fun l => hrc_X9_readPiece l) (fun l => hrc_X9_readSum l) hp hR h
theorem S_X9_readPiece_95 {E : EN} {X : CX} {P : Option Value → MH → Prop} {ad : AD} {fu : Nat} {dp : Nat} {out : Int32 × St} {rc_X9_readCondition : St → Int32 → RR} {rc_X9_readPiece : St → Int32 → RR} {rc_X9_readSum : St → Int32 → RR} (hrc_X9_readCondition : ∀ (l : Launch) {V : St} {M : MH} {o : Int32 × St} {x1 : Int32}, Rep E ad V M → rc_X9_readCondition V x1 = some o → Ct E l yX9_readCondition cX9_readCondition 6 (some .boolean) (rmD (dp + 6)) [.ref (ad 1900 0), .int (x1)] M (fun v M => v = (some (.int o.1)) ∧ Rep E ad o.2 M)) (hrc_X9_readPiece : ∀ (l : Launch) {V : St} {M : MH} {o : Int32 × St} {x1 : Int32}, Rep E ad V M → rc_X9_readPiece V x1 = some o → Ct E l yX9_readPiece cX9_readPiece 4 (some .boolean) (rmD (dp + 6)) [.ref (ad 1900 0), .int (x1)] M (fun v M => v = (some (.int o.1)) ∧ Rep E ad o.2 M)) (hrc_X9_readSum : ∀ (l : Launch) {V : St} {M : MH} {o : Int32 × St} {x1 : Int32}, Rep E ad V M → rc_X9_readSum V x1 = some o → Ct E l yX9_readSum cX9_readSum 6 (some .boolean) (rmD (dp + 6)) [.ref (ad 1900 0), .int (x1)] M (fun v M => v = (some (.int o.1)) ∧ Rep E ad o.2 M)) (hp : ∀ M, Rep E ad out.2 M → P (some (.int out.1)) M) {V : St} {M : MH} {s0 : Int32} {d0 : Option Value} {d1 : Option Value} {d2 : Option Value} {d3 : Option Value} (hR : Rep E ad V M) (h : F_X9_readPiece_95 rc_X9_readCondition rc_X9_readPiece rc_X9_readSum fu V s0 = some out) : G E X RX9 cX9_readPiece 4 (some .boolean) false (rmD (dp + 1 + 6)) P M [d0, d1, d2, d3] 0 0 95 [.int (s0)] := by
  unfold F_X9_readPiece_95 at h
  obtain ⟨hz1, h⟩ := gd_inv h
  cases h
  exact r_zret DX9_readPiece_95 rfl (nz_nar hz1) ⟨Nat.le_refl 0, Nat.le_refl 0⟩ (hp M hR)
theorem S_X9_readPiece_94 {E : EN} {X : CX} {P : Option Value → MH → Prop} {ad : AD} {fu : Nat} {dp : Nat} {out : Int32 × St} {rc_X9_readCondition : St → Int32 → RR} {rc_X9_readPiece : St → Int32 → RR} {rc_X9_readSum : St → Int32 → RR} (hrc_X9_readCondition : ∀ (l : Launch) {V : St} {M : MH} {o : Int32 × St} {x1 : Int32}, Rep E ad V M → rc_X9_readCondition V x1 = some o → Ct E l yX9_readCondition cX9_readCondition 6 (some .boolean) (rmD (dp + 6)) [.ref (ad 1900 0), .int (x1)] M (fun v M => v = (some (.int o.1)) ∧ Rep E ad o.2 M)) (hrc_X9_readPiece : ∀ (l : Launch) {V : St} {M : MH} {o : Int32 × St} {x1 : Int32}, Rep E ad V M → rc_X9_readPiece V x1 = some o → Ct E l yX9_readPiece cX9_readPiece 4 (some .boolean) (rmD (dp + 6)) [.ref (ad 1900 0), .int (x1)] M (fun v M => v = (some (.int o.1)) ∧ Rep E ad o.2 M)) (hrc_X9_readSum : ∀ (l : Launch) {V : St} {M : MH} {o : Int32 × St} {x1 : Int32}, Rep E ad V M → rc_X9_readSum V x1 = some o → Ct E l yX9_readSum cX9_readSum 6 (some .boolean) (rmD (dp + 6)) [.ref (ad 1900 0), .int (x1)] M (fun v M => v = (some (.int o.1)) ∧ Rep E ad o.2 M)) (hp : ∀ M, Rep E ad out.2 M → P (some (.int out.1)) M) {V : St} {M : MH} {d0 : Option Value} {d1 : Option Value} {d2 : Option Value} {d3 : Option Value} (hR : Rep E ad V M) (h : F_X9_readPiece_94 rc_X9_readCondition rc_X9_readPiece rc_X9_readSum fu V = some out) : G E X RX9 cX9_readPiece 4 (some .boolean) false (rmD (dp + 1 + 6)) P M [d0, d1, d2, d3] 0 0 94 [] := by
  unfold F_X9_readPiece_94 at h
  refine r_iconst (v := 0) DX9_readPiece_94 ki_0 ?_
  exact S_X9_readPiece_95 (fun l => hrc_X9_readCondition l) (fun l => hrc_X9_readPiece l) (fun l => hrc_X9_readSum l) hp hR h
theorem S_X9_readPiece_69 {E : EN} {X : CX} {P : Option Value → MH → Prop} {ad : AD} {fu : Nat} {dp : Nat} {out : Int32 × St} {rc_X9_readCondition : St → Int32 → RR} {rc_X9_readPiece : St → Int32 → RR} {rc_X9_readSum : St → Int32 → RR} (hrc_X9_readCondition : ∀ (l : Launch) {V : St} {M : MH} {o : Int32 × St} {x1 : Int32}, Rep E ad V M → rc_X9_readCondition V x1 = some o → Ct E l yX9_readCondition cX9_readCondition 6 (some .boolean) (rmD (dp + 6)) [.ref (ad 1900 0), .int (x1)] M (fun v M => v = (some (.int o.1)) ∧ Rep E ad o.2 M)) (hrc_X9_readPiece : ∀ (l : Launch) {V : St} {M : MH} {o : Int32 × St} {x1 : Int32}, Rep E ad V M → rc_X9_readPiece V x1 = some o → Ct E l yX9_readPiece cX9_readPiece 4 (some .boolean) (rmD (dp + 6)) [.ref (ad 1900 0), .int (x1)] M (fun v M => v = (some (.int o.1)) ∧ Rep E ad o.2 M)) (hrc_X9_readSum : ∀ (l : Launch) {V : St} {M : MH} {o : Int32 × St} {x1 : Int32}, Rep E ad V M → rc_X9_readSum V x1 = some o → Ct E l yX9_readSum cX9_readSum 6 (some .boolean) (rmD (dp + 6)) [.ref (ad 1900 0), .int (x1)] M (fun v M => v = (some (.int o.1)) ∧ Rep E ad o.2 M)) (hp : ∀ M, Rep E ad out.2 M → P (some (.int out.1)) M) {V : St} {M : MH} {s0 : Int32} {d0 : Option Value} {d1 : Option Value} {d2 : Option Value} {d3 : Option Value} (hR : Rep E ad V M) (h : F_X9_readPiece_69 rc_X9_readCondition rc_X9_readPiece rc_X9_readSum fu V s0 = some out) : G E X RX9 cX9_readPiece 4 (some .boolean) false (rmD (dp + 1 + 6)) P M [d0, d1, d2, d3] 0 0 69 [.int (s0)] := by
  unfold F_X9_readPiece_69 at h
  obtain ⟨hz1, h⟩ := gd_inv h
  cases h
  exact r_zret DX9_readPiece_69 rfl (nz_nar hz1) ⟨Nat.le_refl 0, Nat.le_refl 0⟩ (hp M hR)
theorem S_X9_readPiece_68 {E : EN} {X : CX} {P : Option Value → MH → Prop} {ad : AD} {fu : Nat} {dp : Nat} {out : Int32 × St} {rc_X9_readCondition : St → Int32 → RR} {rc_X9_readPiece : St → Int32 → RR} {rc_X9_readSum : St → Int32 → RR} (hrc_X9_readCondition : ∀ (l : Launch) {V : St} {M : MH} {o : Int32 × St} {x1 : Int32}, Rep E ad V M → rc_X9_readCondition V x1 = some o → Ct E l yX9_readCondition cX9_readCondition 6 (some .boolean) (rmD (dp + 6)) [.ref (ad 1900 0), .int (x1)] M (fun v M => v = (some (.int o.1)) ∧ Rep E ad o.2 M)) (hrc_X9_readPiece : ∀ (l : Launch) {V : St} {M : MH} {o : Int32 × St} {x1 : Int32}, Rep E ad V M → rc_X9_readPiece V x1 = some o → Ct E l yX9_readPiece cX9_readPiece 4 (some .boolean) (rmD (dp + 6)) [.ref (ad 1900 0), .int (x1)] M (fun v M => v = (some (.int o.1)) ∧ Rep E ad o.2 M)) (hrc_X9_readSum : ∀ (l : Launch) {V : St} {M : MH} {o : Int32 × St} {x1 : Int32}, Rep E ad V M → rc_X9_readSum V x1 = some o → Ct E l yX9_readSum cX9_readSum 6 (some .boolean) (rmD (dp + 6)) [.ref (ad 1900 0), .int (x1)] M (fun v M => v = (some (.int o.1)) ∧ Rep E ad o.2 M)) (hp : ∀ M, Rep E ad out.2 M → P (some (.int out.1)) M) {V : St} {M : MH} {d0 : Option Value} {d1 : Option Value} {d2 : Option Value} {d3 : Option Value} (hR : Rep E ad V M) (h : F_X9_readPiece_68 rc_X9_readCondition rc_X9_readPiece rc_X9_readSum fu V = some out) : G E X RX9 cX9_readPiece 4 (some .boolean) false (rmD (dp + 1 + 6)) P M [d0, d1, d2, d3] 0 0 68 [] := by
  unfold F_X9_readPiece_68 at h
  refine r_iconst (v := 0) DX9_readPiece_68 ki_0 ?_
  exact S_X9_readPiece_69 (fun l => hrc_X9_readCondition l) (fun l => hrc_X9_readPiece l) (fun l => hrc_X9_readSum l) hp hR h
theorem S_X9_readPiece_17 {E : EN} {X : CX} {P : Option Value → MH → Prop} {ad : AD} {fu : Nat} {dp : Nat} {out : Int32 × St} {rc_X9_readCondition : St → Int32 → RR} {rc_X9_readPiece : St → Int32 → RR} {rc_X9_readSum : St → Int32 → RR} (hrc_X9_readCondition : ∀ (l : Launch) {V : St} {M : MH} {o : Int32 × St} {x1 : Int32}, Rep E ad V M → rc_X9_readCondition V x1 = some o → Ct E l yX9_readCondition cX9_readCondition 6 (some .boolean) (rmD (dp + 6)) [.ref (ad 1900 0), .int (x1)] M (fun v M => v = (some (.int o.1)) ∧ Rep E ad o.2 M)) (hrc_X9_readPiece : ∀ (l : Launch) {V : St} {M : MH} {o : Int32 × St} {x1 : Int32}, Rep E ad V M → rc_X9_readPiece V x1 = some o → Ct E l yX9_readPiece cX9_readPiece 4 (some .boolean) (rmD (dp + 6)) [.ref (ad 1900 0), .int (x1)] M (fun v M => v = (some (.int o.1)) ∧ Rep E ad o.2 M)) (hrc_X9_readSum : ∀ (l : Launch) {V : St} {M : MH} {o : Int32 × St} {x1 : Int32}, Rep E ad V M → rc_X9_readSum V x1 = some o → Ct E l yX9_readSum cX9_readSum 6 (some .boolean) (rmD (dp + 6)) [.ref (ad 1900 0), .int (x1)] M (fun v M => v = (some (.int o.1)) ∧ Rep E ad o.2 M)) (hp : ∀ M, Rep E ad out.2 M → P (some (.int out.1)) M) {V : St} {M : MH} {x1 : Int32} {x2 : Int32} {d3 : Option Value} (hR : Rep E ad V M) (h : F_X9_readPiece_17 rc_X9_readCondition rc_X9_readPiece rc_X9_readSum fu V x1 x2 = some out) : G E X RX9 cX9_readPiece 4 (some .boolean) false (rmD (dp + 1 + 6)) P M [some (.ref (ad 1900 0)), some (.int (x1)), some (.int (x2)), d3] 0 0 17 [] := by
  unfold F_X9_readPiece_17 at h
  refine r_iload_n DX9_readPiece_17 rfl ?_
  refine r_bipush (v := 6) DX9_readPiece_18 kb_6 ?_
  refine r_icmp_lt DX9_readPiece_20 (fun c1 => ?_) (fun c1 => ?_)
  · have h := if_t c1 h
    refine r_aload_n DX9_readPiece_29 rfl ?_
    refine r_dup DX9_readPiece_30 rfl ?_
    refine s_geti DX9_readPiece_31 fl_X9_41 hR ct_1900 (one_cnt _) rfl ?_
    refine r_iconst (v := 1) DX9_readPiece_34 ki_1 ?_
    refine r_iadd DX9_readPiece_35 ?_
    obtain ⟨V2, hv3, h⟩ := bv_inv h
    refine s_puti DX9_readPiece_36 fp_X9_41 hR oks_1910 ct_1900 (one_cnt _) rfl rfl rfl (fun M hR => ?_)
    have hR := hR.cg hv3
    refine r_iload_n DX9_readPiece_39 rfl ?_
    refine r_bipush (v := 40) DX9_readPiece_40 kb_40 ?_
    refine r_icmp_ne DX9_readPiece_42 (fun c4 => ?_) (fun c4 => ?_)
    · have h := if_f c4 h
      refine r_aload_n DX9_readPiece_70 rfl ?_
      refine r_iload_n DX9_readPiece_71 rfl ?_
      refine r_iconst (v := 1) DX9_readPiece_72 ki_1 ?_
      refine r_iadd DX9_readPiece_73 ?_
      obtain ⟨r5, V6, hc7, h⟩ := bd_inv h
      refine k_callV (As := [.int (x1 + (1 : Int32))]) (rest := []) (st1 := [.int (r5)]) (w := some (.int r5)) DX9_readPiece_74 cv_X9_85 hR ct_1900 (one_cnt _) rfl (hrc_X9_readPiece (o := (r5, V6)) (cxL X) hR hc7) rfl (by omega) (by decide) rfl (Nat.le_of_ble_eq_true rfl) rfl (fun M hR => ?_)
      refine r_if_eq DX9_readPiece_77 (fun c8 => ?_) (fun c8 => ?_)
      · have h := if_t c8 h
        exact S_X9_readPiece_94 (fun l => hrc_X9_readCondition l) (fun l => hrc_X9_readPiece l) (fun l => hrc_X9_readSum l) hp hR h
      · have h := if_f c8 h
        refine r_aload_n DX9_readPiece_80 rfl ?_
        refine r_bipush (v := 33) DX9_readPiece_81 kb_33 ?_
        refine r_iconst (v := 0) DX9_readPiece_83 ki_0 ?_
        obtain ⟨r9, V10, hc11, h⟩ := bd_inv h
        refine k_callV (As := [.int ((33 : Int32)), .int ((0 : Int32))]) (rest := []) (st1 := [.int (r9)]) (w := some (.int r9)) DX9_readPiece_84 cv_X9_88 hR ct_1900 (one_cnt _) rfl (C_X9_emit (out := (r9, V10)) (cxL X) hR hc11) rfl (by omega) (by decide) rfl (Nat.le_of_ble_eq_true rfl) rfl (fun M hR => ?_)
        refine r_if_eq DX9_readPiece_87 (fun c12 => ?_) (fun c12 => ?_)
        · have h := if_t c12 h
          exact S_X9_readPiece_94 (fun l => hrc_X9_readCondition l) (fun l => hrc_X9_readPiece l) (fun l => hrc_X9_readSum l) hp hR h
        · have h := if_f c12 h
          refine r_iconst (v := 1) DX9_readPiece_90 ki_1 ?_
          refine r_goto DX9_readPiece_91 ?_
          exact S_X9_readPiece_95 (fun l => hrc_X9_readCondition l) (fun l => hrc_X9_readPiece l) (fun l => hrc_X9_readSum l) hp hR h
    · have h := if_t c4 h
      refine r_aload_n DX9_readPiece_45 rfl ?_
      refine r_iload_n DX9_readPiece_46 rfl ?_
      refine r_iconst (v := 1) DX9_readPiece_47 ki_1 ?_
      refine r_iadd DX9_readPiece_48 ?_
      obtain ⟨r8, V9, hc10, h⟩ := bd_inv h
      refine k_callV (As := [.int (x1 + (1 : Int32))]) (rest := []) (st1 := [.int (r8)]) (w := some (.int r8)) DX9_readPiece_49 cv_X9_82 hR ct_1900 (one_cnt _) rfl (hrc_X9_readCondition (o := (r8, V9)) (cxL X) hR hc10) rfl (by omega) (by decide) rfl (Nat.le_of_ble_eq_true rfl) rfl (fun M hR => ?_)
      refine r_if_eq DX9_readPiece_52 (fun c11 => ?_) (fun c11 => ?_)
      · have h := if_t c11 h
        exact S_X9_readPiece_68 (fun l => hrc_X9_readCondition l) (fun l => hrc_X9_readPiece l) (fun l => hrc_X9_readSum l) hp hR h
      · have h := if_f c11 h
        refine r_aload_n DX9_readPiece_55 rfl ?_
        refine r_bipush (v := 41) DX9_readPiece_56 kb_41 ?_
        obtain ⟨r12, V13, hc14, h⟩ := bd_inv h
        refine k_callV (As := [.int ((41 : Int32))]) (rest := []) (st1 := [.int (r12)]) (w := some (.int r12)) DX9_readPiece_58 cv_X9_57 hR ct_1900 (one_cnt _) rfl (C_X9_take (out := (r12, V13)) (cxL X) hR hc14) rfl (by omega) (by decide) rfl (Nat.le_of_ble_eq_true rfl) rfl (fun M hR => ?_)
        refine r_if_eq DX9_readPiece_61 (fun c15 => ?_) (fun c15 => ?_)
        · have h := if_t c15 h
          exact S_X9_readPiece_68 (fun l => hrc_X9_readCondition l) (fun l => hrc_X9_readPiece l) (fun l => hrc_X9_readSum l) hp hR h
        · have h := if_f c15 h
          refine r_iconst (v := 1) DX9_readPiece_64 ki_1 ?_
          refine r_goto DX9_readPiece_65 ?_
          exact S_X9_readPiece_69 (fun l => hrc_X9_readCondition l) (fun l => hrc_X9_readPiece l) (fun l => hrc_X9_readSum l) hp hR h
  · have h := if_f c1 h
    refine r_aload_n DX9_readPiece_23 rfl ?_
    refine r_iconst (v := 5) DX9_readPiece_24 ki_5 ?_
    obtain ⟨r4, V5, hc6, h⟩ := bd_inv h
    refine k_callV (As := [.int ((5 : Int32))]) (rest := []) (st1 := [.int (r4)]) (w := some (.int r4)) DX9_readPiece_25 cv_X9_71 hR ct_1900 (one_cnt _) rfl (C_X9_fail (out := (r4, V5)) (cxL X) hR hc6) rfl (by omega) (by decide) rfl (Nat.le_of_ble_eq_true rfl) rfl (fun M hR => ?_)
    obtain ⟨hz7, h⟩ := gd_inv h
    cases h
    exact r_zret DX9_readPiece_28 rfl (nz_nar hz7) ⟨Nat.le_refl 0, Nat.le_refl 0⟩ (hp M hR)
theorem S_X9_readPiece_0 {E : EN} {X : CX} {P : Option Value → MH → Prop} {ad : AD} {fu : Nat} {dp : Nat} {out : Int32 × St} {rc_X9_readCondition : St → Int32 → RR} {rc_X9_readPiece : St → Int32 → RR} {rc_X9_readSum : St → Int32 → RR} (hrc_X9_readCondition : ∀ (l : Launch) {V : St} {M : MH} {o : Int32 × St} {x1 : Int32}, Rep E ad V M → rc_X9_readCondition V x1 = some o → Ct E l yX9_readCondition cX9_readCondition 6 (some .boolean) (rmD (dp + 6)) [.ref (ad 1900 0), .int (x1)] M (fun v M => v = (some (.int o.1)) ∧ Rep E ad o.2 M)) (hrc_X9_readPiece : ∀ (l : Launch) {V : St} {M : MH} {o : Int32 × St} {x1 : Int32}, Rep E ad V M → rc_X9_readPiece V x1 = some o → Ct E l yX9_readPiece cX9_readPiece 4 (some .boolean) (rmD (dp + 6)) [.ref (ad 1900 0), .int (x1)] M (fun v M => v = (some (.int o.1)) ∧ Rep E ad o.2 M)) (hrc_X9_readSum : ∀ (l : Launch) {V : St} {M : MH} {o : Int32 × St} {x1 : Int32}, Rep E ad V M → rc_X9_readSum V x1 = some o → Ct E l yX9_readSum cX9_readSum 6 (some .boolean) (rmD (dp + 6)) [.ref (ad 1900 0), .int (x1)] M (fun v M => v = (some (.int o.1)) ∧ Rep E ad o.2 M)) (hp : ∀ M, Rep E ad out.2 M → P (some (.int out.1)) M) {V : St} {M : MH} {x1 : Int32} (hR : Rep E ad V M) (h : fb_X9_readPiece rc_X9_readCondition rc_X9_readPiece rc_X9_readSum fu V x1 = some out) : G E X RX9 cX9_readPiece 4 (some .boolean) false (rmD (dp + 1 + 6)) P M [some (.ref (ad 1900 0)), some (.int (x1)), none, none] 0 0 0 [] := by
  unfold fb_X9_readPiece at h
  refine r_aload_n DX9_readPiece_0 rfl ?_
  obtain ⟨r1, V2, hc3, h⟩ := bd_inv h
  refine k_callV (As := []) (rest := []) (st1 := [.int (r1)]) (w := some (.int r1)) DX9_readPiece_1 cv_X9_61 hR ct_1900 (one_cnt _) rfl (C_X9_here (out := (r1, V2)) (cxL X) hR hc3) rfl (by omega) (by decide) rfl (Nat.le_of_ble_eq_true rfl) rfl (fun M hR => ?_)
  refine t_istore_n (L' := [some (.ref (ad 1900 0)), some (.int (x1)), some (.int (r1)), none]) DX9_readPiece_4 (by decide) rfl ?_
  refine r_iload_n DX9_readPiece_5 rfl ?_
  refine r_bipush (v := 33) DX9_readPiece_6 kb_33 ?_
  refine r_icmp_eq DX9_readPiece_8 (fun c4 => ?_) (fun c4 => ?_)
  · have h := if_t c4 h
    exact S_X9_readPiece_17 (fun l => hrc_X9_readCondition l) (fun l => hrc_X9_readPiece l) (fun l => hrc_X9_readSum l) hp hR h
  · have h := if_f c4 h
    refine r_iload_n DX9_readPiece_11 rfl ?_
    refine r_bipush (v := 40) DX9_readPiece_12 kb_40 ?_
    refine r_icmp_ne DX9_readPiece_14 (fun c5 => ?_) (fun c5 => ?_)
    · have h := if_f c5 h
      refine r_aload_n DX9_readPiece_96 rfl ?_
      refine r_iload_n DX9_readPiece_97 rfl ?_
      obtain ⟨r6, V7, hc8, h⟩ := bd_inv h
      refine k_callV (As := [.int (x1)]) (rest := []) (st1 := [.int (r6)]) (w := some (.int r6)) DX9_readPiece_98 cv_X9_96 hR ct_1900 (one_cnt _) rfl (hrc_X9_readSum (o := (r6, V7)) (cxL X) hR hc8) rfl (by omega) (by decide) rfl (Nat.le_of_ble_eq_true rfl) rfl (fun M hR => ?_)
      refine r_if_ne DX9_readPiece_101 (fun c9 => ?_) (fun c9 => ?_)
      · have h := if_f c9 h
        refine r_aload_n DX9_readPiece_106 rfl ?_
        obtain ⟨r10, V11, hc12, h⟩ := bd_inv h
        refine k_callV (As := []) (rest := []) (st1 := [.int (r10)]) (w := some (.int r10)) DX9_readPiece_107 cv_X9_61 hR ct_1900 (one_cnt _) rfl (C_X9_here (out := (r10, V11)) (cxL X) hR hc12) rfl (by omega) (by decide) rfl (Nat.le_of_ble_eq_true rfl) rfl (fun M hR => ?_)
        refine t_istore_n (L' := [some (.ref (ad 1900 0)), some (.int (x1)), some (.int (r1)), some (.int (r10))]) DX9_readPiece_110 (by decide) rfl ?_
        refine r_ldcS (i := 5) DX9_readPiece_111 rfl ?_
        refine r_iload_n DX9_readPiece_113 rfl ?_
        obtain ⟨r13, V14, hc15, h⟩ := bd_inv h
        refine k_callS (As := [.ref (eK E 5), .int (r10)]) (rest := []) (st1 := [.int (r13)]) (w := some (.int r13)) DX9_readPiece_114 cs_X9_67 (C_X9_isOneOf (out := (r13, V14)) (cxL X) hR hc15) rfl (by omega) (by decide) rfl (Nat.le_of_ble_eq_true rfl) rfl (fun M hR => ?_)
        refine r_if_ne DX9_readPiece_117 (fun c16 => ?_) (fun c16 => ?_)
        · have h := if_f c16 h
          refine r_aload_n DX9_readPiece_126 rfl ?_
          refine r_dup DX9_readPiece_127 rfl ?_
          refine s_geti DX9_readPiece_128 fl_X9_41 hR ct_1900 (one_cnt _) rfl ?_
          refine r_iconst (v := 1) DX9_readPiece_131 ki_1 ?_
          refine r_iadd DX9_readPiece_132 ?_
          obtain ⟨V17, hv18, h⟩ := bv_inv h
          refine s_puti DX9_readPiece_133 fp_X9_41 hR oks_1910 ct_1900 (one_cnt _) rfl rfl rfl (fun M hR => ?_)
          have hR := hR.cg hv18
          refine r_aload_n DX9_readPiece_136 rfl ?_
          refine r_iload_n DX9_readPiece_137 rfl ?_
          obtain ⟨r19, V20, hc21, h⟩ := bd_inv h
          refine k_callV (As := [.int (x1)]) (rest := []) (st1 := [.int (r19)]) (w := some (.int r19)) DX9_readPiece_138 cv_X9_96 hR ct_1900 (one_cnt _) rfl (hrc_X9_readSum (o := (r19, V20)) (cxL X) hR hc21) rfl (by omega) (by decide) rfl (Nat.le_of_ble_eq_true rfl) rfl (fun M hR => ?_)
          refine r_if_eq DX9_readPiece_141 (fun c22 => ?_) (fun c22 => ?_)
          · have h := if_t c22 h
            exact S_X9_readPiece_157 (fun l => hrc_X9_readCondition l) (fun l => hrc_X9_readPiece l) (fun l => hrc_X9_readSum l) hp hR h
          · have h := if_f c22 h
            refine r_aload_n DX9_readPiece_144 rfl ?_
            refine r_iload_n DX9_readPiece_145 rfl ?_
            refine r_iconst (v := 0) DX9_readPiece_146 ki_0 ?_
            obtain ⟨r23, V24, hc25, h⟩ := bd_inv h
            refine k_callV (As := [.int (r10), .int ((0 : Int32))]) (rest := []) (st1 := [.int (r23)]) (w := some (.int r23)) DX9_readPiece_147 cv_X9_88 hR ct_1900 (one_cnt _) rfl (C_X9_emit (out := (r23, V24)) (cxL X) hR hc25) rfl (by omega) (by decide) rfl (Nat.le_of_ble_eq_true rfl) rfl (fun M hR => ?_)
            refine r_if_eq DX9_readPiece_150 (fun c26 => ?_) (fun c26 => ?_)
            · have h := if_t c26 h
              exact S_X9_readPiece_157 (fun l => hrc_X9_readCondition l) (fun l => hrc_X9_readPiece l) (fun l => hrc_X9_readSum l) hp hR h
            · have h := if_f c26 h
              refine r_iconst (v := 1) DX9_readPiece_153 ki_1 ?_
              refine r_goto DX9_readPiece_154 ?_
              exact S_X9_readPiece_158 (fun l => hrc_X9_readCondition l) (fun l => hrc_X9_readPiece l) (fun l => hrc_X9_readSum l) hp hR h
        · have h := if_t c16 h
          refine r_aload_n DX9_readPiece_120 rfl ?_
          refine r_iconst (v := 1) DX9_readPiece_121 ki_1 ?_
          obtain ⟨r22, V23, hc24, h⟩ := bd_inv h
          refine k_callV (As := [.int ((1 : Int32))]) (rest := []) (st1 := [.int (r22)]) (w := some (.int r22)) DX9_readPiece_122 cv_X9_71 hR ct_1900 (one_cnt _) rfl (C_X9_fail (out := (r22, V23)) (cxL X) hR hc24) rfl (by omega) (by decide) rfl (Nat.le_of_ble_eq_true rfl) rfl (fun M hR => ?_)
          obtain ⟨hz25, h⟩ := gd_inv h
          cases h
          exact r_zret DX9_readPiece_125 rfl (nz_nar hz25) ⟨Nat.le_refl 0, Nat.le_refl 0⟩ (hp M hR)
      · have h := if_t c9 h
        refine r_iconst (v := 0) DX9_readPiece_104 ki_0 ?_
        cases h
        exact r_zret DX9_readPiece_105 rfl rfl ⟨Nat.le_refl 0, Nat.le_refl 0⟩ (hp M hR)
    · have h := if_t c5 h
      exact S_X9_readPiece_17 (fun l => hrc_X9_readCondition l) (fun l => hrc_X9_readPiece l) (fun l => hrc_X9_readSum l) hp hR h
theorem CB_X9_readPiece {E : EN} {ad : AD} {fu : Nat} {dp : Nat} {out : Int32 × St} {rc_X9_readCondition : St → Int32 → RR} {rc_X9_readPiece : St → Int32 → RR} {rc_X9_readSum : St → Int32 → RR} (hrc_X9_readCondition : ∀ (l : Launch) {V : St} {M : MH} {o : Int32 × St} {x1 : Int32}, Rep E ad V M → rc_X9_readCondition V x1 = some o → Ct E l yX9_readCondition cX9_readCondition 6 (some .boolean) (rmD (dp + 6)) [.ref (ad 1900 0), .int (x1)] M (fun v M => v = (some (.int o.1)) ∧ Rep E ad o.2 M)) (hrc_X9_readPiece : ∀ (l : Launch) {V : St} {M : MH} {o : Int32 × St} {x1 : Int32}, Rep E ad V M → rc_X9_readPiece V x1 = some o → Ct E l yX9_readPiece cX9_readPiece 4 (some .boolean) (rmD (dp + 6)) [.ref (ad 1900 0), .int (x1)] M (fun v M => v = (some (.int o.1)) ∧ Rep E ad o.2 M)) (hrc_X9_readSum : ∀ (l : Launch) {V : St} {M : MH} {o : Int32 × St} {x1 : Int32}, Rep E ad V M → rc_X9_readSum V x1 = some o → Ct E l yX9_readSum cX9_readSum 6 (some .boolean) (rmD (dp + 6)) [.ref (ad 1900 0), .int (x1)] M (fun v M => v = (some (.int o.1)) ∧ Rep E ad o.2 M)) {V : St} {M : MH} {x1 : Int32} (l : Launch) (hR : Rep E ad V M) (h : fb_X9_readPiece rc_X9_readCondition rc_X9_readPiece rc_X9_readSum fu V x1 = some out) : Ct E l yX9_readPiece cX9_readPiece 4 (some .boolean) (rmD (dp + 1 + 6)) [.ref (ad 1900 0), .int (x1)] M (fun v M => v = (some (.int out.1)) ∧ Rep E ad out.2 M) :=
  Ct.of (own := RX9) (ini := false) (L := [some (.ref (ad 1900 0)), some (.int (x1)), none, none]) rfl rfl (fun h => by cases h) rfl (Nat.le_of_ble_eq_true rfl) rfl (fun X _ => S_X9_readPiece_0 (fun l => hrc_X9_readCondition l) (fun l => hrc_X9_readPiece l) (fun l => hrc_X9_readSum l) (fun M hR => ⟨rfl, hR⟩) hR h)
theorem S_X9_readSum_103 {E : EN} {X : CX} {P : Option Value → MH → Prop} {ad : AD} {fu : Nat} {dp : Nat} {out : Int32 × St} {rc_X9_readFactor : St → Int32 → RR} (hrc_X9_readFactor : ∀ (l : Launch) {V : St} {M : MH} {o : Int32 × St} {x1 : Int32}, Rep E ad V M → rc_X9_readFactor V x1 = some o → Ct E l yX9_readFactor cX9_readFactor 4 (some .boolean) (rmD (dp + 6)) [.ref (ad 1900 0), .int (x1)] M (fun v M => v = (some (.int o.1)) ∧ Rep E ad o.2 M)) (hp : ∀ M, Rep E ad out.2 M → P (some (.int out.1)) M) {V : St} {M : MH} {d1 : Option Value} {d2 : Option Value} {d3 : Option Value} {d4 : Option Value} {d5 : Option Value} (hR : Rep E ad V M) (h : F_X9_readSum_103 rc_X9_readFactor fu V = some out) : G E X RX9 cX9_readSum 6 (some .boolean) false (rmD (dp + 1 + 6)) P M [some (.ref (ad 1900 0)), d1, d2, d3, d4, d5] 0 0 103 [] := by
  unfold F_X9_readSum_103 at h
  refine r_aload_n DX9_readSum_103 rfl ?_
  refine r_iconst (v := 1) DX9_readSum_104 ki_1 ?_
  obtain ⟨r1, V2, hc3, h⟩ := bd_inv h
  refine k_callV (As := [.int ((1 : Int32))]) (rest := []) (st1 := [.int (r1)]) (w := some (.int r1)) DX9_readSum_105 cv_X9_71 hR ct_1900 (one_cnt _) rfl (C_X9_fail (out := (r1, V2)) (cxL X) hR hc3) rfl (by omega) (by decide) rfl (Nat.le_of_ble_eq_true rfl) rfl (fun M hR => ?_)
  obtain ⟨hz4, h⟩ := gd_inv h
  cases h
  exact r_zret DX9_readSum_108 rfl (nz_nar hz4) ⟨Nat.le_refl 0, Nat.le_refl 0⟩ (hp M hR)
theorem S_X9_readSum_87 {E : EN} {X : CX} {P : Option Value → MH → Prop} {ad : AD} {fu : Nat} {dp : Nat} {out : Int32 × St} {rc_X9_readFactor : St → Int32 → RR} {kh : St → Int32 → Int32 → Int32 → Int32 → RR} {kx24 : St → RR} {kx82 : St → RR} {kx103 : St → RR} (hrc_X9_readFactor : ∀ (l : Launch) {V : St} {M : MH} {o : Int32 × St} {x1 : Int32}, Rep E ad V M → rc_X9_readFactor V x1 = some o → Ct E l yX9_readFactor cX9_readFactor 4 (some .boolean) (rmD (dp + 6)) [.ref (ad 1900 0), .int (x1)] M (fun v M => v = (some (.int o.1)) ∧ Rep E ad o.2 M)) (hkh : ∀ {V : St} {M : MH} {x1 : Int32} {x2 : Int32} {x3 : Int32} {x4 : Int32} {d5 : Option Value}, Rep E ad V M → kh V x1 x2 x3 x4 = some out → G E X RX9 cX9_readSum 6 (some .boolean) false (rmD (dp + 1 + 6)) P M [some (.ref (ad 1900 0)), some (.int (x1)), some (.int (x2)), some (.int (x3)), some (.int (x4)), d5] 0 0 7 []) (hkx24 : ∀ {V : St} {M : MH} {d0 : Option Value} {d1 : Option Value} {d2 : Option Value} {d3 : Option Value} {d4 : Option Value} {d5 : Option Value}, Rep E ad V M → kx24 V  = some out → G E X RX9 cX9_readSum 6 (some .boolean) false (rmD (dp + 1 + 6)) P M [d0, d1, d2, d3, d4, d5] 0 0 24 []) (hkx82 : ∀ {V : St} {M : MH} {d0 : Option Value} {d1 : Option Value} {d2 : Option Value} {d3 : Option Value} {d4 : Option Value} {d5 : Option Value}, Rep E ad V M → kx82 V  = some out → G E X RX9 cX9_readSum 6 (some .boolean) false (rmD (dp + 1 + 6)) P M [d0, d1, d2, d3, d4, d5] 0 0 82 []) (hkx103 : ∀ {V : St} {M : MH} {d1 : Option Value} {d2 : Option Value} {d3 : Option Value} {d4 : Option Value} {d5 : Option Value}, Rep E ad V M → kx103 V  = some out → G E X RX9 cX9_readSum 6 (some .boolean) false (rmD (dp + 1 + 6)) P M [some (.ref (ad 1900 0)), d1, d2, d3, d4, d5] 0 0 103 []) (hp : ∀ M, Rep E ad out.2 M → P (some (.int out.1)) M) {V : St} {M : MH} {x1 : Int32} {x2 : Int32} {x3 : Int32} {x4 : Int32} {d5 : Option Value} (hR : Rep E ad V M) (h : F_X9_readSum_87 rc_X9_readFactor kh kx24 kx82 kx103 fu V x1 x2 x3 x4 = some out) : G E X RX9 cX9_readSum 6 (some .boolean) false (rmD (dp + 1 + 6)) P M [some (.ref (ad 1900 0)), some (.int (x1)), some (.int (x2)), some (.int (x3)), some (.int (x4)), d5] 0 0 87 [] := by
  unfold F_X9_readSum_87 at h
  refine r_aload_n DX9_readSum_87 rfl ?_
  refine r_dup DX9_readSum_88 rfl ?_
  refine s_geti DX9_readSum_89 fl_X9_41 hR ct_1900 (one_cnt _) rfl ?_
  refine r_iconst (v := 1) DX9_readSum_92 ki_1 ?_
  refine r_iadd DX9_readSum_93 ?_
  obtain ⟨V1, hv2, h⟩ := bv_inv h
  refine s_puti DX9_readSum_94 fp_X9_41 hR oks_1910 ct_1900 (one_cnt _) rfl rfl rfl (fun M hR => ?_)
  have hR := hR.cg hv2
  refine t_iinc (v := 1) (L' := [some (.ref (ad 1900 0)), some (.int (x1)), some (.int (x2)), some (.int (x3)), some (.int (x4 + 1)), d5]) DX9_readSum_97 rfl ki_1 (by decide) rfl ?_
  refine r_goto DX9_readSum_100 ?_
  exact hkh hR h
theorem S_X9_readSum_82 {E : EN} {X : CX} {P : Option Value → MH → Prop} {ad : AD} {fu : Nat} {dp : Nat} {out : Int32 × St} {rc_X9_readFactor : St → Int32 → RR} (hrc_X9_readFactor : ∀ (l : Launch) {V : St} {M : MH} {o : Int32 × St} {x1 : Int32}, Rep E ad V M → rc_X9_readFactor V x1 = some o → Ct E l yX9_readFactor cX9_readFactor 4 (some .boolean) (rmD (dp + 6)) [.ref (ad 1900 0), .int (x1)] M (fun v M => v = (some (.int o.1)) ∧ Rep E ad o.2 M)) (hp : ∀ M, Rep E ad out.2 M → P (some (.int out.1)) M) {V : St} {M : MH} {d0 : Option Value} {d1 : Option Value} {d2 : Option Value} {d3 : Option Value} {d4 : Option Value} {d5 : Option Value} (hR : Rep E ad V M) (h : F_X9_readSum_82 rc_X9_readFactor fu V = some out) : G E X RX9 cX9_readSum 6 (some .boolean) false (rmD (dp + 1 + 6)) P M [d0, d1, d2, d3, d4, d5] 0 0 82 [] := by
  unfold F_X9_readSum_82 at h
  refine r_iconst (v := 1) DX9_readSum_82 ki_1 ?_
  cases h
  exact r_zret DX9_readSum_83 rfl rfl ⟨Nat.le_refl 0, Nat.le_refl 0⟩ (hp M hR)
theorem S_X9_readSum_72 {E : EN} {X : CX} {P : Option Value → MH → Prop} {ad : AD} {fu : Nat} {dp : Nat} {out : Int32 × St} {rc_X9_readFactor : St → Int32 → RR} {kh : St → Int32 → Int32 → Int32 → Int32 → RR} {kx24 : St → RR} {kx82 : St → RR} {kx103 : St → RR} (hrc_X9_readFactor : ∀ (l : Launch) {V : St} {M : MH} {o : Int32 × St} {x1 : Int32}, Rep E ad V M → rc_X9_readFactor V x1 = some o → Ct E l yX9_readFactor cX9_readFactor 4 (some .boolean) (rmD (dp + 6)) [.ref (ad 1900 0), .int (x1)] M (fun v M => v = (some (.int o.1)) ∧ Rep E ad o.2 M)) (hkh : ∀ {V : St} {M : MH} {x1 : Int32} {x2 : Int32} {x3 : Int32} {x4 : Int32} {d5 : Option Value}, Rep E ad V M → kh V x1 x2 x3 x4 = some out → G E X RX9 cX9_readSum 6 (some .boolean) false (rmD (dp + 1 + 6)) P M [some (.ref (ad 1900 0)), some (.int (x1)), some (.int (x2)), some (.int (x3)), some (.int (x4)), d5] 0 0 7 []) (hkx24 : ∀ {V : St} {M : MH} {d0 : Option Value} {d1 : Option Value} {d2 : Option Value} {d3 : Option Value} {d4 : Option Value} {d5 : Option Value}, Rep E ad V M → kx24 V  = some out → G E X RX9 cX9_readSum 6 (some .boolean) false (rmD (dp + 1 + 6)) P M [d0, d1, d2, d3, d4, d5] 0 0 24 []) (hkx82 : ∀ {V : St} {M : MH} {d0 : Option Value} {d1 : Option Value} {d2 : Option Value} {d3 : Option Value} {d4 : Option Value} {d5 : Option Value}, Rep E ad V M → kx82 V  = some out → G E X RX9 cX9_readSum 6 (some .boolean) false (rmD (dp + 1 + 6)) P M [d0, d1, d2, d3, d4, d5] 0 0 82 []) (hkx103 : ∀ {V : St} {M : MH} {d1 : Option Value} {d2 : Option Value} {d3 : Option Value} {d4 : Option Value} {d5 : Option Value}, Rep E ad V M → kx103 V  = some out → G E X RX9 cX9_readSum 6 (some .boolean) false (rmD (dp + 1 + 6)) P M [some (.ref (ad 1900 0)), d1, d2, d3, d4, d5] 0 0 103 []) (hp : ∀ M, Rep E ad out.2 M → P (some (.int out.1)) M) {V : St} {M : MH} {x1 : Int32} {x3 : Int32} {x4 : Int32} {x5 : Int32} {d2 : Option Value} (hR : Rep E ad V M) (h : F_X9_readSum_72 rc_X9_readFactor kh kx24 kx82 kx103 fu V x1 x3 x4 x5 = some out) : G E X RX9 cX9_readSum 6 (some .boolean) false (rmD (dp + 1 + 6)) P M [some (.ref (ad 1900 0)), some (.int (x1)), d2, some (.int (x3)), some (.int (x4)), some (.int (x5))] 0 0 72 [] := by
  unfold F_X9_readSum_72 at h
  refine r_ldcS (i := 4) DX9_readSum_72 rfl ?_
  refine r_iload DX9_readSum_74 rfl ?_
  obtain ⟨r1, V2, hc3, h⟩ := bd_inv h
  refine k_callS (As := [.ref (eK E 4), .int (x5)]) (rest := []) (st1 := [.int (r1)]) (w := some (.int r1)) DX9_readSum_76 cs_X9_67 (C_X9_isOneOf (out := (r1, V2)) (cxL X) hR hc3) rfl (by omega) (by decide) rfl (Nat.le_of_ble_eq_true rfl) rfl (fun M hR => ?_)
  refine r_if_ne DX9_readSum_79 (fun c4 => ?_) (fun c4 => ?_)
  · have h := if_f c4 h
    refine r_iload DX9_readSum_84 rfl ?_
    refine t_istore_n (L' := [some (.ref (ad 1900 0)), some (.int (x1)), some (.int (x5)), some (.int (x3)), some (.int (x4)), some (.int (x5))]) DX9_readSum_86 (by decide) rfl ?_
    exact S_X9_readSum_87 (fun l => hrc_X9_readFactor l) (fun hR h => hkh hR h) (fun hR h => hkx24 hR h) (fun hR h => hkx82 hR h) (fun hR h => hkx103 hR h) hp hR h
  · have h := if_t c4 h
    exact hkx82 hR h
theorem S_X9_readSum_39 {E : EN} {X : CX} {P : Option Value → MH → Prop} {ad : AD} {fu : Nat} {dp : Nat} {out : Int32 × St} {rc_X9_readFactor : St → Int32 → RR} {kh : St → Int32 → Int32 → Int32 → Int32 → RR} {kx24 : St → RR} {kx82 : St → RR} {kx103 : St → RR} (hrc_X9_readFactor : ∀ (l : Launch) {V : St} {M : MH} {o : Int32 × St} {x1 : Int32}, Rep E ad V M → rc_X9_readFactor V x1 = some o → Ct E l yX9_readFactor cX9_readFactor 4 (some .boolean) (rmD (dp + 6)) [.ref (ad 1900 0), .int (x1)] M (fun v M => v = (some (.int o.1)) ∧ Rep E ad o.2 M)) (hkh : ∀ {V : St} {M : MH} {x1 : Int32} {x2 : Int32} {x3 : Int32} {x4 : Int32} {d5 : Option Value}, Rep E ad V M → kh V x1 x2 x3 x4 = some out → G E X RX9 cX9_readSum 6 (some .boolean) false (rmD (dp + 1 + 6)) P M [some (.ref (ad 1900 0)), some (.int (x1)), some (.int (x2)), some (.int (x3)), some (.int (x4)), d5] 0 0 7 []) (hkx24 : ∀ {V : St} {M : MH} {d0 : Option Value} {d1 : Option Value} {d2 : Option Value} {d3 : Option Value} {d4 : Option Value} {d5 : Option Value}, Rep E ad V M → kx24 V  = some out → G E X RX9 cX9_readSum 6 (some .boolean) false (rmD (dp + 1 + 6)) P M [d0, d1, d2, d3, d4, d5] 0 0 24 []) (hkx82 : ∀ {V : St} {M : MH} {d0 : Option Value} {d1 : Option Value} {d2 : Option Value} {d3 : Option Value} {d4 : Option Value} {d5 : Option Value}, Rep E ad V M → kx82 V  = some out → G E X RX9 cX9_readSum 6 (some .boolean) false (rmD (dp + 1 + 6)) P M [d0, d1, d2, d3, d4, d5] 0 0 82 []) (hkx103 : ∀ {V : St} {M : MH} {d1 : Option Value} {d2 : Option Value} {d3 : Option Value} {d4 : Option Value} {d5 : Option Value}, Rep E ad V M → kx103 V  = some out → G E X RX9 cX9_readSum 6 (some .boolean) false (rmD (dp + 1 + 6)) P M [some (.ref (ad 1900 0)), d1, d2, d3, d4, d5] 0 0 103 []) (hp : ∀ M, Rep E ad out.2 M → P (some (.int out.1)) M) {V : St} {M : MH} {x1 : Int32} {x2 : Int32} {x3 : Int32} {x4 : Int32} {d5 : Option Value} (hR : Rep E ad V M) (h : F_X9_readSum_39 rc_X9_readFactor kh kx24 kx82 kx103 fu V x1 x2 x3 x4 = some out) : G E X RX9 cX9_readSum 6 (some .boolean) false (rmD (dp + 1 + 6)) P M [some (.ref (ad 1900 0)), some (.int (x1)), some (.int (x2)), some (.int (x3)), some (.int (x4)), d5] 0 0 39 [] := by
  unfold F_X9_readSum_39 at h
  refine r_aload_n DX9_readSum_39 rfl ?_
  obtain ⟨r1, V2, hc3, h⟩ := bd_inv h
  refine k_callV (As := []) (rest := []) (st1 := [.int (r1)]) (w := some (.int r1)) DX9_readSum_40 cv_X9_61 hR ct_1900 (one_cnt _) rfl (C_X9_here (out := (r1, V2)) (cxL X) hR hc3) rfl (by omega) (by decide) rfl (Nat.le_of_ble_eq_true rfl) rfl (fun M hR => ?_)
  refine t_istore (L' := [some (.ref (ad 1900 0)), some (.int (x1)), some (.int (x2)), some (.int (x3)), some (.int (x4)), some (.int (r1))]) DX9_readSum_43 (by decide) rfl ?_
  refine r_ldcS (i := 3) DX9_readSum_45 rfl ?_
  refine r_iload DX9_readSum_47 rfl ?_
  obtain ⟨r4, V5, hc6, h⟩ := bd_inv h
  refine k_callS (As := [.ref (eK E 3), .int (r1)]) (rest := []) (st1 := [.int (r4)]) (w := some (.int r4)) DX9_readSum_49 cs_X9_67 (C_X9_isOneOf (out := (r4, V5)) (cxL X) hR hc6) rfl (by omega) (by decide) rfl (Nat.le_of_ble_eq_true rfl) rfl (fun M hR => ?_)
  refine r_if_eq DX9_readSum_52 (fun c7 => ?_) (fun c7 => ?_)
  · have h := if_t c7 h
    refine r_iload_n DX9_readSum_61 rfl ?_
    refine r_if_eq DX9_readSum_62 (fun c8 => ?_) (fun c8 => ?_)
    · have h := if_t c8 h
      exact S_X9_readSum_72 (fun l => hrc_X9_readFactor l) (fun hR h => hkh hR h) (fun hR h => hkx24 hR h) (fun hR h => hkx82 hR h) (fun hR h => hkx103 hR h) hp hR h
    · have h := if_f c8 h
      refine r_aload_n DX9_readSum_65 rfl ?_
      refine r_iload_n DX9_readSum_66 rfl ?_
      refine r_iconst (v := 0) DX9_readSum_67 ki_0 ?_
      obtain ⟨r9, V10, hc11, h⟩ := bd_inv h
      refine k_callV (As := [.int (x2), .int ((0 : Int32))]) (rest := []) (st1 := [.int (r9)]) (w := some (.int r9)) DX9_readSum_68 cv_X9_88 hR ct_1900 (one_cnt _) rfl (C_X9_emit (out := (r9, V10)) (cxL X) hR hc11) rfl (by omega) (by decide) rfl (Nat.le_of_ble_eq_true rfl) rfl (fun M hR => ?_)
      refine r_pop DX9_readSum_71 rfl ?_
      exact S_X9_readSum_72 (fun l => hrc_X9_readFactor l) (fun hR h => hkh hR h) (fun hR h => hkx24 hR h) (fun hR h => hkx82 hR h) (fun hR h => hkx103 hR h) hp hR h
  · have h := if_f c7 h
    refine r_iload DX9_readSum_55 rfl ?_
    refine t_istore_n (L' := [some (.ref (ad 1900 0)), some (.int (x1)), some (.int (x2)), some (.int (r1)), some (.int (x4)), some (.int (r1))]) DX9_readSum_57 (by decide) rfl ?_
    refine r_goto DX9_readSum_58 ?_
    exact S_X9_readSum_87 (fun l => hrc_X9_readFactor l) (fun hR h => hkh hR h) (fun hR h => hkx24 hR h) (fun hR h => hkx82 hR h) (fun hR h => hkx103 hR h) hp hR h
theorem S_X9_readSum_24 {E : EN} {X : CX} {P : Option Value → MH → Prop} {ad : AD} {fu : Nat} {dp : Nat} {out : Int32 × St} {rc_X9_readFactor : St → Int32 → RR} (hrc_X9_readFactor : ∀ (l : Launch) {V : St} {M : MH} {o : Int32 × St} {x1 : Int32}, Rep E ad V M → rc_X9_readFactor V x1 = some o → Ct E l yX9_readFactor cX9_readFactor 4 (some .boolean) (rmD (dp + 6)) [.ref (ad 1900 0), .int (x1)] M (fun v M => v = (some (.int o.1)) ∧ Rep E ad o.2 M)) (hp : ∀ M, Rep E ad out.2 M → P (some (.int out.1)) M) {V : St} {M : MH} {d0 : Option Value} {d1 : Option Value} {d2 : Option Value} {d3 : Option Value} {d4 : Option Value} {d5 : Option Value} (hR : Rep E ad V M) (h : F_X9_readSum_24 rc_X9_readFactor fu V = some out) : G E X RX9 cX9_readSum 6 (some .boolean) false (rmD (dp + 1 + 6)) P M [d0, d1, d2, d3, d4, d5] 0 0 24 [] := by
  unfold F_X9_readSum_24 at h
  refine r_iconst (v := 0) DX9_readSum_24 ki_0 ?_
  cases h
  exact r_zret DX9_readSum_25 rfl rfl ⟨Nat.le_refl 0, Nat.le_refl 0⟩ (hp M hR)
theorem S_X9_readSum_7 {E : EN} {X : CX} {P : Option Value → MH → Prop} {ad : AD} {fu : Nat} {dp : Nat} {out : Int32 × St} {rc_X9_readFactor : St → Int32 → RR} {kh : St → Int32 → Int32 → Int32 → Int32 → RR} {kx24 : St → RR} {kx82 : St → RR} {kx103 : St → RR} (hrc_X9_readFactor : ∀ (l : Launch) {V : St} {M : MH} {o : Int32 × St} {x1 : Int32}, Rep E ad V M → rc_X9_readFactor V x1 = some o → Ct E l yX9_readFactor cX9_readFactor 4 (some .boolean) (rmD (dp + 6)) [.ref (ad 1900 0), .int (x1)] M (fun v M => v = (some (.int o.1)) ∧ Rep E ad o.2 M)) (hkh : ∀ {V : St} {M : MH} {x1 : Int32} {x2 : Int32} {x3 : Int32} {x4 : Int32} {d5 : Option Value}, Rep E ad V M → kh V x1 x2 x3 x4 = some out → G E X RX9 cX9_readSum 6 (some .boolean) false (rmD (dp + 1 + 6)) P M [some (.ref (ad 1900 0)), some (.int (x1)), some (.int (x2)), some (.int (x3)), some (.int (x4)), d5] 0 0 7 []) (hkx24 : ∀ {V : St} {M : MH} {d0 : Option Value} {d1 : Option Value} {d2 : Option Value} {d3 : Option Value} {d4 : Option Value} {d5 : Option Value}, Rep E ad V M → kx24 V  = some out → G E X RX9 cX9_readSum 6 (some .boolean) false (rmD (dp + 1 + 6)) P M [d0, d1, d2, d3, d4, d5] 0 0 24 []) (hkx82 : ∀ {V : St} {M : MH} {d0 : Option Value} {d1 : Option Value} {d2 : Option Value} {d3 : Option Value} {d4 : Option Value} {d5 : Option Value}, Rep E ad V M → kx82 V  = some out → G E X RX9 cX9_readSum 6 (some .boolean) false (rmD (dp + 1 + 6)) P M [d0, d1, d2, d3, d4, d5] 0 0 82 []) (hkx103 : ∀ {V : St} {M : MH} {d1 : Option Value} {d2 : Option Value} {d3 : Option Value} {d4 : Option Value} {d5 : Option Value}, Rep E ad V M → kx103 V  = some out → G E X RX9 cX9_readSum 6 (some .boolean) false (rmD (dp + 1 + 6)) P M [some (.ref (ad 1900 0)), d1, d2, d3, d4, d5] 0 0 103 []) (hp : ∀ M, Rep E ad out.2 M → P (some (.int out.1)) M) {V : St} {M : MH} {x1 : Int32} {x2 : Int32} {x3 : Int32} {x4 : Int32} {d5 : Option Value} (hR : Rep E ad V M) (h : F_X9_readSum_7 rc_X9_readFactor kh kx24 kx82 kx103 fu V x1 x2 x3 x4 = some out) : G E X RX9 cX9_readSum 6 (some .boolean) false (rmD (dp + 1 + 6)) P M [some (.ref (ad 1900 0)), some (.int (x1)), some (.int (x2)), some (.int (x3)), some (.int (x4)), d5] 0 0 7 [] := by
  unfold F_X9_readSum_7 at h
  refine r_iload DX9_readSum_7 rfl ?_
  refine r_aload_n DX9_readSum_9 rfl ?_
  refine s_geti DX9_readSum_10 fl_X9_38 hR ct_1900 (one_cnt _) rfl ?_
  refine r_icmp_gt DX9_readSum_13 (fun c1 => ?_) (fun c1 => ?_)
  · have h := if_t c1 h
    exact hkx103 hR h
  · have h := if_f c1 h
    refine r_aload_n DX9_readSum_16 rfl ?_
    refine r_iload_n DX9_readSum_17 rfl ?_
    obtain ⟨r2, V3, hc4, h⟩ := bd_inv h
    refine k_callV (As := [.int (x1)]) (rest := []) (st1 := [.int (r2)]) (w := some (.int r2)) DX9_readSum_18 cv_X9_101 hR ct_1900 (one_cnt _) rfl (hrc_X9_readFactor (o := (r2, V3)) (cxL X) hR hc4) rfl (by omega) (by decide) rfl (Nat.le_of_ble_eq_true rfl) rfl (fun M hR => ?_)
    refine r_if_ne DX9_readSum_21 (fun c5 => ?_) (fun c5 => ?_)
    · have h := if_f c5 h
      refine r_iload_n DX9_readSum_26 rfl ?_
      refine r_if_eq DX9_readSum_27 (fun c6 => ?_) (fun c6 => ?_)
      · have h := if_t c6 h
        exact S_X9_readSum_39 (fun l => hrc_X9_readFactor l) (fun hR h => hkh hR h) (fun hR h => hkx24 hR h) (fun hR h => hkx82 hR h) (fun hR h => hkx103 hR h) hp hR h
      · have h := if_f c6 h
        refine r_aload_n DX9_readSum_30 rfl ?_
        refine r_iload_n DX9_readSum_31 rfl ?_
        refine r_iconst (v := 0) DX9_readSum_32 ki_0 ?_
        obtain ⟨r7, V8, hc9, h⟩ := bd_inv h
        refine k_callV (As := [.int (x3), .int ((0 : Int32))]) (rest := []) (st1 := [.int (r7)]) (w := some (.int r7)) DX9_readSum_33 cv_X9_88 hR ct_1900 (one_cnt _) rfl (C_X9_emit (out := (r7, V8)) (cxL X) hR hc9) rfl (by omega) (by decide) rfl (Nat.le_of_ble_eq_true rfl) rfl (fun M hR => ?_)
        refine r_pop DX9_readSum_36 rfl ?_
        refine r_iconst (v := 0) DX9_readSum_37 ki_0 ?_
        refine t_istore_n (L' := [some (.ref (ad 1900 0)), some (.int (x1)), some (.int (x2)), some (.int ((0 : Int32))), some (.int (x4)), d5]) DX9_readSum_38 (by decide) rfl ?_
        exact S_X9_readSum_39 (fun l => hrc_X9_readFactor l) (fun hR h => hkh hR h) (fun hR h => hkx24 hR h) (fun hR h => hkx82 hR h) (fun hR h => hkx103 hR h) hp hR h
    · have h := if_t c5 h
      exact hkx24 hR h
theorem SL_X9_readSum_7 {E : EN} {X : CX} {P : Option Value → MH → Prop} {ad : AD} {fu : Nat} {dp : Nat} {out : Int32 × St} {rc_X9_readFactor : St → Int32 → RR} {kx24 : St → RR} {kx82 : St → RR} {kx103 : St → RR} (hrc_X9_readFactor : ∀ (l : Launch) {V : St} {M : MH} {o : Int32 × St} {x1 : Int32}, Rep E ad V M → rc_X9_readFactor V x1 = some o → Ct E l yX9_readFactor cX9_readFactor 4 (some .boolean) (rmD (dp + 6)) [.ref (ad 1900 0), .int (x1)] M (fun v M => v = (some (.int o.1)) ∧ Rep E ad o.2 M)) (hkx24 : ∀ {V : St} {M : MH} {d0 : Option Value} {d1 : Option Value} {d2 : Option Value} {d3 : Option Value} {d4 : Option Value} {d5 : Option Value}, Rep E ad V M → kx24 V  = some out → G E X RX9 cX9_readSum 6 (some .boolean) false (rmD (dp + 1 + 6)) P M [d0, d1, d2, d3, d4, d5] 0 0 24 []) (hkx82 : ∀ {V : St} {M : MH} {d0 : Option Value} {d1 : Option Value} {d2 : Option Value} {d3 : Option Value} {d4 : Option Value} {d5 : Option Value}, Rep E ad V M → kx82 V  = some out → G E X RX9 cX9_readSum 6 (some .boolean) false (rmD (dp + 1 + 6)) P M [d0, d1, d2, d3, d4, d5] 0 0 82 []) (hkx103 : ∀ {V : St} {M : MH} {d1 : Option Value} {d2 : Option Value} {d3 : Option Value} {d4 : Option Value} {d5 : Option Value}, Rep E ad V M → kx103 V  = some out → G E X RX9 cX9_readSum 6 (some .boolean) false (rmD (dp + 1 + 6)) P M [some (.ref (ad 1900 0)), d1, d2, d3, d4, d5] 0 0 103 []) (hp : ∀ M, Rep E ad out.2 M → P (some (.int out.1)) M) : ∀ (n : Nat) {V : St} {M : MH} {x1 : Int32} {x2 : Int32} {x3 : Int32} {x4 : Int32} {d5 : Option Value}, Rep E ad V M → Lp_X9_readSum_7 rc_X9_readFactor kx24 kx82 kx103 fu n V x1 x2 x3 x4 = some out → G E X RX9 cX9_readSum 6 (some .boolean) false (rmD (dp + 1 + 6)) P M [some (.ref (ad 1900 0)), some (.int (x1)), some (.int (x2)), some (.int (x3)), some (.int (x4)), d5] 0 0 7 [] := by
  intro n
  induction n with
  | zero => intros; rename_i h; cases h
  | succ n ih => exact fun hR h => S_X9_readSum_7 (fun l => hrc_X9_readFactor l) (fun hR h => ih hR h) (fun hR h => hkx24 hR h) (fun hR h => hkx82 hR h) (fun hR h => hkx103 hR h) hp hR h
theorem S_X9_readSum_0 {E : EN} {X : CX} {P : Option Value → MH → Prop} {ad : AD} {fu : Nat} {dp : Nat} {out : Int32 × St} {rc_X9_readFactor : St → Int32 → RR} (hrc_X9_readFactor : ∀ (l : Launch) {V : St} {M : MH} {o : Int32 × St} {x1 : Int32}, Rep E ad V M → rc_X9_readFactor V x1 = some o → Ct E l yX9_readFactor cX9_readFactor 4 (some .boolean) (rmD (dp + 6)) [.ref (ad 1900 0), .int (x1)] M (fun v M => v = (some (.int o.1)) ∧ Rep E ad o.2 M)) (hp : ∀ M, Rep E ad out.2 M → P (some (.int out.1)) M) {V : St} {M : MH} {x1 : Int32} (hR : Rep E ad V M) (h : fb_X9_readSum rc_X9_readFactor fu V x1 = some out) : G E X RX9 cX9_readSum 6 (some .boolean) false (rmD (dp + 1 + 6)) P M [some (.ref (ad 1900 0)), some (.int (x1)), none, none, none, none] 0 0 0 [] := by
  unfold fb_X9_readSum at h
  refine r_iconst (v := 0) DX9_readSum_0 ki_0 ?_
  refine t_istore_n (L' := [some (.ref (ad 1900 0)), some (.int (x1)), some (.int ((0 : Int32))), none, none, none]) DX9_readSum_1 (by decide) rfl ?_
  refine r_iconst (v := 0) DX9_readSum_2 ki_0 ?_
  refine t_istore_n (L' := [some (.ref (ad 1900 0)), some (.int (x1)), some (.int ((0 : Int32))), some (.int ((0 : Int32))), none, none]) DX9_readSum_3 (by decide) rfl ?_
  refine r_iconst (v := 0) DX9_readSum_4 ki_0 ?_
  refine t_istore (L' := [some (.ref (ad 1900 0)), some (.int (x1)), some (.int ((0 : Int32))), some (.int ((0 : Int32))), some (.int ((0 : Int32))), none]) DX9_readSum_5 (by decide) rfl ?_
  exact SL_X9_readSum_7 (fun l => hrc_X9_readFactor l) (fun hR h => S_X9_readSum_24 (fun l => hrc_X9_readFactor l) hp hR h) (fun hR h => S_X9_readSum_82 (fun l => hrc_X9_readFactor l) hp hR h) (fun hR h => S_X9_readSum_103 (fun l => hrc_X9_readFactor l) hp hR h) hp fu hR h
theorem CB_X9_readSum {E : EN} {ad : AD} {fu : Nat} {dp : Nat} {out : Int32 × St} {rc_X9_readFactor : St → Int32 → RR} (hrc_X9_readFactor : ∀ (l : Launch) {V : St} {M : MH} {o : Int32 × St} {x1 : Int32}, Rep E ad V M → rc_X9_readFactor V x1 = some o → Ct E l yX9_readFactor cX9_readFactor 4 (some .boolean) (rmD (dp + 6)) [.ref (ad 1900 0), .int (x1)] M (fun v M => v = (some (.int o.1)) ∧ Rep E ad o.2 M)) {V : St} {M : MH} {x1 : Int32} (l : Launch) (hR : Rep E ad V M) (h : fb_X9_readSum rc_X9_readFactor fu V x1 = some out) : Ct E l yX9_readSum cX9_readSum 6 (some .boolean) (rmD (dp + 1 + 6)) [.ref (ad 1900 0), .int (x1)] M (fun v M => v = (some (.int out.1)) ∧ Rep E ad out.2 M) :=
  Ct.of (own := RX9) (ini := false) (L := [some (.ref (ad 1900 0)), some (.int (x1)), none, none, none, none]) rfl rfl (fun h => by cases h) rfl (Nat.le_of_ble_eq_true rfl) rfl (fun X _ => S_X9_readSum_0 (fun l => hrc_X9_readFactor l) (fun M hR => ⟨rfl, hR⟩) hR h)
theorem S_X9_readFactor_98 {E : EN} {X : CX} {P : Option Value → MH → Prop} {ad : AD} {fu : Nat} {dp : Nat} {out : Int32 × St} {rc_X9_readSum : St → Int32 → RR} (hrc_X9_readSum : ∀ (l : Launch) {V : St} {M : MH} {o : Int32 × St} {x1 : Int32}, Rep E ad V M → rc_X9_readSum V x1 = some o → Ct E l yX9_readSum cX9_readSum 6 (some .boolean) (rmD (dp + 6)) [.ref (ad 1900 0), .int (x1)] M (fun v M => v = (some (.int o.1)) ∧ Rep E ad o.2 M)) (hp : ∀ M, Rep E ad out.2 M → P (some (.int out.1)) M) {V : St} {M : MH} {x2 : Int32} {d1 : Option Value} {d3 : Option Value} (hR : Rep E ad V M) (h : F_X9_readFactor_98 rc_X9_readSum fu V x2 = some out) : G E X RX9 cX9_readFactor 4 (some .boolean) false (rmD (dp + 1 + 6)) P M [some (.ref (ad 1900 0)), d1, some (.int (x2)), d3] 0 0 98 [] := by
  unfold F_X9_readFactor_98 at h
  refine r_ldcS (i := 2) DX9_readFactor_98 rfl ?_
  refine r_iload_n DX9_readFactor_100 rfl ?_
  obtain ⟨r1, V2, hc3, h⟩ := bd_inv h
  refine k_callS (As := [.ref (eK E 2), .int (x2)]) (rest := []) (st1 := [.int (r1)]) (w := some (.int r1)) DX9_readFactor_101 cs_X9_67 (C_X9_isOneOf (out := (r1, V2)) (cxL X) hR hc3) rfl (by omega) (by decide) rfl (Nat.le_of_ble_eq_true rfl) rfl (fun M hR => ?_)
  refine r_if_ne DX9_readFactor_104 (fun c4 => ?_) (fun c4 => ?_)
  · have h := if_f c4 h
    refine r_aload_n DX9_readFactor_113 rfl ?_
    refine r_dup DX9_readFactor_114 rfl ?_
    refine s_geti DX9_readFactor_115 fl_X9_41 hR ct_1900 (one_cnt _) rfl ?_
    refine r_iconst (v := 1) DX9_readFactor_118 ki_1 ?_
    refine r_iadd DX9_readFactor_119 ?_
    obtain ⟨V5, hv6, h⟩ := bv_inv h
    refine s_puti DX9_readFactor_120 fp_X9_41 hR oks_1910 ct_1900 (one_cnt _) rfl rfl rfl (fun M hR => ?_)
    have hR := hR.cg hv6
    refine r_aload_n DX9_readFactor_123 rfl ?_
    refine r_bipush (v := 64) DX9_readFactor_124 kb_64 ?_
    refine r_ldcS (i := 2) DX9_readFactor_126 rfl ?_
    refine r_iload_n DX9_readFactor_128 rfl ?_
    refine r_i2c DX9_readFactor_129 ?_
    refine k_indexOf (i := 2) DX9_readFactor_130 cv_X9_110 hR (by decide) (by omega) (Nat.le_of_ble_eq_true rfl) (fun M hR => ?_)
    obtain ⟨r7, V8, hc9, h⟩ := bd_inv h
    refine k_callV (As := [.int ((64 : Int32)), .int ((sIdx 2 (((x2).toUInt32 % 65536).toInt32)))]) (rest := []) (st1 := [.int (r7)]) (w := some (.int r7)) DX9_readFactor_133 cv_X9_88 hR ct_1900 (one_cnt _) rfl (C_X9_emit (out := (r7, V8)) (cxL X) hR hc9) rfl (by omega) (by decide) rfl (Nat.le_of_ble_eq_true rfl) rfl (fun M hR => ?_)
    obtain ⟨hz10, h⟩ := gd_inv h
    cases h
    exact r_zret DX9_readFactor_136 rfl (nz_nar hz10) ⟨Nat.le_refl 0, Nat.le_refl 0⟩ (hp M hR)
  · have h := if_t c4 h
    refine r_aload_n DX9_readFactor_107 rfl ?_
    refine r_iconst (v := 1) DX9_readFactor_108 ki_1 ?_
    obtain ⟨r11, V12, hc13, h⟩ := bd_inv h
    refine k_callV (As := [.int ((1 : Int32))]) (rest := []) (st1 := [.int (r11)]) (w := some (.int r11)) DX9_readFactor_109 cv_X9_71 hR ct_1900 (one_cnt _) rfl (C_X9_fail (out := (r11, V12)) (cxL X) hR hc13) rfl (by omega) (by decide) rfl (Nat.le_of_ble_eq_true rfl) rfl (fun M hR => ?_)
    obtain ⟨hz14, h⟩ := gd_inv h
    cases h
    exact r_zret DX9_readFactor_112 rfl (nz_nar hz14) ⟨Nat.le_refl 0, Nat.le_refl 0⟩ (hp M hR)
theorem S_X9_readFactor_97 {E : EN} {X : CX} {P : Option Value → MH → Prop} {ad : AD} {fu : Nat} {dp : Nat} {out : Int32 × St} {rc_X9_readSum : St → Int32 → RR} (hrc_X9_readSum : ∀ (l : Launch) {V : St} {M : MH} {o : Int32 × St} {x1 : Int32}, Rep E ad V M → rc_X9_readSum V x1 = some o → Ct E l yX9_readSum cX9_readSum 6 (some .boolean) (rmD (dp + 6)) [.ref (ad 1900 0), .int (x1)] M (fun v M => v = (some (.int o.1)) ∧ Rep E ad o.2 M)) (hp : ∀ M, Rep E ad out.2 M → P (some (.int out.1)) M) {V : St} {M : MH} {s0 : Int32} {d0 : Option Value} {d1 : Option Value} {d2 : Option Value} {d3 : Option Value} (hR : Rep E ad V M) (h : F_X9_readFactor_97 rc_X9_readSum fu V s0 = some out) : G E X RX9 cX9_readFactor 4 (some .boolean) false (rmD (dp + 1 + 6)) P M [d0, d1, d2, d3] 0 0 97 [.int (s0)] := by
  unfold F_X9_readFactor_97 at h
  obtain ⟨hz1, h⟩ := gd_inv h
  cases h
  exact r_zret DX9_readFactor_97 rfl (nz_nar hz1) ⟨Nat.le_refl 0, Nat.le_refl 0⟩ (hp M hR)
theorem S_X9_readFactor_96 {E : EN} {X : CX} {P : Option Value → MH → Prop} {ad : AD} {fu : Nat} {dp : Nat} {out : Int32 × St} {rc_X9_readSum : St → Int32 → RR} (hrc_X9_readSum : ∀ (l : Launch) {V : St} {M : MH} {o : Int32 × St} {x1 : Int32}, Rep E ad V M → rc_X9_readSum V x1 = some o → Ct E l yX9_readSum cX9_readSum 6 (some .boolean) (rmD (dp + 6)) [.ref (ad 1900 0), .int (x1)] M (fun v M => v = (some (.int o.1)) ∧ Rep E ad o.2 M)) (hp : ∀ M, Rep E ad out.2 M → P (some (.int out.1)) M) {V : St} {M : MH} {d0 : Option Value} {d1 : Option Value} {d2 : Option Value} {d3 : Option Value} (hR : Rep E ad V M) (h : F_X9_readFactor_96 rc_X9_readSum fu V = some out) : G E X RX9 cX9_readFactor 4 (some .boolean) false (rmD (dp + 1 + 6)) P M [d0, d1, d2, d3] 0 0 96 [] := by
  unfold F_X9_readFactor_96 at h
  refine r_iconst (v := 0) DX9_readFactor_96 ki_0 ?_
  exact S_X9_readFactor_97 (fun l => hrc_X9_readSum l) hp hR h
theorem S_X9_readFactor_57 {E : EN} {X : CX} {P : Option Value → MH → Prop} {ad : AD} {fu : Nat} {dp : Nat} {out : Int32 × St} {rc_X9_readSum : St → Int32 → RR} (hrc_X9_readSum : ∀ (l : Launch) {V : St} {M : MH} {o : Int32 × St} {x1 : Int32}, Rep E ad V M → rc_X9_readSum V x1 = some o → Ct E l yX9_readSum cX9_readSum 6 (some .boolean) (rmD (dp + 6)) [.ref (ad 1900 0), .int (x1)] M (fun v M => v = (some (.int o.1)) ∧ Rep E ad o.2 M)) (hp : ∀ M, Rep E ad out.2 M → P (some (.int out.1)) M) {V : St} {M : MH} {s0 : Int32} {d0 : Option Value} {d1 : Option Value} {d2 : Option Value} {d3 : Option Value} (hR : Rep E ad V M) (h : F_X9_readFactor_57 rc_X9_readSum fu V s0 = some out) : G E X RX9 cX9_readFactor 4 (some .boolean) false (rmD (dp + 1 + 6)) P M [d0, d1, d2, d3] 0 0 57 [.int (s0)] := by
  unfold F_X9_readFactor_57 at h
  obtain ⟨hz1, h⟩ := gd_inv h
  cases h
  exact r_zret DX9_readFactor_57 rfl (nz_nar hz1) ⟨Nat.le_refl 0, Nat.le_refl 0⟩ (hp M hR)
theorem S_X9_readFactor_56 {E : EN} {X : CX} {P : Option Value → MH → Prop} {ad : AD} {fu : Nat} {dp : Nat} {out : Int32 × St} {rc_X9_readSum : St → Int32 → RR} (hrc_X9_readSum : ∀ (l : Launch) {V : St} {M : MH} {o : Int32 × St} {x1 : Int32}, Rep E ad V M → rc_X9_readSum V x1 = some o → Ct E l yX9_readSum cX9_readSum 6 (some .boolean) (rmD (dp + 6)) [.ref (ad 1900 0), .int (x1)] M (fun v M => v = (some (.int o.1)) ∧ Rep E ad o.2 M)) (hp : ∀ M, Rep E ad out.2 M → P (some (.int out.1)) M) {V : St} {M : MH} {d0 : Option Value} {d1 : Option Value} {d2 : Option Value} {d3 : Option Value} (hR : Rep E ad V M) (h : F_X9_readFactor_56 rc_X9_readSum fu V = some out) : G E X RX9 cX9_readFactor 4 (some .boolean) false (rmD (dp + 1 + 6)) P M [d0, d1, d2, d3] 0 0 56 [] := by
  unfold F_X9_readFactor_56 at h
  refine r_iconst (v := 0) DX9_readFactor_56 ki_0 ?_
  exact S_X9_readFactor_57 (fun l => hrc_X9_readSum l) hp hR h
theorem S_X9_readFactor_0 {E : EN} {X : CX} {P : Option Value → MH → Prop} {ad : AD} {fu : Nat} {dp : Nat} {out : Int32 × St} {rc_X9_readSum : St → Int32 → RR} (hrc_X9_readSum : ∀ (l : Launch) {V : St} {M : MH} {o : Int32 × St} {x1 : Int32}, Rep E ad V M → rc_X9_readSum V x1 = some o → Ct E l yX9_readSum cX9_readSum 6 (some .boolean) (rmD (dp + 6)) [.ref (ad 1900 0), .int (x1)] M (fun v M => v = (some (.int o.1)) ∧ Rep E ad o.2 M)) (hp : ∀ M, Rep E ad out.2 M → P (some (.int out.1)) M) {V : St} {M : MH} {x1 : Int32} (hR : Rep E ad V M) (h : fb_X9_readFactor rc_X9_readSum fu V x1 = some out) : G E X RX9 cX9_readFactor 4 (some .boolean) false (rmD (dp + 1 + 6)) P M [some (.ref (ad 1900 0)), some (.int (x1)), none, none] 0 0 0 [] := by
  unfold fb_X9_readFactor at h
  refine r_aload_n DX9_readFactor_0 rfl ?_
  obtain ⟨r1, V2, hc3, h⟩ := bd_inv h
  refine k_callV (As := []) (rest := []) (st1 := [.int (r1)]) (w := some (.int r1)) DX9_readFactor_1 cv_X9_61 hR ct_1900 (one_cnt _) rfl (C_X9_here (out := (r1, V2)) (cxL X) hR hc3) rfl (by omega) (by decide) rfl (Nat.le_of_ble_eq_true rfl) rfl (fun M hR => ?_)
  refine t_istore_n (L' := [some (.ref (ad 1900 0)), some (.int (x1)), some (.int (r1)), none]) DX9_readFactor_4 (by decide) rfl ?_
  refine r_iload_n DX9_readFactor_5 rfl ?_
  refine r_bipush (v := 91) DX9_readFactor_6 kb_91 ?_
  refine r_icmp_ne DX9_readFactor_8 (fun c4 => ?_) (fun c4 => ?_)
  · have h := if_f c4 h
    refine r_iload_n DX9_readFactor_58 rfl ?_
    refine r_bipush (v := 48) DX9_readFactor_59 kb_48 ?_
    refine r_icmp_lt DX9_readFactor_61 (fun c5 => ?_) (fun c5 => ?_)
    · have h := if_t c5 h
      exact S_X9_readFactor_98 (fun l => hrc_X9_readSum l) hp hR h
    · have h := if_f c5 h
      refine r_iload_n DX9_readFactor_64 rfl ?_
      refine r_bipush (v := 57) DX9_readFactor_65 kb_57 ?_
      refine r_icmp_gt DX9_readFactor_67 (fun c6 => ?_) (fun c6 => ?_)
      · have h := if_t c6 h
        exact S_X9_readFactor_98 (fun l => hrc_X9_readSum l) hp hR h
      · have h := if_f c6 h
        refine r_aload_n DX9_readFactor_70 rfl ?_
        refine r_ldc (v := 99999) DX9_readFactor_71 ck_X9_81 ?_
        obtain ⟨r7, V8, hc9, h⟩ := bd_inv h
        refine k_callV (As := [.int ((99999 : Int32))]) (rest := []) (st1 := [.int (r7)]) (w := some (.int r7)) DX9_readFactor_73 cv_X9_75 hR ct_1900 (one_cnt _) rfl (C_X9_readNumber (out := (r7, V8)) (cxL X) hR hc9) rfl (by omega) (by decide) rfl (Nat.le_of_ble_eq_true rfl) rfl (fun M hR => ?_)
        refine t_istore_n (L' := [some (.ref (ad 1900 0)), some (.int (x1)), some (.int (r1)), some (.int (r7))]) DX9_readFactor_76 (by decide) rfl ?_
        refine r_iload_n DX9_readFactor_77 rfl ?_
        refine r_iconst (v := -1) DX9_readFactor_78 ki_m1 ?_
        refine r_icmp_eq DX9_readFactor_79 (fun c10 => ?_) (fun c10 => ?_)
        · have h := if_t c10 h
          exact S_X9_readFactor_96 (fun l => hrc_X9_readSum l) hp hR h
        · have h := if_f c10 h
          refine r_aload_n DX9_readFactor_82 rfl ?_
          refine r_bipush (v := 35) DX9_readFactor_83 kb_35 ?_
          refine r_iload_n DX9_readFactor_85 rfl ?_
          obtain ⟨r11, V12, hc13, h⟩ := bd_inv h
          refine k_callV (As := [.int ((35 : Int32)), .int (r7)]) (rest := []) (st1 := [.int (r11)]) (w := some (.int r11)) DX9_readFactor_86 cv_X9_88 hR ct_1900 (one_cnt _) rfl (C_X9_emit (out := (r11, V12)) (cxL X) hR hc13) rfl (by omega) (by decide) rfl (Nat.le_of_ble_eq_true rfl) rfl (fun M hR => ?_)
          refine r_if_eq DX9_readFactor_89 (fun c14 => ?_) (fun c14 => ?_)
          · have h := if_t c14 h
            exact S_X9_readFactor_96 (fun l => hrc_X9_readSum l) hp hR h
          · have h := if_f c14 h
            refine r_iconst (v := 1) DX9_readFactor_92 ki_1 ?_
            refine r_goto DX9_readFactor_93 ?_
            exact S_X9_readFactor_97 (fun l => hrc_X9_readSum l) hp hR h
  · have h := if_t c4 h
    refine r_iload_n DX9_readFactor_11 rfl ?_
    refine r_bipush (v := 6) DX9_readFactor_12 kb_6 ?_
    refine r_icmp_lt DX9_readFactor_14 (fun c5 => ?_) (fun c5 => ?_)
    · have h := if_t c5 h
      refine r_aload_n DX9_readFactor_23 rfl ?_
      refine r_dup DX9_readFactor_24 rfl ?_
      refine s_geti DX9_readFactor_25 fl_X9_41 hR ct_1900 (one_cnt _) rfl ?_
      refine r_iconst (v := 1) DX9_readFactor_28 ki_1 ?_
      refine r_iadd DX9_readFactor_29 ?_
      obtain ⟨V6, hv7, h⟩ := bv_inv h
      refine s_puti DX9_readFactor_30 fp_X9_41 hR oks_1910 ct_1900 (one_cnt _) rfl rfl rfl (fun M hR => ?_)
      have hR := hR.cg hv7
      refine r_aload_n DX9_readFactor_33 rfl ?_
      refine r_iload_n DX9_readFactor_34 rfl ?_
      refine r_iconst (v := 1) DX9_readFactor_35 ki_1 ?_
      refine r_iadd DX9_readFactor_36 ?_
      obtain ⟨r8, V9, hc10, h⟩ := bd_inv h
      refine k_callV (As := [.int (x1 + (1 : Int32))]) (rest := []) (st1 := [.int (r8)]) (w := some (.int r8)) DX9_readFactor_37 cv_X9_96 hR ct_1900 (one_cnt _) rfl (hrc_X9_readSum (o := (r8, V9)) (cxL X) hR hc10) rfl (by omega) (by decide) rfl (Nat.le_of_ble_eq_true rfl) rfl (fun M hR => ?_)
      refine r_if_eq DX9_readFactor_40 (fun c11 => ?_) (fun c11 => ?_)
      · have h := if_t c11 h
        exact S_X9_readFactor_56 (fun l => hrc_X9_readSum l) hp hR h
      · have h := if_f c11 h
        refine r_aload_n DX9_readFactor_43 rfl ?_
        refine r_bipush (v := 93) DX9_readFactor_44 kb_93 ?_
        obtain ⟨r12, V13, hc14, h⟩ := bd_inv h
        refine k_callV (As := [.int ((93 : Int32))]) (rest := []) (st1 := [.int (r12)]) (w := some (.int r12)) DX9_readFactor_46 cv_X9_57 hR ct_1900 (one_cnt _) rfl (C_X9_take (out := (r12, V13)) (cxL X) hR hc14) rfl (by omega) (by decide) rfl (Nat.le_of_ble_eq_true rfl) rfl (fun M hR => ?_)
        refine r_if_eq DX9_readFactor_49 (fun c15 => ?_) (fun c15 => ?_)
        · have h := if_t c15 h
          exact S_X9_readFactor_56 (fun l => hrc_X9_readSum l) hp hR h
        · have h := if_f c15 h
          refine r_iconst (v := 1) DX9_readFactor_52 ki_1 ?_
          refine r_goto DX9_readFactor_53 ?_
          exact S_X9_readFactor_57 (fun l => hrc_X9_readSum l) hp hR h
    · have h := if_f c5 h
      refine r_aload_n DX9_readFactor_17 rfl ?_
      refine r_iconst (v := 5) DX9_readFactor_18 ki_5 ?_
      obtain ⟨r11, V12, hc13, h⟩ := bd_inv h
      refine k_callV (As := [.int ((5 : Int32))]) (rest := []) (st1 := [.int (r11)]) (w := some (.int r11)) DX9_readFactor_19 cv_X9_71 hR ct_1900 (one_cnt _) rfl (C_X9_fail (out := (r11, V12)) (cxL X) hR hc13) rfl (by omega) (by decide) rfl (Nat.le_of_ble_eq_true rfl) rfl (fun M hR => ?_)
      obtain ⟨hz14, h⟩ := gd_inv h
      cases h
      exact r_zret DX9_readFactor_22 rfl (nz_nar hz14) ⟨Nat.le_refl 0, Nat.le_refl 0⟩ (hp M hR)
theorem CB_X9_readFactor {E : EN} {ad : AD} {fu : Nat} {dp : Nat} {out : Int32 × St} {rc_X9_readSum : St → Int32 → RR} (hrc_X9_readSum : ∀ (l : Launch) {V : St} {M : MH} {o : Int32 × St} {x1 : Int32}, Rep E ad V M → rc_X9_readSum V x1 = some o → Ct E l yX9_readSum cX9_readSum 6 (some .boolean) (rmD (dp + 6)) [.ref (ad 1900 0), .int (x1)] M (fun v M => v = (some (.int o.1)) ∧ Rep E ad o.2 M)) {V : St} {M : MH} {x1 : Int32} (l : Launch) (hR : Rep E ad V M) (h : fb_X9_readFactor rc_X9_readSum fu V x1 = some out) : Ct E l yX9_readFactor cX9_readFactor 4 (some .boolean) (rmD (dp + 1 + 6)) [.ref (ad 1900 0), .int (x1)] M (fun v M => v = (some (.int out.1)) ∧ Rep E ad out.2 M) :=
  Ct.of (own := RX9) (ini := false) (L := [some (.ref (ad 1900 0)), some (.int (x1)), none, none]) rfl rfl (fun h => by cases h) rfl (Nat.le_of_ble_eq_true rfl) rfl (fun X _ => S_X9_readFactor_0 (fun l => hrc_X9_readSum l) (fun M hR => ⟨rfl, hR⟩) hR h)
theorem CG_rd {E : EN} {ad : AD} {fu : Nat} : ∀ n : Nat, (∀ (l : Launch) {V : St} {M : MH} {out : Int32 × St} {x1 : Int32}, Rep E ad V M → g_rd fu n 0 V x1 = some out → Ct E l yX9_readCondition cX9_readCondition 6 (some .boolean) (rmD (n + 6)) [.ref (ad 1900 0), .int (x1)] M (fun v M => v = (some (.int out.1)) ∧ Rep E ad out.2 M)) ∧
    (∀ (l : Launch) {V : St} {M : MH} {out : Int32 × St} {x1 : Int32}, Rep E ad V M → g_rd fu n 1 V x1 = some out → Ct E l yX9_readPiece cX9_readPiece 4 (some .boolean) (rmD (n + 6)) [.ref (ad 1900 0), .int (x1)] M (fun v M => v = (some (.int out.1)) ∧ Rep E ad out.2 M)) ∧
    (∀ (l : Launch) {V : St} {M : MH} {out : Int32 × St} {x1 : Int32}, Rep E ad V M → g_rd fu n 2 V x1 = some out → Ct E l yX9_readSum cX9_readSum 6 (some .boolean) (rmD (n + 6)) [.ref (ad 1900 0), .int (x1)] M (fun v M => v = (some (.int out.1)) ∧ Rep E ad out.2 M)) ∧
    (∀ (l : Launch) {V : St} {M : MH} {out : Int32 × St} {x1 : Int32}, Rep E ad V M → g_rd fu n 3 V x1 = some out → Ct E l yX9_readFactor cX9_readFactor 4 (some .boolean) (rmD (n + 6)) [.ref (ad 1900 0), .int (x1)] M (fun v M => v = (some (.int out.1)) ∧ Rep E ad out.2 M)) := by
  intro n
  induction n with
  | zero => exact ⟨fun _ {_ _ _ _} _ h => (by cases h), fun _ {_ _ _ _} _ h => (by cases h), fun _ {_ _ _ _} _ h => (by cases h), fun _ {_ _ _ _} _ h => (by cases h)⟩
  | succ n ih =>
    obtain ⟨i0, i1, i2, i3⟩ := ih
    exact ⟨fun l {V M out x1} hR h => CB_X9_readCondition (dp := n) (fun l => i1 l) l hR h, fun l {V M out x1} hR h => CB_X9_readPiece (dp := n) (fun l => i0 l) (fun l => i1 l) (fun l => i2 l) l hR h, fun l {V M out x1} hR h => CB_X9_readSum (dp := n) (fun l => i3 l) l hR h, fun l {V M out x1} hR h => CB_X9_readFactor (dp := n) (fun l => i2 l) l hR h⟩
theorem C_X9_readCondition {E : EN} {ad : AD} {fu : Nat} {out : Int32 × St} {V : St} {M : MH} {x1 : Int32} (l : Launch) (hR : Rep E ad V M) (h : f_X9_readCondition fu V x1 = some out) : Ct E l yX9_readCondition cX9_readCondition 6 (some .boolean) (rmD 36) [.ref (ad 1900 0), .int (x1)] M (fun v M => v = (some (.int out.1)) ∧ Rep E ad out.2 M) := (CG_rd 30).1 l hR h
theorem C_X9_readPiece {E : EN} {ad : AD} {fu : Nat} {out : Int32 × St} {V : St} {M : MH} {x1 : Int32} (l : Launch) (hR : Rep E ad V M) (h : f_X9_readPiece fu V x1 = some out) : Ct E l yX9_readPiece cX9_readPiece 4 (some .boolean) (rmD 36) [.ref (ad 1900 0), .int (x1)] M (fun v M => v = (some (.int out.1)) ∧ Rep E ad out.2 M) := (CG_rd 30).2.1 l hR h
theorem C_X9_readSum {E : EN} {ad : AD} {fu : Nat} {out : Int32 × St} {V : St} {M : MH} {x1 : Int32} (l : Launch) (hR : Rep E ad V M) (h : f_X9_readSum fu V x1 = some out) : Ct E l yX9_readSum cX9_readSum 6 (some .boolean) (rmD 36) [.ref (ad 1900 0), .int (x1)] M (fun v M => v = (some (.int out.1)) ∧ Rep E ad out.2 M) := (CG_rd 30).2.2.1 l hR h
theorem C_X9_readFactor {E : EN} {ad : AD} {fu : Nat} {out : Int32 × St} {V : St} {M : MH} {x1 : Int32} (l : Launch) (hR : Rep E ad V M) (h : f_X9_readFactor fu V x1 = some out) : Ct E l yX9_readFactor cX9_readFactor 4 (some .boolean) (rmD 36) [.ref (ad 1900 0), .int (x1)] M (fun v M => v = (some (.int out.1)) ∧ Rep E ad out.2 M) := (CG_rd 30).2.2.2 l hR h

theorem S_X9_readClause_237 {E : EN} {X : CX} {P : Option Value → MH → Prop} {ad : AD} {fu : Nat} {out : Int32 × St} (hp : ∀ M, Rep E ad out.2 M → P (some (.int out.1)) M) {V : St} {M : MH} {x4 : Int32} {d0 : Option Value} {d1 : Option Value} {d2 : Option Value} {d3 : Option Value} (hR : Rep E ad V M) (h : F_X9_readClause_237 fu V x4 = some out) : G E X RX9 cX9_readClause 5 (some .boolean) false (rmD 37) P M [d0, d1, d2, d3, some (.int (x4))] 0 0 237 [] := by
  unfold F_X9_readClause_237 at h
  refine r_iload DX9_readClause_237 rfl ?_
  obtain ⟨hz1, h⟩ := gd_inv h
  cases h
  exact r_zret DX9_readClause_239 rfl (nz_nar hz1) ⟨Nat.le_refl 0, Nat.le_refl 0⟩ (hp M hR)
theorem S_X9_readClause_179 {E : EN} {X : CX} {P : Option Value → MH → Prop} {ad : AD} {fu : Nat} {out : Int32 × St} (hp : ∀ M, Rep E ad out.2 M → P (some (.int out.1)) M) {V : St} {M : MH} {x1 : Int32} {x2 : Int32} {x3 : Int32} {x4 : Int32} (hR : Rep E ad V M) (h : F_X9_readClause_179 fu V x1 x2 x3 x4 = some out) : G E X RX9 cX9_readClause 5 (some .boolean) false (rmD 37) P M [some (.ref (ad 1900 0)), some (.int (x1)), some (.int (x2)), some (.int (x3)), some (.int (x4))] 0 0 179 [] := by
  unfold F_X9_readClause_179 at h
  refine r_iload DX9_readClause_179 rfl ?_
  refine r_if_eq DX9_readClause_181 (fun c1 => ?_) (fun c1 => ?_)
  · have h := if_t c1 h
    exact S_X9_readClause_237 hp hR h
  · have h := if_f c1 h
    refine r_aload_n DX9_readClause_184 rfl ?_
    refine s_geta DX9_readClause_185 fl_X9_11 hR ct_1900 (one_cnt _) rfl ?_
    refine r_aload_n DX9_readClause_188 rfl ?_
    refine s_geti DX9_readClause_189 fl_X9_27 hR ct_1900 (one_cnt _) rfl ?_
    refine r_iload_n DX9_readClause_192 rfl ?_
    obtain ⟨hg2, h⟩ := gd_inv h
    obtain ⟨V3, hv4, h⟩ := bv_inv h
    refine s_iast DX9_readClause_193 hR oka_1901 ct_1901 (one_cnt _) hg2 (fun M hR => ?_)
    have hR := hR.cg hv4
    refine r_aload_n DX9_readClause_194 rfl ?_
    refine s_geta DX9_readClause_195 fl_X9_15 hR ct_1900 (one_cnt _) rfl ?_
    refine r_aload_n DX9_readClause_198 rfl ?_
    refine s_geti DX9_readClause_199 fl_X9_27 hR ct_1900 (one_cnt _) rfl ?_
    refine r_iload_n DX9_readClause_202 rfl ?_
    obtain ⟨hg5, h⟩ := gd_inv h
    obtain ⟨V6, hv7, h⟩ := bv_inv h
    refine s_iast DX9_readClause_203 hR oka_1902 ct_1902 (one_cnt _) hg5 (fun M hR => ?_)
    have hR := hR.cg hv7
    refine r_aload_n DX9_readClause_204 rfl ?_
    refine s_geta DX9_readClause_205 fl_X9_18 hR ct_1900 (one_cnt _) rfl ?_
    refine r_aload_n DX9_readClause_208 rfl ?_
    refine s_geti DX9_readClause_209 fl_X9_27 hR ct_1900 (one_cnt _) rfl ?_
    refine r_iload_n DX9_readClause_212 rfl ?_
    obtain ⟨hg8, h⟩ := gd_inv h
    obtain ⟨V9, hv10, h⟩ := bv_inv h
    refine s_iast DX9_readClause_213 hR oka_1903 ct_1903 (one_cnt _) hg8 (fun M hR => ?_)
    have hR := hR.cg hv10
    refine r_aload_n DX9_readClause_214 rfl ?_
    refine s_geta DX9_readClause_215 fl_X9_21 hR ct_1900 (one_cnt _) rfl ?_
    refine r_aload_n DX9_readClause_218 rfl ?_
    refine s_geti DX9_readClause_219 fl_X9_27 hR ct_1900 (one_cnt _) rfl ?_
    refine r_aload_n DX9_readClause_222 rfl ?_
    refine s_geti DX9_readClause_223 fl_X9_31 hR ct_1900 (one_cnt _) rfl ?_
    obtain ⟨hg11, h⟩ := gd_inv h
    obtain ⟨V12, hv13, h⟩ := bv_inv h
    refine s_iast DX9_readClause_226 hR oka_1904 ct_1904 (one_cnt _) hg11 (fun M hR => ?_)
    have hR := hR.cg hv13
    refine r_aload_n DX9_readClause_227 rfl ?_
    refine r_dup DX9_readClause_228 rfl ?_
    refine s_geti DX9_readClause_229 fl_X9_27 hR ct_1900 (one_cnt _) rfl ?_
    refine r_iconst (v := 1) DX9_readClause_232 ki_1 ?_
    refine r_iadd DX9_readClause_233 ?_
    obtain ⟨V14, hv15, h⟩ := bv_inv h
    refine s_puti DX9_readClause_234 fp_X9_27 hR oks_1906 ct_1900 (one_cnt _) rfl rfl rfl (fun M hR => ?_)
    have hR := hR.cg hv15
    exact S_X9_readClause_237 hp hR h
theorem S_X9_readClause_177 {E : EN} {X : CX} {P : Option Value → MH → Prop} {ad : AD} {fu : Nat} {out : Int32 × St} (hp : ∀ M, Rep E ad out.2 M → P (some (.int out.1)) M) {V : St} {M : MH} {x1 : Int32} {x2 : Int32} {x3 : Int32} {s0 : Int32} {d4 : Option Value} (hR : Rep E ad V M) (h : F_X9_readClause_177 fu V x1 x2 x3 s0 = some out) : G E X RX9 cX9_readClause 5 (some .boolean) false (rmD 37) P M [some (.ref (ad 1900 0)), some (.int (x1)), some (.int (x2)), some (.int (x3)), d4] 0 0 177 [.int (s0)] := by
  unfold F_X9_readClause_177 at h
  refine t_istore (L' := [some (.ref (ad 1900 0)), some (.int (x1)), some (.int (x2)), some (.int (x3)), some (.int (s0))]) DX9_readClause_177 (by decide) rfl ?_
  exact S_X9_readClause_179 hp hR h
theorem S_X9_readClause_176 {E : EN} {X : CX} {P : Option Value → MH → Prop} {ad : AD} {fu : Nat} {out : Int32 × St} (hp : ∀ M, Rep E ad out.2 M → P (some (.int out.1)) M) {V : St} {M : MH} {x1 : Int32} {x2 : Int32} {x3 : Int32} {d4 : Option Value} (hR : Rep E ad V M) (h : F_X9_readClause_176 fu V x1 x2 x3 = some out) : G E X RX9 cX9_readClause 5 (some .boolean) false (rmD 37) P M [some (.ref (ad 1900 0)), some (.int (x1)), some (.int (x2)), some (.int (x3)), d4] 0 0 176 [] := by
  unfold F_X9_readClause_176 at h
  refine r_iconst (v := 0) DX9_readClause_176 ki_0 ?_
  exact S_X9_readClause_177 hp hR h
theorem S_X9_readClause_141 {E : EN} {X : CX} {P : Option Value → MH → Prop} {ad : AD} {fu : Nat} {out : Int32 × St} (hp : ∀ M, Rep E ad out.2 M → P (some (.int out.1)) M) {V : St} {M : MH} {x1 : Int32} {x2 : Int32} {x3 : Int32} {d4 : Option Value} (hR : Rep E ad V M) (h : F_X9_readClause_141 fu V x1 x2 x3 = some out) : G E X RX9 cX9_readClause 5 (some .boolean) false (rmD 37) P M [some (.ref (ad 1900 0)), some (.int (x1)), some (.int (x2)), some (.int (x3)), d4] 0 0 141 [] := by
  unfold F_X9_readClause_141 at h
  refine r_iload_n DX9_readClause_141 rfl ?_
  refine r_iconst (v := -1) DX9_readClause_142 ki_m1 ?_
  refine r_icmp_eq DX9_readClause_143 (fun c1 => ?_) (fun c1 => ?_)
  · have h := if_t c1 h
    exact S_X9_readClause_176 hp hR h
  · have h := if_f c1 h
    refine r_aload_n DX9_readClause_146 rfl ?_
    refine r_bipush (v := 40) DX9_readClause_147 kb_40 ?_
    obtain ⟨r2, V3, hc4, h⟩ := bd_inv h
    refine k_callV (As := [.int ((40 : Int32))]) (rest := []) (st1 := [.int (r2)]) (w := some (.int r2)) DX9_readClause_149 cv_X9_57 hR ct_1900 (one_cnt _) rfl (C_X9_take (out := (r2, V3)) (cxL X) hR hc4) rfl (by decide) (by decide) rfl (Nat.le_of_ble_eq_true rfl) rfl (fun M hR => ?_)
    refine r_if_eq DX9_readClause_152 (fun c5 => ?_) (fun c5 => ?_)
    · have h := if_t c5 h
      exact S_X9_readClause_176 hp hR h
    · have h := if_f c5 h
      refine r_aload_n DX9_readClause_155 rfl ?_
      refine r_iconst (v := 1) DX9_readClause_156 ki_1 ?_
      obtain ⟨r6, V7, hc8, h⟩ := bd_inv h
      refine k_callV (As := [.int ((1 : Int32))]) (rest := []) (st1 := [.int (r6)]) (w := some (.int r6)) DX9_readClause_157 cv_X9_82 hR ct_1900 (one_cnt _) rfl (C_X9_readCondition (out := (r6, V7)) (cxL X) hR hc8) rfl (by decide) (by decide) rfl (Nat.le_of_ble_eq_true rfl) rfl (fun M hR => ?_)
      refine r_if_eq DX9_readClause_160 (fun c9 => ?_) (fun c9 => ?_)
      · have h := if_t c9 h
        exact S_X9_readClause_176 hp hR h
      · have h := if_f c9 h
        refine r_aload_n DX9_readClause_163 rfl ?_
        refine r_bipush (v := 41) DX9_readClause_164 kb_41 ?_
        obtain ⟨r10, V11, hc12, h⟩ := bd_inv h
        refine k_callV (As := [.int ((41 : Int32))]) (rest := []) (st1 := [.int (r10)]) (w := some (.int r10)) DX9_readClause_166 cv_X9_57 hR ct_1900 (one_cnt _) rfl (C_X9_take (out := (r10, V11)) (cxL X) hR hc12) rfl (by decide) (by decide) rfl (Nat.le_of_ble_eq_true rfl) rfl (fun M hR => ?_)
        refine r_if_eq DX9_readClause_169 (fun c13 => ?_) (fun c13 => ?_)
        · have h := if_t c13 h
          exact S_X9_readClause_176 hp hR h
        · have h := if_f c13 h
          refine r_iconst (v := 1) DX9_readClause_172 ki_1 ?_
          refine r_goto DX9_readClause_173 ?_
          exact S_X9_readClause_177 hp hR h
theorem S_X9_readClause_137 {E : EN} {X : CX} {P : Option Value → MH → Prop} {ad : AD} {fu : Nat} {out : Int32 × St} (hp : ∀ M, Rep E ad out.2 M → P (some (.int out.1)) M) {V : St} {M : MH} {x1 : Int32} {x3 : Int32} {s0 : Int32} {d2 : Option Value} {d4 : Option Value} (hR : Rep E ad V M) (h : F_X9_readClause_137 fu V x1 x3 s0 = some out) : G E X RX9 cX9_readClause 5 (some .boolean) false (rmD 37) P M [some (.ref (ad 1900 0)), some (.int (x1)), d2, some (.int (x3)), d4] 0 0 137 [.int (s0), .ref (ad 1900 0)] := by
  unfold F_X9_readClause_137 at h
  obtain ⟨r1, V2, hc3, h⟩ := bd_inv h
  refine k_callV (As := [.int (s0)]) (rest := []) (st1 := [.int (r1)]) (w := some (.int r1)) DX9_readClause_137 cv_X9_75 hR ct_1900 (one_cnt _) rfl (C_X9_readNumber (out := (r1, V2)) (cxL X) hR hc3) rfl (by decide) (by decide) rfl (Nat.le_of_ble_eq_true rfl) rfl (fun M hR => ?_)
  refine t_istore_n (L' := [some (.ref (ad 1900 0)), some (.int (x1)), some (.int (r1)), some (.int (x3)), d4]) DX9_readClause_140 (by decide) rfl ?_
  exact S_X9_readClause_141 hp hR h
theorem S_X9_readClause_109 {E : EN} {X : CX} {P : Option Value → MH → Prop} {ad : AD} {fu : Nat} {out : Int32 × St} (hp : ∀ M, Rep E ad out.2 M → P (some (.int out.1)) M) {V : St} {M : MH} {x1 : Int32} {x2 : Int32} {x3 : Int32} {s0 : Int32} {d4 : Option Value} (hR : Rep E ad V M) (h : F_X9_readClause_109 fu V x1 x2 x3 s0 = some out) : G E X RX9 cX9_readClause 5 (some .boolean) false (rmD 37) P M [some (.ref (ad 1900 0)), some (.int (x1)), some (.int (x2)), some (.int (x3)), d4] 0 0 109 [.int (s0)] := by
  unfold F_X9_readClause_109 at h
  refine t_istore (L' := [some (.ref (ad 1900 0)), some (.int (x1)), some (.int (x2)), some (.int (x3)), some (.int (s0))]) DX9_readClause_109 (by decide) rfl ?_
  refine r_goto DX9_readClause_111 ?_
  exact S_X9_readClause_179 hp hR h
theorem S_X9_readClause_98 {E : EN} {X : CX} {P : Option Value → MH → Prop} {ad : AD} {fu : Nat} {out : Int32 × St} (hp : ∀ M, Rep E ad out.2 M → P (some (.int out.1)) M) {V : St} {M : MH} {x1 : Int32} {x2 : Int32} {s0 : Int32} {d3 : Option Value} {d4 : Option Value} (hR : Rep E ad V M) (h : F_X9_readClause_98 fu V x1 x2 s0 = some out) : G E X RX9 cX9_readClause 5 (some .boolean) false (rmD 37) P M [some (.ref (ad 1900 0)), some (.int (x1)), some (.int (x2)), d3, d4] 0 0 98 [.int (s0)] := by
  unfold F_X9_readClause_98 at h
  refine t_istore_n (L' := [some (.ref (ad 1900 0)), some (.int (x1)), some (.int (x2)), some (.int (s0)), d4]) DX9_readClause_98 (by decide) rfl ?_
  refine r_iload_n DX9_readClause_99 rfl ?_
  refine r_iconst (v := -1) DX9_readClause_100 ki_m1 ?_
  refine r_icmp_eq DX9_readClause_101 (fun c1 => ?_) (fun c1 => ?_)
  · have h := if_t c1 h
    refine r_iconst (v := 0) DX9_readClause_108 ki_0 ?_
    exact S_X9_readClause_109 hp hR h
  · have h := if_f c1 h
    refine r_iconst (v := 1) DX9_readClause_104 ki_1 ?_
    refine r_goto DX9_readClause_105 ?_
    exact S_X9_readClause_109 hp hR h
theorem S_X9_readClause_81 {E : EN} {X : CX} {P : Option Value → MH → Prop} {ad : AD} {fu : Nat} {out : Int32 × St} (hp : ∀ M, Rep E ad out.2 M → P (some (.int out.1)) M) {V : St} {M : MH} {x1 : Int32} {x2 : Int32} {s0 : Int32} {d3 : Option Value} {d4 : Option Value} (hR : Rep E ad V M) (h : F_X9_readClause_81 fu V x1 x2 s0 = some out) : G E X RX9 cX9_readClause 5 (some .boolean) false (rmD 37) P M [some (.ref (ad 1900 0)), some (.int (x1)), some (.int (x2)), d3, d4] 0 0 81 [.int (s0)] := by
  unfold F_X9_readClause_81 at h
  refine t_istore (L' := [some (.ref (ad 1900 0)), some (.int (x1)), some (.int (x2)), d3, some (.int (s0))]) DX9_readClause_81 (by decide) rfl ?_
  refine r_iload DX9_readClause_83 rfl ?_
  refine r_if_eq DX9_readClause_85 (fun c1 => ?_) (fun c1 => ?_)
  · have h := if_t c1 h
    refine r_iconst (v := -1) DX9_readClause_97 ki_m1 ?_
    exact S_X9_readClause_98 hp hR h
  · have h := if_f c1 h
    refine r_aload_n DX9_readClause_88 rfl ?_
    refine r_bipush (v := 11) DX9_readClause_89 kb_11 ?_
    obtain ⟨r2, V3, hc4, h⟩ := bd_inv h
    refine k_callV (As := [.int ((11 : Int32))]) (rest := []) (st1 := [.int (r2)]) (w := some (.int r2)) DX9_readClause_91 cv_X9_75 hR ct_1900 (one_cnt _) rfl (C_X9_readNumber (out := (r2, V3)) (cxL X) hR hc4) rfl (by decide) (by decide) rfl (Nat.le_of_ble_eq_true rfl) rfl (fun M hR => ?_)
    refine r_goto DX9_readClause_94 ?_
    exact S_X9_readClause_98 hp hR h
theorem S_X9_readClause_80 {E : EN} {X : CX} {P : Option Value → MH → Prop} {ad : AD} {fu : Nat} {out : Int32 × St} (hp : ∀ M, Rep E ad out.2 M → P (some (.int out.1)) M) {V : St} {M : MH} {x1 : Int32} {x2 : Int32} {d3 : Option Value} {d4 : Option Value} (hR : Rep E ad V M) (h : F_X9_readClause_80 fu V x1 x2 = some out) : G E X RX9 cX9_readClause 5 (some .boolean) false (rmD 37) P M [some (.ref (ad 1900 0)), some (.int (x1)), some (.int (x2)), d3, d4] 0 0 80 [] := by
  unfold F_X9_readClause_80 at h
  refine r_iconst (v := 0) DX9_readClause_80 ki_0 ?_
  exact S_X9_readClause_81 hp hR h
theorem S_X9_readClause_0 {E : EN} {X : CX} {P : Option Value → MH → Prop} {ad : AD} {fu : Nat} {out : Int32 × St} (hp : ∀ M, Rep E ad out.2 M → P (some (.int out.1)) M) {V : St} {M : MH} (hR : Rep E ad V M) (h : f_X9_readClause fu V = some out) : G E X RX9 cX9_readClause 5 (some .boolean) false (rmD 37) P M [some (.ref (ad 1900 0)), none, none, none, none] 0 0 0 [] := by
  unfold f_X9_readClause at h
  refine r_aload_n DX9_readClause_0 rfl ?_
  obtain ⟨r1, V2, hc3, h⟩ := bd_inv h
  refine k_callV (As := []) (rest := []) (st1 := [.int (r1)]) (w := some (.int r1)) DX9_readClause_1 cv_X9_61 hR ct_1900 (one_cnt _) rfl (C_X9_here (out := (r1, V2)) (cxL X) hR hc3) rfl (by decide) (by decide) rfl (Nat.le_of_ble_eq_true rfl) rfl (fun M hR => ?_)
  refine t_istore_n (L' := [some (.ref (ad 1900 0)), some (.int (r1)), none, none, none]) DX9_readClause_4 (by decide) rfl ?_
  refine r_ldcS (i := 0) DX9_readClause_5 rfl ?_
  refine r_iload_n DX9_readClause_7 rfl ?_
  obtain ⟨r4, V5, hc6, h⟩ := bd_inv h
  refine k_callS (As := [.ref (eK E 0), .int (r1)]) (rest := []) (st1 := [.int (r4)]) (w := some (.int r4)) DX9_readClause_8 cs_X9_67 (C_X9_isOneOf (out := (r4, V5)) (cxL X) hR hc6) rfl (by decide) (by decide) rfl (Nat.le_of_ble_eq_true rfl) rfl (fun M hR => ?_)
  refine r_if_ne DX9_readClause_11 (fun c7 => ?_) (fun c7 => ?_)
  · have h := if_f c7 h
    refine r_aload_n DX9_readClause_20 rfl ?_
    refine s_geti DX9_readClause_21 fl_X9_27 hR ct_1900 (one_cnt _) rfl ?_
    refine r_bipush (v := 12) DX9_readClause_24 kb_12 ?_
    refine r_icmp_lt DX9_readClause_26 (fun c8 => ?_) (fun c8 => ?_)
    · have h := if_t c8 h
      refine r_aload_n DX9_readClause_35 rfl ?_
      refine r_dup DX9_readClause_36 rfl ?_
      refine s_geti DX9_readClause_37 fl_X9_41 hR ct_1900 (one_cnt _) rfl ?_
      refine r_iconst (v := 1) DX9_readClause_40 ki_1 ?_
      refine r_iadd DX9_readClause_41 ?_
      obtain ⟨V9, hv10, h⟩ := bv_inv h
      refine s_puti DX9_readClause_42 fp_X9_41 hR oks_1910 ct_1900 (one_cnt _) rfl rfl rfl (fun M hR => ?_)
      have hR := hR.cg hv10
      refine r_iconst (v := 0) DX9_readClause_45 ki_0 ?_
      refine t_istore_n (L' := [some (.ref (ad 1900 0)), some (.int (r1)), some (.int ((0 : Int32))), none, none]) DX9_readClause_46 (by decide) rfl ?_
      refine r_iconst (v := 0) DX9_readClause_47 ki_0 ?_
      refine t_istore_n (L' := [some (.ref (ad 1900 0)), some (.int (r1)), some (.int ((0 : Int32))), some (.int ((0 : Int32))), none]) DX9_readClause_48 (by decide) rfl ?_
      refine r_iload_n DX9_readClause_49 rfl ?_
      refine r_bipush (v := 120) DX9_readClause_50 kb_120 ?_
      refine r_icmp_ne DX9_readClause_52 (fun c11 => ?_) (fun c11 => ?_)
      · have h := if_f c11 h
        refine r_ldcS (i := 1) DX9_readClause_114 rfl ?_
        refine r_iload_n DX9_readClause_116 rfl ?_
        obtain ⟨r12, V13, hc14, h⟩ := bd_inv h
        refine k_callS (As := [.ref (eK E 1), .int (r1)]) (rest := []) (st1 := [.int (r12)]) (w := some (.int r12)) DX9_readClause_117 cs_X9_67 (C_X9_isOneOf (out := (r12, V13)) (cxL X) hR hc14) rfl (by decide) (by decide) rfl (Nat.le_of_ble_eq_true rfl) rfl (fun M hR => ?_)
        refine r_if_eq DX9_readClause_120 (fun c15 => ?_) (fun c15 => ?_)
        · have h := if_t c15 h
          exact S_X9_readClause_141 hp hR h
        · have h := if_f c15 h
          refine r_aload_n DX9_readClause_123 rfl ?_
          refine r_iload_n DX9_readClause_124 rfl ?_
          refine r_bipush (v := 100) DX9_readClause_125 kb_100 ?_
          refine r_icmp_ne DX9_readClause_127 (fun c16 => ?_) (fun c16 => ?_)
          · have h := if_f c16 h
            refine r_ldc (v := 99999) DX9_readClause_135 ck_X9_81 ?_
            exact S_X9_readClause_137 hp hR h
          · have h := if_t c16 h
            refine r_bipush (v := 100) DX9_readClause_130 kb_100 ?_
            refine r_goto DX9_readClause_132 ?_
            exact S_X9_readClause_137 hp hR h
      · have h := if_t c11 h
        refine r_aload_n DX9_readClause_55 rfl ?_
        refine r_bipush (v := 29) DX9_readClause_56 kb_29 ?_
        obtain ⟨r15, V16, hc17, h⟩ := bd_inv h
        refine k_callV (As := [.int ((29 : Int32))]) (rest := []) (st1 := [.int (r15)]) (w := some (.int r15)) DX9_readClause_58 cv_X9_75 hR ct_1900 (one_cnt _) rfl (C_X9_readNumber (out := (r15, V16)) (cxL X) hR hc17) rfl (by decide) (by decide) rfl (Nat.le_of_ble_eq_true rfl) rfl (fun M hR => ?_)
        refine t_istore_n (L' := [some (.ref (ad 1900 0)), some (.int (r1)), some (.int (r15)), some (.int ((0 : Int32))), none]) DX9_readClause_61 (by decide) rfl ?_
        refine r_iload_n DX9_readClause_62 rfl ?_
        refine r_iconst (v := -1) DX9_readClause_63 ki_m1 ?_
        refine r_icmp_eq DX9_readClause_64 (fun c18 => ?_) (fun c18 => ?_)
        · have h := if_t c18 h
          exact S_X9_readClause_80 hp hR h
        · have h := if_f c18 h
          refine r_aload_n DX9_readClause_67 rfl ?_
          refine r_bipush (v := 46) DX9_readClause_68 kb_46 ?_
          obtain ⟨r19, V20, hc21, h⟩ := bd_inv h
          refine k_callV (As := [.int ((46 : Int32))]) (rest := []) (st1 := [.int (r19)]) (w := some (.int r19)) DX9_readClause_70 cv_X9_57 hR ct_1900 (one_cnt _) rfl (C_X9_take (out := (r19, V20)) (cxL X) hR hc21) rfl (by decide) (by decide) rfl (Nat.le_of_ble_eq_true rfl) rfl (fun M hR => ?_)
          refine r_if_eq DX9_readClause_73 (fun c22 => ?_) (fun c22 => ?_)
          · have h := if_t c22 h
            exact S_X9_readClause_80 hp hR h
          · have h := if_f c22 h
            refine r_iconst (v := 1) DX9_readClause_76 ki_1 ?_
            refine r_goto DX9_readClause_77 ?_
            exact S_X9_readClause_81 hp hR h
    · have h := if_f c8 h
      refine r_aload_n DX9_readClause_29 rfl ?_
      refine r_iconst (v := 4) DX9_readClause_30 ki_4 ?_
      obtain ⟨r11, V12, hc13, h⟩ := bd_inv h
      refine k_callV (As := [.int ((4 : Int32))]) (rest := []) (st1 := [.int (r11)]) (w := some (.int r11)) DX9_readClause_31 cv_X9_71 hR ct_1900 (one_cnt _) rfl (C_X9_fail (out := (r11, V12)) (cxL X) hR hc13) rfl (by decide) (by decide) rfl (Nat.le_of_ble_eq_true rfl) rfl (fun M hR => ?_)
      obtain ⟨hz14, h⟩ := gd_inv h
      cases h
      exact r_zret DX9_readClause_34 rfl (nz_nar hz14) ⟨Nat.le_refl 0, Nat.le_refl 0⟩ (hp M hR)
  · have h := if_t c7 h
    refine r_aload_n DX9_readClause_14 rfl ?_
    refine r_iconst (v := 1) DX9_readClause_15 ki_1 ?_
    obtain ⟨r8, V9, hc10, h⟩ := bd_inv h
    refine k_callV (As := [.int ((1 : Int32))]) (rest := []) (st1 := [.int (r8)]) (w := some (.int r8)) DX9_readClause_16 cv_X9_71 hR ct_1900 (one_cnt _) rfl (C_X9_fail (out := (r8, V9)) (cxL X) hR hc10) rfl (by decide) (by decide) rfl (Nat.le_of_ble_eq_true rfl) rfl (fun M hR => ?_)
    obtain ⟨hz11, h⟩ := gd_inv h
    cases h
    exact r_zret DX9_readClause_19 rfl (nz_nar hz11) ⟨Nat.le_refl 0, Nat.le_refl 0⟩ (hp M hR)
theorem C_X9_readClause {E : EN} {ad : AD} {fu : Nat} {out : Int32 × St} {V : St} {M : MH} (l : Launch) (hR : Rep E ad V M) (h : f_X9_readClause fu V = some out) : Ct E l yX9_readClause cX9_readClause 5 (some .boolean) (rmD 37) [.ref (ad 1900 0)] M (fun v M => v = (some (.int out.1)) ∧ Rep E ad out.2 M) :=
  Ct.of (own := RX9) (ini := false) (L := [some (.ref (ad 1900 0)), none, none, none, none]) rfl rfl (fun h => by cases h) rfl (Nat.le_of_ble_eq_true rfl) rfl (fun X _ => S_X9_readClause_0 (fun M hR => ⟨rfl, hR⟩) hR h)
