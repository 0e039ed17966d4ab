theorem S_X12_isAhead_82 {E : EN} {X : CX} {P : Option Value → MH → Prop} {ad : AD} {fu : Nat} {out : Int32 × St} (hp : ∀ M, Rep E ad out.2 M → P (some (.int out.1)) M) {V : St} {M : MH} {s0 : Int32} {d0 : Option Value} {d1 : Option Value} {d2 : Option Value} (hR : Rep E ad V M) (h : F_X12_isAhead_82 fu V s0 = some out) : G E X RX12 cX12_isAhead 3 (some .boolean) false (rmD 1) P M [d0, d1, d2] 0 0 82 [.int (s0)] := by
  unfold F_X12_isAhead_82 at h
  obtain ⟨hz1, h⟩ := gd_inv h
  cases h
  exact r_zret DX12_isAhead_82 rfl (nz_nar hz1) ⟨Nat.le_refl 0, Nat.le_refl 0⟩ (hp M hR)
theorem S_X12_isAhead_71 {E : EN} {X : CX} {P : Option Value → MH → Prop} {ad : AD} {fu : Nat} {out : Int32 × St} (hp : ∀ M, Rep E ad out.2 M → P (some (.int out.1)) M) {V : St} {M : MH} {s0 : Int32} {d0 : Option Value} {d1 : Option Value} {d2 : Option Value} (hR : Rep E ad V M) (h : F_X12_isAhead_71 fu V s0 = some out) : G E X RX12 cX12_isAhead 3 (some .boolean) false (rmD 1) P M [d0, d1, d2] 0 0 71 [.int (s0)] := by
  unfold F_X12_isAhead_71 at h
  obtain ⟨hz1, h⟩ := gd_inv h
  cases h
  exact r_zret DX12_isAhead_71 rfl (nz_nar hz1) ⟨Nat.le_refl 0, Nat.le_refl 0⟩ (hp M hR)
theorem S_X12_isAhead_35 {E : EN} {X : CX} {P : Option Value → MH → Prop} {ad : AD} {fu : Nat} {out : Int32 × St} (hp : ∀ M, Rep E ad out.2 M → P (some (.int out.1)) M) {V : St} {M : MH} {s0 : Int32} {d0 : Option Value} {d1 : Option Value} {d2 : Option Value} (hR : Rep E ad V M) (h : F_X12_isAhead_35 fu V s0 = some out) : G E X RX12 cX12_isAhead 3 (some .boolean) false (rmD 1) P M [d0, d1, d2] 0 0 35 [.int (s0)] := by
  unfold F_X12_isAhead_35 at h
  obtain ⟨hz1, h⟩ := gd_inv h
  cases h
  exact r_zret DX12_isAhead_35 rfl (nz_nar hz1) ⟨Nat.le_refl 0, Nat.le_refl 0⟩ (hp M hR)
theorem S_X12_isAhead_0 {E : EN} {X : CX} {P : Option Value → MH → Prop} {ad : AD} {fu : Nat} {out : Int32 × St} (hp : ∀ M, Rep E ad out.2 M → P (some (.int out.1)) M) {V : St} {M : MH} {x1 : Int32} {x2 : Int32} (hR : Rep E ad V M) (h : f_X12_isAhead fu V x1 x2 = some out) : G E X RX12 cX12_isAhead 3 (some .boolean) false (rmD 1) P M [some (.ref (ad 2200 0)), some (.int (x1)), some (.int (x2))] 0 0 0 [] := by
  unfold f_X12_isAhead at h
  refine r_aload_n DX12_isAhead_0 rfl ?_
  refine s_geta DX12_isAhead_1 fl_X12_206 hR ct_2200 (one_cnt _) rfl ?_
  refine r_iload_n DX12_isAhead_4 rfl ?_
  obtain ⟨hg1, h⟩ := gd_inv h
  refine s_iald DX12_isAhead_5 hR ct_2284 (one_cnt _) hg1 ?_
  refine r_aload_n DX12_isAhead_6 rfl ?_
  refine s_geta DX12_isAhead_7 fl_X12_206 hR ct_2200 (one_cnt _) rfl ?_
  refine r_iload_n DX12_isAhead_10 rfl ?_
  obtain ⟨hg2, h⟩ := gd_inv h
  refine s_iald DX12_isAhead_11 hR ct_2284 (one_cnt _) hg2 ?_
  refine r_icmp_eq DX12_isAhead_12 (fun c3 => ?_) (fun c3 => ?_)
  · have h := if_t c3 h
    refine r_aload_n DX12_isAhead_36 rfl ?_
    refine s_geta DX12_isAhead_37 fl_X12_203 hR ct_2200 (one_cnt _) rfl ?_
    refine r_iload_n DX12_isAhead_40 rfl ?_
    obtain ⟨hg4, h⟩ := gd_inv h
    refine s_iald DX12_isAhead_41 hR ct_2283 (one_cnt _) hg4 ?_
    refine r_aload_n DX12_isAhead_42 rfl ?_
    refine s_geta DX12_isAhead_43 fl_X12_203 hR ct_2200 (one_cnt _) rfl ?_
    refine r_iload_n DX12_isAhead_46 rfl ?_
    obtain ⟨hg5, h⟩ := gd_inv h
    refine s_iald DX12_isAhead_47 hR ct_2283 (one_cnt _) hg5 ?_
    refine r_icmp_eq DX12_isAhead_48 (fun c6 => ?_) (fun c6 => ?_)
    · have h := if_t c6 h
      refine r_iload_n DX12_isAhead_72 rfl ?_
      refine r_iload_n DX12_isAhead_73 rfl ?_
      refine r_icmp_ge DX12_isAhead_74 (fun c7 => ?_) (fun c7 => ?_)
      · have h := if_t c7 h
        refine r_iconst (v := 0) DX12_isAhead_81 ki_0 ?_
        exact S_X12_isAhead_82 hp hR h
      · have h := if_f c7 h
        refine r_iconst (v := 1) DX12_isAhead_77 ki_1 ?_
        refine r_goto DX12_isAhead_78 ?_
        exact S_X12_isAhead_82 hp hR h
    · have h := if_f c6 h
      refine r_aload_n DX12_isAhead_51 rfl ?_
      refine s_geta DX12_isAhead_52 fl_X12_203 hR ct_2200 (one_cnt _) rfl ?_
      refine r_iload_n DX12_isAhead_55 rfl ?_
      obtain ⟨hg7, h⟩ := gd_inv h
      refine s_iald DX12_isAhead_56 hR ct_2283 (one_cnt _) hg7 ?_
      refine r_aload_n DX12_isAhead_57 rfl ?_
      refine s_geta DX12_isAhead_58 fl_X12_203 hR ct_2200 (one_cnt _) rfl ?_
      refine r_iload_n DX12_isAhead_61 rfl ?_
      obtain ⟨hg8, h⟩ := gd_inv h
      refine s_iald DX12_isAhead_62 hR ct_2283 (one_cnt _) hg8 ?_
      refine r_icmp_ge DX12_isAhead_63 (fun c9 => ?_) (fun c9 => ?_)
      · have h := if_t c9 h
        refine r_iconst (v := 0) DX12_isAhead_70 ki_0 ?_
        exact S_X12_isAhead_71 hp hR h
      · have h := if_f c9 h
        refine r_iconst (v := 1) DX12_isAhead_66 ki_1 ?_
        refine r_goto DX12_isAhead_67 ?_
        exact S_X12_isAhead_71 hp hR h
  · have h := if_f c3 h
    refine r_aload_n DX12_isAhead_15 rfl ?_
    refine s_geta DX12_isAhead_16 fl_X12_206 hR ct_2200 (one_cnt _) rfl ?_
    refine r_iload_n DX12_isAhead_19 rfl ?_
    obtain ⟨hg6, h⟩ := gd_inv h
    refine s_iald DX12_isAhead_20 hR ct_2284 (one_cnt _) hg6 ?_
    refine r_aload_n DX12_isAhead_21 rfl ?_
    refine s_geta DX12_isAhead_22 fl_X12_206 hR ct_2200 (one_cnt _) rfl ?_
    refine r_iload_n DX12_isAhead_25 rfl ?_
    obtain ⟨hg7, h⟩ := gd_inv h
    refine s_iald DX12_isAhead_26 hR ct_2284 (one_cnt _) hg7 ?_
    refine r_icmp_le DX12_isAhead_27 (fun c8 => ?_) (fun c8 => ?_)
    · have h := if_t c8 h
      refine r_iconst (v := 0) DX12_isAhead_34 ki_0 ?_
      exact S_X12_isAhead_35 hp hR h
    · have h := if_f c8 h
      refine r_iconst (v := 1) DX12_isAhead_30 ki_1 ?_
      refine r_goto DX12_isAhead_31 ?_
      exact S_X12_isAhead_35 hp hR h
theorem C_X12_isAhead {E : EN} {ad : AD} {fu : Nat} {out : Int32 × St} {V : St} {M : MH} {x1 : Int32} {x2 : Int32} (l : Launch) (hR : Rep E ad V M) (h : f_X12_isAhead fu V x1 x2 = some out) : Ct E l yX12_isAhead cX12_isAhead 3 (some .boolean) (rmD 1) [.ref (ad 2200 0), .int (x1), .int (x2)] M (fun v M => v = (some (.int out.1)) ∧ Rep E ad out.2 M) :=
  Ct.of (own := RX12) (ini := false) (L := [some (.ref (ad 2200 0)), some (.int (x1)), some (.int (x2))]) rfl rfl (fun h => by cases h) rfl (Nat.le_of_ble_eq_true rfl) rfl (fun X _ => S_X12_isAhead_0 (fun M hR => ⟨rfl, hR⟩) hR h)
theorem S_X12_aheadOf_64 {E : EN} {X : CX} {P : Option Value → MH → Prop} {ad : AD} {fu : Nat} {out : Int32 × St} (hp : ∀ M, Rep E ad out.2 M → P (some (.int out.1)) M) {V : St} {M : MH} {x2 : Int32} {d0 : Option Value} {d1 : Option Value} {d3 : Option Value} (hR : Rep E ad V M) (h : F_X12_aheadOf_64 fu V x2 = some out) : G E X RX12 cX12_aheadOf 4 (some .int) false (rmD 2) P M [d0, d1, some (.int (x2)), d3] 0 0 64 [] := by
  unfold F_X12_aheadOf_64 at h
  refine r_iload_n DX12_aheadOf_64 rfl ?_
  cases h
  exact r_iret DX12_aheadOf_65 rfl ⟨Nat.le_refl 0, Nat.le_refl 0⟩ (hp M hR)
theorem S_X12_aheadOf_56 {E : EN} {X : CX} {P : Option Value → MH → Prop} {ad : AD} {fu : Nat} {out : Int32 × St} {kh : St → Int32 → Int32 → Int32 → RR} {kx64 : St → Int32 → RR} (hkh : ∀ {V : St} {M : MH} {x1 : Int32} {x2 : Int32} {x3 : Int32}, Rep E ad V M → kh V x1 x2 x3 = some out → G E X RX12 cX12_aheadOf 4 (some .int) false (rmD 2) P M [some (.ref (ad 2200 0)), some (.int (x1)), some (.int (x2)), some (.int (x3))] 0 0 4 []) (hkx64 : ∀ {V : St} {M : MH} {x2 : Int32} {d0 : Option Value} {d1 : Option Value} {d3 : Option Value}, Rep E ad V M → kx64 V x2 = some out → G E X RX12 cX12_aheadOf 4 (some .int) false (rmD 2) P M [d0, d1, some (.int (x2)), d3] 0 0 64 []) (hp : ∀ M, Rep E ad out.2 M → P (some (.int out.1)) M) {V : St} {M : MH} {x1 : Int32} {x3 : Int32} {s0 : Int32} {s1 : Int32} {d2 : Option Value} (hR : Rep E ad V M) (h : F_X12_aheadOf_56 kh kx64 fu V x1 x3 s0 s1 = some out) : G E X RX12 cX12_aheadOf 4 (some .int) false (rmD 2) P M [some (.ref (ad 2200 0)), some (.int (x1)), d2, some (.int (x3))] 0 0 56 [.int (s0), .int (s1)] := by
  unfold F_X12_aheadOf_56 at h
  refine r_iadd DX12_aheadOf_56 ?_
  refine t_istore_n (L' := [some (.ref (ad 2200 0)), some (.int (x1)), some (.int (s1 + s0)), some (.int (x3))]) DX12_aheadOf_57 (by decide) rfl ?_
  refine t_iinc (v := 1) (L' := [some (.ref (ad 2200 0)), some (.int (x1)), some (.int (s1 + s0)), some (.int (x3 + 1))]) DX12_aheadOf_58 rfl ki_1 (by decide) rfl ?_
  refine r_goto DX12_aheadOf_61 ?_
  exact hkh hR h
theorem S_X12_aheadOf_55 {E : EN} {X : CX} {P : Option Value → MH → Prop} {ad : AD} {fu : Nat} {out : Int32 × St} {kh : St → Int32 → Int32 → Int32 → RR} {kx64 : St → Int32 → RR} (hkh : ∀ {V : St} {M : MH} {x1 : Int32} {x2 : Int32} {x3 : Int32}, Rep E ad V M → kh V x1 x2 x3 = some out → G E X RX12 cX12_aheadOf 4 (some .int) false (rmD 2) P M [some (.ref (ad 2200 0)), some (.int (x1)), some (.int (x2)), some (.int (x3))] 0 0 4 []) (hkx64 : ∀ {V : St} {M : MH} {x2 : Int32} {d0 : Option Value} {d1 : Option Value} {d3 : Option Value}, Rep E ad V M → kx64 V x2 = some out → G E X RX12 cX12_aheadOf 4 (some .int) false (rmD 2) P M [d0, d1, some (.int (x2)), d3] 0 0 64 []) (hp : ∀ M, Rep E ad out.2 M → P (some (.int out.1)) M) {V : St} {M : MH} {x1 : Int32} {x3 : Int32} {s0 : Int32} {d2 : Option Value} (hR : Rep E ad V M) (h : F_X12_aheadOf_55 kh kx64 fu V x1 x3 s0 = some out) : G E X RX12 cX12_aheadOf 4 (some .int) false (rmD 2) P M [some (.ref (ad 2200 0)), some (.int (x1)), d2, some (.int (x3))] 0 0 55 [.int (s0)] := by
  unfold F_X12_aheadOf_55 at h
  refine r_iconst (v := 0) DX12_aheadOf_55 ki_0 ?_
  exact S_X12_aheadOf_56 (fun hR h => hkh hR h) (fun hR h => hkx64 hR h) hp hR h
theorem S_X12_aheadOf_4 {E : EN} {X : CX} {P : Option Value → MH → Prop} {ad : AD} {fu : Nat} {out : Int32 × St} {kh : St → Int32 → Int32 → Int32 → RR} {kx64 : St → Int32 → RR} (hkh : ∀ {V : St} {M : MH} {x1 : Int32} {x2 : Int32} {x3 : Int32}, Rep E ad V M → kh V x1 x2 x3 = some out → G E X RX12 cX12_aheadOf 4 (some .int) false (rmD 2) P M [some (.ref (ad 2200 0)), some (.int (x1)), some (.int (x2)), some (.int (x3))] 0 0 4 []) (hkx64 : ∀ {V : St} {M : MH} {x2 : Int32} {d0 : Option Value} {d1 : Option Value} {d3 : Option Value}, Rep E ad V M → kx64 V x2 = some out → G E X RX12 cX12_aheadOf 4 (some .int) false (rmD 2) P M [d0, d1, some (.int (x2)), d3] 0 0 64 []) (hp : ∀ M, Rep E ad out.2 M → P (some (.int out.1)) M) {V : St} {M : MH} {x1 : Int32} {x2 : Int32} {x3 : Int32} (hR : Rep E ad V M) (h : F_X12_aheadOf_4 kh kx64 fu V x1 x2 x3 = some out) : G E X RX12 cX12_aheadOf 4 (some .int) false (rmD 2) P M [some (.ref (ad 2200 0)), some (.int (x1)), some (.int (x2)), some (.int (x3))] 0 0 4 [] := by
  unfold F_X12_aheadOf_4 at h
  refine r_iload_n DX12_aheadOf_4 rfl ?_
  refine r_aload_n DX12_aheadOf_5 rfl ?_
  refine s_geti DX12_aheadOf_6 fl_X12_449 hR ct_2200 (one_cnt _) rfl ?_
  refine r_icmp_ge DX12_aheadOf_9 (fun c1 => ?_) (fun c1 => ?_)
  · have h := if_t c1 h
    exact hkx64 hR h
  · have h := if_f c1 h
    refine r_iload_n DX12_aheadOf_12 rfl ?_
    refine r_iload_n DX12_aheadOf_13 rfl ?_
    refine r_iload_n DX12_aheadOf_14 rfl ?_
    refine r_icmp_eq DX12_aheadOf_15 (fun c2 => ?_) (fun c2 => ?_)
    · have h := if_t c2 h
      exact S_X12_aheadOf_55 (fun hR h => hkh hR h) (fun hR h => hkx64 hR h) hp hR h
    · have h := if_f c2 h
      refine r_aload_n DX12_aheadOf_18 rfl ?_
      refine s_geta DX12_aheadOf_19 fl_X12_209 hR ct_2200 (one_cnt _) rfl ?_
      refine r_iload_n DX12_aheadOf_22 rfl ?_
      obtain ⟨hg3, h⟩ := gd_inv h
      refine s_zald DX12_aheadOf_23 hR ct_2285 (one_cnt _) hg3 ?_
      refine r_if_eq DX12_aheadOf_24 (fun c4 => ?_) (fun c4 => ?_)
      · have h := if_t c4 h
        exact S_X12_aheadOf_55 (fun hR h => hkh hR h) (fun hR h => hkx64 hR h) hp hR h
      · have h := if_f c4 h
        refine r_aload_n DX12_aheadOf_27 rfl ?_
        refine s_geta DX12_aheadOf_28 fl_X12_200 hR ct_2200 (one_cnt _) rfl ?_
        refine r_iload_n DX12_aheadOf_31 rfl ?_
        obtain ⟨hg5, h⟩ := gd_inv h
        refine s_iald DX12_aheadOf_32 hR ct_2282 (one_cnt _) hg5 ?_
        refine r_aload_n DX12_aheadOf_33 rfl ?_
        refine s_geta DX12_aheadOf_34 fl_X12_200 hR ct_2200 (one_cnt _) rfl ?_
        refine r_iload_n DX12_aheadOf_37 rfl ?_
        obtain ⟨hg6, h⟩ := gd_inv h
        refine s_iald DX12_aheadOf_38 hR ct_2282 (one_cnt _) hg6 ?_
        refine r_icmp_ne DX12_aheadOf_39 (fun c7 => ?_) (fun c7 => ?_)
        · have h := if_f c7 h
          exact S_X12_aheadOf_55 (fun hR h => hkh hR h) (fun hR h => hkx64 hR h) hp hR h
        · have h := if_t c7 h
          refine r_aload_n DX12_aheadOf_42 rfl ?_
          refine r_iload_n DX12_aheadOf_43 rfl ?_
          refine r_iload_n DX12_aheadOf_44 rfl ?_
          obtain ⟨r8, V9, hc10, h⟩ := bd_inv h
          refine k_callV (As := [.int (x3), .int (x1)]) (rest := [.int (x2)]) (st1 := [.int (r8), .int (x2)]) (w := some (.int r8)) DX12_aheadOf_45 cv_X12_452 hR ct_2200 (one_cnt _) rfl (C_X12_isAhead (out := (r8, V9)) (cxL X) hR hc10) rfl (by decide) (by decide) rfl (Nat.le_of_ble_eq_true rfl) rfl (fun M hR => ?_)
          refine r_if_eq DX12_aheadOf_48 (fun c11 => ?_) (fun c11 => ?_)
          · have h := if_t c11 h
            exact S_X12_aheadOf_55 (fun hR h => hkh hR h) (fun hR h => hkx64 hR h) hp hR h
          · have h := if_f c11 h
            refine r_iconst (v := 1) DX12_aheadOf_51 ki_1 ?_
            refine r_goto DX12_aheadOf_52 ?_
            exact S_X12_aheadOf_56 (fun hR h => hkh hR h) (fun hR h => hkx64 hR h) hp hR h
theorem SL_X12_aheadOf_4 {E : EN} {X : CX} {P : Option Value → MH → Prop} {ad : AD} {fu : Nat} {out : Int32 × St} {kx64 : St → Int32 → RR} (hkx64 : ∀ {V : St} {M : MH} {x2 : Int32} {d0 : Option Value} {d1 : Option Value} {d3 : Option Value}, Rep E ad V M → kx64 V x2 = some out → G E X RX12 cX12_aheadOf 4 (some .int) false (rmD 2) P M [d0, d1, some (.int (x2)), d3] 0 0 64 []) (hp : ∀ M, Rep E ad out.2 M → P (some (.int out.1)) M) : ∀ (n : Nat) {V : St} {M : MH} {x1 : Int32} {x2 : Int32} {x3 : Int32}, Rep E ad V M → Lp_X12_aheadOf_4 kx64 fu n V x1 x2 x3 = some out → G E X RX12 cX12_aheadOf 4 (some .int) false (rmD 2) P M [some (.ref (ad 2200 0)), some (.int (x1)), some (.int (x2)), some (.int (x3))] 0 0 4 [] := by
  intro n
  induction n with
  | zero => intros; rename_i h; cases h
  | succ n ih => exact fun hR h => S_X12_aheadOf_4 (fun hR h => ih hR h) (fun hR h => hkx64 hR h) hp hR h
theorem S_X12_aheadOf_0 {E : EN} {X : CX} {P : Option Value → MH → Prop} {ad : AD} {fu : Nat} {out : Int32 × St} (hp : ∀ M, Rep E ad out.2 M → P (some (.int out.1)) M) {V : St} {M : MH} {x1 : Int32} (hR : Rep E ad V M) (h : f_X12_aheadOf fu V x1 = some out) : G E X RX12 cX12_aheadOf 4 (some .int) false (rmD 2) P M [some (.ref (ad 2200 0)), some (.int (x1)), none, none] 0 0 0 [] := by
  unfold f_X12_aheadOf at h
  refine r_iconst (v := 0) DX12_aheadOf_0 ki_0 ?_
  refine t_istore_n (L' := [some (.ref (ad 2200 0)), some (.int (x1)), some (.int ((0 : Int32))), none]) DX12_aheadOf_1 (by decide) rfl ?_
  refine r_iconst (v := 0) DX12_aheadOf_2 ki_0 ?_
  refine t_istore_n (L' := [some (.ref (ad 2200 0)), some (.int (x1)), some (.int ((0 : Int32))), some (.int ((0 : Int32)))]) DX12_aheadOf_3 (by decide) rfl ?_
  exact SL_X12_aheadOf_4 (fun hR h => S_X12_aheadOf_64 hp hR h) hp fu hR h
theorem C_X12_aheadOf {E : EN} {ad : AD} {fu : Nat} {out : Int32 × St} {V : St} {M : MH} {x1 : Int32} (l : Launch) (hR : Rep E ad V M) (h : f_X12_aheadOf fu V x1 = some out) : Ct E l yX12_aheadOf cX12_aheadOf 4 (some .int) (rmD 2) [.ref (ad 2200 0), .int (x1)] M (fun v M => v = (some (.int out.1)) ∧ Rep E ad out.2 M) :=
  Ct.of (own := RX12) (ini := false) (L := [some (.ref (ad 2200 0)), some (.int (x1)), none, none]) rfl rfl (fun h => by cases h) rfl (Nat.le_of_ble_eq_true rfl) rfl (fun X _ => S_X12_aheadOf_0 (fun M hR => ⟨rfl, hR⟩) hR h)
theorem S_X12_bits_24 {E : EN} {X : CX} {P : Option Value → MH → Prop} {ad : AD} {fu : Nat} {out : Int32 × St} (hp : ∀ M, Rep E ad out.2 M → P (some (.int out.1)) M) {V : St} {M : MH} {x1 : Int32} {d0 : Option Value} {d2 : Option Value} (hR : Rep E ad V M) (h : F_X12_bits_24 fu V x1 = some out) : G E X RX12 cX12_bits 3 (some .int) false (rmD 1) P M [d0, some (.int (x1)), d2] 0 0 24 [] := by
  unfold F_X12_bits_24 at h
  refine r_iload_n DX12_bits_24 rfl ?_
  cases h
  exact r_iret DX12_bits_25 rfl ⟨Nat.le_refl 0, Nat.le_refl 0⟩ (hp M hR)
theorem S_X12_bits_4 {E : EN} {X : CX} {P : Option Value → MH → Prop} {ad : AD} {fu : Nat} {out : Int32 × St} {kh : St → Int32 → Int32 → Int32 → RR} {kx24 : St → Int32 → RR} (hkh : ∀ {V : St} {M : MH} {x0 : Int32} {x1 : Int32} {x2 : Int32}, Rep E ad V M → kh V x0 x1 x2 = some out → G E X RX12 cX12_bits 3 (some .int) false (rmD 1) P M [some (.int (x0)), some (.int (x1)), some (.int (x2))] 0 0 4 []) (hkx24 : ∀ {V : St} {M : MH} {x1 : Int32} {d0 : Option Value} {d2 : Option Value}, Rep E ad V M → kx24 V x1 = some out → G E X RX12 cX12_bits 3 (some .int) false (rmD 1) P M [d0, some (.int (x1)), d2] 0 0 24 []) (hp : ∀ M, Rep E ad out.2 M → P (some (.int out.1)) M) {V : St} {M : MH} {x0 : Int32} {x1 : Int32} {x2 : Int32} (hR : Rep E ad V M) (h : F_X12_bits_4 kh kx24 fu V x0 x1 x2 = some out) : G E X RX12 cX12_bits 3 (some .int) false (rmD 1) P M [some (.int (x0)), some (.int (x1)), some (.int (x2))] 0 0 4 [] := by
  unfold F_X12_bits_4 at h
  refine r_iload_n DX12_bits_4 rfl ?_
  refine r_bipush (v := 31) DX12_bits_5 kb_31 ?_
  refine r_icmp_ge DX12_bits_7 (fun c1 => ?_) (fun c1 => ?_)
  · have h := if_t c1 h
    exact hkx24 hR h
  · have h := if_f c1 h
    refine r_iload_n DX12_bits_10 rfl ?_
    refine r_iload_n DX12_bits_11 rfl ?_
    refine r_iload_n DX12_bits_12 rfl ?_
    refine r_ishr DX12_bits_13 ?_
    refine r_iconst (v := 1) DX12_bits_14 ki_1 ?_
    refine r_iand DX12_bits_15 ?_
    refine r_iadd DX12_bits_16 ?_
    refine t_istore_n (L' := [some (.int (x0)), some (.int (x1 + ((x0 >>> (x2 &&& 31)) &&& (1 : Int32)))), some (.int (x2))]) DX12_bits_17 (by decide) rfl ?_
    refine t_iinc (v := 1) (L' := [some (.int (x0)), some (.int (x1 + ((x0 >>> (x2 &&& 31)) &&& (1 : Int32)))), some (.int (x2 + 1))]) DX12_bits_18 rfl ki_1 (by decide) rfl ?_
    refine r_goto DX12_bits_21 ?_
    exact hkh hR h
theorem SL_X12_bits_4 {E : EN} {X : CX} {P : Option Value → MH → Prop} {ad : AD} {fu : Nat} {out : Int32 × St} {kx24 : St → Int32 → RR} (hkx24 : ∀ {V : St} {M : MH} {x1 : Int32} {d0 : Option Value} {d2 : Option Value}, Rep E ad V M → kx24 V x1 = some out → G E X RX12 cX12_bits 3 (some .int) false (rmD 1) P M [d0, some (.int (x1)), d2] 0 0 24 []) (hp : ∀ M, Rep E ad out.2 M → P (some (.int out.1)) M) : ∀ (n : Nat) {V : St} {M : MH} {x0 : Int32} {x1 : Int32} {x2 : Int32}, Rep E ad V M → Lp_X12_bits_4 kx24 fu n V x0 x1 x2 = some out → G E X RX12 cX12_bits 3 (some .int) false (rmD 1) P M [some (.int (x0)), some (.int (x1)), some (.int (x2))] 0 0 4 [] := by
  intro n
  induction n with
  | zero => intros; rename_i h; cases h
  | succ n ih => exact fun hR h => S_X12_bits_4 (fun hR h => ih hR h) (fun hR h => hkx24 hR h) hp hR h
theorem S_X12_bits_0 {E : EN} {X : CX} {P : Option Value → MH → Prop} {ad : AD} {fu : Nat} {out : Int32 × St} (hp : ∀ M, Rep E ad out.2 M → P (some (.int out.1)) M) {V : St} {M : MH} {x0 : Int32} (hR : Rep E ad V M) (h : f_X12_bits fu V x0 = some out) : G E X RX12 cX12_bits 3 (some .int) false (rmD 1) P M [some (.int (x0)), none, none] 0 0 0 [] := by
  unfold f_X12_bits at h
  refine r_iconst (v := 0) DX12_bits_0 ki_0 ?_
  refine t_istore_n (L' := [some (.int (x0)), some (.int ((0 : Int32))), none]) DX12_bits_1 (by decide) rfl ?_
  refine r_iconst (v := 0) DX12_bits_2 ki_0 ?_
  refine t_istore_n (L' := [some (.int (x0)), some (.int ((0 : Int32))), some (.int ((0 : Int32)))]) DX12_bits_3 (by decide) rfl ?_
  exact SL_X12_bits_4 (fun hR h => S_X12_bits_24 hp hR h) hp fu hR h
theorem C_X12_bits {E : EN} {ad : AD} {fu : Nat} {out : Int32 × St} {V : St} {M : MH} {x0 : Int32} (l : Launch) (hR : Rep E ad V M) (h : f_X12_bits fu V x0 = some out) : Ct E l yX12_bits cX12_bits 3 (some .int) (rmD 1) [.int (x0)] M (fun v M => v = (some (.int out.1)) ∧ Rep E ad out.2 M) :=
  Ct.of (own := RX12) (ini := false) (L := [some (.int (x0)), none, none]) rfl rfl (fun h => by cases h) rfl (Nat.le_of_ble_eq_true rfl) rfl (fun X _ => S_X12_bits_0 (fun M hR => ⟨rfl, hR⟩) hR h)
theorem S_X12_areTold_28 {E : EN} {X : CX} {P : Option Value → MH → Prop} {ad : AD} {fu : Nat} {out : Int32 × St} (hp : ∀ M, Rep E ad out.2 M → P (some (.int out.1)) M) {V : St} {M : MH} {s0 : Int32} {d0 : Option Value} {d1 : Option Value} (hR : Rep E ad V M) (h : F_X12_areTold_28 fu V s0 = some out) : G E X RX12 cX12_areTold 2 (some .boolean) false (rmD 2) P M [d0, d1] 0 0 28 [.int (s0)] := by
  unfold F_X12_areTold_28 at h
  obtain ⟨hz1, h⟩ := gd_inv h
  cases h
  exact r_zret DX12_areTold_28 rfl (nz_nar hz1) ⟨Nat.le_refl 0, Nat.le_refl 0⟩ (hp M hR)
theorem S_X12_areTold_27 {E : EN} {X : CX} {P : Option Value → MH → Prop} {ad : AD} {fu : Nat} {out : Int32 × St} (hp : ∀ M, Rep E ad out.2 M → P (some (.int out.1)) M) {V : St} {M : MH} {d0 : Option Value} {d1 : Option Value} (hR : Rep E ad V M) (h : F_X12_areTold_27 fu V = some out) : G E X RX12 cX12_areTold 2 (some .boolean) false (rmD 2) P M [d0, d1] 0 0 27 [] := by
  unfold F_X12_areTold_27 at h
  refine r_iconst (v := 0) DX12_areTold_27 ki_0 ?_
  exact S_X12_areTold_28 hp hR h
theorem S_X12_areTold_0 {E : EN} {X : CX} {P : Option Value → MH → Prop} {ad : AD} {fu : Nat} {out : Int32 × St} (hp : ∀ M, Rep E ad out.2 M → P (some (.int out.1)) M) {V : St} {M : MH} {x1 : Int32} (hR : Rep E ad V M) (h : f_X12_areTold fu V x1 = some out) : G E X RX12 cX12_areTold 2 (some .boolean) false (rmD 2) P M [some (.ref (ad 2200 0)), some (.int (x1))] 0 0 0 [] := by
  unfold f_X12_areTold at h
  refine r_iload_n DX12_areTold_0 rfl ?_
  refine r_if_lt DX12_areTold_1 (fun c1 => ?_) (fun c1 => ?_)
  · have h := if_t c1 h
    exact S_X12_areTold_27 hp hR h
  · have h := if_f c1 h
    refine r_iload_n DX12_areTold_4 rfl ?_
    refine r_iconst (v := 1) DX12_areTold_5 ki_1 ?_
    refine r_aload_n DX12_areTold_6 rfl ?_
    refine s_geti DX12_areTold_7 fl_X12_291 hR ct_2200 (one_cnt _) rfl ?_
    refine r_ishl DX12_areTold_10 ?_
    refine r_icmp_ge DX12_areTold_11 (fun c2 => ?_) (fun c2 => ?_)
    · have h := if_t c2 h
      exact S_X12_areTold_27 hp hR h
    · have h := if_f c2 h
      refine r_iload_n DX12_areTold_14 rfl ?_
      obtain ⟨r3, V4, hc5, h⟩ := bd_inv h
      refine k_callS (As := [.int (x1)]) (rest := []) (st1 := [.int (r3)]) (w := some (.int r3)) DX12_areTold_15 cs_X12_464 (C_X12_bits (out := (r3, V4)) (cxL X) hR hc5) rfl (by decide) (by decide) rfl (Nat.le_of_ble_eq_true rfl) rfl (fun M hR => ?_)
      refine r_bipush (v := 8) DX12_areTold_18 kb_8 ?_
      refine r_icmp_gt DX12_areTold_20 (fun c6 => ?_) (fun c6 => ?_)
      · have h := if_t c6 h
        exact S_X12_areTold_27 hp hR h
      · have h := if_f c6 h
        refine r_iconst (v := 1) DX12_areTold_23 ki_1 ?_
        refine r_goto DX12_areTold_24 ?_
        exact S_X12_areTold_28 hp hR h
theorem C_X12_areTold {E : EN} {ad : AD} {fu : Nat} {out : Int32 × St} {V : St} {M : MH} {x1 : Int32} (l : Launch) (hR : Rep E ad V M) (h : f_X12_areTold fu V x1 = some out) : Ct E l yX12_areTold cX12_areTold 2 (some .boolean) (rmD 2) [.ref (ad 2200 0), .int (x1)] M (fun v M => v = (some (.int out.1)) ∧ Rep E ad out.2 M) :=
  Ct.of (own := RX12) (ini := false) (L := [some (.ref (ad 2200 0)), some (.int (x1))]) rfl rfl (fun h => by cases h) rfl (Nat.le_of_ble_eq_true rfl) rfl (fun X _ => S_X12_areTold_0 (fun M hR => ⟨rfl, hR⟩) hR h)
theorem S_X12_bearsOf_21 {E : EN} {X : CX} {P : Option Value → MH → Prop} {ad : AD} {fu : Nat} {out : Int32 × St} (hp : ∀ M, Rep E ad out.2 M → P (some (.int out.1)) M) {V : St} {M : MH} {s0 : Int32} {d0 : Option Value} (hR : Rep E ad V M) (h : F_X12_bearsOf_21 fu V s0 = some out) : G E X RX12 cX12_bearsOf 1 (some .int) false (rmD 1) P M [d0] 0 0 21 [.int (s0)] := by
  unfold F_X12_bearsOf_21 at h
  cases h
  exact r_iret DX12_bearsOf_21 rfl ⟨Nat.le_refl 0, Nat.le_refl 0⟩ (hp M hR)
theorem S_X12_bearsOf_0 {E : EN} {X : CX} {P : Option Value → MH → Prop} {ad : AD} {fu : Nat} {out : Int32 × St} (hp : ∀ M, Rep E ad out.2 M → P (some (.int out.1)) M) {V : St} {M : MH} {x0 : Int32} (hR : Rep E ad V M) (h : f_X12_bearsOf fu V x0 = some out) : G E X RX12 cX12_bearsOf 1 (some .int) false (rmD 1) P M [some (.int (x0))] 0 0 0 [] := by
  unfold f_X12_bearsOf at h
  refine r_iload_n DX12_bearsOf_0 rfl ?_
  refine r_if_ne DX12_bearsOf_1 (fun c1 => ?_) (fun c1 => ?_)
  · have h := if_f c1 h
    refine r_iload_n DX12_bearsOf_9 rfl ?_
    refine r_iconst (v := 1) DX12_bearsOf_10 ki_1 ?_
    refine r_icmp_ne DX12_bearsOf_11 (fun c2 => ?_) (fun c2 => ?_)
    · have h := if_f c2 h
      refine r_bipush (v := 60) DX12_bearsOf_19 kb_60 ?_
      exact S_X12_bearsOf_21 hp hR h
    · have h := if_t c2 h
      refine r_bipush (v := 25) DX12_bearsOf_14 kb_25 ?_
      refine r_goto DX12_bearsOf_16 ?_
      exact S_X12_bearsOf_21 hp hR h
  · have h := if_t c1 h
    refine r_bipush (v := 10) DX12_bearsOf_4 kb_10 ?_
    refine r_goto DX12_bearsOf_6 ?_
    exact S_X12_bearsOf_21 hp hR h
theorem C_X12_bearsOf {E : EN} {ad : AD} {fu : Nat} {out : Int32 × St} {V : St} {M : MH} {x0 : Int32} (l : Launch) (hR : Rep E ad V M) (h : f_X12_bearsOf fu V x0 = some out) : Ct E l yX12_bearsOf cX12_bearsOf 1 (some .int) (rmD 1) [.int (x0)] M (fun v M => v = (some (.int out.1)) ∧ Rep E ad out.2 M) :=
  Ct.of (own := RX12) (ini := false) (L := [some (.int (x0))]) rfl rfl (fun h => by cases h) rfl (Nat.le_of_ble_eq_true rfl) rfl (fun X _ => S_X12_bearsOf_0 (fun M hR => ⟨rfl, hR⟩) hR h)
theorem S_X12_moreFlow_450 {E : EN} {X : CX} {P : Option Value → MH → Prop} {ad : AD} {fu : Nat} {out : Int32 × St} (hp : ∀ M, Rep E ad out.2 M → P (some (.int out.1)) M) {V : St} {M : MH} {x3 : Int32} {d0 : Option Value} {d1 : Option Value} {d2 : Option Value} {d4 : Option Value} {d5 : Option Value} {d6 : Option Value} {d7 : Option Value} (hR : Rep E ad V M) (h : F_X12_moreFlow_450 fu V x3 = some out) : G E X RX12 cX12_moreFlow 8 (some .int) false (rmD 2) P M [d0, d1, d2, some (.int (x3)), d4, d5, d6, d7] 0 0 450 [] := by
  unfold F_X12_moreFlow_450 at h
  refine r_iload_n DX12_moreFlow_450 rfl ?_
  cases h
  exact r_iret DX12_moreFlow_451 rfl ⟨Nat.le_refl 0, Nat.le_refl 0⟩ (hp M hR)
theorem S_X12_moreFlow_445 {E : EN} {X : CX} {P : Option Value → MH → Prop} {ad : AD} {fu : Nat} {out : Int32 × St} {kh : St → Int32 → Int32 → Int32 → Int32 → RR} {kx450 : St → Int32 → RR} (hkh : ∀ {V : St} {M : MH} {x1 : Int32} {x2 : Int32} {x3 : Int32} {x4 : Int32} {d5 : Option Value} {d6 : Option Value} {d7 : Option Value}, Rep E ad V M → kh V x1 x2 x3 x4 = some out → G E X RX12 cX12_moreFlow 8 (some .int) false (rmD 2) P M [some (.ref (ad 2200 0)), some (.int (x1)), some (.int (x2)), some (.int (x3)), some (.int (x4)), d5, d6, d7] 0 0 347 []) (hkx450 : ∀ {V : St} {M : MH} {x3 : Int32} {d0 : Option Value} {d1 : Option Value} {d2 : Option Value} {d4 : Option Value} {d5 : Option Value} {d6 : Option Value} {d7 : Option Value}, Rep E ad V M → kx450 V x3 = some out → G E X RX12 cX12_moreFlow 8 (some .int) false (rmD 2) P M [d0, d1, d2, some (.int (x3)), d4, d5, d6, d7] 0 0 450 []) (hp : ∀ M, Rep E ad out.2 M → P (some (.int out.1)) M) {V : St} {M : MH} {x1 : Int32} {x2 : Int32} {x3 : Int32} {s0 : Int32} {d4 : Option Value} {d5 : Option Value} {d6 : Option Value} {d7 : Option Value} (hR : Rep E ad V M) (h : F_X12_moreFlow_445 kh kx450 fu V x1 x2 x3 s0 = some out) : G E X RX12 cX12_moreFlow 8 (some .int) false (rmD 2) P M [some (.ref (ad 2200 0)), some (.int (x1)), some (.int (x2)), some (.int (x3)), d4, d5, d6, d7] 0 0 445 [.int (s0)] := by
  unfold F_X12_moreFlow_445 at h
  refine t_istore (L' := [some (.ref (ad 2200 0)), some (.int (x1)), some (.int (x2)), some (.int (x3)), some (.int (s0)), d5, d6, d7]) DX12_moreFlow_445 (by decide) rfl ?_
  refine r_goto DX12_moreFlow_447 ?_
  exact hkh hR h
theorem S_X12_moreFlow_422 {E : EN} {X : CX} {P : Option Value → MH → Prop} {ad : AD} {fu : Nat} {out : Int32 × St} {kh : St → Int32 → Int32 → Int32 → Int32 → RR} {kx450 : St → Int32 → RR} (hkh : ∀ {V : St} {M : MH} {x1 : Int32} {x2 : Int32} {x3 : Int32} {x4 : Int32} {d5 : Option Value} {d6 : Option Value} {d7 : Option Value}, Rep E ad V M → kh V x1 x2 x3 x4 = some out → G E X RX12 cX12_moreFlow 8 (some .int) false (rmD 2) P M [some (.ref (ad 2200 0)), some (.int (x1)), some (.int (x2)), some (.int (x3)), some (.int (x4)), d5, d6, d7] 0 0 347 []) (hkx450 : ∀ {V : St} {M : MH} {x3 : Int32} {d0 : Option Value} {d1 : Option Value} {d2 : Option Value} {d4 : Option Value} {d5 : Option Value} {d6 : Option Value} {d7 : Option Value}, Rep E ad V M → kx450 V x3 = some out → G E X RX12 cX12_moreFlow 8 (some .int) false (rmD 2) P M [d0, d1, d2, some (.int (x3)), d4, d5, d6, d7] 0 0 450 []) (hp : ∀ M, Rep E ad out.2 M → P (some (.int out.1)) M) {V : St} {M : MH} {x1 : Int32} {x2 : Int32} {x3 : Int32} {x6 : Int32} {x7 : Int32} {s0 : Int32} {s1 : Int32} {d4 : Option Value} {d5 : Option Value} (hR : Rep E ad V M) (h : F_X12_moreFlow_422 kh kx450 fu V x1 x2 x3 x6 x7 s0 s1 = some out) : G E X RX12 cX12_moreFlow 8 (some .int) false (rmD 2) P M [some (.ref (ad 2200 0)), some (.int (x1)), some (.int (x2)), some (.int (x3)), d4, d5, some (.int (x6)), some (.int (x7))] 0 0 422 [.int (s0), .int (s1), .ref (ad 2228 (0))] := by
  unfold F_X12_moreFlow_422 at h
  obtain ⟨hg1, h⟩ := gd_inv h
  obtain ⟨V2, hv3, h⟩ := bv_inv h
  refine s_iast DX12_moreFlow_422 hR oka_2228 ct_2228 (one_cnt _) hg1 (fun M hR => ?_)
  have hR := hR.cg hv3
  refine r_iload DX12_moreFlow_423 rfl ?_
  refine r_if_eq DX12_moreFlow_425 (fun c4 => ?_) (fun c4 => ?_)
  · have h := if_t c4 h
    refine r_aload_n DX12_moreFlow_438 rfl ?_
    refine s_geta DX12_moreFlow_439 fl_X12_31 hR ct_2200 (one_cnt _) rfl ?_
    refine r_iload DX12_moreFlow_442 rfl ?_
    obtain ⟨hg5, h⟩ := gd_inv h
    refine s_iald DX12_moreFlow_444 hR ct_2212 (one_cnt _) hg5 ?_
    exact S_X12_moreFlow_445 (fun hR h => hkh hR h) (fun hR h => hkx450 hR h) hp hR h
  · have h := if_f c4 h
    refine r_aload_n DX12_moreFlow_428 rfl ?_
    refine s_geta DX12_moreFlow_429 fl_X12_28 hR ct_2200 (one_cnt _) rfl ?_
    refine r_iload DX12_moreFlow_432 rfl ?_
    obtain ⟨hg6, h⟩ := gd_inv h
    refine s_iald DX12_moreFlow_434 hR ct_2211 (one_cnt _) hg6 ?_
    refine r_goto DX12_moreFlow_435 ?_
    exact S_X12_moreFlow_445 (fun hR h => hkh hR h) (fun hR h => hkx450 hR h) hp hR h
theorem S_X12_moreFlow_388 {E : EN} {X : CX} {P : Option Value → MH → Prop} {ad : AD} {fu : Nat} {out : Int32 × St} {kh : St → Int32 → Int32 → Int32 → Int32 → RR} {kx450 : St → Int32 → RR} (hkh : ∀ {V : St} {M : MH} {x1 : Int32} {x2 : Int32} {x3 : Int32} {x4 : Int32} {d5 : Option Value} {d6 : Option Value} {d7 : Option Value}, Rep E ad V M → kh V x1 x2 x3 x4 = some out → G E X RX12 cX12_moreFlow 8 (some .int) false (rmD 2) P M [some (.ref (ad 2200 0)), some (.int (x1)), some (.int (x2)), some (.int (x3)), some (.int (x4)), d5, d6, d7] 0 0 347 []) (hkx450 : ∀ {V : St} {M : MH} {x3 : Int32} {d0 : Option Value} {d1 : Option Value} {d2 : Option Value} {d4 : Option Value} {d5 : Option Value} {d6 : Option Value} {d7 : Option Value}, Rep E ad V M → kx450 V x3 = some out → G E X RX12 cX12_moreFlow 8 (some .int) false (rmD 2) P M [d0, d1, d2, some (.int (x3)), d4, d5, d6, d7] 0 0 450 []) (hp : ∀ M, Rep E ad out.2 M → P (some (.int out.1)) M) {V : St} {M : MH} {x1 : Int32} {x2 : Int32} {x3 : Int32} {x5 : Int32} {x6 : Int32} {s0 : Int32} {d4 : Option Value} {d7 : Option Value} (hR : Rep E ad V M) (h : F_X12_moreFlow_388 kh kx450 fu V x1 x2 x3 x5 x6 s0 = some out) : G E X RX12 cX12_moreFlow 8 (some .int) false (rmD 2) P M [some (.ref (ad 2200 0)), some (.int (x1)), some (.int (x2)), some (.int (x3)), d4, some (.int (x5)), some (.int (x6)), d7] 0 0 388 [.int (s0)] := by
  unfold F_X12_moreFlow_388 at h
  refine t_istore (L' := [some (.ref (ad 2200 0)), some (.int (x1)), some (.int (x2)), some (.int (x3)), d4, some (.int (x5)), some (.int (x6)), some (.int (s0))]) DX12_moreFlow_388 (by decide) rfl ?_
  refine r_aload_n DX12_moreFlow_390 rfl ?_
  refine s_geta DX12_moreFlow_391 fl_X12_79 hR ct_2200 (one_cnt _) rfl ?_
  refine r_iload DX12_moreFlow_394 rfl ?_
  refine r_iload DX12_moreFlow_396 rfl ?_
  refine r_if_eq DX12_moreFlow_398 (fun c1 => ?_) (fun c1 => ?_)
  · have h := if_t c1 h
    refine r_aload_n DX12_moreFlow_413 rfl ?_
    refine s_geta DX12_moreFlow_414 fl_X12_79 hR ct_2200 (one_cnt _) rfl ?_
    refine r_iload DX12_moreFlow_417 rfl ?_
    obtain ⟨hg2, h⟩ := gd_inv h
    refine s_iald DX12_moreFlow_419 hR ct_2228 (one_cnt _) hg2 ?_
    refine r_iload_n DX12_moreFlow_420 rfl ?_
    refine r_isub DX12_moreFlow_421 ?_
    exact S_X12_moreFlow_422 (fun hR h => hkh hR h) (fun hR h => hkx450 hR h) hp hR h
  · have h := if_f c1 h
    refine r_aload_n DX12_moreFlow_401 rfl ?_
    refine s_geta DX12_moreFlow_402 fl_X12_79 hR ct_2200 (one_cnt _) rfl ?_
    refine r_iload DX12_moreFlow_405 rfl ?_
    obtain ⟨hg3, h⟩ := gd_inv h
    refine s_iald DX12_moreFlow_407 hR ct_2228 (one_cnt _) hg3 ?_
    refine r_iload_n DX12_moreFlow_408 rfl ?_
    refine r_iadd DX12_moreFlow_409 ?_
    refine r_goto DX12_moreFlow_410 ?_
    exact S_X12_moreFlow_422 (fun hR h => hkh hR h) (fun hR h => hkx450 hR h) hp hR h
theorem S_X12_moreFlow_347 {E : EN} {X : CX} {P : Option Value → MH → Prop} {ad : AD} {fu : Nat} {out : Int32 × St} {kh : St → Int32 → Int32 → Int32 → Int32 → RR} {kx450 : St → Int32 → RR} (hkh : ∀ {V : St} {M : MH} {x1 : Int32} {x2 : Int32} {x3 : Int32} {x4 : Int32} {d5 : Option Value} {d6 : Option Value} {d7 : Option Value}, Rep E ad V M → kh V x1 x2 x3 x4 = some out → G E X RX12 cX12_moreFlow 8 (some .int) false (rmD 2) P M [some (.ref (ad 2200 0)), some (.int (x1)), some (.int (x2)), some (.int (x3)), some (.int (x4)), d5, d6, d7] 0 0 347 []) (hkx450 : ∀ {V : St} {M : MH} {x3 : Int32} {d0 : Option Value} {d1 : Option Value} {d2 : Option Value} {d4 : Option Value} {d5 : Option Value} {d6 : Option Value} {d7 : Option Value}, Rep E ad V M → kx450 V x3 = some out → G E X RX12 cX12_moreFlow 8 (some .int) false (rmD 2) P M [d0, d1, d2, some (.int (x3)), d4, d5, d6, d7] 0 0 450 []) (hp : ∀ M, Rep E ad out.2 M → P (some (.int out.1)) M) {V : St} {M : MH} {x1 : Int32} {x2 : Int32} {x3 : Int32} {x4 : Int32} {d5 : Option Value} {d6 : Option Value} {d7 : Option Value} (hR : Rep E ad V M) (h : F_X12_moreFlow_347 kh kx450 fu V x1 x2 x3 x4 = some out) : G E X RX12 cX12_moreFlow 8 (some .int) false (rmD 2) P M [some (.ref (ad 2200 0)), some (.int (x1)), some (.int (x2)), some (.int (x3)), some (.int (x4)), d5, d6, d7] 0 0 347 [] := by
  unfold F_X12_moreFlow_347 at h
  refine r_iload DX12_moreFlow_347 rfl ?_
  refine r_iload_n DX12_moreFlow_349 rfl ?_
  refine r_icmp_eq DX12_moreFlow_350 (fun c1 => ?_) (fun c1 => ?_)
  · have h := if_t c1 h
    exact hkx450 hR h
  · have h := if_f c1 h
    refine r_aload_n DX12_moreFlow_353 rfl ?_
    refine s_geta DX12_moreFlow_354 fl_X12_82 hR ct_2200 (one_cnt _) rfl ?_
    refine r_iload DX12_moreFlow_357 rfl ?_
    obtain ⟨hg2, h⟩ := gd_inv h
    refine s_iald DX12_moreFlow_359 hR ct_2229 (one_cnt _) hg2 ?_
    refine t_istore (L' := [some (.ref (ad 2200 0)), some (.int (x1)), some (.int (x2)), some (.int (x3)), some (.int (x4)), some (.int ((V 2229 (0) (x4).toNatClampNeg))), d6, d7]) DX12_moreFlow_360 (by decide) rfl ?_
    refine r_bipush (v := 8) DX12_moreFlow_362 kb_8 ?_
    refine r_iload_n DX12_moreFlow_364 rfl ?_
    refine r_imul DX12_moreFlow_365 ?_
    refine r_iload DX12_moreFlow_366 rfl ?_
    refine r_iadd DX12_moreFlow_368 ?_
    refine t_istore (L' := [some (.ref (ad 2200 0)), some (.int (x1)), some (.int (x2)), some (.int (x3)), some (.int (x4)), some (.int ((V 2229 (0) (x4).toNatClampNeg))), some (.int (((8 : Int32) * x1) + (V 2229 (0) (x4).toNatClampNeg))), d7]) DX12_moreFlow_369 (by decide) rfl ?_
    refine r_aload_n DX12_moreFlow_371 rfl ?_
    refine s_geta DX12_moreFlow_372 fl_X12_31 hR ct_2200 (one_cnt _) rfl ?_
    refine r_iload DX12_moreFlow_375 rfl ?_
    obtain ⟨hg3, h⟩ := gd_inv h
    refine s_iald DX12_moreFlow_377 hR ct_2212 (one_cnt _) hg3 ?_
    refine r_iload DX12_moreFlow_378 rfl ?_
    refine r_icmp_ne DX12_moreFlow_380 (fun c4 => ?_) (fun c4 => ?_)
    · have h := if_f c4 h
      refine r_iconst (v := 0) DX12_moreFlow_387 ki_0 ?_
      exact S_X12_moreFlow_388 (fun hR h => hkh hR h) (fun hR h => hkx450 hR h) hp hR h
    · have h := if_t c4 h
      refine r_iconst (v := 1) DX12_moreFlow_383 ki_1 ?_
      refine r_goto DX12_moreFlow_384 ?_
      exact S_X12_moreFlow_388 (fun hR h => hkh hR h) (fun hR h => hkx450 hR h) hp hR h
theorem SL_X12_moreFlow_347 {E : EN} {X : CX} {P : Option Value → MH → Prop} {ad : AD} {fu : Nat} {out : Int32 × St} {kx450 : St → Int32 → RR} (hkx450 : ∀ {V : St} {M : MH} {x3 : Int32} {d0 : Option Value} {d1 : Option Value} {d2 : Option Value} {d4 : Option Value} {d5 : Option Value} {d6 : Option Value} {d7 : Option Value}, Rep E ad V M → kx450 V x3 = some out → G E X RX12 cX12_moreFlow 8 (some .int) false (rmD 2) P M [d0, d1, d2, some (.int (x3)), d4, d5, d6, d7] 0 0 450 []) (hp : ∀ M, Rep E ad out.2 M → P (some (.int out.1)) M) : ∀ (n : Nat) {V : St} {M : MH} {x1 : Int32} {x2 : Int32} {x3 : Int32} {x4 : Int32} {d5 : Option Value} {d6 : Option Value} {d7 : Option Value}, Rep E ad V M → Lp_X12_moreFlow_347 kx450 fu n V x1 x2 x3 x4 = some out → G E X RX12 cX12_moreFlow 8 (some .int) false (rmD 2) P M [some (.ref (ad 2200 0)), some (.int (x1)), some (.int (x2)), some (.int (x3)), some (.int (x4)), d5, d6, d7] 0 0 347 [] := by
  intro n
  induction n with
  | zero => intros; rename_i h; cases h
  | succ n ih => exact fun hR h => S_X12_moreFlow_347 (fun hR h => ih hR h) (fun hR h => hkx450 hR h) hp hR h
theorem S_X12_moreFlow_344 {E : EN} {X : CX} {P : Option Value → MH → Prop} {ad : AD} {fu : Nat} {out : Int32 × St} (hp : ∀ M, Rep E ad out.2 M → P (some (.int out.1)) M) {V : St} {M : MH} {x1 : Int32} {x2 : Int32} {x3 : Int32} {d4 : Option Value} {d5 : Option Value} {d6 : Option Value} {d7 : Option Value} (hR : Rep E ad V M) (h : F_X12_moreFlow_344 fu V x1 x2 x3 = some out) : G E X RX12 cX12_moreFlow 8 (some .int) false (rmD 2) P M [some (.ref (ad 2200 0)), some (.int (x1)), some (.int (x2)), some (.int (x3)), d4, d5, d6, d7] 0 0 344 [] := by
  unfold F_X12_moreFlow_344 at h
  refine r_iconst (v := 0) DX12_moreFlow_344 ki_0 ?_
  refine t_istore (L' := [some (.ref (ad 2200 0)), some (.int (x1)), some (.int (x2)), some (.int (x3)), some (.int ((0 : Int32))), d5, d6, d7]) DX12_moreFlow_345 (by decide) rfl ?_
  exact SL_X12_moreFlow_347 (fun hR h => S_X12_moreFlow_450 hp hR h) hp fu hR h
theorem S_X12_moreFlow_339 {E : EN} {X : CX} {P : Option Value → MH → Prop} {ad : AD} {fu : Nat} {out : Int32 × St} {kh : St → Int32 → Int32 → Int32 → Int32 → RR} {kx344 : St → Int32 → Int32 → Int32 → RR} (hkh : ∀ {V : St} {M : MH} {x1 : Int32} {x2 : Int32} {x3 : Int32} {x4 : Int32} {d5 : Option Value} {d6 : Option Value} {d7 : Option Value}, Rep E ad V M → kh V x1 x2 x3 x4 = some out → G E X RX12 cX12_moreFlow 8 (some .int) false (rmD 2) P M [some (.ref (ad 2200 0)), some (.int (x1)), some (.int (x2)), some (.int (x3)), some (.int (x4)), d5, d6, d7] 0 0 230 []) (hkx344 : ∀ {V : St} {M : MH} {x1 : Int32} {x2 : Int32} {x3 : Int32} {d4 : Option Value} {d5 : Option Value} {d6 : Option Value} {d7 : Option Value}, Rep E ad V M → kx344 V x1 x2 x3 = some out → G E X RX12 cX12_moreFlow 8 (some .int) false (rmD 2) P M [some (.ref (ad 2200 0)), some (.int (x1)), some (.int (x2)), some (.int (x3)), d4, d5, d6, d7] 0 0 344 []) (hp : ∀ M, Rep E ad out.2 M → P (some (.int out.1)) M) {V : St} {M : MH} {x1 : Int32} {x2 : Int32} {x3 : Int32} {s0 : Int32} {d4 : Option Value} {d5 : Option Value} {d6 : Option Value} {d7 : Option Value} (hR : Rep E ad V M) (h : F_X12_moreFlow_339 kh kx344 fu V x1 x2 x3 s0 = some out) : G E X RX12 cX12_moreFlow 8 (some .int) false (rmD 2) P M [some (.ref (ad 2200 0)), some (.int (x1)), some (.int (x2)), some (.int (x3)), d4, d5, d6, d7] 0 0 339 [.int (s0)] := by
  unfold F_X12_moreFlow_339 at h
  refine t_istore (L' := [some (.ref (ad 2200 0)), some (.int (x1)), some (.int (x2)), some (.int (x3)), some (.int (s0)), d5, d6, d7]) DX12_moreFlow_339 (by decide) rfl ?_
  refine r_goto DX12_moreFlow_341 ?_
  exact hkh hR h
theorem S_X12_moreFlow_309 {E : EN} {X : CX} {P : Option Value → MH → Prop} {ad : AD} {fu : Nat} {out : Int32 × St} {kh : St → Int32 → Int32 → Int32 → Int32 → RR} {kx344 : St → Int32 → Int32 → Int32 → RR} (hkh : ∀ {V : St} {M : MH} {x1 : Int32} {x2 : Int32} {x3 : Int32} {x4 : Int32} {d5 : Option Value} {d6 : Option Value} {d7 : Option Value}, Rep E ad V M → kh V x1 x2 x3 x4 = some out → G E X RX12 cX12_moreFlow 8 (some .int) false (rmD 2) P M [some (.ref (ad 2200 0)), some (.int (x1)), some (.int (x2)), some (.int (x3)), some (.int (x4)), d5, d6, d7] 0 0 230 []) (hkx344 : ∀ {V : St} {M : MH} {x1 : Int32} {x2 : Int32} {x3 : Int32} {d4 : Option Value} {d5 : Option Value} {d6 : Option Value} {d7 : Option Value}, Rep E ad V M → kx344 V x1 x2 x3 = some out → G E X RX12 cX12_moreFlow 8 (some .int) false (rmD 2) P M [some (.ref (ad 2200 0)), some (.int (x1)), some (.int (x2)), some (.int (x3)), d4, d5, d6, d7] 0 0 344 []) (hp : ∀ M, Rep E ad out.2 M → P (some (.int out.1)) M) {V : St} {M : MH} {x1 : Int32} {x2 : Int32} {x4 : Int32} {x6 : Int32} {s0 : Int32} {d3 : Option Value} {d5 : Option Value} {d7 : Option Value} (hR : Rep E ad V M) (h : F_X12_moreFlow_309 kh kx344 fu V x1 x2 x4 x6 s0 = some out) : G E X RX12 cX12_moreFlow 8 (some .int) false (rmD 2) P M [some (.ref (ad 2200 0)), some (.int (x1)), some (.int (x2)), d3, some (.int (x4)), d5, some (.int (x6)), d7] 0 0 309 [.int (s0)] := by
  unfold F_X12_moreFlow_309 at h
  refine t_istore_n (L' := [some (.ref (ad 2200 0)), some (.int (x1)), some (.int (x2)), some (.int (s0)), some (.int (x4)), d5, some (.int (x6)), d7]) DX12_moreFlow_309 (by decide) rfl ?_
  refine r_aload_n DX12_moreFlow_310 rfl ?_
  refine s_geta DX12_moreFlow_311 fl_X12_31 hR ct_2200 (one_cnt _) rfl ?_
  refine r_iload DX12_moreFlow_314 rfl ?_
  obtain ⟨hg1, h⟩ := gd_inv h
  refine s_iald DX12_moreFlow_316 hR ct_2212 (one_cnt _) hg1 ?_
  refine r_iload DX12_moreFlow_317 rfl ?_
  refine r_icmp_ne DX12_moreFlow_319 (fun c2 => ?_) (fun c2 => ?_)
  · have h := if_f c2 h
    refine r_aload_n DX12_moreFlow_332 rfl ?_
    refine s_geta DX12_moreFlow_333 fl_X12_31 hR ct_2200 (one_cnt _) rfl ?_
    refine r_iload DX12_moreFlow_336 rfl ?_
    obtain ⟨hg3, h⟩ := gd_inv h
    refine s_iald DX12_moreFlow_338 hR ct_2212 (one_cnt _) hg3 ?_
    exact S_X12_moreFlow_339 (fun hR h => hkh hR h) (fun hR h => hkx344 hR h) hp hR h
  · have h := if_t c2 h
    refine r_aload_n DX12_moreFlow_322 rfl ?_
    refine s_geta DX12_moreFlow_323 fl_X12_28 hR ct_2200 (one_cnt _) rfl ?_
    refine r_iload DX12_moreFlow_326 rfl ?_
    obtain ⟨hg4, h⟩ := gd_inv h
    refine s_iald DX12_moreFlow_328 hR ct_2211 (one_cnt _) hg4 ?_
    refine r_goto DX12_moreFlow_329 ?_
    exact S_X12_moreFlow_339 (fun hR h => hkh hR h) (fun hR h => hkx344 hR h) hp hR h
theorem S_X12_moreFlow_294 {E : EN} {X : CX} {P : Option Value → MH → Prop} {ad : AD} {fu : Nat} {out : Int32 × St} {kh : St → Int32 → Int32 → Int32 → Int32 → RR} {kx344 : St → Int32 → Int32 → Int32 → RR} (hkh : ∀ {V : St} {M : MH} {x1 : Int32} {x2 : Int32} {x3 : Int32} {x4 : Int32} {d5 : Option Value} {d6 : Option Value} {d7 : Option Value}, Rep E ad V M → kh V x1 x2 x3 x4 = some out → G E X RX12 cX12_moreFlow 8 (some .int) false (rmD 2) P M [some (.ref (ad 2200 0)), some (.int (x1)), some (.int (x2)), some (.int (x3)), some (.int (x4)), d5, d6, d7] 0 0 230 []) (hkx344 : ∀ {V : St} {M : MH} {x1 : Int32} {x2 : Int32} {x3 : Int32} {d4 : Option Value} {d5 : Option Value} {d6 : Option Value} {d7 : Option Value}, Rep E ad V M → kx344 V x1 x2 x3 = some out → G E X RX12 cX12_moreFlow 8 (some .int) false (rmD 2) P M [some (.ref (ad 2200 0)), some (.int (x1)), some (.int (x2)), some (.int (x3)), d4, d5, d6, d7] 0 0 344 []) (hp : ∀ M, Rep E ad out.2 M → P (some (.int out.1)) M) {V : St} {M : MH} {x1 : Int32} {x2 : Int32} {x3 : Int32} {x4 : Int32} {x6 : Int32} {s0 : Int32} {s1 : Int32} {d5 : Option Value} {d7 : Option Value} (hR : Rep E ad V M) (h : F_X12_moreFlow_294 kh kx344 fu V x1 x2 x3 x4 x6 s0 s1 = some out) : G E X RX12 cX12_moreFlow 8 (some .int) false (rmD 2) P M [some (.ref (ad 2200 0)), some (.int (x1)), some (.int (x2)), some (.int (x3)), some (.int (x4)), d5, some (.int (x6)), d7] 0 0 294 [.int (s0), .int (s1)] := by
  unfold F_X12_moreFlow_294 at h
  refine r_isub DX12_moreFlow_294 ?_
  refine t_istore (L' := [some (.ref (ad 2200 0)), some (.int (x1)), some (.int (x2)), some (.int (x3)), some (.int (x4)), d5, some (.int (x6)), some (.int (s1 - s0))]) DX12_moreFlow_295 (by decide) rfl ?_
  refine r_iload DX12_moreFlow_297 rfl ?_
  refine r_iload_n DX12_moreFlow_299 rfl ?_
  refine r_icmp_ge DX12_moreFlow_300 (fun c1 => ?_) (fun c1 => ?_)
  · have h := if_t c1 h
    refine r_iload_n DX12_moreFlow_308 rfl ?_
    exact S_X12_moreFlow_309 (fun hR h => hkh hR h) (fun hR h => hkx344 hR h) hp hR h
  · have h := if_f c1 h
    refine r_iload DX12_moreFlow_303 rfl ?_
    refine r_goto DX12_moreFlow_305 ?_
    exact S_X12_moreFlow_309 (fun hR h => hkh hR h) (fun hR h => hkx344 hR h) hp hR h
theorem S_X12_moreFlow_230 {E : EN} {X : CX} {P : Option Value → MH → Prop} {ad : AD} {fu : Nat} {out : Int32 × St} {kh : St → Int32 → Int32 → Int32 → Int32 → RR} {kx344 : St → Int32 → Int32 → Int32 → RR} (hkh : ∀ {V : St} {M : MH} {x1 : Int32} {x2 : Int32} {x3 : Int32} {x4 : Int32} {d5 : Option Value} {d6 : Option Value} {d7 : Option Value}, Rep E ad V M → kh V x1 x2 x3 x4 = some out → G E X RX12 cX12_moreFlow 8 (some .int) false (rmD 2) P M [some (.ref (ad 2200 0)), some (.int (x1)), some (.int (x2)), some (.int (x3)), some (.int (x4)), d5, d6, d7] 0 0 230 []) (hkx344 : ∀ {V : St} {M : MH} {x1 : Int32} {x2 : Int32} {x3 : Int32} {d4 : Option Value} {d5 : Option Value} {d6 : Option Value} {d7 : Option Value}, Rep E ad V M → kx344 V x1 x2 x3 = some out → G E X RX12 cX12_moreFlow 8 (some .int) false (rmD 2) P M [some (.ref (ad 2200 0)), some (.int (x1)), some (.int (x2)), some (.int (x3)), d4, d5, d6, d7] 0 0 344 []) (hp : ∀ M, Rep E ad out.2 M → P (some (.int out.1)) M) {V : St} {M : MH} {x1 : Int32} {x2 : Int32} {x3 : Int32} {x4 : Int32} {d5 : Option Value} {d6 : Option Value} {d7 : Option Value} (hR : Rep E ad V M) (h : F_X12_moreFlow_230 kh kx344 fu V x1 x2 x3 x4 = some out) : G E X RX12 cX12_moreFlow 8 (some .int) false (rmD 2) P M [some (.ref (ad 2200 0)), some (.int (x1)), some (.int (x2)), some (.int (x3)), some (.int (x4)), d5, d6, d7] 0 0 230 [] := by
  unfold F_X12_moreFlow_230 at h
  refine r_iload DX12_moreFlow_230 rfl ?_
  refine r_iload_n DX12_moreFlow_232 rfl ?_
  refine r_icmp_eq DX12_moreFlow_233 (fun c1 => ?_) (fun c1 => ?_)
  · have h := if_t c1 h
    exact hkx344 hR h
  · have h := if_f c1 h
    refine r_aload_n DX12_moreFlow_236 rfl ?_
    refine s_geta DX12_moreFlow_237 fl_X12_82 hR ct_2200 (one_cnt _) rfl ?_
    refine r_iload DX12_moreFlow_240 rfl ?_
    obtain ⟨hg2, h⟩ := gd_inv h
    refine s_iald DX12_moreFlow_242 hR ct_2229 (one_cnt _) hg2 ?_
    refine t_istore (L' := [some (.ref (ad 2200 0)), some (.int (x1)), some (.int (x2)), some (.int (x3)), some (.int (x4)), some (.int ((V 2229 (0) (x4).toNatClampNeg))), d6, d7]) DX12_moreFlow_243 (by decide) rfl ?_
    refine r_bipush (v := 8) DX12_moreFlow_245 kb_8 ?_
    refine r_iload_n DX12_moreFlow_247 rfl ?_
    refine r_imul DX12_moreFlow_248 ?_
    refine r_iload DX12_moreFlow_249 rfl ?_
    refine r_iadd DX12_moreFlow_251 ?_
    refine t_istore (L' := [some (.ref (ad 2200 0)), some (.int (x1)), some (.int (x2)), some (.int (x3)), some (.int (x4)), some (.int ((V 2229 (0) (x4).toNatClampNeg))), some (.int (((8 : Int32) * x1) + (V 2229 (0) (x4).toNatClampNeg))), d7]) DX12_moreFlow_252 (by decide) rfl ?_
    refine r_aload_n DX12_moreFlow_254 rfl ?_
    refine s_geta DX12_moreFlow_255 fl_X12_73 hR ct_2200 (one_cnt _) rfl ?_
    refine r_iload DX12_moreFlow_258 rfl ?_
    obtain ⟨hg3, h⟩ := gd_inv h
    refine s_iald DX12_moreFlow_260 hR ct_2226 (one_cnt _) hg3 ?_
    obtain ⟨r4, V5, hc6, h⟩ := bd_inv h
    refine k_callS (As := [.int ((V 2226 (0) ((V 2229 (0) (x4).toNatClampNeg)).toNatClampNeg))]) (rest := []) (st1 := [.int (r4)]) (w := some (.int r4)) DX12_moreFlow_261 cs_X12_253 (C_X12_bearsOf (out := (r4, V5)) (cxL X) hR hc6) rfl (by decide) (by decide) rfl (Nat.le_of_ble_eq_true rfl) rfl (fun M hR => ?_)
    refine r_aload_n DX12_moreFlow_264 rfl ?_
    refine s_geta DX12_moreFlow_265 fl_X12_31 hR ct_2200 (one_cnt _) rfl ?_
    refine r_iload DX12_moreFlow_268 rfl ?_
    obtain ⟨hg7, h⟩ := gd_inv h
    refine s_iald DX12_moreFlow_270 hR ct_2212 (one_cnt _) hg7 ?_
    refine r_iload DX12_moreFlow_271 rfl ?_
    refine r_icmp_ne DX12_moreFlow_273 (fun c8 => ?_) (fun c8 => ?_)
    · have h := if_f c8 h
      refine r_aload_n DX12_moreFlow_286 rfl ?_
      refine s_geta DX12_moreFlow_287 fl_X12_79 hR ct_2200 (one_cnt _) rfl ?_
      refine r_iload DX12_moreFlow_290 rfl ?_
      obtain ⟨hg9, h⟩ := gd_inv h
      refine s_iald DX12_moreFlow_292 hR ct_2228 (one_cnt _) hg9 ?_
      refine r_ineg DX12_moreFlow_293 ?_
      exact S_X12_moreFlow_294 (fun hR h => hkh hR h) (fun hR h => hkx344 hR h) hp hR h
    · have h := if_t c8 h
      refine r_aload_n DX12_moreFlow_276 rfl ?_
      refine s_geta DX12_moreFlow_277 fl_X12_79 hR ct_2200 (one_cnt _) rfl ?_
      refine r_iload DX12_moreFlow_280 rfl ?_
      obtain ⟨hg10, h⟩ := gd_inv h
      refine s_iald DX12_moreFlow_282 hR ct_2228 (one_cnt _) hg10 ?_
      refine r_goto DX12_moreFlow_283 ?_
      exact S_X12_moreFlow_294 (fun hR h => hkh hR h) (fun hR h => hkx344 hR h) hp hR h
theorem SL_X12_moreFlow_230 {E : EN} {X : CX} {P : Option Value → MH → Prop} {ad : AD} {fu : Nat} {out : Int32 × St} {kx344 : St → Int32 → Int32 → Int32 → RR} (hkx344 : ∀ {V : St} {M : MH} {x1 : Int32} {x2 : Int32} {x3 : Int32} {d4 : Option Value} {d5 : Option Value} {d6 : Option Value} {d7 : Option Value}, Rep E ad V M → kx344 V x1 x2 x3 = some out → G E X RX12 cX12_moreFlow 8 (some .int) false (rmD 2) P M [some (.ref (ad 2200 0)), some (.int (x1)), some (.int (x2)), some (.int (x3)), d4, d5, d6, d7] 0 0 344 []) (hp : ∀ M, Rep E ad out.2 M → P (some (.int out.1)) M) : ∀ (n : Nat) {V : St} {M : MH} {x1 : Int32} {x2 : Int32} {x3 : Int32} {x4 : Int32} {d5 : Option Value} {d6 : Option Value} {d7 : Option Value}, Rep E ad V M → Lp_X12_moreFlow_230 kx344 fu n V x1 x2 x3 x4 = some out → G E X RX12 cX12_moreFlow 8 (some .int) false (rmD 2) P M [some (.ref (ad 2200 0)), some (.int (x1)), some (.int (x2)), some (.int (x3)), some (.int (x4)), d5, d6, d7] 0 0 230 [] := by
  intro n
  induction n with
  | zero => intros; rename_i h; cases h
  | succ n ih => exact fun hR h => S_X12_moreFlow_230 (fun hR h => ih hR h) (fun hR h => hkx344 hR h) hp hR h
theorem S_X12_moreFlow_211 {E : EN} {X : CX} {P : Option Value → MH → Prop} {ad : AD} {fu : Nat} {out : Int32 × St} (hp : ∀ M, Rep E ad out.2 M → P (some (.int out.1)) M) {V : St} {M : MH} {x1 : Int32} {x2 : Int32} {d3 : Option Value} {d4 : Option Value} {d5 : Option Value} {d6 : Option Value} {d7 : Option Value} (hR : Rep E ad V M) (h : F_X12_moreFlow_211 fu V x1 x2 = some out) : G E X RX12 cX12_moreFlow 8 (some .int) false (rmD 2) P M [some (.ref (ad 2200 0)), some (.int (x1)), some (.int (x2)), d3, d4, d5, d6, d7] 0 0 211 [] := by
  unfold F_X12_moreFlow_211 at h
  refine r_aload_n DX12_moreFlow_211 rfl ?_
  refine s_geta DX12_moreFlow_212 fl_X12_82 hR ct_2200 (one_cnt _) rfl ?_
  refine r_iconst (v := 0) DX12_moreFlow_215 ki_0 ?_
  obtain ⟨hg1, h⟩ := gd_inv h
  refine s_iald DX12_moreFlow_216 hR ct_2229 (one_cnt _) hg1 ?_
  refine r_iconst (v := -1) DX12_moreFlow_217 ki_m1 ?_
  refine r_icmp_ne DX12_moreFlow_218 (fun c2 => ?_) (fun c2 => ?_)
  · have h := if_f c2 h
    refine r_ldcw (v := 100000) DX12_moreFlow_223 ck_X12_257 ?_
    refine t_istore_n (L' := [some (.ref (ad 2200 0)), some (.int (x1)), some (.int (x2)), some (.int ((100000 : Int32))), d4, d5, d6, d7]) DX12_moreFlow_226 (by decide) rfl ?_
    refine r_iconst (v := 0) DX12_moreFlow_227 ki_0 ?_
    refine t_istore (L' := [some (.ref (ad 2200 0)), some (.int (x1)), some (.int (x2)), some (.int ((100000 : Int32))), some (.int ((0 : Int32))), d5, d6, d7]) DX12_moreFlow_228 (by decide) rfl ?_
    exact SL_X12_moreFlow_230 (fun hR h => S_X12_moreFlow_344 hp hR h) hp fu hR h
  · have h := if_t c2 h
    refine r_iconst (v := 0) DX12_moreFlow_221 ki_0 ?_
    cases h
    exact r_iret DX12_moreFlow_222 rfl ⟨Nat.le_refl 0, Nat.le_refl 0⟩ (hp M hR)
theorem S_X12_moreFlow_205 {E : EN} {X : CX} {P : Option Value → MH → Prop} {ad : AD} {fu : Nat} {out : Int32 × St} {kh : St → Int32 → Int32 → Int32 → RR} {kx211 : St → Int32 → Int32 → RR} (hkh : ∀ {V : St} {M : MH} {x1 : Int32} {x2 : Int32} {x3 : Int32} {d4 : Option Value} {d5 : Option Value} {d6 : Option Value} {d7 : Option Value}, Rep E ad V M → kh V x1 x2 x3 = some out → G E X RX12 cX12_moreFlow 8 (some .int) false (rmD 2) P M [some (.ref (ad 2200 0)), some (.int (x1)), some (.int (x2)), some (.int (x3)), d4, d5, d6, d7] 0 0 31 []) (hkx211 : ∀ {V : St} {M : MH} {x1 : Int32} {x2 : Int32} {d3 : Option Value} {d4 : Option Value} {d5 : Option Value} {d6 : Option Value} {d7 : Option Value}, Rep E ad V M → kx211 V x1 x2 = some out → G E X RX12 cX12_moreFlow 8 (some .int) false (rmD 2) P M [some (.ref (ad 2200 0)), some (.int (x1)), some (.int (x2)), d3, d4, d5, d6, d7] 0 0 211 []) (hp : ∀ M, Rep E ad out.2 M → P (some (.int out.1)) M) {V : St} {M : MH} {x1 : Int32} {x2 : Int32} {x3 : Int32} {d4 : Option Value} {d5 : Option Value} {d6 : Option Value} {d7 : Option Value} (hR : Rep E ad V M) (h : F_X12_moreFlow_205 kh kx211 fu V x1 x2 x3 = some out) : G E X RX12 cX12_moreFlow 8 (some .int) false (rmD 2) P M [some (.ref (ad 2200 0)), some (.int (x1)), some (.int (x2)), some (.int (x3)), d4, d5, d6, d7] 0 0 205 [] := by
  unfold F_X12_moreFlow_205 at h
  refine t_iinc (v := 1) (L' := [some (.ref (ad 2200 0)), some (.int (x1)), some (.int (x2)), some (.int (x3 + 1)), d4, d5, d6, d7]) DX12_moreFlow_205 rfl ki_1 (by decide) rfl ?_
  refine r_goto DX12_moreFlow_208 ?_
  exact hkh hR h
theorem S_X12_moreFlow_199 {E : EN} {X : CX} {P : Option Value → MH → Prop} {ad : AD} {fu : Nat} {out : Int32 × St} {kh : St → Int32 → Int32 → Int32 → Int32 → RR} {kx205 : St → Int32 → Int32 → Int32 → RR} (hkh : ∀ {V : St} {M : MH} {x1 : Int32} {x2 : Int32} {x3 : Int32} {x4 : Int32} {d5 : Option Value} {d6 : Option Value} {d7 : Option Value}, Rep E ad V M → kh V x1 x2 x3 x4 = some out → G E X RX12 cX12_moreFlow 8 (some .int) false (rmD 2) P M [some (.ref (ad 2200 0)), some (.int (x1)), some (.int (x2)), some (.int (x3)), some (.int (x4)), d5, d6, d7] 0 0 50 []) (hkx205 : ∀ {V : St} {M : MH} {x1 : Int32} {x2 : Int32} {x3 : Int32} {d4 : Option Value} {d5 : Option Value} {d6 : Option Value} {d7 : Option Value}, Rep E ad V M → kx205 V x1 x2 x3 = some out → G E X RX12 cX12_moreFlow 8 (some .int) false (rmD 2) P M [some (.ref (ad 2200 0)), some (.int (x1)), some (.int (x2)), some (.int (x3)), d4, d5, d6, d7] 0 0 205 []) (hp : ∀ M, Rep E ad out.2 M → P (some (.int out.1)) M) {V : St} {M : MH} {x1 : Int32} {x2 : Int32} {x3 : Int32} {x4 : Int32} {d5 : Option Value} {d6 : Option Value} {d7 : Option Value} (hR : Rep E ad V M) (h : F_X12_moreFlow_199 kh kx205 fu V x1 x2 x3 x4 = some out) : G E X RX12 cX12_moreFlow 8 (some .int) false (rmD 2) P M [some (.ref (ad 2200 0)), some (.int (x1)), some (.int (x2)), some (.int (x3)), some (.int (x4)), d5, d6, d7] 0 0 199 [] := by
  unfold F_X12_moreFlow_199 at h
  refine t_iinc (v := 1) (L' := [some (.ref (ad 2200 0)), some (.int (x1)), some (.int (x2)), some (.int (x3)), some (.int (x4 + 1)), d5, d6, d7]) DX12_moreFlow_199 rfl ki_1 (by decide) rfl ?_
  refine r_goto DX12_moreFlow_202 ?_
  exact hkh hR h
theorem S_X12_moreFlow_140 {E : EN} {X : CX} {P : Option Value → MH → Prop} {ad : AD} {fu : Nat} {out : Int32 × St} {kh : St → Int32 → Int32 → Int32 → Int32 → RR} {kx205 : St → Int32 → Int32 → Int32 → RR} (hkh : ∀ {V : St} {M : MH} {x1 : Int32} {x2 : Int32} {x3 : Int32} {x4 : Int32} {d5 : Option Value} {d6 : Option Value} {d7 : Option Value}, Rep E ad V M → kh V x1 x2 x3 x4 = some out → G E X RX12 cX12_moreFlow 8 (some .int) false (rmD 2) P M [some (.ref (ad 2200 0)), some (.int (x1)), some (.int (x2)), some (.int (x3)), some (.int (x4)), d5, d6, d7] 0 0 50 []) (hkx205 : ∀ {V : St} {M : MH} {x1 : Int32} {x2 : Int32} {x3 : Int32} {d4 : Option Value} {d5 : Option Value} {d6 : Option Value} {d7 : Option Value}, Rep E ad V M → kx205 V x1 x2 x3 = some out → G E X RX12 cX12_moreFlow 8 (some .int) false (rmD 2) P M [some (.ref (ad 2200 0)), some (.int (x1)), some (.int (x2)), some (.int (x3)), d4, d5, d6, d7] 0 0 205 []) (hp : ∀ M, Rep E ad out.2 M → P (some (.int out.1)) M) {V : St} {M : MH} {x1 : Int32} {x2 : Int32} {x3 : Int32} {x4 : Int32} {x5 : Int32} {x6 : Int32} {d7 : Option Value} (hR : Rep E ad V M) (h : F_X12_moreFlow_140 kh kx205 fu V x1 x2 x3 x4 x5 x6 = some out) : G E X RX12 cX12_moreFlow 8 (some .int) false (rmD 2) P M [some (.ref (ad 2200 0)), some (.int (x1)), some (.int (x2)), some (.int (x3)), some (.int (x4)), some (.int (x5)), some (.int (x6)), d7] 0 0 140 [] := by
  unfold F_X12_moreFlow_140 at h
  refine r_aload_n DX12_moreFlow_140 rfl ?_
  refine s_geta DX12_moreFlow_141 fl_X12_82 hR ct_2200 (one_cnt _) rfl ?_
  refine r_aload_n DX12_moreFlow_144 rfl ?_
  refine s_geta DX12_moreFlow_145 fl_X12_31 hR ct_2200 (one_cnt _) rfl ?_
  refine r_iload DX12_moreFlow_148 rfl ?_
  obtain ⟨hg1, h⟩ := gd_inv h
  refine s_iald DX12_moreFlow_150 hR ct_2212 (one_cnt _) hg1 ?_
  obtain ⟨hg2, h⟩ := gd_inv h
  refine s_iald DX12_moreFlow_151 hR ct_2229 (one_cnt _) hg2 ?_
  refine r_iconst (v := -1) DX12_moreFlow_152 ki_m1 ?_
  refine r_icmp_eq DX12_moreFlow_153 (fun c3 => ?_) (fun c3 => ?_)
  · have h := if_t c3 h
    exact S_X12_moreFlow_199 (fun hR h => hkh hR h) (fun hR h => hkx205 hR h) hp hR h
  · have h := if_f c3 h
    refine r_aload_n DX12_moreFlow_156 rfl ?_
    refine s_geta DX12_moreFlow_157 fl_X12_82 hR ct_2200 (one_cnt _) rfl ?_
    refine r_aload_n DX12_moreFlow_160 rfl ?_
    refine s_geta DX12_moreFlow_161 fl_X12_28 hR ct_2200 (one_cnt _) rfl ?_
    refine r_iload DX12_moreFlow_164 rfl ?_
    obtain ⟨hg4, h⟩ := gd_inv h
    refine s_iald DX12_moreFlow_166 hR ct_2211 (one_cnt _) hg4 ?_
    obtain ⟨hg5, h⟩ := gd_inv h
    refine s_iald DX12_moreFlow_167 hR ct_2229 (one_cnt _) hg5 ?_
    refine r_iconst (v := -1) DX12_moreFlow_168 ki_m1 ?_
    refine r_icmp_ne DX12_moreFlow_169 (fun c6 => ?_) (fun c6 => ?_)
    · have h := if_f c6 h
      exact S_X12_moreFlow_199 (fun hR h => hkh hR h) (fun hR h => hkx205 hR h) hp hR h
    · have h := if_t c6 h
      refine r_aload_n DX12_moreFlow_172 rfl ?_
      refine s_geta DX12_moreFlow_173 fl_X12_79 hR ct_2200 (one_cnt _) rfl ?_
      refine r_iload DX12_moreFlow_176 rfl ?_
      obtain ⟨hg7, h⟩ := gd_inv h
      refine s_iald DX12_moreFlow_178 hR ct_2228 (one_cnt _) hg7 ?_
      refine r_ineg DX12_moreFlow_179 ?_
      refine r_iload DX12_moreFlow_180 rfl ?_
      refine r_icmp_ge DX12_moreFlow_182 (fun c8 => ?_) (fun c8 => ?_)
      · have h := if_t c8 h
        exact S_X12_moreFlow_199 (fun hR h => hkh hR h) (fun hR h => hkx205 hR h) hp hR h
      · have h := if_f c8 h
        refine r_aload_n DX12_moreFlow_185 rfl ?_
        refine s_geta DX12_moreFlow_186 fl_X12_82 hR ct_2200 (one_cnt _) rfl ?_
        refine r_aload_n DX12_moreFlow_189 rfl ?_
        refine s_geta DX12_moreFlow_190 fl_X12_28 hR ct_2200 (one_cnt _) rfl ?_
        refine r_iload DX12_moreFlow_193 rfl ?_
        obtain ⟨hg9, h⟩ := gd_inv h
        refine s_iald DX12_moreFlow_195 hR ct_2211 (one_cnt _) hg9 ?_
        refine r_iload DX12_moreFlow_196 rfl ?_
        obtain ⟨hg10, h⟩ := gd_inv h
        obtain ⟨V11, hv12, h⟩ := bv_inv h
        refine s_iast DX12_moreFlow_198 hR oka_2229 ct_2229 (one_cnt _) hg10 (fun M hR => ?_)
        have hR := hR.cg hv12
        exact S_X12_moreFlow_199 (fun hR h => hkh hR h) (fun hR h => hkx205 hR h) hp hR h
theorem S_X12_moreFlow_50 {E : EN} {X : CX} {P : Option Value → MH → Prop} {ad : AD} {fu : Nat} {out : Int32 × St} {kh : St → Int32 → Int32 → Int32 → Int32 → RR} {kx205 : St → Int32 → Int32 → Int32 → RR} (hkh : ∀ {V : St} {M : MH} {x1 : Int32} {x2 : Int32} {x3 : Int32} {x4 : Int32} {d5 : Option Value} {d6 : Option Value} {d7 : Option Value}, Rep E ad V M → kh V x1 x2 x3 x4 = some out → G E X RX12 cX12_moreFlow 8 (some .int) false (rmD 2) P M [some (.ref (ad 2200 0)), some (.int (x1)), some (.int (x2)), some (.int (x3)), some (.int (x4)), d5, d6, d7] 0 0 50 []) (hkx205 : ∀ {V : St} {M : MH} {x1 : Int32} {x2 : Int32} {x3 : Int32} {d4 : Option Value} {d5 : Option Value} {d6 : Option Value} {d7 : Option Value}, Rep E ad V M → kx205 V x1 x2 x3 = some out → G E X RX12 cX12_moreFlow 8 (some .int) false (rmD 2) P M [some (.ref (ad 2200 0)), some (.int (x1)), some (.int (x2)), some (.int (x3)), d4, d5, d6, d7] 0 0 205 []) (hp : ∀ M, Rep E ad out.2 M → P (some (.int out.1)) M) {V : St} {M : MH} {x1 : Int32} {x2 : Int32} {x3 : Int32} {x4 : Int32} {d5 : Option Value} {d6 : Option Value} {d7 : Option Value} (hR : Rep E ad V M) (h : F_X12_moreFlow_50 kh kx205 fu V x1 x2 x3 x4 = some out) : G E X RX12 cX12_moreFlow 8 (some .int) false (rmD 2) P M [some (.ref (ad 2200 0)), some (.int (x1)), some (.int (x2)), some (.int (x3)), some (.int (x4)), d5, d6, d7] 0 0 50 [] := by
  unfold F_X12_moreFlow_50 at h
  refine r_iload DX12_moreFlow_50 rfl ?_
  refine r_aload_n DX12_moreFlow_52 rfl ?_
  refine s_geta DX12_moreFlow_53 fl_X12_22 hR ct_2200 (one_cnt _) rfl ?_
  refine r_iload_n DX12_moreFlow_56 rfl ?_
  obtain ⟨hg1, h⟩ := gd_inv h
  refine s_iald DX12_moreFlow_57 hR ct_2209 (one_cnt _) hg1 ?_
  refine r_icmp_ge DX12_moreFlow_58 (fun c2 => ?_) (fun c2 => ?_)
  · have h := if_t c2 h
    exact hkx205 hR h
  · have h := if_f c2 h
    refine r_bipush (v := 8) DX12_moreFlow_61 kb_8 ?_
    refine r_iload_n DX12_moreFlow_63 rfl ?_
    refine r_imul DX12_moreFlow_64 ?_
    refine r_iload DX12_moreFlow_65 rfl ?_
    refine r_iadd DX12_moreFlow_67 ?_
    refine t_istore (L' := [some (.ref (ad 2200 0)), some (.int (x1)), some (.int (x2)), some (.int (x3)), some (.int (x4)), some (.int (((8 : Int32) * x1) + x4)), d6, d7]) DX12_moreFlow_68 (by decide) rfl ?_
    refine r_aload_n DX12_moreFlow_70 rfl ?_
    refine s_geta DX12_moreFlow_71 fl_X12_73 hR ct_2200 (one_cnt _) rfl ?_
    refine r_iload DX12_moreFlow_74 rfl ?_
    obtain ⟨hg3, h⟩ := gd_inv h
    refine s_iald DX12_moreFlow_76 hR ct_2226 (one_cnt _) hg3 ?_
    obtain ⟨r4, V5, hc6, h⟩ := bd_inv h
    refine k_callS (As := [.int ((V 2226 (0) (x4).toNatClampNeg))]) (rest := []) (st1 := [.int (r4)]) (w := some (.int r4)) DX12_moreFlow_77 cs_X12_253 (C_X12_bearsOf (out := (r4, V5)) (cxL X) hR hc6) rfl (by decide) (by decide) rfl (Nat.le_of_ble_eq_true rfl) rfl (fun M hR => ?_)
    refine t_istore (L' := [some (.ref (ad 2200 0)), some (.int (x1)), some (.int (x2)), some (.int (x3)), some (.int (x4)), some (.int (((8 : Int32) * x1) + x4)), some (.int (r4)), d7]) DX12_moreFlow_80 (by decide) rfl ?_
    refine r_aload_n DX12_moreFlow_82 rfl ?_
    refine s_geta DX12_moreFlow_83 fl_X12_82 hR ct_2200 (one_cnt _) rfl ?_
    refine r_aload_n DX12_moreFlow_86 rfl ?_
    refine s_geta DX12_moreFlow_87 fl_X12_28 hR ct_2200 (one_cnt _) rfl ?_
    refine r_iload DX12_moreFlow_90 rfl ?_
    obtain ⟨hg7, h⟩ := gd_inv h
    refine s_iald DX12_moreFlow_92 hR ct_2211 (one_cnt _) hg7 ?_
    obtain ⟨hg8, h⟩ := gd_inv h
    refine s_iald DX12_moreFlow_93 hR ct_2229 (one_cnt _) hg8 ?_
    refine r_iconst (v := -1) DX12_moreFlow_94 ki_m1 ?_
    refine r_icmp_eq DX12_moreFlow_95 (fun c9 => ?_) (fun c9 => ?_)
    · have h := if_t c9 h
      exact S_X12_moreFlow_140 (fun hR h => hkh hR h) (fun hR h => hkx205 hR h) hp hR h
    · have h := if_f c9 h
      refine r_aload_n DX12_moreFlow_98 rfl ?_
      refine s_geta DX12_moreFlow_99 fl_X12_82 hR ct_2200 (one_cnt _) rfl ?_
      refine r_aload_n DX12_moreFlow_102 rfl ?_
      refine s_geta DX12_moreFlow_103 fl_X12_31 hR ct_2200 (one_cnt _) rfl ?_
      refine r_iload DX12_moreFlow_106 rfl ?_
      obtain ⟨hg10, h⟩ := gd_inv h
      refine s_iald DX12_moreFlow_108 hR ct_2212 (one_cnt _) hg10 ?_
      obtain ⟨hg11, h⟩ := gd_inv h
      refine s_iald DX12_moreFlow_109 hR ct_2229 (one_cnt _) hg11 ?_
      refine r_iconst (v := -1) DX12_moreFlow_110 ki_m1 ?_
      refine r_icmp_ne DX12_moreFlow_111 (fun c12 => ?_) (fun c12 => ?_)
      · have h := if_f c12 h
        exact S_X12_moreFlow_140 (fun hR h => hkh hR h) (fun hR h => hkx205 hR h) hp hR h
      · have h := if_t c12 h
        refine r_aload_n DX12_moreFlow_114 rfl ?_
        refine s_geta DX12_moreFlow_115 fl_X12_79 hR ct_2200 (one_cnt _) rfl ?_
        refine r_iload DX12_moreFlow_118 rfl ?_
        obtain ⟨hg13, h⟩ := gd_inv h
        refine s_iald DX12_moreFlow_120 hR ct_2228 (one_cnt _) hg13 ?_
        refine r_iload DX12_moreFlow_121 rfl ?_
        refine r_icmp_ge DX12_moreFlow_123 (fun c14 => ?_) (fun c14 => ?_)
        · have h := if_t c14 h
          exact S_X12_moreFlow_140 (fun hR h => hkh hR h) (fun hR h => hkx205 hR h) hp hR h
        · have h := if_f c14 h
          refine r_aload_n DX12_moreFlow_126 rfl ?_
          refine s_geta DX12_moreFlow_127 fl_X12_82 hR ct_2200 (one_cnt _) rfl ?_
          refine r_aload_n DX12_moreFlow_130 rfl ?_
          refine s_geta DX12_moreFlow_131 fl_X12_31 hR ct_2200 (one_cnt _) rfl ?_
          refine r_iload DX12_moreFlow_134 rfl ?_
          obtain ⟨hg15, h⟩ := gd_inv h
          refine s_iald DX12_moreFlow_136 hR ct_2212 (one_cnt _) hg15 ?_
          refine r_iload DX12_moreFlow_137 rfl ?_
          obtain ⟨hg16, h⟩ := gd_inv h
          obtain ⟨V17, hv18, h⟩ := bv_inv h
          refine s_iast DX12_moreFlow_139 hR oka_2229 ct_2229 (one_cnt _) hg16 (fun M hR => ?_)
          have hR := hR.cg hv18
          exact S_X12_moreFlow_140 (fun hR h => hkh hR h) (fun hR h => hkx205 hR h) hp hR h
theorem SL_X12_moreFlow_50 {E : EN} {X : CX} {P : Option Value → MH → Prop} {ad : AD} {fu : Nat} {out : Int32 × St} {kx205 : St → Int32 → Int32 → Int32 → RR} (hkx205 : ∀ {V : St} {M : MH} {x1 : Int32} {x2 : Int32} {x3 : Int32} {d4 : Option Value} {d5 : Option Value} {d6 : Option Value} {d7 : Option Value}, Rep E ad V M → kx205 V x1 x2 x3 = some out → G E X RX12 cX12_moreFlow 8 (some .int) false (rmD 2) P M [some (.ref (ad 2200 0)), some (.int (x1)), some (.int (x2)), some (.int (x3)), d4, d5, d6, d7] 0 0 205 []) (hp : ∀ M, Rep E ad out.2 M → P (some (.int out.1)) M) : ∀ (n : Nat) {V : St} {M : MH} {x1 : Int32} {x2 : Int32} {x3 : Int32} {x4 : Int32} {d5 : Option Value} {d6 : Option Value} {d7 : Option Value}, Rep E ad V M → Lp_X12_moreFlow_50 kx205 fu n V x1 x2 x3 x4 = some out → G E X RX12 cX12_moreFlow 8 (some .int) false (rmD 2) P M [some (.ref (ad 2200 0)), some (.int (x1)), some (.int (x2)), some (.int (x3)), some (.int (x4)), d5, d6, d7] 0 0 50 [] := by
  intro n
  induction n with
  | zero => intros; rename_i h; cases h
  | succ n ih => exact fun hR h => S_X12_moreFlow_50 (fun hR h => ih hR h) (fun hR h => hkx205 hR h) hp hR h
theorem S_X12_moreFlow_31 {E : EN} {X : CX} {P : Option Value → MH → Prop} {ad : AD} {fu : Nat} {out : Int32 × St} {kh : St → Int32 → Int32 → Int32 → RR} {kx211 : St → Int32 → Int32 → RR} (hkh : ∀ {V : St} {M : MH} {x1 : Int32} {x2 : Int32} {x3 : Int32} {d4 : Option Value} {d5 : Option Value} {d6 : Option Value} {d7 : Option Value}, Rep E ad V M → kh V x1 x2 x3 = some out → G E X RX12 cX12_moreFlow 8 (some .int) false (rmD 2) P M [some (.ref (ad 2200 0)), some (.int (x1)), some (.int (x2)), some (.int (x3)), d4, d5, d6, d7] 0 0 31 []) (hkx211 : ∀ {V : St} {M : MH} {x1 : Int32} {x2 : Int32} {d3 : Option Value} {d4 : Option Value} {d5 : Option Value} {d6 : Option Value} {d7 : Option Value}, Rep E ad V M → kx211 V x1 x2 = some out → G E X RX12 cX12_moreFlow 8 (some .int) false (rmD 2) P M [some (.ref (ad 2200 0)), some (.int (x1)), some (.int (x2)), d3, d4, d5, d6, d7] 0 0 211 []) (hp : ∀ M, Rep E ad out.2 M → P (some (.int out.1)) M) {V : St} {M : MH} {x1 : Int32} {x2 : Int32} {x3 : Int32} {d4 : Option Value} {d5 : Option Value} {d6 : Option Value} {d7 : Option Value} (hR : Rep E ad V M) (h : F_X12_moreFlow_31 kh kx211 fu V x1 x2 x3 = some out) : G E X RX12 cX12_moreFlow 8 (some .int) false (rmD 2) P M [some (.ref (ad 2200 0)), some (.int (x1)), some (.int (x2)), some (.int (x3)), d4, d5, d6, d7] 0 0 31 [] := by
  unfold F_X12_moreFlow_31 at h
  refine r_iload_n DX12_moreFlow_31 rfl ?_
  refine r_bipush (v := 8) DX12_moreFlow_32 kb_8 ?_
  refine r_icmp_ge DX12_moreFlow_34 (fun c1 => ?_) (fun c1 => ?_)
  · have h := if_t c1 h
    exact hkx211 hR h
  · have h := if_f c1 h
    refine r_aload_n DX12_moreFlow_37 rfl ?_
    refine s_geta DX12_moreFlow_38 fl_X12_82 hR ct_2200 (one_cnt _) rfl ?_
    refine r_iconst (v := 0) DX12_moreFlow_41 ki_0 ?_
    obtain ⟨hg2, h⟩ := gd_inv h
    refine s_iald DX12_moreFlow_42 hR ct_2229 (one_cnt _) hg2 ?_
    refine r_iconst (v := -1) DX12_moreFlow_43 ki_m1 ?_
    refine r_icmp_ne DX12_moreFlow_44 (fun c3 => ?_) (fun c3 => ?_)
    · have h := if_f c3 h
      exact hkx211 hR h
    · have h := if_t c3 h
      refine r_iconst (v := 0) DX12_moreFlow_47 ki_0 ?_
      refine t_istore (L' := [some (.ref (ad 2200 0)), some (.int (x1)), some (.int (x2)), some (.int (x3)), some (.int ((0 : Int32))), d5, d6, d7]) DX12_moreFlow_48 (by decide) rfl ?_
      exact SL_X12_moreFlow_50 (fun hR h => S_X12_moreFlow_205 (fun hR h => hkh hR h) (fun hR h => hkx211 hR h) hp hR h) hp fu hR h
theorem SL_X12_moreFlow_31 {E : EN} {X : CX} {P : Option Value → MH → Prop} {ad : AD} {fu : Nat} {out : Int32 × St} {kx211 : St → Int32 → Int32 → RR} (hkx211 : ∀ {V : St} {M : MH} {x1 : Int32} {x2 : Int32} {d3 : Option Value} {d4 : Option Value} {d5 : Option Value} {d6 : Option Value} {d7 : Option Value}, Rep E ad V M → kx211 V x1 x2 = some out → G E X RX12 cX12_moreFlow 8 (some .int) false (rmD 2) P M [some (.ref (ad 2200 0)), some (.int (x1)), some (.int (x2)), d3, d4, d5, d6, d7] 0 0 211 []) (hp : ∀ M, Rep E ad out.2 M → P (some (.int out.1)) M) : ∀ (n : Nat) {V : St} {M : MH} {x1 : Int32} {x2 : Int32} {x3 : Int32} {d4 : Option Value} {d5 : Option Value} {d6 : Option Value} {d7 : Option Value}, Rep E ad V M → Lp_X12_moreFlow_31 kx211 fu n V x1 x2 x3 = some out → G E X RX12 cX12_moreFlow 8 (some .int) false (rmD 2) P M [some (.ref (ad 2200 0)), some (.int (x1)), some (.int (x2)), some (.int (x3)), d4, d5, d6, d7] 0 0 31 [] := by
  intro n
  induction n with
  | zero => intros; rename_i h; cases h
  | succ n ih => exact fun hR h => S_X12_moreFlow_31 (fun hR h => ih hR h) (fun hR h => hkx211 hR h) hp hR h
theorem S_X12_moreFlow_21 {E : EN} {X : CX} {P : Option Value → MH → Prop} {ad : AD} {fu : Nat} {out : Int32 × St} (hp : ∀ M, Rep E ad out.2 M → P (some (.int out.1)) M) {V : St} {M : MH} {x1 : Int32} {x2 : Int32} {d3 : Option Value} {d4 : Option Value} {d5 : Option Value} {d6 : Option Value} {d7 : Option Value} (hR : Rep E ad V M) (h : F_X12_moreFlow_21 fu V x1 x2 = some out) : G E X RX12 cX12_moreFlow 8 (some .int) false (rmD 2) P M [some (.ref (ad 2200 0)), some (.int (x1)), some (.int (x2)), d3, d4, d5, d6, d7] 0 0 21 [] := by
  unfold F_X12_moreFlow_21 at h
  refine r_aload_n DX12_moreFlow_21 rfl ?_
  refine s_geta DX12_moreFlow_22 fl_X12_82 hR ct_2200 (one_cnt _) rfl ?_
  refine r_iload_n DX12_moreFlow_25 rfl ?_
  refine r_bipush (v := 8) DX12_moreFlow_26 kb_8 ?_
  obtain ⟨hg1, h⟩ := gd_inv h
  obtain ⟨V2, hv3, h⟩ := bv_inv h
  refine s_iast DX12_moreFlow_28 hR oka_2229 ct_2229 (one_cnt _) hg1 (fun M hR => ?_)
  have hR := hR.cg hv3
  refine r_iconst (v := 0) DX12_moreFlow_29 ki_0 ?_
  refine t_istore_n (L' := [some (.ref (ad 2200 0)), some (.int (x1)), some (.int (x2)), some (.int ((0 : Int32))), d4, d5, d6, d7]) DX12_moreFlow_30 (by decide) rfl ?_
  exact SL_X12_moreFlow_31 (fun hR h => S_X12_moreFlow_211 hp hR h) hp fu hR h
theorem S_X12_moreFlow_2 {E : EN} {X : CX} {P : Option Value → MH → Prop} {ad : AD} {fu : Nat} {out : Int32 × St} {kh : St → Int32 → Int32 → Int32 → RR} {kx21 : St → Int32 → Int32 → RR} (hkh : ∀ {V : St} {M : MH} {x1 : Int32} {x2 : Int32} {x3 : Int32} {d4 : Option Value} {d5 : Option Value} {d6 : Option Value} {d7 : Option Value}, Rep E ad V M → kh V x1 x2 x3 = some out → G E X RX12 cX12_moreFlow 8 (some .int) false (rmD 2) P M [some (.ref (ad 2200 0)), some (.int (x1)), some (.int (x2)), some (.int (x3)), d4, d5, d6, d7] 0 0 2 []) (hkx21 : ∀ {V : St} {M : MH} {x1 : Int32} {x2 : Int32} {d3 : Option Value} {d4 : Option Value} {d5 : Option Value} {d6 : Option Value} {d7 : Option Value}, Rep E ad V M → kx21 V x1 x2 = some out → G E X RX12 cX12_moreFlow 8 (some .int) false (rmD 2) P M [some (.ref (ad 2200 0)), some (.int (x1)), some (.int (x2)), d3, d4, d5, d6, d7] 0 0 21 []) (hp : ∀ M, Rep E ad out.2 M → P (some (.int out.1)) M) {V : St} {M : MH} {x1 : Int32} {x2 : Int32} {x3 : Int32} {d4 : Option Value} {d5 : Option Value} {d6 : Option Value} {d7 : Option Value} (hR : Rep E ad V M) (h : F_X12_moreFlow_2 kh kx21 fu V x1 x2 x3 = some out) : G E X RX12 cX12_moreFlow 8 (some .int) false (rmD 2) P M [some (.ref (ad 2200 0)), some (.int (x1)), some (.int (x2)), some (.int (x3)), d4, d5, d6, d7] 0 0 2 [] := by
  unfold F_X12_moreFlow_2 at h
  refine r_iload_n DX12_moreFlow_2 rfl ?_
  refine r_bipush (v := 8) DX12_moreFlow_3 kb_8 ?_
  refine r_icmp_ge DX12_moreFlow_5 (fun c1 => ?_) (fun c1 => ?_)
  · have h := if_t c1 h
    exact hkx21 hR h
  · have h := if_f c1 h
    refine r_aload_n DX12_moreFlow_8 rfl ?_
    refine s_geta DX12_moreFlow_9 fl_X12_82 hR ct_2200 (one_cnt _) rfl ?_
    refine r_iload_n DX12_moreFlow_12 rfl ?_
    refine r_iconst (v := -1) DX12_moreFlow_13 ki_m1 ?_
    obtain ⟨hg2, h⟩ := gd_inv h
    obtain ⟨V3, hv4, h⟩ := bv_inv h
    refine s_iast DX12_moreFlow_14 hR oka_2229 ct_2229 (one_cnt _) hg2 (fun M hR => ?_)
    have hR := hR.cg hv4
    refine t_iinc (v := 1) (L' := [some (.ref (ad 2200 0)), some (.int (x1)), some (.int (x2)), some (.int (x3 + 1)), d4, d5, d6, d7]) DX12_moreFlow_15 rfl ki_1 (by decide) rfl ?_
    refine r_goto DX12_moreFlow_18 ?_
    exact hkh hR h
theorem SL_X12_moreFlow_2 {E : EN} {X : CX} {P : Option Value → MH → Prop} {ad : AD} {fu : Nat} {out : Int32 × St} {kx21 : St → Int32 → Int32 → RR} (hkx21 : ∀ {V : St} {M : MH} {x1 : Int32} {x2 : Int32} {d3 : Option Value} {d4 : Option Value} {d5 : Option Value} {d6 : Option Value} {d7 : Option Value}, Rep E ad V M → kx21 V x1 x2 = some out → G E X RX12 cX12_moreFlow 8 (some .int) false (rmD 2) P M [some (.ref (ad 2200 0)), some (.int (x1)), some (.int (x2)), d3, d4, d5, d6, d7] 0 0 21 []) (hp : ∀ M, Rep E ad out.2 M → P (some (.int out.1)) M) : ∀ (n : Nat) {V : St} {M : MH} {x1 : Int32} {x2 : Int32} {x3 : Int32} {d4 : Option Value} {d5 : Option Value} {d6 : Option Value} {d7 : Option Value}, Rep E ad V M → Lp_X12_moreFlow_2 kx21 fu n V x1 x2 x3 = some out → G E X RX12 cX12_moreFlow 8 (some .int) false (rmD 2) P M [some (.ref (ad 2200 0)), some (.int (x1)), some (.int (x2)), some (.int (x3)), d4, d5, d6, d7] 0 0 2 [] := by
  intro n
  induction n with
  | zero => intros; rename_i h; cases h
  | succ n ih => exact fun hR h => S_X12_moreFlow_2 (fun hR h => ih hR h) (fun hR h => hkx21 hR h) hp hR h
theorem S_X12_moreFlow_0 {E : EN} {X : CX} {P : Option Value → MH → Prop} {ad : AD} {fu : Nat} {out : Int32 × St} (hp : ∀ M, Rep E ad out.2 M → P (some (.int out.1)) M) {V : St} {M : MH} {x1 : Int32} {x2 : Int32} (hR : Rep E ad V M) (h : f_X12_moreFlow fu V x1 x2 = some out) : G E X RX12 cX12_moreFlow 8 (some .int) false (rmD 2) P M [some (.ref (ad 2200 0)), some (.int (x1)), some (.int (x2)), none, none, none, none, none] 0 0 0 [] := by
  unfold f_X12_moreFlow at h
  refine r_iconst (v := 0) DX12_moreFlow_0 ki_0 ?_
  refine t_istore_n (L' := [some (.ref (ad 2200 0)), some (.int (x1)), some (.int (x2)), some (.int ((0 : Int32))), none, none, none, none]) DX12_moreFlow_1 (by decide) rfl ?_
  exact SL_X12_moreFlow_2 (fun hR h => S_X12_moreFlow_21 hp hR h) hp fu hR h
theorem C_X12_moreFlow {E : EN} {ad : AD} {fu : Nat} {out : Int32 × St} {V : St} {M : MH} {x1 : Int32} {x2 : Int32} (l : Launch) (hR : Rep E ad V M) (h : f_X12_moreFlow fu V x1 x2 = some out) : Ct E l yX12_moreFlow cX12_moreFlow 8 (some .int) (rmD 2) [.ref (ad 2200 0), .int (x1), .int (x2)] M (fun v M => v = (some (.int out.1)) ∧ Rep E ad out.2 M) :=
  Ct.of (own := RX12) (ini := false) (L := [some (.ref (ad 2200 0)), some (.int (x1)), some (.int (x2)), none, none, none, none, none]) rfl rfl (fun h => by cases h) rfl (Nat.le_of_ble_eq_true rfl) rfl (fun X _ => S_X12_moreFlow_0 (fun M hR => ⟨rfl, hR⟩) hR h)
theorem S_X12_isBearing_92 {E : EN} {X : CX} {P : Option Value → MH → Prop} {ad : AD} {fu : Nat} {out : Int32 × St} (hp : ∀ M, Rep E ad out.2 M → P (some (.int out.1)) M) {V : St} {M : MH} {d0 : Option Value} {d1 : Option Value} {d2 : Option Value} {d3 : Option Value} {d4 : Option Value} (hR : Rep E ad V M) (h : F_X12_isBearing_92 fu V = some out) : G E X RX12 cX12_isBearing 5 (some .boolean) false (rmD 3) P M [d0, d1, d2, d3, d4] 0 0 92 [] := by
  unfold F_X12_isBearing_92 at h
  refine r_iconst (v := 1) DX12_isBearing_92 ki_1 ?_
  cases h
  exact r_zret DX12_isBearing_93 rfl rfl ⟨Nat.le_refl 0, Nat.le_refl 0⟩ (hp M hR)
theorem S_X12_isBearing_84 {E : EN} {X : CX} {P : Option Value → MH → Prop} {ad : AD} {fu : Nat} {out : Int32 × St} (hp : ∀ M, Rep E ad out.2 M → P (some (.int out.1)) M) {V : St} {M : MH} {d0 : Option Value} {d1 : Option Value} {d2 : Option Value} {d3 : Option Value} {d4 : Option Value} (hR : Rep E ad V M) (h : F_X12_isBearing_84 fu V = some out) : G E X RX12 cX12_isBearing 5 (some .boolean) false (rmD 3) P M [d0, d1, d2, d3, d4] 0 0 84 [] := by
  unfold F_X12_isBearing_84 at h
  refine r_iconst (v := 0) DX12_isBearing_84 ki_0 ?_
  cases h
  exact r_zret DX12_isBearing_85 rfl rfl ⟨Nat.le_refl 0, Nat.le_refl 0⟩ (hp M hR)
theorem S_X12_isBearing_69 {E : EN} {X : CX} {P : Option Value → MH → Prop} {ad : AD} {fu : Nat} {out : Int32 × St} {kh : St → Int32 → Int32 → RR} {kx84 : St → RR} {kx92 : St → RR} (hkh : ∀ {V : St} {M : MH} {x1 : Int32} {x2 : Int32} {d3 : Option Value} {d4 : Option Value}, Rep E ad V M → kh V x1 x2 = some out → G E X RX12 cX12_isBearing 5 (some .boolean) false (rmD 3) P M [some (.ref (ad 2200 0)), some (.int (x1)), some (.int (x2)), d3, d4] 0 0 2 []) (hkx84 : ∀ {V : St} {M : MH} {d0 : Option Value} {d1 : Option Value} {d2 : Option Value} {d3 : Option Value} {d4 : Option Value}, Rep E ad V M → kx84 V  = some out → G E X RX12 cX12_isBearing 5 (some .boolean) false (rmD 3) P M [d0, d1, d2, d3, d4] 0 0 84 []) (hkx92 : ∀ {V : St} {M : MH} {d0 : Option Value} {d1 : Option Value} {d2 : Option Value} {d3 : Option Value} {d4 : Option Value}, Rep E ad V M → kx92 V  = some out → G E X RX12 cX12_isBearing 5 (some .boolean) false (rmD 3) P M [d0, d1, d2, d3, d4] 0 0 92 []) (hp : ∀ M, Rep E ad out.2 M → P (some (.int out.1)) M) {V : St} {M : MH} {x1 : Int32} {x2 : Int32} {x3 : Int32} {d4 : Option Value} (hR : Rep E ad V M) (h : F_X12_isBearing_69 kh kx84 kx92 fu V x1 x2 x3 = some out) : G E X RX12 cX12_isBearing 5 (some .boolean) false (rmD 3) P M [some (.ref (ad 2200 0)), some (.int (x1)), some (.int (x2)), some (.int (x3)), d4] 0 0 69 [] := by
  unfold F_X12_isBearing_69 at h
  refine r_iload_n DX12_isBearing_69 rfl ?_
  refine r_aload_n DX12_isBearing_70 rfl ?_
  refine s_geta DX12_isBearing_71 fl_X12_40 hR ct_2200 (one_cnt _) rfl ?_
  refine r_bipush (v := 8) DX12_isBearing_74 kb_8 ?_
  refine r_iload_n DX12_isBearing_76 rfl ?_
  refine r_imul DX12_isBearing_77 ?_
  refine r_iload_n DX12_isBearing_78 rfl ?_
  refine r_iadd DX12_isBearing_79 ?_
  obtain ⟨hg1, h⟩ := gd_inv h
  refine s_iald DX12_isBearing_80 hR ct_2215 (one_cnt _) hg1 ?_
  refine r_icmp_ge DX12_isBearing_81 (fun c2 => ?_) (fun c2 => ?_)
  · have h := if_t c2 h
    refine t_iinc (v := 1) (L' := [some (.ref (ad 2200 0)), some (.int (x1)), some (.int (x2 + 1)), some (.int (x3)), d4]) DX12_isBearing_86 rfl ki_1 (by decide) rfl ?_
    refine r_goto DX12_isBearing_89 ?_
    exact hkh hR h
  · have h := if_f c2 h
    exact hkx84 hR h
theorem S_X12_isBearing_38 {E : EN} {X : CX} {P : Option Value → MH → Prop} {ad : AD} {fu : Nat} {out : Int32 × St} {kh : St → Int32 → Int32 → Int32 → Int32 → RR} {kx69 : St → Int32 → Int32 → Int32 → RR} (hkh : ∀ {V : St} {M : MH} {x1 : Int32} {x2 : Int32} {x3 : Int32} {x4 : Int32}, Rep E ad V M → kh V x1 x2 x3 x4 = some out → G E X RX12 cX12_isBearing 5 (some .boolean) false (rmD 3) P M [some (.ref (ad 2200 0)), some (.int (x1)), some (.int (x2)), some (.int (x3)), some (.int (x4))] 0 0 38 []) (hkx69 : ∀ {V : St} {M : MH} {x1 : Int32} {x2 : Int32} {x3 : Int32} {d4 : Option Value}, Rep E ad V M → kx69 V x1 x2 x3 = some out → G E X RX12 cX12_isBearing 5 (some .boolean) false (rmD 3) P M [some (.ref (ad 2200 0)), some (.int (x1)), some (.int (x2)), some (.int (x3)), d4] 0 0 69 []) (hp : ∀ M, Rep E ad out.2 M → P (some (.int out.1)) M) {V : St} {M : MH} {x1 : Int32} {x2 : Int32} {x3 : Int32} {x4 : Int32} (hR : Rep E ad V M) (h : F_X12_isBearing_38 kh kx69 fu V x1 x2 x3 x4 = some out) : G E X RX12 cX12_isBearing 5 (some .boolean) false (rmD 3) P M [some (.ref (ad 2200 0)), some (.int (x1)), some (.int (x2)), some (.int (x3)), some (.int (x4))] 0 0 38 [] := by
  unfold F_X12_isBearing_38 at h
  refine r_iload DX12_isBearing_38 rfl ?_
  refine r_if_le DX12_isBearing_40 (fun c1 => ?_) (fun c1 => ?_)
  · have h := if_t c1 h
    exact hkx69 hR h
  · have h := if_f c1 h
    refine r_aload_n DX12_isBearing_43 rfl ?_
    refine r_iload_n DX12_isBearing_44 rfl ?_
    refine r_aload_n DX12_isBearing_45 rfl ?_
    refine s_geta DX12_isBearing_46 fl_X12_37 hR ct_2200 (one_cnt _) rfl ?_
    refine r_bipush (v := 8) DX12_isBearing_49 kb_8 ?_
    refine r_iload_n DX12_isBearing_51 rfl ?_
    refine r_imul DX12_isBearing_52 ?_
    refine r_iload_n DX12_isBearing_53 rfl ?_
    refine r_iadd DX12_isBearing_54 ?_
    obtain ⟨hg2, h⟩ := gd_inv h
    refine s_iald DX12_isBearing_55 hR ct_2214 (one_cnt _) hg2 ?_
    obtain ⟨r3, V4, hc5, h⟩ := bd_inv h
    refine k_callV (As := [.int (x1), .int ((V 2214 (0) (((8 : Int32) * x1) + x2).toNatClampNeg))]) (rest := []) (st1 := [.int (r3)]) (w := some (.int r3)) DX12_isBearing_56 cv_X12_258 hR ct_2200 (one_cnt _) rfl (C_X12_moreFlow (out := (r3, V4)) (cxL X) hR hc5) rfl (by decide) (by decide) rfl (Nat.le_of_ble_eq_true rfl) rfl (fun M hR => ?_)
    refine t_istore (L' := [some (.ref (ad 2200 0)), some (.int (x1)), some (.int (x2)), some (.int (x3)), some (.int (r3))]) DX12_isBearing_59 (by decide) rfl ?_
    refine r_iload_n DX12_isBearing_61 rfl ?_
    refine r_iload DX12_isBearing_62 rfl ?_
    refine r_iadd DX12_isBearing_64 ?_
    refine t_istore_n (L' := [some (.ref (ad 2200 0)), some (.int (x1)), some (.int (x2)), some (.int (x3 + r3)), some (.int (r3))]) DX12_isBearing_65 (by decide) rfl ?_
    refine r_goto DX12_isBearing_66 ?_
    exact hkh hR h
theorem SL_X12_isBearing_38 {E : EN} {X : CX} {P : Option Value → MH → Prop} {ad : AD} {fu : Nat} {out : Int32 × St} {kx69 : St → Int32 → Int32 → Int32 → RR} (hkx69 : ∀ {V : St} {M : MH} {x1 : Int32} {x2 : Int32} {x3 : Int32} {d4 : Option Value}, Rep E ad V M → kx69 V x1 x2 x3 = some out → G E X RX12 cX12_isBearing 5 (some .boolean) false (rmD 3) P M [some (.ref (ad 2200 0)), some (.int (x1)), some (.int (x2)), some (.int (x3)), d4] 0 0 69 []) (hp : ∀ M, Rep E ad out.2 M → P (some (.int out.1)) M) : ∀ (n : Nat) {V : St} {M : MH} {x1 : Int32} {x2 : Int32} {x3 : Int32} {x4 : Int32}, Rep E ad V M → Lp_X12_isBearing_38 kx69 fu n V x1 x2 x3 x4 = some out → G E X RX12 cX12_isBearing 5 (some .boolean) false (rmD 3) P M [some (.ref (ad 2200 0)), some (.int (x1)), some (.int (x2)), some (.int (x3)), some (.int (x4))] 0 0 38 [] := by
  intro n
  induction n with
  | zero => intros; rename_i h; cases h
  | succ n ih => exact fun hR h => S_X12_isBearing_38 (fun hR h => ih hR h) (fun hR h => hkx69 hR h) hp hR h
theorem S_X12_isBearing_33 {E : EN} {X : CX} {P : Option Value → MH → Prop} {ad : AD} {fu : Nat} {out : Int32 × St} {kh : St → Int32 → Int32 → RR} {kx84 : St → RR} {kx92 : St → RR} (hkh : ∀ {V : St} {M : MH} {x1 : Int32} {x2 : Int32} {d3 : Option Value} {d4 : Option Value}, Rep E ad V M → kh V x1 x2 = some out → G E X RX12 cX12_isBearing 5 (some .boolean) false (rmD 3) P M [some (.ref (ad 2200 0)), some (.int (x1)), some (.int (x2)), d3, d4] 0 0 2 []) (hkx84 : ∀ {V : St} {M : MH} {d0 : Option Value} {d1 : Option Value} {d2 : Option Value} {d3 : Option Value} {d4 : Option Value}, Rep E ad V M → kx84 V  = some out → G E X RX12 cX12_isBearing 5 (some .boolean) false (rmD 3) P M [d0, d1, d2, d3, d4] 0 0 84 []) (hkx92 : ∀ {V : St} {M : MH} {d0 : Option Value} {d1 : Option Value} {d2 : Option Value} {d3 : Option Value} {d4 : Option Value}, Rep E ad V M → kx92 V  = some out → G E X RX12 cX12_isBearing 5 (some .boolean) false (rmD 3) P M [d0, d1, d2, d3, d4] 0 0 92 []) (hp : ∀ M, Rep E ad out.2 M → P (some (.int out.1)) M) {V : St} {M : MH} {x1 : Int32} {x2 : Int32} {d3 : Option Value} {d4 : Option Value} (hR : Rep E ad V M) (h : F_X12_isBearing_33 kh kx84 kx92 fu V x1 x2 = some out) : G E X RX12 cX12_isBearing 5 (some .boolean) false (rmD 3) P M [some (.ref (ad 2200 0)), some (.int (x1)), some (.int (x2)), d3, d4] 0 0 33 [] := by
  unfold F_X12_isBearing_33 at h
  refine r_iconst (v := 0) DX12_isBearing_33 ki_0 ?_
  refine t_istore_n (L' := [some (.ref (ad 2200 0)), some (.int (x1)), some (.int (x2)), some (.int ((0 : Int32))), d4]) DX12_isBearing_34 (by decide) rfl ?_
  refine r_iconst (v := 1) DX12_isBearing_35 ki_1 ?_
  refine t_istore (L' := [some (.ref (ad 2200 0)), some (.int (x1)), some (.int (x2)), some (.int ((0 : Int32))), some (.int ((1 : Int32)))]) DX12_isBearing_36 (by decide) rfl ?_
  exact SL_X12_isBearing_38 (fun hR h => S_X12_isBearing_69 (fun hR h => hkh hR h) (fun hR h => hkx84 hR h) (fun hR h => hkx92 hR h) hp hR h) hp fu hR h
theorem S_X12_isBearing_14 {E : EN} {X : CX} {P : Option Value → MH → Prop} {ad : AD} {fu : Nat} {out : Int32 × St} {kh : St → Int32 → Int32 → Int32 → RR} {kx33 : St → Int32 → Int32 → RR} (hkh : ∀ {V : St} {M : MH} {x1 : Int32} {x2 : Int32} {x3 : Int32} {d4 : Option Value}, Rep E ad V M → kh V x1 x2 x3 = some out → G E X RX12 cX12_isBearing 5 (some .boolean) false (rmD 3) P M [some (.ref (ad 2200 0)), some (.int (x1)), some (.int (x2)), some (.int (x3)), d4] 0 0 14 []) (hkx33 : ∀ {V : St} {M : MH} {x1 : Int32} {x2 : Int32} {d3 : Option Value} {d4 : Option Value}, Rep E ad V M → kx33 V x1 x2 = some out → G E X RX12 cX12_isBearing 5 (some .boolean) false (rmD 3) P M [some (.ref (ad 2200 0)), some (.int (x1)), some (.int (x2)), d3, d4] 0 0 33 []) (hp : ∀ M, Rep E ad out.2 M → P (some (.int out.1)) M) {V : St} {M : MH} {x1 : Int32} {x2 : Int32} {x3 : Int32} {d4 : Option Value} (hR : Rep E ad V M) (h : F_X12_isBearing_14 kh kx33 fu V x1 x2 x3 = some out) : G E X RX12 cX12_isBearing 5 (some .boolean) false (rmD 3) P M [some (.ref (ad 2200 0)), some (.int (x1)), some (.int (x2)), some (.int (x3)), d4] 0 0 14 [] := by
  unfold F_X12_isBearing_14 at h
  refine r_iload_n DX12_isBearing_14 rfl ?_
  refine r_bipush (v := 8) DX12_isBearing_15 kb_8 ?_
  refine r_icmp_ge DX12_isBearing_17 (fun c1 => ?_) (fun c1 => ?_)
  · have h := if_t c1 h
    exact hkx33 hR h
  · have h := if_f c1 h
    refine r_aload_n DX12_isBearing_20 rfl ?_
    refine s_geta DX12_isBearing_21 fl_X12_79 hR ct_2200 (one_cnt _) rfl ?_
    refine r_iload_n DX12_isBearing_24 rfl ?_
    refine r_iconst (v := 0) DX12_isBearing_25 ki_0 ?_
    obtain ⟨hg2, h⟩ := gd_inv h
    obtain ⟨V3, hv4, h⟩ := bv_inv h
    refine s_iast DX12_isBearing_26 hR oka_2228 ct_2228 (one_cnt _) hg2 (fun M hR => ?_)
    have hR := hR.cg hv4
    refine t_iinc (v := 1) (L' := [some (.ref (ad 2200 0)), some (.int (x1)), some (.int (x2)), some (.int (x3 + 1)), d4]) DX12_isBearing_27 rfl ki_1 (by decide) rfl ?_
    refine r_goto DX12_isBearing_30 ?_
    exact hkh hR h
theorem SL_X12_isBearing_14 {E : EN} {X : CX} {P : Option Value → MH → Prop} {ad : AD} {fu : Nat} {out : Int32 × St} {kx33 : St → Int32 → Int32 → RR} (hkx33 : ∀ {V : St} {M : MH} {x1 : Int32} {x2 : Int32} {d3 : Option Value} {d4 : Option Value}, Rep E ad V M → kx33 V x1 x2 = some out → G E X RX12 cX12_isBearing 5 (some .boolean) false (rmD 3) P M [some (.ref (ad 2200 0)), some (.int (x1)), some (.int (x2)), d3, d4] 0 0 33 []) (hp : ∀ M, Rep E ad out.2 M → P (some (.int out.1)) M) : ∀ (n : Nat) {V : St} {M : MH} {x1 : Int32} {x2 : Int32} {x3 : Int32} {d4 : Option Value}, Rep E ad V M → Lp_X12_isBearing_14 kx33 fu n V x1 x2 x3 = some out → G E X RX12 cX12_isBearing 5 (some .boolean) false (rmD 3) P M [some (.ref (ad 2200 0)), some (.int (x1)), some (.int (x2)), some (.int (x3)), d4] 0 0 14 [] := by
  intro n
  induction n with
  | zero => intros; rename_i h; cases h
  | succ n ih => exact fun hR h => S_X12_isBearing_14 (fun hR h => ih hR h) (fun hR h => hkx33 hR h) hp hR h
theorem S_X12_isBearing_2 {E : EN} {X : CX} {P : Option Value → MH → Prop} {ad : AD} {fu : Nat} {out : Int32 × St} {kh : St → Int32 → Int32 → RR} {kx84 : St → RR} {kx92 : St → RR} (hkh : ∀ {V : St} {M : MH} {x1 : Int32} {x2 : Int32} {d3 : Option Value} {d4 : Option Value}, Rep E ad V M → kh V x1 x2 = some out → G E X RX12 cX12_isBearing 5 (some .boolean) false (rmD 3) P M [some (.ref (ad 2200 0)), some (.int (x1)), some (.int (x2)), d3, d4] 0 0 2 []) (hkx84 : ∀ {V : St} {M : MH} {d0 : Option Value} {d1 : Option Value} {d2 : Option Value} {d3 : Option Value} {d4 : Option Value}, Rep E ad V M → kx84 V  = some out → G E X RX12 cX12_isBearing 5 (some .boolean) false (rmD 3) P M [d0, d1, d2, d3, d4] 0 0 84 []) (hkx92 : ∀ {V : St} {M : MH} {d0 : Option Value} {d1 : Option Value} {d2 : Option Value} {d3 : Option Value} {d4 : Option Value}, Rep E ad V M → kx92 V  = some out → G E X RX12 cX12_isBearing 5 (some .boolean) false (rmD 3) P M [d0, d1, d2, d3, d4] 0 0 92 []) (hp : ∀ M, Rep E ad out.2 M → P (some (.int out.1)) M) {V : St} {M : MH} {x1 : Int32} {x2 : Int32} {d3 : Option Value} {d4 : Option Value} (hR : Rep E ad V M) (h : F_X12_isBearing_2 kh kx84 kx92 fu V x1 x2 = some out) : G E X RX12 cX12_isBearing 5 (some .boolean) false (rmD 3) P M [some (.ref (ad 2200 0)), some (.int (x1)), some (.int (x2)), d3, d4] 0 0 2 [] := by
  unfold F_X12_isBearing_2 at h
  refine r_iload_n DX12_isBearing_2 rfl ?_
  refine r_aload_n DX12_isBearing_3 rfl ?_
  refine s_geta DX12_isBearing_4 fl_X12_25 hR ct_2200 (one_cnt _) rfl ?_
  refine r_iload_n DX12_isBearing_7 rfl ?_
  obtain ⟨hg1, h⟩ := gd_inv h
  refine s_iald DX12_isBearing_8 hR ct_2210 (one_cnt _) hg1 ?_
  refine r_icmp_ge DX12_isBearing_9 (fun c2 => ?_) (fun c2 => ?_)
  · have h := if_t c2 h
    exact hkx92 hR h
  · have h := if_f c2 h
    refine r_iconst (v := 0) DX12_isBearing_12 ki_0 ?_
    refine t_istore_n (L' := [some (.ref (ad 2200 0)), some (.int (x1)), some (.int (x2)), some (.int ((0 : Int32))), d4]) DX12_isBearing_13 (by decide) rfl ?_
    exact SL_X12_isBearing_14 (fun hR h => S_X12_isBearing_33 (fun hR h => hkh hR h) (fun hR h => hkx84 hR h) (fun hR h => hkx92 hR h) hp hR h) hp fu hR h
theorem SL_X12_isBearing_2 {E : EN} {X : CX} {P : Option Value → MH → Prop} {ad : AD} {fu : Nat} {out : Int32 × St} {kx84 : St → RR} {kx92 : St → RR} (hkx84 : ∀ {V : St} {M : MH} {d0 : Option Value} {d1 : Option Value} {d2 : Option Value} {d3 : Option Value} {d4 : Option Value}, Rep E ad V M → kx84 V  = some out → G E X RX12 cX12_isBearing 5 (some .boolean) false (rmD 3) P M [d0, d1, d2, d3, d4] 0 0 84 []) (hkx92 : ∀ {V : St} {M : MH} {d0 : Option Value} {d1 : Option Value} {d2 : Option Value} {d3 : Option Value} {d4 : Option Value}, Rep E ad V M → kx92 V  = some out → G E X RX12 cX12_isBearing 5 (some .boolean) false (rmD 3) P M [d0, d1, d2, d3, d4] 0 0 92 []) (hp : ∀ M, Rep E ad out.2 M → P (some (.int out.1)) M) : ∀ (n : Nat) {V : St} {M : MH} {x1 : Int32} {x2 : Int32} {d3 : Option Value} {d4 : Option Value}, Rep E ad V M → Lp_X12_isBearing_2 kx84 kx92 fu n V x1 x2 = some out → G E X RX12 cX12_isBearing 5 (some .boolean) false (rmD 3) P M [some (.ref (ad 2200 0)), some (.int (x1)), some (.int (x2)), d3, d4] 0 0 2 [] := by
  intro n
  induction n with
  | zero => intros; rename_i h; cases h
  | succ n ih => exact fun hR h => S_X12_isBearing_2 (fun hR h => ih hR h) (fun hR h => hkx84 hR h) (fun hR h => hkx92 hR h) hp hR h
theorem S_X12_isBearing_0 {E : EN} {X : CX} {P : Option Value → MH → Prop} {ad : AD} {fu : Nat} {out : Int32 × St} (hp : ∀ M, Rep E ad out.2 M → P (some (.int out.1)) M) {V : St} {M : MH} {x1 : Int32} (hR : Rep E ad V M) (h : f_X12_isBearing fu V x1 = some out) : G E X RX12 cX12_isBearing 5 (some .boolean) false (rmD 3) P M [some (.ref (ad 2200 0)), some (.int (x1)), none, none, none] 0 0 0 [] := by
  unfold f_X12_isBearing at h
  refine r_iconst (v := 0) DX12_isBearing_0 ki_0 ?_
  refine t_istore_n (L' := [some (.ref (ad 2200 0)), some (.int (x1)), some (.int ((0 : Int32))), none, none]) DX12_isBearing_1 (by decide) rfl ?_
  exact SL_X12_isBearing_2 (fun hR h => S_X12_isBearing_84 hp hR h) (fun hR h => S_X12_isBearing_92 hp hR h) hp fu hR h
theorem C_X12_isBearing {E : EN} {ad : AD} {fu : Nat} {out : Int32 × St} {V : St} {M : MH} {x1 : Int32} (l : Launch) (hR : Rep E ad V M) (h : f_X12_isBearing fu V x1 = some out) : Ct E l yX12_isBearing cX12_isBearing 5 (some .boolean) (rmD 3) [.ref (ad 2200 0), .int (x1)] M (fun v M => v = (some (.int out.1)) ∧ Rep E ad out.2 M) :=
  Ct.of (own := RX12) (ini := false) (L := [some (.ref (ad 2200 0)), some (.int (x1)), none, none, none]) rfl rfl (fun h => by cases h) rfl (Nat.le_of_ble_eq_true rfl) rfl (fun X _ => S_X12_isBearing_0 (fun M hR => ⟨rfl, hR⟩) hR h)
