theorem S_X12_price_19 {E : EN} {X : CX} {P : Option Value → MH → Prop} {ad : AD} {fu : Nat} {out : Int32 × St} (hp : ∀ M, Rep E ad out.2 M → P (some (.int out.1)) M) {V : St} {M : MH} {d0 : Option Value} {d1 : Option Value} {d2 : Option Value} (hR : Rep E ad V M) (h : F_X12_price_19 fu V = some out) : G E X RX12 cX12_price 3 (some .boolean) false (rmD 2) P M [d0, d1, d2] 0 0 19 [] := by
  unfold F_X12_price_19 at h
  refine r_iconst (v := 0) DX12_price_19 ki_0 ?_
  cases h
  exact r_zret DX12_price_20 rfl rfl ⟨Nat.le_refl 0, Nat.le_refl 0⟩ (hp M hR)
theorem S_X12_price_0 {E : EN} {X : CX} {P : Option Value → MH → Prop} {ad : AD} {fu : Nat} {out : Int32 × St} (hp : ∀ M, Rep E ad out.2 M → P (some (.int out.1)) M) {V : St} {M : MH} {x1 : Int32} {x2 : Int32} (hR : Rep E ad V M) (h : f_X12_price fu V x1 x2 = some out) : G E X RX12 cX12_price 3 (some .boolean) false (rmD 2) P M [some (.ref (ad 2200 0)), some (.int (x1)), some (.int (x2))] 0 0 0 [] := by
  unfold f_X12_price at h
  refine r_aload_n DX12_price_0 rfl ?_
  refine r_iload_n DX12_price_1 rfl ?_
  obtain ⟨r1, V2, hc3, h⟩ := bd_inv h
  refine k_callV (As := [.int (x1)]) (rest := []) (st1 := [.int (r1)]) (w := some (.int r1)) DX12_price_2 cv_X12_271 hR ct_2200 (one_cnt _) rfl (C_X12_isThing (out := (r1, V2)) (cxL X) hR hc3) rfl (by decide) (by decide) rfl (Nat.le_of_ble_eq_true rfl) rfl (fun M hR => ?_)
  refine r_if_eq DX12_price_5 (fun c4 => ?_) (fun c4 => ?_)
  · have h := if_t c4 h
    exact S_X12_price_19 hp hR h
  · have h := if_f c4 h
    refine r_iload_n DX12_price_8 rfl ?_
    refine r_iconst (v := 1) DX12_price_9 ki_1 ?_
    refine r_ldcw (v := 100000) DX12_price_10 ck_X12_257 ?_
    obtain ⟨r5, V6, hc7, h⟩ := bd_inv h
    refine k_callS (As := [.int (x2), .int ((1 : Int32)), .int ((100000 : Int32))]) (rest := []) (st1 := [.int (r5)]) (w := some (.int r5)) DX12_price_13 cs_X12_245 (C_X12_in (out := (r5, V6)) (cxL X) hR hc7) rfl (by decide) (by decide) rfl (Nat.le_of_ble_eq_true rfl) rfl (fun M hR => ?_)
    refine r_if_ne DX12_price_16 (fun c8 => ?_) (fun c8 => ?_)
    · have h := if_f c8 h
      refine r_aload_n DX12_price_21 rfl ?_
      refine s_geta DX12_price_22 fl_X12_55 hR ct_2200 (one_cnt _) rfl ?_
      refine r_iload_n DX12_price_25 rfl ?_
      refine r_iload_n DX12_price_26 rfl ?_
      obtain ⟨hg9, h⟩ := gd_inv h
      obtain ⟨V10, hv11, h⟩ := bv_inv h
      refine s_iast DX12_price_27 hR oka_2220 ct_2220 (one_cnt _) hg9 (fun M hR => ?_)
      have hR := hR.cg hv11
      refine r_iconst (v := 1) DX12_price_28 ki_1 ?_
      cases h
      exact r_zret DX12_price_29 rfl rfl ⟨Nat.le_refl 0, Nat.le_refl 0⟩ (hp M hR)
    · have h := if_t c8 h
      exact S_X12_price_19 hp hR h
theorem C_X12_price {E : EN} {ad : AD} {fu : Nat} {out : Int32 × St} {V : St} {M : MH} {x1 : Int32} {x2 : Int32} (l : Launch) (hR : Rep E ad V M) (h : f_X12_price fu V x1 x2 = some out) : Ct E l yX12_price cX12_price 3 (some .boolean) (rmD 2) [.ref (ad 2200 0), .int (x1), .int (x2)] M (fun v M => v = (some (.int out.1)) ∧ Rep E ad out.2 M) :=
  Ct.of (own := RX12) (ini := false) (L := [some (.ref (ad 2200 0)), some (.int (x1)), some (.int (x2))]) rfl rfl (fun h => by cases h) rfl (Nat.le_of_ble_eq_true rfl) rfl (fun X _ => S_X12_price_0 (fun M hR => ⟨rfl, hR⟩) hR h)
theorem S_X12_rubbed_28 {E : EN} {X : CX} {P : Option Value → MH → Prop} {ad : AD} {fu : Nat} {out : Int32 × St} (hp : ∀ M, Rep E ad out.2 M → P (some (.int out.1)) M) {V : St} {M : MH} {d0 : Option Value} {d1 : Option Value} {d2 : Option Value} {d3 : Option Value} (hR : Rep E ad V M) (h : F_X12_rubbed_28 fu V = some out) : G E X RX12 cX12_rubbed 4 (some .boolean) false (rmD 2) P M [d0, d1, d2, d3] 0 0 28 [] := by
  unfold F_X12_rubbed_28 at h
  refine r_iconst (v := 0) DX12_rubbed_28 ki_0 ?_
  cases h
  exact r_zret DX12_rubbed_29 rfl rfl ⟨Nat.le_refl 0, Nat.le_refl 0⟩ (hp M hR)
theorem S_X12_rubbed_0 {E : EN} {X : CX} {P : Option Value → MH → Prop} {ad : AD} {fu : Nat} {out : Int32 × St} (hp : ∀ M, Rep E ad out.2 M → P (some (.int out.1)) M) {V : St} {M : MH} {x1 : Int32} {x2 : Int32} {x3 : Int32} (hR : Rep E ad V M) (h : f_X12_rubbed fu V x1 x2 x3 = some out) : G E X RX12 cX12_rubbed 4 (some .boolean) false (rmD 2) P M [some (.ref (ad 2200 0)), some (.int (x1)), some (.int (x2)), some (.int (x3))] 0 0 0 [] := by
  unfold f_X12_rubbed at h
  refine r_aload_n DX12_rubbed_0 rfl ?_
  refine r_iload_n DX12_rubbed_1 rfl ?_
  obtain ⟨r1, V2, hc3, h⟩ := bd_inv h
  refine k_callV (As := [.int (x1)]) (rest := []) (st1 := [.int (r1)]) (w := some (.int r1)) DX12_rubbed_2 cv_X12_268 hR ct_2200 (one_cnt _) rfl (C_X12_isCloth (out := (r1, V2)) (cxL X) hR hc3) rfl (by decide) (by decide) rfl (Nat.le_of_ble_eq_true rfl) rfl (fun M hR => ?_)
  refine r_if_eq DX12_rubbed_5 (fun c4 => ?_) (fun c4 => ?_)
  · have h := if_t c4 h
    exact S_X12_rubbed_28 hp hR h
  · have h := if_f c4 h
    refine r_iload_n DX12_rubbed_8 rfl ?_
    refine r_iconst (v := 1) DX12_rubbed_9 ki_1 ?_
    refine r_ldcw (v := 100000) DX12_rubbed_10 ck_X12_257 ?_
    obtain ⟨r5, V6, hc7, h⟩ := bd_inv h
    refine k_callS (As := [.int (x2), .int ((1 : Int32)), .int ((100000 : Int32))]) (rest := []) (st1 := [.int (r5)]) (w := some (.int r5)) DX12_rubbed_13 cs_X12_245 (C_X12_in (out := (r5, V6)) (cxL X) hR hc7) rfl (by decide) (by decide) rfl (Nat.le_of_ble_eq_true rfl) rfl (fun M hR => ?_)
    refine r_if_eq DX12_rubbed_16 (fun c8 => ?_) (fun c8 => ?_)
    · have h := if_t c8 h
      exact S_X12_rubbed_28 hp hR h
    · have h := if_f c8 h
      refine r_aload_n DX12_rubbed_19 rfl ?_
      refine s_geti DX12_rubbed_20 fl_X12_461 hR ct_2200 (one_cnt _) rfl ?_
      refine r_bipush (v := 100) DX12_rubbed_23 kb_100 ?_
      refine r_icmp_ne DX12_rubbed_25 (fun c9 => ?_) (fun c9 => ?_)
      · have h := if_f c9 h
        refine r_aload_n DX12_rubbed_30 rfl ?_
        refine s_geta DX12_rubbed_31 fl_X12_224 hR ct_2200 (one_cnt _) rfl ?_
        refine r_aload_n DX12_rubbed_34 rfl ?_
        refine s_geti DX12_rubbed_35 fl_X12_461 hR ct_2200 (one_cnt _) rfl ?_
        refine r_iload_n DX12_rubbed_38 rfl ?_
        obtain ⟨hg10, h⟩ := gd_inv h
        obtain ⟨V11, hv12, h⟩ := bv_inv h
        refine s_iast DX12_rubbed_39 hR oka_2292 ct_2292 (one_cnt _) hg10 (fun M hR => ?_)
        have hR := hR.cg hv12
        refine r_aload_n DX12_rubbed_40 rfl ?_
        refine s_geta DX12_rubbed_41 fl_X12_227 hR ct_2200 (one_cnt _) rfl ?_
        refine r_aload_n DX12_rubbed_44 rfl ?_
        refine s_geti DX12_rubbed_45 fl_X12_461 hR ct_2200 (one_cnt _) rfl ?_
        refine r_iload_n DX12_rubbed_48 rfl ?_
        obtain ⟨hg13, h⟩ := gd_inv h
        obtain ⟨V14, hv15, h⟩ := bv_inv h
        refine s_iast DX12_rubbed_49 hR oka_2293 ct_2293 (one_cnt _) hg13 (fun M hR => ?_)
        have hR := hR.cg hv15
        refine r_aload_n DX12_rubbed_50 rfl ?_
        refine s_geta DX12_rubbed_51 fl_X12_230 hR ct_2200 (one_cnt _) rfl ?_
        refine r_aload_n DX12_rubbed_54 rfl ?_
        refine s_geti DX12_rubbed_55 fl_X12_461 hR ct_2200 (one_cnt _) rfl ?_
        refine r_aload_n DX12_rubbed_58 rfl ?_
        refine s_geti DX12_rubbed_59 fl_X12_400 hR ct_2200 (one_cnt _) rfl ?_
        obtain ⟨hg16, h⟩ := gd_inv h
        obtain ⟨V17, hv18, h⟩ := bv_inv h
        refine s_iast DX12_rubbed_62 hR oka_2294 ct_2294 (one_cnt _) hg16 (fun M hR => ?_)
        have hR := hR.cg hv18
        refine r_aload_n DX12_rubbed_63 rfl ?_
        refine s_geta DX12_rubbed_64 fl_X12_233 hR ct_2200 (one_cnt _) rfl ?_
        refine r_aload_n DX12_rubbed_67 rfl ?_
        refine s_geti DX12_rubbed_68 fl_X12_461 hR ct_2200 (one_cnt _) rfl ?_
        refine r_iload_n DX12_rubbed_71 rfl ?_
        obtain ⟨hg19, h⟩ := gd_inv h
        obtain ⟨hz20, h⟩ := gd_inv h
        obtain ⟨V21, hv22, h⟩ := bv_inv h
        refine t_zast hz20 DX12_rubbed_72 hR oka_2295 ct_2295 (one_cnt _) hg19 (fun M hR => ?_)
        have hR := hR.cg hv22
        refine r_aload_n DX12_rubbed_73 rfl ?_
        refine r_aload_n DX12_rubbed_74 rfl ?_
        refine s_geti DX12_rubbed_75 fl_X12_461 hR ct_2200 (one_cnt _) rfl ?_
        refine r_iconst (v := 1) DX12_rubbed_78 ki_1 ?_
        refine r_iadd DX12_rubbed_79 ?_
        obtain ⟨V23, hv24, h⟩ := bv_inv h
        refine s_puti DX12_rubbed_80 fp_X12_461 hR oks_2287 ct_2200 (one_cnt _) rfl rfl rfl (fun M hR => ?_)
        have hR := hR.cg hv24
        refine r_iconst (v := 1) DX12_rubbed_83 ki_1 ?_
        cases h
        exact r_zret DX12_rubbed_84 rfl rfl ⟨Nat.le_refl 0, Nat.le_refl 0⟩ (hp M hR)
      · have h := if_t c9 h
        exact S_X12_rubbed_28 hp hR h
theorem C_X12_rubbed {E : EN} {ad : AD} {fu : Nat} {out : Int32 × St} {V : St} {M : MH} {x1 : Int32} {x2 : Int32} {x3 : Int32} (l : Launch) (hR : Rep E ad V M) (h : f_X12_rubbed fu V x1 x2 x3 = some out) : Ct E l yX12_rubbed cX12_rubbed 4 (some .boolean) (rmD 2) [.ref (ad 2200 0), .int (x1), .int (x2), .int (x3)] M (fun v M => v = (some (.int out.1)) ∧ Rep E ad out.2 M) :=
  Ct.of (own := RX12) (ini := false) (L := [some (.ref (ad 2200 0)), some (.int (x1)), some (.int (x2)), some (.int (x3))]) rfl rfl (fun h => by cases h) rfl (Nat.le_of_ble_eq_true rfl) rfl (fun X _ => S_X12_rubbed_0 (fun M hR => ⟨rfl, hR⟩) hR h)
theorem S_X12_seen_40 {E : EN} {X : CX} {P : Option Value → MH → Prop} {ad : AD} {fu : Nat} {out : Int32 × St} (hp : ∀ M, Rep E ad out.2 M → P (some (.int out.1)) M) {V : St} {M : MH} {d0 : Option Value} {d1 : Option Value} {d2 : Option Value} {d3 : Option Value} (hR : Rep E ad V M) (h : F_X12_seen_40 fu V = some out) : G E X RX12 cX12_seen 4 (some .boolean) false (rmD 2) P M [d0, d1, d2, d3] 0 0 40 [] := by
  unfold F_X12_seen_40 at h
  refine r_iconst (v := 0) DX12_seen_40 ki_0 ?_
  cases h
  exact r_zret DX12_seen_41 rfl rfl ⟨Nat.le_refl 0, Nat.le_refl 0⟩ (hp M hR)
theorem S_X12_seen_0 {E : EN} {X : CX} {P : Option Value → MH → Prop} {ad : AD} {fu : Nat} {out : Int32 × St} (hp : ∀ M, Rep E ad out.2 M → P (some (.int out.1)) M) {V : St} {M : MH} {x1 : Int32} {x2 : Int32} {x3 : Int32} (hR : Rep E ad V M) (h : f_X12_seen fu V x1 x2 x3 = some out) : G E X RX12 cX12_seen 4 (some .boolean) false (rmD 2) P M [some (.ref (ad 2200 0)), some (.int (x1)), some (.int (x2)), some (.int (x3))] 0 0 0 [] := by
  unfold f_X12_seen at h
  refine r_aload_n DX12_seen_0 rfl ?_
  refine r_iload_n DX12_seen_1 rfl ?_
  obtain ⟨r1, V2, hc3, h⟩ := bd_inv h
  refine k_callV (As := [.int (x1)]) (rest := []) (st1 := [.int (r1)]) (w := some (.int r1)) DX12_seen_2 cv_X12_271 hR ct_2200 (one_cnt _) rfl (C_X12_isThing (out := (r1, V2)) (cxL X) hR hc3) rfl (by decide) (by decide) rfl (Nat.le_of_ble_eq_true rfl) rfl (fun M hR => ?_)
  refine r_if_eq DX12_seen_5 (fun c4 => ?_) (fun c4 => ?_)
  · have h := if_t c4 h
    exact S_X12_seen_40 hp hR h
  · have h := if_f c4 h
    refine r_iload_n DX12_seen_8 rfl ?_
    refine r_iconst (v := 0) DX12_seen_9 ki_0 ?_
    refine r_aload_n DX12_seen_10 rfl ?_
    refine s_geti DX12_seen_11 fl_X12_400 hR ct_2200 (one_cnt _) rfl ?_
    obtain ⟨r5, V6, hc7, h⟩ := bd_inv h
    refine k_callS (As := [.int (x2), .int ((0 : Int32)), .int ((V2 2201 0 0))]) (rest := []) (st1 := [.int (r5)]) (w := some (.int r5)) DX12_seen_14 cs_X12_245 (C_X12_in (out := (r5, V6)) (cxL X) hR hc7) rfl (by decide) (by decide) rfl (Nat.le_of_ble_eq_true rfl) rfl (fun M hR => ?_)
    refine r_if_eq DX12_seen_17 (fun c8 => ?_) (fun c8 => ?_)
    · have h := if_t c8 h
      exact S_X12_seen_40 hp hR h
    · have h := if_f c8 h
      refine r_iload_n DX12_seen_20 rfl ?_
      refine r_iconst (v := 1) DX12_seen_21 ki_1 ?_
      refine r_ldcw (v := 100000) DX12_seen_22 ck_X12_257 ?_
      obtain ⟨r9, V10, hc11, h⟩ := bd_inv h
      refine k_callS (As := [.int (x3), .int ((1 : Int32)), .int ((100000 : Int32))]) (rest := []) (st1 := [.int (r9)]) (w := some (.int r9)) DX12_seen_25 cs_X12_245 (C_X12_in (out := (r9, V10)) (cxL X) hR hc11) rfl (by decide) (by decide) rfl (Nat.le_of_ble_eq_true rfl) rfl (fun M hR => ?_)
      refine r_if_eq DX12_seen_28 (fun c12 => ?_) (fun c12 => ?_)
      · have h := if_t c12 h
        exact S_X12_seen_40 hp hR h
      · have h := if_f c12 h
        refine r_aload_n DX12_seen_31 rfl ?_
        refine s_geti DX12_seen_32 fl_X12_458 hR ct_2200 (one_cnt _) rfl ?_
        refine r_bipush (v := 100) DX12_seen_35 kb_100 ?_
        refine r_icmp_ne DX12_seen_37 (fun c13 => ?_) (fun c13 => ?_)
        · have h := if_f c13 h
          refine r_aload_n DX12_seen_42 rfl ?_
          refine s_geta DX12_seen_43 fl_X12_215 hR ct_2200 (one_cnt _) rfl ?_
          refine r_aload_n DX12_seen_46 rfl ?_
          refine s_geti DX12_seen_47 fl_X12_458 hR ct_2200 (one_cnt _) rfl ?_
          refine r_iload_n DX12_seen_50 rfl ?_
          obtain ⟨hg14, h⟩ := gd_inv h
          obtain ⟨V15, hv16, h⟩ := bv_inv h
          refine s_iast DX12_seen_51 hR oka_2289 ct_2289 (one_cnt _) hg14 (fun M hR => ?_)
          have hR := hR.cg hv16
          refine r_aload_n DX12_seen_52 rfl ?_
          refine s_geta DX12_seen_53 fl_X12_218 hR ct_2200 (one_cnt _) rfl ?_
          refine r_aload_n DX12_seen_56 rfl ?_
          refine s_geti DX12_seen_57 fl_X12_458 hR ct_2200 (one_cnt _) rfl ?_
          refine r_iload_n DX12_seen_60 rfl ?_
          obtain ⟨hg17, h⟩ := gd_inv h
          obtain ⟨V18, hv19, h⟩ := bv_inv h
          refine s_iast DX12_seen_61 hR oka_2290 ct_2290 (one_cnt _) hg17 (fun M hR => ?_)
          have hR := hR.cg hv19
          refine r_aload_n DX12_seen_62 rfl ?_
          refine s_geta DX12_seen_63 fl_X12_221 hR ct_2200 (one_cnt _) rfl ?_
          refine r_aload_n DX12_seen_66 rfl ?_
          refine s_geti DX12_seen_67 fl_X12_458 hR ct_2200 (one_cnt _) rfl ?_
          refine r_iload_n DX12_seen_70 rfl ?_
          obtain ⟨hg20, h⟩ := gd_inv h
          obtain ⟨V21, hv22, h⟩ := bv_inv h
          refine s_iast DX12_seen_71 hR oka_2291 ct_2291 (one_cnt _) hg20 (fun M hR => ?_)
          have hR := hR.cg hv22
          refine r_aload_n DX12_seen_72 rfl ?_
          refine r_aload_n DX12_seen_73 rfl ?_
          refine s_geti DX12_seen_74 fl_X12_458 hR ct_2200 (one_cnt _) rfl ?_
          refine r_iconst (v := 1) DX12_seen_77 ki_1 ?_
          refine r_iadd DX12_seen_78 ?_
          obtain ⟨V23, hv24, h⟩ := bv_inv h
          refine s_puti DX12_seen_79 fp_X12_458 hR oks_2286 ct_2200 (one_cnt _) rfl rfl rfl (fun M hR => ?_)
          have hR := hR.cg hv24
          refine r_iconst (v := 1) DX12_seen_82 ki_1 ?_
          cases h
          exact r_zret DX12_seen_83 rfl rfl ⟨Nat.le_refl 0, Nat.le_refl 0⟩ (hp M hR)
        · have h := if_t c13 h
          exact S_X12_seen_40 hp hR h
theorem C_X12_seen {E : EN} {ad : AD} {fu : Nat} {out : Int32 × St} {V : St} {M : MH} {x1 : Int32} {x2 : Int32} {x3 : Int32} (l : Launch) (hR : Rep E ad V M) (h : f_X12_seen fu V x1 x2 x3 = some out) : Ct E l yX12_seen cX12_seen 4 (some .boolean) (rmD 2) [.ref (ad 2200 0), .int (x1), .int (x2), .int (x3)] M (fun v M => v = (some (.int out.1)) ∧ Rep E ad out.2 M) :=
  Ct.of (own := RX12) (ini := false) (L := [some (.ref (ad 2200 0)), some (.int (x1)), some (.int (x2)), some (.int (x3))]) rfl rfl (fun h => by cases h) rfl (Nat.le_of_ble_eq_true rfl) rfl (fun X _ => S_X12_seen_0 (fun M hR => ⟨rfl, hR⟩) hR h)
theorem S_X12_stick_66 {E : EN} {X : CX} {P : Option Value → MH → Prop} {ad : AD} {fu : Nat} {out : Int32 × St} (hp : ∀ M, Rep E ad out.2 M → P (some (.int out.1)) M) {V : St} {M : MH} {d0 : Option Value} {d1 : Option Value} {d2 : Option Value} {d3 : Option Value} {d4 : Option Value} {d5 : Option Value} (hR : Rep E ad V M) (h : F_X12_stick_66 fu V = some out) : G E X RX12 cX12_stick 6 (some .int) false (rmD 2) P M [d0, d1, d2, d3, d4, d5] 0 0 66 [] := by
  unfold F_X12_stick_66 at h
  refine r_iconst (v := -1) DX12_stick_66 ki_m1 ?_
  cases h
  exact r_iret DX12_stick_67 rfl ⟨Nat.le_refl 0, Nat.le_refl 0⟩ (hp M hR)
theorem S_X12_stick_0 {E : EN} {X : CX} {P : Option Value → MH → Prop} {ad : AD} {fu : Nat} {out : Int32 × St} (hp : ∀ M, Rep E ad out.2 M → P (some (.int out.1)) M) {V : St} {M : MH} {x1 : Int32} {x2 : Int32} {x3 : Int32} {x4 : Int32} (hR : Rep E ad V M) (h : f_X12_stick fu V x1 x2 x3 x4 = some out) : G E X RX12 cX12_stick 6 (some .int) false (rmD 2) P M [some (.ref (ad 2200 0)), some (.int (x1)), some (.int (x2)), some (.int (x3)), some (.int (x4)), none] 0 0 0 [] := by
  unfold f_X12_stick at h
  refine r_aload_n DX12_stick_0 rfl ?_
  refine r_iload_n DX12_stick_1 rfl ?_
  obtain ⟨r1, V2, hc3, h⟩ := bd_inv h
  refine k_callV (As := [.int (x1)]) (rest := []) (st1 := [.int (r1)]) (w := some (.int r1)) DX12_stick_2 cv_X12_249 hR ct_2200 (one_cnt _) rfl (C_X12_isDrawing (out := (r1, V2)) (cxL X) hR hc3) rfl (by decide) (by decide) rfl (Nat.le_of_ble_eq_true rfl) rfl (fun M hR => ?_)
  refine r_if_eq DX12_stick_5 (fun c4 => ?_) (fun c4 => ?_)
  · have h := if_t c4 h
    exact S_X12_stick_66 hp hR h
  · have h := if_f c4 h
    refine r_iload_n DX12_stick_8 rfl ?_
    refine r_iconst (v := 0) DX12_stick_9 ki_0 ?_
    refine r_aload_n DX12_stick_10 rfl ?_
    refine s_geta DX12_stick_11 fl_X12_19 hR ct_2200 (one_cnt _) rfl ?_
    refine r_iload_n DX12_stick_14 rfl ?_
    obtain ⟨hg5, h⟩ := gd_inv h
    refine s_iald DX12_stick_15 hR ct_2208 (one_cnt _) hg5 ?_
    refine r_iconst (v := 1) DX12_stick_16 ki_1 ?_
    refine r_isub DX12_stick_17 ?_
    obtain ⟨r6, V7, hc8, h⟩ := bd_inv h
    refine k_callS (As := [.int (x2), .int ((0 : Int32)), .int ((V2 2208 (0) (x1).toNatClampNeg) - (1 : Int32))]) (rest := []) (st1 := [.int (r6)]) (w := some (.int r6)) DX12_stick_18 cs_X12_245 (C_X12_in (out := (r6, V7)) (cxL X) hR hc8) rfl (by decide) (by decide) rfl (Nat.le_of_ble_eq_true rfl) rfl (fun M hR => ?_)
    refine r_if_eq DX12_stick_21 (fun c9 => ?_) (fun c9 => ?_)
    · have h := if_t c9 h
      exact S_X12_stick_66 hp hR h
    · have h := if_f c9 h
      refine r_iload_n DX12_stick_24 rfl ?_
      refine r_iconst (v := 0) DX12_stick_25 ki_0 ?_
      refine r_aload_n DX12_stick_26 rfl ?_
      refine s_geta DX12_stick_27 fl_X12_19 hR ct_2200 (one_cnt _) rfl ?_
      refine r_iload_n DX12_stick_30 rfl ?_
      obtain ⟨hg10, h⟩ := gd_inv h
      refine s_iald DX12_stick_31 hR ct_2208 (one_cnt _) hg10 ?_
      refine r_iconst (v := 1) DX12_stick_32 ki_1 ?_
      refine r_isub DX12_stick_33 ?_
      obtain ⟨r11, V12, hc13, h⟩ := bd_inv h
      refine k_callS (As := [.int (x3), .int ((0 : Int32)), .int ((V7 2208 (0) (x1).toNatClampNeg) - (1 : Int32))]) (rest := []) (st1 := [.int (r11)]) (w := some (.int r11)) DX12_stick_34 cs_X12_245 (C_X12_in (out := (r11, V12)) (cxL X) hR hc13) rfl (by decide) (by decide) rfl (Nat.le_of_ble_eq_true rfl) rfl (fun M hR => ?_)
      refine r_if_eq DX12_stick_37 (fun c14 => ?_) (fun c14 => ?_)
      · have h := if_t c14 h
        exact S_X12_stick_66 hp hR h
      · have h := if_f c14 h
        refine r_iload_n DX12_stick_40 rfl ?_
        refine r_iload_n DX12_stick_41 rfl ?_
        refine r_icmp_eq DX12_stick_42 (fun c15 => ?_) (fun c15 => ?_)
        · have h := if_t c15 h
          exact S_X12_stick_66 hp hR h
        · have h := if_f c15 h
          refine r_iload DX12_stick_45 rfl ?_
          refine r_iconst (v := 0) DX12_stick_47 ki_0 ?_
          refine r_iconst (v := 2) DX12_stick_48 ki_2 ?_
          obtain ⟨r16, V17, hc18, h⟩ := bd_inv h
          refine k_callS (As := [.int (x4), .int ((0 : Int32)), .int ((2 : Int32))]) (rest := []) (st1 := [.int (r16)]) (w := some (.int r16)) DX12_stick_49 cs_X12_245 (C_X12_in (out := (r16, V17)) (cxL X) hR hc18) rfl (by decide) (by decide) rfl (Nat.le_of_ble_eq_true rfl) rfl (fun M hR => ?_)
          refine r_if_eq DX12_stick_52 (fun c19 => ?_) (fun c19 => ?_)
          · have h := if_t c19 h
            exact S_X12_stick_66 hp hR h
          · have h := if_f c19 h
            refine r_aload_n DX12_stick_55 rfl ?_
            refine s_geta DX12_stick_56 fl_X12_22 hR ct_2200 (one_cnt _) rfl ?_
            refine r_iload_n DX12_stick_59 rfl ?_
            obtain ⟨hg20, h⟩ := gd_inv h
            refine s_iald DX12_stick_60 hR ct_2209 (one_cnt _) hg20 ?_
            refine r_bipush (v := 8) DX12_stick_61 kb_8 ?_
            refine r_icmp_ne DX12_stick_63 (fun c21 => ?_) (fun c21 => ?_)
            · have h := if_f c21 h
              refine r_bipush (v := 8) DX12_stick_68 kb_8 ?_
              refine r_iload_n DX12_stick_70 rfl ?_
              refine r_imul DX12_stick_71 ?_
              refine r_aload_n DX12_stick_72 rfl ?_
              refine s_geta DX12_stick_73 fl_X12_22 hR ct_2200 (one_cnt _) rfl ?_
              refine r_iload_n DX12_stick_76 rfl ?_
              obtain ⟨hg22, h⟩ := gd_inv h
              refine s_iald DX12_stick_77 hR ct_2209 (one_cnt _) hg22 ?_
              refine r_iadd DX12_stick_78 ?_
              refine t_istore (L' := [some (.ref (ad 2200 0)), some (.int (x1)), some (.int (x2)), some (.int (x3)), some (.int (x4)), some (.int (((8 : Int32) * x1) + (V17 2209 (0) (x1).toNatClampNeg)))]) DX12_stick_79 (by decide) rfl ?_
              refine r_aload_n DX12_stick_81 rfl ?_
              refine s_geta DX12_stick_82 fl_X12_28 hR ct_2200 (one_cnt _) rfl ?_
              refine r_iload DX12_stick_85 rfl ?_
              refine r_iload_n DX12_stick_87 rfl ?_
              obtain ⟨hg23, h⟩ := gd_inv h
              obtain ⟨V24, hv25, h⟩ := bv_inv h
              refine s_iast DX12_stick_88 hR oka_2211 ct_2211 (one_cnt _) hg23 (fun M hR => ?_)
              have hR := hR.cg hv25
              refine r_aload_n DX12_stick_89 rfl ?_
              refine s_geta DX12_stick_90 fl_X12_31 hR ct_2200 (one_cnt _) rfl ?_
              refine r_iload DX12_stick_93 rfl ?_
              refine r_iload_n DX12_stick_95 rfl ?_
              obtain ⟨hg26, h⟩ := gd_inv h
              obtain ⟨V27, hv28, h⟩ := bv_inv h
              refine s_iast DX12_stick_96 hR oka_2212 ct_2212 (one_cnt _) hg26 (fun M hR => ?_)
              have hR := hR.cg hv28
              refine r_aload_n DX12_stick_97 rfl ?_
              refine s_geta DX12_stick_98 fl_X12_34 hR ct_2200 (one_cnt _) rfl ?_
              refine r_iload DX12_stick_101 rfl ?_
              refine r_iload DX12_stick_103 rfl ?_
              obtain ⟨hg29, h⟩ := gd_inv h
              obtain ⟨V30, hv31, h⟩ := bv_inv h
              refine s_iast DX12_stick_105 hR oka_2213 ct_2213 (one_cnt _) hg29 (fun M hR => ?_)
              have hR := hR.cg hv31
              refine r_aload_n DX12_stick_106 rfl ?_
              refine s_geta DX12_stick_107 fl_X12_22 hR ct_2200 (one_cnt _) rfl ?_
              refine r_iload_n DX12_stick_110 rfl ?_
              refine r_aload_n DX12_stick_111 rfl ?_
              refine s_geta DX12_stick_112 fl_X12_22 hR ct_2200 (one_cnt _) rfl ?_
              refine r_iload_n DX12_stick_115 rfl ?_
              obtain ⟨hg32, h⟩ := gd_inv h
              refine s_iald DX12_stick_116 hR ct_2209 (one_cnt _) hg32 ?_
              refine r_iconst (v := 1) DX12_stick_117 ki_1 ?_
              refine r_iadd DX12_stick_118 ?_
              obtain ⟨hg33, h⟩ := gd_inv h
              obtain ⟨V34, hv35, h⟩ := bv_inv h
              refine s_iast DX12_stick_119 hR oka_2209 ct_2209 (one_cnt _) hg33 (fun M hR => ?_)
              have hR := hR.cg hv35
              refine r_aload_n DX12_stick_120 rfl ?_
              refine s_geta DX12_stick_121 fl_X12_22 hR ct_2200 (one_cnt _) rfl ?_
              refine r_iload_n DX12_stick_124 rfl ?_
              obtain ⟨hg36, h⟩ := gd_inv h
              refine s_iald DX12_stick_125 hR ct_2209 (one_cnt _) hg36 ?_
              refine r_iconst (v := 1) DX12_stick_126 ki_1 ?_
              refine r_isub DX12_stick_127 ?_
              cases h
              exact r_iret DX12_stick_128 rfl ⟨Nat.le_refl 0, Nat.le_refl 0⟩ (hp M hR)
            · have h := if_t c21 h
              exact S_X12_stick_66 hp hR h
theorem C_X12_stick {E : EN} {ad : AD} {fu : Nat} {out : Int32 × St} {V : St} {M : MH} {x1 : Int32} {x2 : Int32} {x3 : Int32} {x4 : Int32} (l : Launch) (hR : Rep E ad V M) (h : f_X12_stick fu V x1 x2 x3 x4 = some out) : Ct E l yX12_stick cX12_stick 6 (some .int) (rmD 2) [.ref (ad 2200 0), .int (x1), .int (x2), .int (x3), .int (x4)] M (fun v M => v = (some (.int out.1)) ∧ Rep E ad out.2 M) :=
  Ct.of (own := RX12) (ini := false) (L := [some (.ref (ad 2200 0)), some (.int (x1)), some (.int (x2)), some (.int (x3)), some (.int (x4)), none]) rfl rfl (fun h => by cases h) rfl (Nat.le_of_ble_eq_true rfl) rfl (fun X _ => S_X12_stick_0 (fun M hR => ⟨rfl, hR⟩) hR h)
theorem S_X12_thing_80 {E : EN} {X : CX} {P : Option Value → MH → Prop} {ad : AD} {fu : Nat} {out : Int32 × St} (hp : ∀ M, Rep E ad out.2 M → P (some (.int out.1)) M) {V : St} {M : MH} {x1 : Int32} {x2 : Int32} {x3 : Int32} {x4 : Int32} (hR : Rep E ad V M) (h : F_X12_thing_80 fu V x1 x2 x3 x4 = some out) : G E X RX12 cX12_thing 5 (some .int) false (rmD 2) P M [some (.ref (ad 2200 0)), some (.int (x1)), some (.int (x2)), some (.int (x3)), some (.int (x4))] 0 0 80 [] := by
  unfold F_X12_thing_80 at h
  refine r_aload_n DX12_thing_80 rfl ?_
  refine s_geta DX12_thing_81 fl_X12_43 hR ct_2200 (one_cnt _) rfl ?_
  refine r_aload_n DX12_thing_84 rfl ?_
  refine s_geti DX12_thing_85 fl_X12_242 hR ct_2200 (one_cnt _) rfl ?_
  refine r_iload_n DX12_thing_88 rfl ?_
  obtain ⟨hg1, h⟩ := gd_inv h
  obtain ⟨V2, hv3, h⟩ := bv_inv h
  refine s_iast DX12_thing_89 hR oka_2216 ct_2216 (one_cnt _) hg1 (fun M hR => ?_)
  have hR := hR.cg hv3
  refine r_aload_n DX12_thing_90 rfl ?_
  refine s_geta DX12_thing_91 fl_X12_46 hR ct_2200 (one_cnt _) rfl ?_
  refine r_aload_n DX12_thing_94 rfl ?_
  refine s_geti DX12_thing_95 fl_X12_242 hR ct_2200 (one_cnt _) rfl ?_
  refine r_iload_n DX12_thing_98 rfl ?_
  obtain ⟨hg4, h⟩ := gd_inv h
  obtain ⟨V5, hv6, h⟩ := bv_inv h
  refine s_iast DX12_thing_99 hR oka_2217 ct_2217 (one_cnt _) hg4 (fun M hR => ?_)
  have hR := hR.cg hv6
  refine r_aload_n DX12_thing_100 rfl ?_
  refine s_geta DX12_thing_101 fl_X12_49 hR ct_2200 (one_cnt _) rfl ?_
  refine r_aload_n DX12_thing_104 rfl ?_
  refine s_geti DX12_thing_105 fl_X12_242 hR ct_2200 (one_cnt _) rfl ?_
  refine r_iload_n DX12_thing_108 rfl ?_
  obtain ⟨hg7, h⟩ := gd_inv h
  obtain ⟨V8, hv9, h⟩ := bv_inv h
  refine s_iast DX12_thing_109 hR oka_2218 ct_2218 (one_cnt _) hg7 (fun M hR => ?_)
  have hR := hR.cg hv9
  refine r_aload_n DX12_thing_110 rfl ?_
  refine s_geta DX12_thing_111 fl_X12_52 hR ct_2200 (one_cnt _) rfl ?_
  refine r_aload_n DX12_thing_114 rfl ?_
  refine s_geti DX12_thing_115 fl_X12_242 hR ct_2200 (one_cnt _) rfl ?_
  refine r_iload DX12_thing_118 rfl ?_
  obtain ⟨hg10, h⟩ := gd_inv h
  obtain ⟨V11, hv12, h⟩ := bv_inv h
  refine s_iast DX12_thing_120 hR oka_2219 ct_2219 (one_cnt _) hg10 (fun M hR => ?_)
  have hR := hR.cg hv12
  refine r_aload_n DX12_thing_121 rfl ?_
  refine s_geta DX12_thing_122 fl_X12_55 hR ct_2200 (one_cnt _) rfl ?_
  refine r_aload_n DX12_thing_125 rfl ?_
  refine s_geti DX12_thing_126 fl_X12_242 hR ct_2200 (one_cnt _) rfl ?_
  refine r_iconst (v := 1) DX12_thing_129 ki_1 ?_
  obtain ⟨hg13, h⟩ := gd_inv h
  obtain ⟨V14, hv15, h⟩ := bv_inv h
  refine s_iast DX12_thing_130 hR oka_2220 ct_2220 (one_cnt _) hg13 (fun M hR => ?_)
  have hR := hR.cg hv15
  refine r_aload_n DX12_thing_131 rfl ?_
  refine r_aload_n DX12_thing_132 rfl ?_
  refine s_geti DX12_thing_133 fl_X12_242 hR ct_2200 (one_cnt _) rfl ?_
  refine r_iconst (v := 1) DX12_thing_136 ki_1 ?_
  refine r_iadd DX12_thing_137 ?_
  obtain ⟨V16, hv17, h⟩ := bv_inv h
  refine s_puti DX12_thing_138 fp_X12_242 hR oks_2204 ct_2200 (one_cnt _) rfl rfl rfl (fun M hR => ?_)
  have hR := hR.cg hv17
  refine r_aload_n DX12_thing_141 rfl ?_
  refine s_geti DX12_thing_142 fl_X12_242 hR ct_2200 (one_cnt _) rfl ?_
  refine r_iconst (v := 1) DX12_thing_145 ki_1 ?_
  refine r_isub DX12_thing_146 ?_
  cases h
  exact r_iret DX12_thing_147 rfl ⟨Nat.le_refl 0, Nat.le_refl 0⟩ (hp M hR)
theorem S_X12_thing_78 {E : EN} {X : CX} {P : Option Value → MH → Prop} {ad : AD} {fu : Nat} {out : Int32 × St} (hp : ∀ M, Rep E ad out.2 M → P (some (.int out.1)) M) {V : St} {M : MH} {d0 : Option Value} {d1 : Option Value} {d2 : Option Value} {d3 : Option Value} {d4 : Option Value} (hR : Rep E ad V M) (h : F_X12_thing_78 fu V = some out) : G E X RX12 cX12_thing 5 (some .int) false (rmD 2) P M [d0, d1, d2, d3, d4] 0 0 78 [] := by
  unfold F_X12_thing_78 at h
  refine r_iconst (v := -1) DX12_thing_78 ki_m1 ?_
  cases h
  exact r_iret DX12_thing_79 rfl ⟨Nat.le_refl 0, Nat.le_refl 0⟩ (hp M hR)
theorem S_X12_thing_40 {E : EN} {X : CX} {P : Option Value → MH → Prop} {ad : AD} {fu : Nat} {out : Int32 × St} (hp : ∀ M, Rep E ad out.2 M → P (some (.int out.1)) M) {V : St} {M : MH} {d0 : Option Value} {d1 : Option Value} {d2 : Option Value} {d3 : Option Value} {d4 : Option Value} (hR : Rep E ad V M) (h : F_X12_thing_40 fu V = some out) : G E X RX12 cX12_thing 5 (some .int) false (rmD 2) P M [d0, d1, d2, d3, d4] 0 0 40 [] := by
  unfold F_X12_thing_40 at h
  refine r_iconst (v := -1) DX12_thing_40 ki_m1 ?_
  cases h
  exact r_iret DX12_thing_41 rfl ⟨Nat.le_refl 0, Nat.le_refl 0⟩ (hp M hR)
theorem S_X12_thing_0 {E : EN} {X : CX} {P : Option Value → MH → Prop} {ad : AD} {fu : Nat} {out : Int32 × St} (hp : ∀ M, Rep E ad out.2 M → P (some (.int out.1)) M) {V : St} {M : MH} {x1 : Int32} {x2 : Int32} {x3 : Int32} {x4 : Int32} (hR : Rep E ad V M) (h : f_X12_thing fu V x1 x2 x3 x4 = some out) : G E X RX12 cX12_thing 5 (some .int) false (rmD 2) P M [some (.ref (ad 2200 0)), some (.int (x1)), some (.int (x2)), some (.int (x3)), some (.int (x4))] 0 0 0 [] := by
  unfold f_X12_thing at h
  refine r_iload_n DX12_thing_0 rfl ?_
  refine r_iconst (v := 0) DX12_thing_1 ki_0 ?_
  refine r_iconst (v := 2) DX12_thing_2 ki_2 ?_
  obtain ⟨r1, V2, hc3, h⟩ := bd_inv h
  refine k_callS (As := [.int (x1), .int ((0 : Int32)), .int ((2 : Int32))]) (rest := []) (st1 := [.int (r1)]) (w := some (.int r1)) DX12_thing_3 cs_X12_245 (C_X12_in (out := (r1, V2)) (cxL X) hR hc3) rfl (by decide) (by decide) rfl (Nat.le_of_ble_eq_true rfl) rfl (fun M hR => ?_)
  refine r_if_eq DX12_thing_6 (fun c4 => ?_) (fun c4 => ?_)
  · have h := if_t c4 h
    exact S_X12_thing_40 hp hR h
  · have h := if_f c4 h
    refine r_iload_n DX12_thing_9 rfl ?_
    refine r_iconst (v := 0) DX12_thing_10 ki_0 ?_
    refine r_bipush (v := 9) DX12_thing_11 kb_9 ?_
    obtain ⟨r5, V6, hc7, h⟩ := bd_inv h
    refine k_callS (As := [.int (x3), .int ((0 : Int32)), .int ((9 : Int32))]) (rest := []) (st1 := [.int (r5)]) (w := some (.int r5)) DX12_thing_13 cs_X12_245 (C_X12_in (out := (r5, V6)) (cxL X) hR hc7) rfl (by decide) (by decide) rfl (Nat.le_of_ble_eq_true rfl) rfl (fun M hR => ?_)
    refine r_if_eq DX12_thing_16 (fun c8 => ?_) (fun c8 => ?_)
    · have h := if_t c8 h
      exact S_X12_thing_40 hp hR h
    · have h := if_f c8 h
      refine r_iload DX12_thing_19 rfl ?_
      refine r_iconst (v := 1) DX12_thing_21 ki_1 ?_
      refine r_sipush (v := 10000) DX12_thing_22 ks_10000 ?_
      obtain ⟨r9, V10, hc11, h⟩ := bd_inv h
      refine k_callS (As := [.int (x4), .int ((1 : Int32)), .int ((10000 : Int32))]) (rest := []) (st1 := [.int (r9)]) (w := some (.int r9)) DX12_thing_25 cs_X12_245 (C_X12_in (out := (r9, V10)) (cxL X) hR hc11) rfl (by decide) (by decide) rfl (Nat.le_of_ble_eq_true rfl) rfl (fun M hR => ?_)
      refine r_if_eq DX12_thing_28 (fun c12 => ?_) (fun c12 => ?_)
      · have h := if_t c12 h
        exact S_X12_thing_40 hp hR h
      · have h := if_f c12 h
        refine r_aload_n DX12_thing_31 rfl ?_
        refine s_geti DX12_thing_32 fl_X12_242 hR ct_2200 (one_cnt _) rfl ?_
        refine r_bipush (v := 30) DX12_thing_35 kb_30 ?_
        refine r_icmp_ne DX12_thing_37 (fun c13 => ?_) (fun c13 => ?_)
        · have h := if_f c13 h
          refine r_iload_n DX12_thing_42 rfl ?_
          refine r_if_ne DX12_thing_43 (fun c14 => ?_) (fun c14 => ?_)
          · have h := if_f c14 h
            refine r_iload_n DX12_thing_57 rfl ?_
            refine r_iconst (v := 1) DX12_thing_58 ki_1 ?_
            refine r_icmp_ne DX12_thing_59 (fun c15 => ?_) (fun c15 => ?_)
            · have h := if_f c15 h
              refine r_iload_n DX12_thing_73 rfl ?_
              refine r_iconst (v := -1) DX12_thing_74 ki_m1 ?_
              refine r_icmp_eq DX12_thing_75 (fun c16 => ?_) (fun c16 => ?_)
              · have h := if_t c16 h
                exact S_X12_thing_80 hp hR h
              · have h := if_f c16 h
                exact S_X12_thing_78 hp hR h
            · have h := if_t c15 h
              refine r_aload_n DX12_thing_62 rfl ?_
              refine r_iload_n DX12_thing_63 rfl ?_
              obtain ⟨r16, V17, hc18, h⟩ := bd_inv h
              refine k_callV (As := [.int (x2)]) (rest := []) (st1 := [.int (r16)]) (w := some (.int r16)) DX12_thing_64 cv_X12_249 hR ct_2200 (one_cnt _) rfl (C_X12_isDrawing (out := (r16, V17)) (cxL X) hR hc18) rfl (by decide) (by decide) rfl (Nat.le_of_ble_eq_true rfl) rfl (fun M hR => ?_)
              refine r_if_ne DX12_thing_67 (fun c19 => ?_) (fun c19 => ?_)
              · have h := if_f c19 h
                exact S_X12_thing_80 hp hR h
              · have h := if_t c19 h
                refine r_goto DX12_thing_70 ?_
                exact S_X12_thing_78 hp hR h
          · have h := if_t c14 h
            refine r_aload_n DX12_thing_46 rfl ?_
            refine r_iload_n DX12_thing_47 rfl ?_
            obtain ⟨r15, V16, hc17, h⟩ := bd_inv h
            refine k_callV (As := [.int (x2)]) (rest := []) (st1 := [.int (r15)]) (w := some (.int r15)) DX12_thing_48 cv_X12_268 hR ct_2200 (one_cnt _) rfl (C_X12_isCloth (out := (r15, V16)) (cxL X) hR hc17) rfl (by decide) (by decide) rfl (Nat.le_of_ble_eq_true rfl) rfl (fun M hR => ?_)
            refine r_if_ne DX12_thing_51 (fun c18 => ?_) (fun c18 => ?_)
            · have h := if_f c18 h
              exact S_X12_thing_80 hp hR h
            · have h := if_t c18 h
              refine r_goto DX12_thing_54 ?_
              exact S_X12_thing_78 hp hR h
        · have h := if_t c13 h
          exact S_X12_thing_40 hp hR h
theorem C_X12_thing {E : EN} {ad : AD} {fu : Nat} {out : Int32 × St} {V : St} {M : MH} {x1 : Int32} {x2 : Int32} {x3 : Int32} {x4 : Int32} (l : Launch) (hR : Rep E ad V M) (h : f_X12_thing fu V x1 x2 x3 x4 = some out) : Ct E l yX12_thing cX12_thing 5 (some .int) (rmD 2) [.ref (ad 2200 0), .int (x1), .int (x2), .int (x3), .int (x4)] M (fun v M => v = (some (.int out.1)) ∧ Rep E ad out.2 M) :=
  Ct.of (own := RX12) (ini := false) (L := [some (.ref (ad 2200 0)), some (.int (x1)), some (.int (x2)), some (.int (x3)), some (.int (x4))]) rfl rfl (fun h => by cases h) rfl (Nat.le_of_ble_eq_true rfl) rfl (fun X _ => S_X12_thing_0 (fun M hR => ⟨rfl, hR⟩) hR h)
theorem S_X12_waits_42 {E : EN} {X : CX} {P : Option Value → MH → Prop} {ad : AD} {fu : Nat} {out : Int32 × St} (hp : ∀ M, Rep E ad out.2 M → P (some (.int out.1)) M) {V : St} {M : MH} {s0 : Int32} {d0 : Option Value} {d1 : Option Value} {d2 : Option Value} (hR : Rep E ad V M) (h : F_X12_waits_42 fu V s0 = some out) : G E X RX12 cX12_waits 3 (some .int) false (rmD 3) P M [d0, d1, d2] 0 0 42 [.int (s0)] := by
  unfold F_X12_waits_42 at h
  cases h
  exact r_iret DX12_waits_42 rfl ⟨Nat.le_refl 0, Nat.le_refl 0⟩ (hp M hR)
theorem S_X12_waits_41 {E : EN} {X : CX} {P : Option Value → MH → Prop} {ad : AD} {fu : Nat} {out : Int32 × St} (hp : ∀ M, Rep E ad out.2 M → P (some (.int out.1)) M) {V : St} {M : MH} {d0 : Option Value} {d1 : Option Value} {d2 : Option Value} (hR : Rep E ad V M) (h : F_X12_waits_41 fu V = some out) : G E X RX12 cX12_waits 3 (some .int) false (rmD 3) P M [d0, d1, d2] 0 0 41 [] := by
  unfold F_X12_waits_41 at h
  refine r_iconst (v := -1) DX12_waits_41 ki_m1 ?_
  exact S_X12_waits_42 hp hR h
theorem S_X12_waits_0 {E : EN} {X : CX} {P : Option Value → MH → Prop} {ad : AD} {fu : Nat} {out : Int32 × St} (hp : ∀ M, Rep E ad out.2 M → P (some (.int out.1)) M) {V : St} {M : MH} {x1 : Int32} {x2 : Int32} (hR : Rep E ad V M) (h : f_X12_waits fu V x1 x2 = some out) : G E X RX12 cX12_waits 3 (some .int) false (rmD 3) P M [some (.ref (ad 2200 0)), some (.int (x1)), some (.int (x2))] 0 0 0 [] := by
  unfold f_X12_waits at h
  refine r_iload_n DX12_waits_0 rfl ?_
  refine r_if_lt DX12_waits_1 (fun c1 => ?_) (fun c1 => ?_)
  · have h := if_t c1 h
    exact S_X12_waits_41 hp hR h
  · have h := if_f c1 h
    refine r_iload_n DX12_waits_4 rfl ?_
    refine r_aload_n DX12_waits_5 rfl ?_
    refine s_geti DX12_waits_6 fl_X12_449 hR ct_2200 (one_cnt _) rfl ?_
    refine r_icmp_ge DX12_waits_9 (fun c2 => ?_) (fun c2 => ?_)
    · have h := if_t c2 h
      exact S_X12_waits_41 hp hR h
    · have h := if_f c2 h
      refine r_aload_n DX12_waits_12 rfl ?_
      refine s_geta DX12_waits_13 fl_X12_209 hR ct_2200 (one_cnt _) rfl ?_
      refine r_iload_n DX12_waits_16 rfl ?_
      obtain ⟨hg3, h⟩ := gd_inv h
      refine s_zald DX12_waits_17 hR ct_2285 (one_cnt _) hg3 ?_
      refine r_if_eq DX12_waits_18 (fun c4 => ?_) (fun c4 => ?_)
      · have h := if_t c4 h
        exact S_X12_waits_41 hp hR h
      · have h := if_f c4 h
        refine r_iload_n DX12_waits_21 rfl ?_
        refine r_iconst (v := 1) DX12_waits_22 ki_1 ?_
        refine r_bipush (v := 100) DX12_waits_23 kb_100 ?_
        obtain ⟨r5, V6, hc7, h⟩ := bd_inv h
        refine k_callS (As := [.int (x2), .int ((1 : Int32)), .int ((100 : Int32))]) (rest := []) (st1 := [.int (r5)]) (w := some (.int r5)) DX12_waits_25 cs_X12_245 (C_X12_in (out := (r5, V6)) (cxL X) hR hc7) rfl (by decide) (by decide) rfl (Nat.le_of_ble_eq_true rfl) rfl (fun M hR => ?_)
        refine r_if_eq DX12_waits_28 (fun c8 => ?_) (fun c8 => ?_)
        · have h := if_t c8 h
          exact S_X12_waits_41 hp hR h
        · have h := if_f c8 h
          refine r_aload_n DX12_waits_31 rfl ?_
          refine r_iload_n DX12_waits_32 rfl ?_
          obtain ⟨r9, V10, hc11, h⟩ := bd_inv h
          refine k_callV (As := [.int (x1)]) (rest := []) (st1 := [.int (r9)]) (w := some (.int r9)) DX12_waits_33 cv_X12_455 hR ct_2200 (one_cnt _) rfl (C_X12_aheadOf (out := (r9, V10)) (cxL X) hR hc11) rfl (by decide) (by decide) rfl (Nat.le_of_ble_eq_true rfl) rfl (fun M hR => ?_)
          refine r_iload_n DX12_waits_36 rfl ?_
          obtain ⟨hn12, h⟩ := gd_inv h
          refine r_idiv DX12_waits_37 hn12 ?_
          refine r_goto DX12_waits_38 ?_
          exact S_X12_waits_42 hp hR h
theorem C_X12_waits {E : EN} {ad : AD} {fu : Nat} {out : Int32 × St} {V : St} {M : MH} {x1 : Int32} {x2 : Int32} (l : Launch) (hR : Rep E ad V M) (h : f_X12_waits fu V x1 x2 = some out) : Ct E l yX12_waits cX12_waits 3 (some .int) (rmD 3) [.ref (ad 2200 0), .int (x1), .int (x2)] M (fun v M => v = (some (.int out.1)) ∧ Rep E ad out.2 M) :=
  Ct.of (own := RX12) (ini := false) (L := [some (.ref (ad 2200 0)), some (.int (x1)), some (.int (x2))]) rfl rfl (fun h => by cases h) rfl (Nat.le_of_ble_eq_true rfl) rfl (fun X _ => S_X12_waits_0 (fun M hR => ⟨rfl, hR⟩) hR h)
theorem S_X12_why_61 {E : EN} {X : CX} {P : Option Value → MH → Prop} {ad : AD} {fu : Nat} {out : Int32 × St} (hp : ∀ M, Rep E ad out.2 M → P (some (.int out.1)) M) {V : St} {M : MH} {s0 : Int32} {d0 : Option Value} {d1 : Option Value} {d2 : Option Value} {d3 : Option Value} (hR : Rep E ad V M) (h : F_X12_why_61 fu V s0 = some out) : G E X RX12 cX12_why 4 (some .int) false (rmD 5) P M [d0, d1, d2, d3] 0 0 61 [.int (s0)] := by
  unfold F_X12_why_61 at h
  cases h
  exact r_iret DX12_why_61 rfl ⟨Nat.le_refl 0, Nat.le_refl 0⟩ (hp M hR)
theorem S_X12_why_44 {E : EN} {X : CX} {P : Option Value → MH → Prop} {ad : AD} {fu : Nat} {out : Int32 × St} (hp : ∀ M, Rep E ad out.2 M → P (some (.int out.1)) M) {V : St} {M : MH} {d0 : Option Value} {d1 : Option Value} {d2 : Option Value} {d3 : Option Value} (hR : Rep E ad V M) (h : F_X12_why_44 fu V = some out) : G E X RX12 cX12_why 4 (some .int) false (rmD 5) P M [d0, d1, d2, d3] 0 0 44 [] := by
  unfold F_X12_why_44 at h
  refine r_iconst (v := -1) DX12_why_44 ki_m1 ?_
  cases h
  exact r_iret DX12_why_45 rfl ⟨Nat.le_refl 0, Nat.le_refl 0⟩ (hp M hR)
theorem S_X12_why_0 {E : EN} {X : CX} {P : Option Value → MH → Prop} {ad : AD} {fu : Nat} {out : Int32 × St} (hp : ∀ M, Rep E ad out.2 M → P (some (.int out.1)) M) {V : St} {M : MH} {x1 : Int32} {x2 : Int32} {x3 : Int32} (hR : Rep E ad V M) (h : f_X12_why fu V x1 x2 x3 = some out) : G E X RX12 cX12_why 4 (some .int) false (rmD 5) P M [some (.ref (ad 2200 0)), some (.int (x1)), some (.int (x2)), some (.int (x3))] 0 0 0 [] := by
  unfold f_X12_why at h
  refine r_aload_n DX12_why_0 rfl ?_
  refine r_iload_n DX12_why_1 rfl ?_
  obtain ⟨r1, V2, hc3, h⟩ := bd_inv h
  refine k_callV (As := [.int (x1)]) (rest := []) (st1 := [.int (r1)]) (w := some (.int r1)) DX12_why_2 cv_X12_271 hR ct_2200 (one_cnt _) rfl (C_X12_isThing (out := (r1, V2)) (cxL X) hR hc3) rfl (by decide) (by decide) rfl (Nat.le_of_ble_eq_true rfl) rfl (fun M hR => ?_)
  refine r_if_eq DX12_why_5 (fun c4 => ?_) (fun c4 => ?_)
  · have h := if_t c4 h
    exact S_X12_why_44 hp hR h
  · have h := if_f c4 h
    refine r_aload_n DX12_why_8 rfl ?_
    refine r_iload_n DX12_why_9 rfl ?_
    obtain ⟨r5, V6, hc7, h⟩ := bd_inv h
    refine k_callV (As := [.int (x2)]) (rest := []) (st1 := [.int (r5)]) (w := some (.int r5)) DX12_why_10 cv_X12_294 hR ct_2200 (one_cnt _) rfl (C_X12_isMaker (out := (r5, V6)) (cxL X) hR hc7) rfl (by decide) (by decide) rfl (Nat.le_of_ble_eq_true rfl) rfl (fun M hR => ?_)
    refine r_if_eq DX12_why_13 (fun c8 => ?_) (fun c8 => ?_)
    · have h := if_t c8 h
      exact S_X12_why_44 hp hR h
    · have h := if_f c8 h
      refine r_iload_n DX12_why_16 rfl ?_
      refine r_iconst (v := 0) DX12_why_17 ki_0 ?_
      refine r_iconst (v := 1) DX12_why_18 ki_1 ?_
      obtain ⟨r9, V10, hc11, h⟩ := bd_inv h
      refine k_callS (As := [.int (x3), .int ((0 : Int32)), .int ((1 : Int32))]) (rest := []) (st1 := [.int (r9)]) (w := some (.int r9)) DX12_why_19 cs_X12_245 (C_X12_in (out := (r9, V10)) (cxL X) hR hc11) rfl (by decide) (by decide) rfl (Nat.le_of_ble_eq_true rfl) rfl (fun M hR => ?_)
      refine r_if_eq DX12_why_22 (fun c12 => ?_) (fun c12 => ?_)
      · have h := if_t c12 h
        exact S_X12_why_44 hp hR h
      · have h := if_f c12 h
        refine r_aload_n DX12_why_25 rfl ?_
        refine r_bipush (v := 98) DX12_why_26 kb_98 ?_
        refine r_iload_n DX12_why_28 rfl ?_
        refine r_iload_n DX12_why_29 rfl ?_
        refine r_aload_n DX12_why_30 rfl ?_
        refine s_geti DX12_why_31 fl_X12_400 hR ct_2200 (one_cnt _) rfl ?_
        refine r_aload_n DX12_why_34 rfl ?_
        refine s_geti DX12_why_35 fl_X12_400 hR ct_2200 (one_cnt _) rfl ?_
        obtain ⟨r13, V14, hc15, h⟩ := bd_inv h
        refine k_callV (As := [.int ((98 : Int32)), .int (x1), .int (x2), .int ((V10 2201 0 0)), .int ((V10 2201 0 0))]) (rest := []) (st1 := [.int (r13)]) (w := some (.int r13)) DX12_why_38 cv_X12_433 hR ct_2200 (one_cnt _) rfl (C_X12_isSome (out := (r13, V14)) (cxL X) hR hc15) rfl (by decide) (by decide) rfl (Nat.le_of_ble_eq_true rfl) rfl (fun M hR => ?_)
        refine r_if_ne DX12_why_41 (fun c16 => ?_) (fun c16 => ?_)
        · have h := if_f c16 h
          refine r_iload_n DX12_why_46 rfl ?_
          refine r_if_ne DX12_why_47 (fun c17 => ?_) (fun c17 => ?_)
          · have h := if_f c17 h
            refine r_aload_n DX12_why_57 rfl ?_
            refine s_geti DX12_why_58 fl_X12_427 hR ct_2200 (one_cnt _) rfl ?_
            exact S_X12_why_61 hp hR h
          · have h := if_t c17 h
            refine r_aload_n DX12_why_50 rfl ?_
            refine s_geti DX12_why_51 fl_X12_424 hR ct_2200 (one_cnt _) rfl ?_
            refine r_goto DX12_why_54 ?_
            exact S_X12_why_61 hp hR h
        · have h := if_t c16 h
          exact S_X12_why_44 hp hR h
theorem C_X12_why {E : EN} {ad : AD} {fu : Nat} {out : Int32 × St} {V : St} {M : MH} {x1 : Int32} {x2 : Int32} {x3 : Int32} (l : Launch) (hR : Rep E ad V M) (h : f_X12_why fu V x1 x2 x3 = some out) : Ct E l yX12_why cX12_why 4 (some .int) (rmD 5) [.ref (ad 2200 0), .int (x1), .int (x2), .int (x3)] M (fun v M => v = (some (.int out.1)) ∧ Rep E ad out.2 M) :=
  Ct.of (own := RX12) (ini := false) (L := [some (.ref (ad 2200 0)), some (.int (x1)), some (.int (x2)), some (.int (x3))]) rfl rfl (fun h => by cases h) rfl (Nat.le_of_ble_eq_true rfl) rfl (fun X _ => S_X12_why_0 (fun M hR => ⟨rfl, hR⟩) hR h)
theorem S_X12_yards_46 {E : EN} {X : CX} {P : Option Value → MH → Prop} {ad : AD} {fu : Nat} {out : Int32 × St} (hp : ∀ M, Rep E ad out.2 M → P (some (.int out.1)) M) {V : St} {M : MH} {d0 : Option Value} {d1 : Option Value} {d2 : Option Value} {d3 : Option Value} (hR : Rep E ad V M) (h : F_X12_yards_46 fu V = some out) : G E X RX12 cX12_yards 4 (some .int) false (rmD 2) P M [d0, d1, d2, d3] 0 0 46 [] := by
  unfold F_X12_yards_46 at h
  refine r_iconst (v := -1) DX12_yards_46 ki_m1 ?_
  cases h
  exact r_iret DX12_yards_47 rfl ⟨Nat.le_refl 0, Nat.le_refl 0⟩ (hp M hR)
theorem S_X12_yards_0 {E : EN} {X : CX} {P : Option Value → MH → Prop} {ad : AD} {fu : Nat} {out : Int32 × St} (hp : ∀ M, Rep E ad out.2 M → P (some (.int out.1)) M) {V : St} {M : MH} {x1 : Int32} {x2 : Int32} {x3 : Int32} (hR : Rep E ad V M) (h : f_X12_yards fu V x1 x2 x3 = some out) : G E X RX12 cX12_yards 4 (some .int) false (rmD 2) P M [some (.ref (ad 2200 0)), some (.int (x1)), some (.int (x2)), some (.int (x3))] 0 0 0 [] := by
  unfold f_X12_yards at h
  refine r_aload_n DX12_yards_0 rfl ?_
  refine r_iload_n DX12_yards_1 rfl ?_
  obtain ⟨r1, V2, hc3, h⟩ := bd_inv h
  refine k_callV (As := [.int (x1)]) (rest := []) (st1 := [.int (r1)]) (w := some (.int r1)) DX12_yards_2 cv_X12_294 hR ct_2200 (one_cnt _) rfl (C_X12_isMaker (out := (r1, V2)) (cxL X) hR hc3) rfl (by decide) (by decide) rfl (Nat.le_of_ble_eq_true rfl) rfl (fun M hR => ?_)
  refine r_if_eq DX12_yards_5 (fun c4 => ?_) (fun c4 => ?_)
  · have h := if_t c4 h
    exact S_X12_yards_46 hp hR h
  · have h := if_f c4 h
    refine r_aload_n DX12_yards_8 rfl ?_
    refine r_iload_n DX12_yards_9 rfl ?_
    obtain ⟨r5, V6, hc7, h⟩ := bd_inv h
    refine k_callV (As := [.int (x2)]) (rest := []) (st1 := [.int (r5)]) (w := some (.int r5)) DX12_yards_10 cv_X12_268 hR ct_2200 (one_cnt _) rfl (C_X12_isCloth (out := (r5, V6)) (cxL X) hR hc7) rfl (by decide) (by decide) rfl (Nat.le_of_ble_eq_true rfl) rfl (fun M hR => ?_)
    refine r_if_eq DX12_yards_13 (fun c8 => ?_) (fun c8 => ?_)
    · have h := if_t c8 h
      exact S_X12_yards_46 hp hR h
    · have h := if_f c8 h
      refine r_iload_n DX12_yards_16 rfl ?_
      refine r_iconst (v := 1) DX12_yards_17 ki_1 ?_
      refine r_sipush (v := 10000) DX12_yards_18 ks_10000 ?_
      obtain ⟨r9, V10, hc11, h⟩ := bd_inv h
      refine k_callS (As := [.int (x3), .int ((1 : Int32)), .int ((10000 : Int32))]) (rest := []) (st1 := [.int (r9)]) (w := some (.int r9)) DX12_yards_21 cs_X12_245 (C_X12_in (out := (r9, V10)) (cxL X) hR hc11) rfl (by decide) (by decide) rfl (Nat.le_of_ble_eq_true rfl) rfl (fun M hR => ?_)
      refine r_if_eq DX12_yards_24 (fun c12 => ?_) (fun c12 => ?_)
      · have h := if_t c12 h
        exact S_X12_yards_46 hp hR h
      · have h := if_f c12 h
        refine r_aload_n DX12_yards_27 rfl ?_
        refine s_geta DX12_yards_28 fl_X12_106 hR ct_2200 (one_cnt _) rfl ?_
        refine r_bipush (v := 20) DX12_yards_31 kb_20 ?_
        refine r_iload_n DX12_yards_33 rfl ?_
        refine r_imul DX12_yards_34 ?_
        refine r_iload_n DX12_yards_35 rfl ?_
        refine r_iadd DX12_yards_36 ?_
        obtain ⟨hg13, h⟩ := gd_inv h
        refine s_iald DX12_yards_37 hR ct_2238 (one_cnt _) hg13 ?_
        refine r_iload_n DX12_yards_38 rfl ?_
        refine r_iadd DX12_yards_39 ?_
        refine r_ldcw (v := 1000000) DX12_yards_40 ck_X12_297 ?_
        refine r_icmp_le DX12_yards_43 (fun c14 => ?_) (fun c14 => ?_)
        · have h := if_t c14 h
          refine r_aload_n DX12_yards_48 rfl ?_
          refine s_geta DX12_yards_49 fl_X12_106 hR ct_2200 (one_cnt _) rfl ?_
          refine r_bipush (v := 20) DX12_yards_52 kb_20 ?_
          refine r_iload_n DX12_yards_54 rfl ?_
          refine r_imul DX12_yards_55 ?_
          refine r_iload_n DX12_yards_56 rfl ?_
          refine r_iadd DX12_yards_57 ?_
          refine r_aload_n DX12_yards_58 rfl ?_
          refine s_geta DX12_yards_59 fl_X12_106 hR ct_2200 (one_cnt _) rfl ?_
          refine r_bipush (v := 20) DX12_yards_62 kb_20 ?_
          refine r_iload_n DX12_yards_64 rfl ?_
          refine r_imul DX12_yards_65 ?_
          refine r_iload_n DX12_yards_66 rfl ?_
          refine r_iadd DX12_yards_67 ?_
          obtain ⟨hg15, h⟩ := gd_inv h
          refine s_iald DX12_yards_68 hR ct_2238 (one_cnt _) hg15 ?_
          refine r_iload_n DX12_yards_69 rfl ?_
          refine r_iadd DX12_yards_70 ?_
          obtain ⟨hg16, h⟩ := gd_inv h
          obtain ⟨V17, hv18, h⟩ := bv_inv h
          refine s_iast DX12_yards_71 hR oka_2238 ct_2238 (one_cnt _) hg16 (fun M hR => ?_)
          have hR := hR.cg hv18
          refine r_aload_n DX12_yards_72 rfl ?_
          refine s_geta DX12_yards_73 fl_X12_106 hR ct_2200 (one_cnt _) rfl ?_
          refine r_bipush (v := 20) DX12_yards_76 kb_20 ?_
          refine r_iload_n DX12_yards_78 rfl ?_
          refine r_imul DX12_yards_79 ?_
          refine r_iload_n DX12_yards_80 rfl ?_
          refine r_iadd DX12_yards_81 ?_
          obtain ⟨hg19, h⟩ := gd_inv h
          refine s_iald DX12_yards_82 hR ct_2238 (one_cnt _) hg19 ?_
          cases h
          exact r_iret DX12_yards_83 rfl ⟨Nat.le_refl 0, Nat.le_refl 0⟩ (hp M hR)
        · have h := if_f c14 h
          exact S_X12_yards_46 hp hR h
theorem C_X12_yards {E : EN} {ad : AD} {fu : Nat} {out : Int32 × St} {V : St} {M : MH} {x1 : Int32} {x2 : Int32} {x3 : Int32} (l : Launch) (hR : Rep E ad V M) (h : f_X12_yards fu V x1 x2 x3 = some out) : Ct E l yX12_yards cX12_yards 4 (some .int) (rmD 2) [.ref (ad 2200 0), .int (x1), .int (x2), .int (x3)] M (fun v M => v = (some (.int out.1)) ∧ Rep E ad out.2 M) :=
  Ct.of (own := RX12) (ini := false) (L := [some (.ref (ad 2200 0)), some (.int (x1)), some (.int (x2)), some (.int (x3))]) rfl rfl (fun h => by cases h) rfl (Nat.le_of_ble_eq_true rfl) rfl (fun X _ => S_X12_yards_0 (fun M hR => ⟨rfl, hR⟩) hR h)
