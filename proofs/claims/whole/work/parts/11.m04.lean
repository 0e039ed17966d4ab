theorem S_X12_docket_48 {E : EN} {X : CX} {P : Option Value → MH → Prop} {ad : AD} {fu : Nat} {out : Int32 × St} (hp : ∀ M, Rep E ad out.2 M → P (some (.int out.1)) M) {V : St} {M : MH} {d0 : Option Value} {d1 : Option Value} {d2 : Option Value} {d3 : Option Value} {d4 : Option Value} (hR : Rep E ad V M) (h : F_X12_docket_48 fu V = some out) : G E X RX12 cX12_docket 5 (some .int) false (rmD 2) P M [d0, d1, d2, d3, d4] 0 0 48 [] := by
  unfold F_X12_docket_48 at h
  refine r_iconst (v := -1) DX12_docket_48 ki_m1 ?_
  cases h
  exact r_iret DX12_docket_49 rfl ⟨Nat.le_refl 0, Nat.le_refl 0⟩ (hp M hR)
theorem S_X12_docket_0 {E : EN} {X : CX} {P : Option Value → MH → Prop} {ad : AD} {fu : Nat} {out : Int32 × St} (hp : ∀ M, Rep E ad out.2 M → P (some (.int out.1)) M) {V : St} {M : MH} {x1 : Int32} {x2 : Int32} {x3 : Int32} {x4 : Int32} (hR : Rep E ad V M) (h : f_X12_docket fu V x1 x2 x3 x4 = some out) : G E X RX12 cX12_docket 5 (some .int) false (rmD 2) P M [some (.ref (ad 2200 0)), some (.int (x1)), some (.int (x2)), some (.int (x3)), some (.int (x4))] 0 0 0 [] := by
  unfold f_X12_docket at h
  refine r_aload_n DX12_docket_0 rfl ?_
  refine r_iload_n DX12_docket_1 rfl ?_
  obtain ⟨r1, V2, hc3, h⟩ := bd_inv h
  refine k_callV (As := [.int (x1)]) (rest := []) (st1 := [.int (r1)]) (w := some (.int r1)) DX12_docket_2 cv_X12_443 hR ct_2200 (one_cnt _) rfl (C_X12_isPerson (out := (r1, V2)) (cxL X) hR hc3) rfl (by decide) (by decide) rfl (Nat.le_of_ble_eq_true rfl) rfl (fun M hR => ?_)
  refine r_if_eq DX12_docket_5 (fun c4 => ?_) (fun c4 => ?_)
  · have h := if_t c4 h
    exact S_X12_docket_48 hp hR h
  · have h := if_f c4 h
    refine r_aload_n DX12_docket_8 rfl ?_
    refine r_iload_n DX12_docket_9 rfl ?_
    obtain ⟨r5, V6, hc7, h⟩ := bd_inv h
    refine k_callV (As := [.int (x2)]) (rest := []) (st1 := [.int (r5)]) (w := some (.int r5)) DX12_docket_10 cv_X12_271 hR ct_2200 (one_cnt _) rfl (C_X12_isThing (out := (r5, V6)) (cxL X) hR hc7) rfl (by decide) (by decide) rfl (Nat.le_of_ble_eq_true rfl) rfl (fun M hR => ?_)
    refine r_if_eq DX12_docket_13 (fun c8 => ?_) (fun c8 => ?_)
    · have h := if_t c8 h
      exact S_X12_docket_48 hp hR h
    · have h := if_f c8 h
      refine r_iload_n DX12_docket_16 rfl ?_
      refine r_iconst (v := 0) DX12_docket_17 ki_0 ?_
      refine r_aload_n DX12_docket_18 rfl ?_
      refine s_geti DX12_docket_19 fl_X12_400 hR ct_2200 (one_cnt _) rfl ?_
      obtain ⟨r9, V10, hc11, h⟩ := bd_inv h
      refine k_callS (As := [.int (x3), .int ((0 : Int32)), .int ((V6 2201 0 0))]) (rest := []) (st1 := [.int (r9)]) (w := some (.int r9)) DX12_docket_22 cs_X12_245 (C_X12_in (out := (r9, V10)) (cxL X) hR hc11) rfl (by decide) (by decide) rfl (Nat.le_of_ble_eq_true rfl) rfl (fun M hR => ?_)
      refine r_if_eq DX12_docket_25 (fun c12 => ?_) (fun c12 => ?_)
      · have h := if_t c12 h
        exact S_X12_docket_48 hp hR h
      · have h := if_f c12 h
        refine r_iload DX12_docket_28 rfl ?_
        refine r_iconst (v := 0) DX12_docket_30 ki_0 ?_
        refine r_bipush (v := 99) DX12_docket_31 kb_99 ?_
        obtain ⟨r13, V14, hc15, h⟩ := bd_inv h
        refine k_callS (As := [.int (x4), .int ((0 : Int32)), .int ((99 : Int32))]) (rest := []) (st1 := [.int (r13)]) (w := some (.int r13)) DX12_docket_33 cs_X12_245 (C_X12_in (out := (r13, V14)) (cxL X) hR hc15) rfl (by decide) (by decide) rfl (Nat.le_of_ble_eq_true rfl) rfl (fun M hR => ?_)
        refine r_if_eq DX12_docket_36 (fun c16 => ?_) (fun c16 => ?_)
        · have h := if_t c16 h
          exact S_X12_docket_48 hp hR h
        · have h := if_f c16 h
          refine r_aload_n DX12_docket_39 rfl ?_
          refine s_geti DX12_docket_40 fl_X12_449 hR ct_2200 (one_cnt _) rfl ?_
          refine r_bipush (v := 60) DX12_docket_43 kb_60 ?_
          refine r_icmp_ne DX12_docket_45 (fun c17 => ?_) (fun c17 => ?_)
          · have h := if_f c17 h
            refine r_aload_n DX12_docket_50 rfl ?_
            refine s_geta DX12_docket_51 fl_X12_197 hR ct_2200 (one_cnt _) rfl ?_
            refine r_aload_n DX12_docket_54 rfl ?_
            refine s_geti DX12_docket_55 fl_X12_449 hR ct_2200 (one_cnt _) rfl ?_
            refine r_iload_n DX12_docket_58 rfl ?_
            obtain ⟨hg18, h⟩ := gd_inv h
            obtain ⟨V19, hv20, h⟩ := bv_inv h
            refine s_iast DX12_docket_59 hR oka_2281 ct_2281 (one_cnt _) hg18 (fun M hR => ?_)
            have hR := hR.cg hv20
            refine r_aload_n DX12_docket_60 rfl ?_
            refine s_geta DX12_docket_61 fl_X12_200 hR ct_2200 (one_cnt _) rfl ?_
            refine r_aload_n DX12_docket_64 rfl ?_
            refine s_geti DX12_docket_65 fl_X12_449 hR ct_2200 (one_cnt _) rfl ?_
            refine r_iload_n DX12_docket_68 rfl ?_
            obtain ⟨hg21, h⟩ := gd_inv h
            obtain ⟨V22, hv23, h⟩ := bv_inv h
            refine s_iast DX12_docket_69 hR oka_2282 ct_2282 (one_cnt _) hg21 (fun M hR => ?_)
            have hR := hR.cg hv23
            refine r_aload_n DX12_docket_70 rfl ?_
            refine s_geta DX12_docket_71 fl_X12_203 hR ct_2200 (one_cnt _) rfl ?_
            refine r_aload_n DX12_docket_74 rfl ?_
            refine s_geti DX12_docket_75 fl_X12_449 hR ct_2200 (one_cnt _) rfl ?_
            refine r_iload_n DX12_docket_78 rfl ?_
            obtain ⟨hg24, h⟩ := gd_inv h
            obtain ⟨V25, hv26, h⟩ := bv_inv h
            refine s_iast DX12_docket_79 hR oka_2283 ct_2283 (one_cnt _) hg24 (fun M hR => ?_)
            have hR := hR.cg hv26
            refine r_aload_n DX12_docket_80 rfl ?_
            refine s_geta DX12_docket_81 fl_X12_206 hR ct_2200 (one_cnt _) rfl ?_
            refine r_aload_n DX12_docket_84 rfl ?_
            refine s_geti DX12_docket_85 fl_X12_449 hR ct_2200 (one_cnt _) rfl ?_
            refine r_iload DX12_docket_88 rfl ?_
            obtain ⟨hg27, h⟩ := gd_inv h
            obtain ⟨V28, hv29, h⟩ := bv_inv h
            refine s_iast DX12_docket_90 hR oka_2284 ct_2284 (one_cnt _) hg27 (fun M hR => ?_)
            have hR := hR.cg hv29
            refine r_aload_n DX12_docket_91 rfl ?_
            refine s_geta DX12_docket_92 fl_X12_209 hR ct_2200 (one_cnt _) rfl ?_
            refine r_aload_n DX12_docket_95 rfl ?_
            refine s_geti DX12_docket_96 fl_X12_449 hR ct_2200 (one_cnt _) rfl ?_
            refine r_iconst (v := 1) DX12_docket_99 ki_1 ?_
            obtain ⟨hg30, h⟩ := gd_inv h
            obtain ⟨V31, hv32, h⟩ := bv_inv h
            refine t_zast (by decide) DX12_docket_100 hR oka_2285 ct_2285 (one_cnt _) hg30 (fun M hR => ?_)
            have hR := hR.cg hv32
            refine r_aload_n DX12_docket_101 rfl ?_
            refine r_aload_n DX12_docket_102 rfl ?_
            refine s_geti DX12_docket_103 fl_X12_449 hR ct_2200 (one_cnt _) rfl ?_
            refine r_iconst (v := 1) DX12_docket_106 ki_1 ?_
            refine r_iadd DX12_docket_107 ?_
            obtain ⟨V33, hv34, h⟩ := bv_inv h
            refine s_puti DX12_docket_108 fp_X12_449 hR oks_2280 ct_2200 (one_cnt _) rfl rfl rfl (fun M hR => ?_)
            have hR := hR.cg hv34
            refine r_aload_n DX12_docket_111 rfl ?_
            refine s_geti DX12_docket_112 fl_X12_449 hR ct_2200 (one_cnt _) rfl ?_
            refine r_iconst (v := 1) DX12_docket_115 ki_1 ?_
            refine r_isub DX12_docket_116 ?_
            cases h
            exact r_iret DX12_docket_117 rfl ⟨Nat.le_refl 0, Nat.le_refl 0⟩ (hp M hR)
          · have h := if_t c17 h
            exact S_X12_docket_48 hp hR h
theorem C_X12_docket {E : EN} {ad : AD} {fu : Nat} {out : Int32 × St} {V : St} {M : MH} {x1 : Int32} {x2 : Int32} {x3 : Int32} {x4 : Int32} (l : Launch) (hR : Rep E ad V M) (h : f_X12_docket fu V x1 x2 x3 x4 = some out) : Ct E l yX12_docket cX12_docket 5 (some .int) (rmD 2) [.ref (ad 2200 0), .int (x1), .int (x2), .int (x3), .int (x4)] M (fun v M => v = (some (.int out.1)) ∧ Rep E ad out.2 M) :=
  Ct.of (own := RX12) (ini := false) (L := [some (.ref (ad 2200 0)), some (.int (x1)), some (.int (x2)), some (.int (x3)), some (.int (x4))]) rfl rfl (fun h => by cases h) rfl (Nat.le_of_ble_eq_true rfl) rfl (fun X _ => S_X12_docket_0 (fun M hR => ⟨rfl, hR⟩) hR h)
theorem S_X12_drawing_19 {E : EN} {X : CX} {P : Option Value → MH → Prop} {ad : AD} {fu : Nat} {out : Int32 × St} (hp : ∀ M, Rep E ad out.2 M → P (some (.int out.1)) M) {V : St} {M : MH} {d0 : Option Value} {d1 : Option Value} (hR : Rep E ad V M) (h : F_X12_drawing_19 fu V = some out) : G E X RX12 cX12_drawing 2 (some .int) false (rmD 2) P M [d0, d1] 0 0 19 [] := by
  unfold F_X12_drawing_19 at h
  refine r_iconst (v := -1) DX12_drawing_19 ki_m1 ?_
  cases h
  exact r_iret DX12_drawing_20 rfl ⟨Nat.le_refl 0, Nat.le_refl 0⟩ (hp M hR)
theorem S_X12_drawing_0 {E : EN} {X : CX} {P : Option Value → MH → Prop} {ad : AD} {fu : Nat} {out : Int32 × St} (hp : ∀ M, Rep E ad out.2 M → P (some (.int out.1)) M) {V : St} {M : MH} {x1 : Int32} (hR : Rep E ad V M) (h : f_X12_drawing fu V x1 = some out) : G E X RX12 cX12_drawing 2 (some .int) false (rmD 2) P M [some (.ref (ad 2200 0)), some (.int (x1))] 0 0 0 [] := by
  unfold f_X12_drawing at h
  refine r_iload_n DX12_drawing_0 rfl ?_
  refine r_iconst (v := 2) DX12_drawing_1 ki_2 ?_
  refine r_bipush (v := 8) DX12_drawing_2 kb_8 ?_
  obtain ⟨r1, V2, hc3, h⟩ := bd_inv h
  refine k_callS (As := [.int (x1), .int ((2 : Int32)), .int ((8 : Int32))]) (rest := []) (st1 := [.int (r1)]) (w := some (.int r1)) DX12_drawing_4 cs_X12_245 (C_X12_in (out := (r1, V2)) (cxL X) hR hc3) rfl (by decide) (by decide) rfl (Nat.le_of_ble_eq_true rfl) rfl (fun M hR => ?_)
  refine r_if_eq DX12_drawing_7 (fun c4 => ?_) (fun c4 => ?_)
  · have h := if_t c4 h
    exact S_X12_drawing_19 hp hR h
  · have h := if_f c4 h
    refine r_aload_n DX12_drawing_10 rfl ?_
    refine s_geti DX12_drawing_11 fl_X12_239 hR ct_2200 (one_cnt _) rfl ?_
    refine r_bipush (v := 22) DX12_drawing_14 kb_22 ?_
    refine r_icmp_ne DX12_drawing_16 (fun c5 => ?_) (fun c5 => ?_)
    · have h := if_f c5 h
      refine r_aload_n DX12_drawing_21 rfl ?_
      refine s_geta DX12_drawing_22 fl_X12_19 hR ct_2200 (one_cnt _) rfl ?_
      refine r_aload_n DX12_drawing_25 rfl ?_
      refine s_geti DX12_drawing_26 fl_X12_239 hR ct_2200 (one_cnt _) rfl ?_
      refine r_iload_n DX12_drawing_29 rfl ?_
      obtain ⟨hg6, h⟩ := gd_inv h
      obtain ⟨V7, hv8, h⟩ := bv_inv h
      refine s_iast DX12_drawing_30 hR oka_2208 ct_2208 (one_cnt _) hg6 (fun M hR => ?_)
      have hR := hR.cg hv8
      refine r_aload_n DX12_drawing_31 rfl ?_
      refine r_aload_n DX12_drawing_32 rfl ?_
      refine s_geti DX12_drawing_33 fl_X12_239 hR ct_2200 (one_cnt _) rfl ?_
      refine r_iconst (v := 1) DX12_drawing_36 ki_1 ?_
      refine r_iadd DX12_drawing_37 ?_
      obtain ⟨V9, hv10, h⟩ := bv_inv h
      refine s_puti DX12_drawing_38 fp_X12_239 hR oks_2203 ct_2200 (one_cnt _) rfl rfl rfl (fun M hR => ?_)
      have hR := hR.cg hv10
      refine r_aload_n DX12_drawing_41 rfl ?_
      refine s_geti DX12_drawing_42 fl_X12_239 hR ct_2200 (one_cnt _) rfl ?_
      refine r_iconst (v := 1) DX12_drawing_45 ki_1 ?_
      refine r_isub DX12_drawing_46 ?_
      cases h
      exact r_iret DX12_drawing_47 rfl ⟨Nat.le_refl 0, Nat.le_refl 0⟩ (hp M hR)
    · have h := if_t c5 h
      exact S_X12_drawing_19 hp hR h
theorem C_X12_drawing {E : EN} {ad : AD} {fu : Nat} {out : Int32 × St} {V : St} {M : MH} {x1 : Int32} (l : Launch) (hR : Rep E ad V M) (h : f_X12_drawing fu V x1 = some out) : Ct E l yX12_drawing cX12_drawing 2 (some .int) (rmD 2) [.ref (ad 2200 0), .int (x1)] M (fun v M => v = (some (.int out.1)) ∧ Rep E ad out.2 M) :=
  Ct.of (own := RX12) (ini := false) (L := [some (.ref (ad 2200 0)), some (.int (x1))]) rfl rfl (fun h => by cases h) rfl (Nat.le_of_ble_eq_true rfl) rfl (fun X _ => S_X12_drawing_0 (fun M hR => ⟨rfl, hR⟩) hR h)
theorem S_X12_endsPiece_39 {E : EN} {X : CX} {P : Option Value → MH → Prop} {ad : AD} {fu : Nat} {out : Int32 × St} (hp : ∀ M, Rep E ad out.2 M → P none M) {V : St} {M : MH} {d0 : Option Value} (hR : Rep E ad V M) (h : F_X12_endsPiece_39 fu V = some out) : G E X RX12 cX12_endsPiece 1 none false (rmD 2) P M [d0] 0 0 39 [] := by
  unfold F_X12_endsPiece_39 at h
  cases h
  exact r_vret DX12_endsPiece_39 rfl ⟨Nat.le_refl 0, Nat.le_refl 0⟩ (hp M hR)
theorem S_X12_endsPiece_0 {E : EN} {X : CX} {P : Option Value → MH → Prop} {ad : AD} {fu : Nat} {out : Int32 × St} {kh : St → RR} {kx39 : St → RR} (hkh : ∀ {V : St} {M : MH}, Rep E ad V M → kh V  = some out → G E X RX12 cX12_endsPiece 1 none false (rmD 2) P M [some (.ref (ad 2200 0))] 0 0 0 []) (hkx39 : ∀ {V : St} {M : MH} {d0 : Option Value}, Rep E ad V M → kx39 V  = some out → G E X RX12 cX12_endsPiece 1 none false (rmD 2) P M [d0] 0 0 39 []) (hp : ∀ M, Rep E ad out.2 M → P none M) {V : St} {M : MH} (hR : Rep E ad V M) (h : F_X12_endsPiece_0 kh kx39 fu V = some out) : G E X RX12 cX12_endsPiece 1 none false (rmD 2) P M [some (.ref (ad 2200 0))] 0 0 0 [] := by
  unfold F_X12_endsPiece_0 at h
  refine r_aload_n DX12_endsPiece_0 rfl ?_
  obtain ⟨r1, V2, hc3, h⟩ := bd_inv h
  refine k_callV (As := []) (rest := []) (st1 := [.int (r1)]) (w := some (.int r1)) DX12_endsPiece_1 cv_X12_335 hR ct_2200 (one_cnt _) rfl (C_X12_top (out := (r1, V2)) (cxL X) hR hc3) rfl (by decide) (by decide) rfl (Nat.le_of_ble_eq_true rfl) rfl (fun M hR => ?_)
  refine r_bipush (v := 10) DX12_endsPiece_4 kb_10 ?_
  refine r_icmp_ne DX12_endsPiece_6 (fun c4 => ?_) (fun c4 => ?_)
  · have h := if_f c4 h
    exact hkx39 hR h
  · have h := if_t c4 h
    refine r_aload_n DX12_endsPiece_9 rfl ?_
    refine r_bipush (v := 10) DX12_endsPiece_10 kb_10 ?_
    refine r_iconst (v := 0) DX12_endsPiece_12 ki_0 ?_
    obtain ⟨r5, V6, hc7, h⟩ := bd_inv h
    refine k_callV (As := [.int ((10 : Int32)), .int ((0 : Int32))]) (rest := []) (st1 := []) (w := none) DX12_endsPiece_13 cv_X12_338 hR ct_2200 (one_cnt _) rfl (C_X12_says (out := (r5, V6)) (cxL X) hR hc7) rfl (by decide) (by decide) rfl (Nat.le_of_ble_eq_true rfl) rfl (fun M hR => ?_)
    refine r_aload_n DX12_endsPiece_16 rfl ?_
    refine r_aload_n DX12_endsPiece_17 rfl ?_
    refine s_geti DX12_endsPiece_18 fl_X12_332 hR ct_2200 (one_cnt _) rfl ?_
    refine r_iconst (v := 1) DX12_endsPiece_21 ki_1 ?_
    refine r_isub DX12_endsPiece_22 ?_
    obtain ⟨V8, hv9, h⟩ := bv_inv h
    refine s_puti DX12_endsPiece_23 fp_X12_332 hR oks_2249 ct_2200 (one_cnt _) rfl rfl rfl (fun M hR => ?_)
    have hR := hR.cg hv9
    refine r_aload_n DX12_endsPiece_26 rfl ?_
    refine r_aload_n DX12_endsPiece_27 rfl ?_
    refine s_geti DX12_endsPiece_28 fl_X12_329 hR ct_2200 (one_cnt _) rfl ?_
    refine r_iconst (v := 1) DX12_endsPiece_31 ki_1 ?_
    refine r_isub DX12_endsPiece_32 ?_
    obtain ⟨V10, hv11, h⟩ := bv_inv h
    refine s_puti DX12_endsPiece_33 fp_X12_329 hR oks_2247 ct_2200 (one_cnt _) rfl rfl rfl (fun M hR => ?_)
    have hR := hR.cg hv11
    refine r_goto DX12_endsPiece_36 ?_
    exact hkh hR h
theorem SL_X12_endsPiece_0 {E : EN} {X : CX} {P : Option Value → MH → Prop} {ad : AD} {fu : Nat} {out : Int32 × St} {kx39 : St → RR} (hkx39 : ∀ {V : St} {M : MH} {d0 : Option Value}, Rep E ad V M → kx39 V  = some out → G E X RX12 cX12_endsPiece 1 none false (rmD 2) P M [d0] 0 0 39 []) (hp : ∀ M, Rep E ad out.2 M → P none M) : ∀ (n : Nat) {V : St} {M : MH}, Rep E ad V M → Lp_X12_endsPiece_0 kx39 fu n V = some out → G E X RX12 cX12_endsPiece 1 none false (rmD 2) P M [some (.ref (ad 2200 0))] 0 0 0 [] := by
  intro n
  induction n with
  | zero => intros; rename_i h; cases h
  | succ n ih => exact fun hR h => S_X12_endsPiece_0 (fun hR h => ih hR h) (fun hR h => hkx39 hR h) hp hR h
theorem S_X12_endsPiece_E {E : EN} {X : CX} {P : Option Value → MH → Prop} {ad : AD} {fu : Nat} {out : Int32 × St} (hp : ∀ M, Rep E ad out.2 M → P none M) {V : St} {M : MH} (hR : Rep E ad V M) (h : f_X12_endsPiece fu V = some out) : G E X RX12 cX12_endsPiece 1 none false (rmD 2) P M [some (.ref (ad 2200 0))] 0 0 0 [] := by
  unfold f_X12_endsPiece at h
  exact SL_X12_endsPiece_0 (fun hR h => S_X12_endsPiece_39 hp hR h) hp fu hR h
theorem C_X12_endsPiece {E : EN} {ad : AD} {fu : Nat} {out : Int32 × St} {V : St} {M : MH} (l : Launch) (hR : Rep E ad V M) (h : f_X12_endsPiece fu V = some out) : Ct E l yX12_endsPiece cX12_endsPiece 1 none (rmD 2) [.ref (ad 2200 0)] M (fun v M => v = none ∧ Rep E ad out.2 M) :=
  Ct.of (own := RX12) (ini := false) (L := [some (.ref (ad 2200 0))]) rfl rfl (fun h => by cases h) rfl (Nat.le_of_ble_eq_true rfl) rfl (fun X _ => S_X12_endsPiece_E (fun M hR => ⟨rfl, hR⟩) hR h)
theorem S_X12_factOf_0 {E : EN} {X : CX} {P : Option Value → MH → Prop} {ad : AD} {fu : Nat} {out : Int32 × St} (hp : ∀ M, Rep E ad out.2 M → P (some (.int out.1)) M) {V : St} {M : MH} {x0 : Int32} (hR : Rep E ad V M) (h : f_X12_factOf fu V x0 = some out) : G E X RX12 cX12_factOf 1 (some .int) false (rmD 1) P M [some (.int (x0))] 0 0 0 [] := by
  unfold f_X12_factOf at h
  refine r_iload_n DX12_factOf_0 rfl ?_
  by_cases e2 : x0 = 97
  · have h := if_t e2 h
    refine r_table (tgt := 118) DX12_factOf_1 (Or.inr ⟨by rw [e2]; decide, by rw [e2]; decide, by rw [e2]; rfl⟩) rfl ?_
    refine r_iconst (v := 5) DX12_factOf_118 ki_5 ?_
    cases h
    exact r_iret DX12_factOf_119 rfl ⟨Nat.le_refl 0, Nat.le_refl 0⟩ (hp M hR)
  have h := if_f e2 h
  by_cases e3 : x0 = 104
  · have h := if_t e3 h
    refine r_table (tgt := 126) DX12_factOf_1 (Or.inr ⟨by rw [e3]; decide, by rw [e3]; decide, by rw [e3]; rfl⟩) rfl ?_
    refine r_bipush (v := 8) DX12_factOf_126 kb_8 ?_
    cases h
    exact r_iret DX12_factOf_128 rfl ⟨Nat.le_refl 0, Nat.le_refl 0⟩ (hp M hR)
  have h := if_f e3 h
  by_cases e4 : x0 = 105
  · have h := if_t e4 h
    refine r_table (tgt := 116) DX12_factOf_1 (Or.inr ⟨by rw [e4]; decide, by rw [e4]; decide, by rw [e4]; rfl⟩) rfl ?_
    refine r_iconst (v := 4) DX12_factOf_116 ki_4 ?_
    cases h
    exact r_iret DX12_factOf_117 rfl ⟨Nat.le_refl 0, Nat.le_refl 0⟩ (hp M hR)
  have h := if_f e4 h
  by_cases e5 : x0 = 106
  · have h := if_t e5 h
    refine r_table (tgt := 123) DX12_factOf_1 (Or.inr ⟨by rw [e5]; decide, by rw [e5]; decide, by rw [e5]; rfl⟩) rfl ?_
    refine r_bipush (v := 7) DX12_factOf_123 kb_7 ?_
    cases h
    exact r_iret DX12_factOf_125 rfl ⟨Nat.le_refl 0, Nat.le_refl 0⟩ (hp M hR)
  have h := if_f e5 h
  by_cases e6 : x0 = 107
  · have h := if_t e6 h
    refine r_table (tgt := 110) DX12_factOf_1 (Or.inr ⟨by rw [e6]; decide, by rw [e6]; decide, by rw [e6]; rfl⟩) rfl ?_
    refine r_iconst (v := 1) DX12_factOf_110 ki_1 ?_
    cases h
    exact r_iret DX12_factOf_111 rfl ⟨Nat.le_refl 0, Nat.le_refl 0⟩ (hp M hR)
  have h := if_f e6 h
  by_cases e7 : x0 = 110
  · have h := if_t e7 h
    refine r_table (tgt := 112) DX12_factOf_1 (Or.inr ⟨by rw [e7]; decide, by rw [e7]; decide, by rw [e7]; rfl⟩) rfl ?_
    refine r_iconst (v := 2) DX12_factOf_112 ki_2 ?_
    cases h
    exact r_iret DX12_factOf_113 rfl ⟨Nat.le_refl 0, Nat.le_refl 0⟩ (hp M hR)
  have h := if_f e7 h
  by_cases e8 : x0 = 113
  · have h := if_t e8 h
    refine r_table (tgt := 114) DX12_factOf_1 (Or.inr ⟨by rw [e8]; decide, by rw [e8]; decide, by rw [e8]; rfl⟩) rfl ?_
    refine r_iconst (v := 3) DX12_factOf_114 ki_3 ?_
    cases h
    exact r_iret DX12_factOf_115 rfl ⟨Nat.le_refl 0, Nat.le_refl 0⟩ (hp M hR)
  have h := if_f e8 h
  by_cases e9 : x0 = 116
  · have h := if_t e9 h
    refine r_table (tgt := 120) DX12_factOf_1 (Or.inr ⟨by rw [e9]; decide, by rw [e9]; decide, by rw [e9]; rfl⟩) rfl ?_
    refine r_bipush (v := 6) DX12_factOf_120 kb_6 ?_
    cases h
    exact r_iret DX12_factOf_122 rfl ⟨Nat.le_refl 0, Nat.le_refl 0⟩ (hp M hR)
  have h := if_f e9 h
  by_cases e10 : x0 = 119
  · have h := if_t e10 h
    refine r_table (tgt := 108) DX12_factOf_1 (Or.inr ⟨by rw [e10]; decide, by rw [e10]; decide, by rw [e10]; rfl⟩) rfl ?_
    refine r_iconst (v := 0) DX12_factOf_108 ki_0 ?_
    cases h
    exact r_iret DX12_factOf_109 rfl ⟨Nat.le_refl 0, Nat.le_refl 0⟩ (hp M hR)
  have h := if_f e10 h
  refine r_tabled (tgt := 129) (cs := [97, 104, 105, 106, 107, 110, 113, 116, 119]) DX12_factOf_1 (by decide) (by decide) (fun z hz => by simp only [List.mem_cons, List.not_mem_nil, or_false] at hz; rcases hz with rfl | rfl | rfl | rfl | rfl | rfl | rfl | rfl | rfl <;> first | exact lv_neT e2 rfl | exact lv_neT e3 rfl | exact lv_neT e4 rfl | exact lv_neT e5 rfl | exact lv_neT e6 rfl | exact lv_neT e7 rfl | exact lv_neT e8 rfl | exact lv_neT e9 rfl | exact lv_neT e10 rfl) rfl ?_
  refine r_iconst (v := -1) DX12_factOf_129 ki_m1 ?_
  cases h
  exact r_iret DX12_factOf_130 rfl ⟨Nat.le_refl 0, Nat.le_refl 0⟩ (hp M hR)
theorem C_X12_factOf {E : EN} {ad : AD} {fu : Nat} {out : Int32 × St} {V : St} {M : MH} {x0 : Int32} (l : Launch) (hR : Rep E ad V M) (h : f_X12_factOf fu V x0 = some out) : Ct E l yX12_factOf cX12_factOf 1 (some .int) (rmD 1) [.int (x0)] M (fun v M => v = (some (.int out.1)) ∧ Rep E ad out.2 M) :=
  Ct.of (own := RX12) (ini := false) (L := [some (.int (x0))]) rfl rfl (fun h => by cases h) rfl (Nat.le_of_ble_eq_true rfl) rfl (fun X _ => S_X12_factOf_0 (fun M hR => ⟨rfl, hR⟩) hR h)
theorem S_X12_falsely_157 {E : EN} {X : CX} {P : Option Value → MH → Prop} {ad : AD} {fu : Nat} {out : Int32 × St} (hp : ∀ M, Rep E ad out.2 M → P (some (.int out.1)) M) {V : St} {M : MH} {x2 : Int32} {d0 : Option Value} {d1 : Option Value} {d3 : Option Value} {d4 : Option Value} {d5 : Option Value} {d6 : Option Value} (hR : Rep E ad V M) (h : F_X12_falsely_157 fu V x2 = some out) : G E X RX12 cX12_falsely 7 (some .int) false (rmD 2) P M [d0, d1, some (.int (x2)), d3, d4, d5, d6] 0 0 157 [] := by
  unfold F_X12_falsely_157 at h
  refine r_iload_n DX12_falsely_157 rfl ?_
  cases h
  exact r_iret DX12_falsely_158 rfl ⟨Nat.le_refl 0, Nat.le_refl 0⟩ (hp M hR)
theorem S_X12_falsely_151 {E : EN} {X : CX} {P : Option Value → MH → Prop} {ad : AD} {fu : Nat} {out : Int32 × St} {kh : St → Int32 → Int32 → Int32 → RR} {kx157 : St → Int32 → RR} (hkh : ∀ {V : St} {M : MH} {x1 : Int32} {x2 : Int32} {x3 : Int32} {d4 : Option Value} {d5 : Option Value} {d6 : Option Value}, Rep E ad V M → kh V x1 x2 x3 = some out → G E X RX12 cX12_falsely 7 (some .int) false (rmD 2) P M [some (.ref (ad 2200 0)), some (.int (x1)), some (.int (x2)), some (.int (x3)), d4, d5, d6] 0 0 14 []) (hkx157 : ∀ {V : St} {M : MH} {x2 : Int32} {d0 : Option Value} {d1 : Option Value} {d3 : Option Value} {d4 : Option Value} {d5 : Option Value} {d6 : Option Value}, Rep E ad V M → kx157 V x2 = some out → G E X RX12 cX12_falsely 7 (some .int) false (rmD 2) P M [d0, d1, some (.int (x2)), d3, d4, d5, d6] 0 0 157 []) (hp : ∀ M, Rep E ad out.2 M → P (some (.int out.1)) M) {V : St} {M : MH} {x1 : Int32} {x2 : Int32} {x3 : Int32} {d4 : Option Value} {d5 : Option Value} {d6 : Option Value} (hR : Rep E ad V M) (h : F_X12_falsely_151 kh kx157 fu V x1 x2 x3 = some out) : G E X RX12 cX12_falsely 7 (some .int) false (rmD 2) P M [some (.ref (ad 2200 0)), some (.int (x1)), some (.int (x2)), some (.int (x3)), d4, d5, d6] 0 0 151 [] := by
  unfold F_X12_falsely_151 at h
  refine t_iinc (v := 1) (L' := [some (.ref (ad 2200 0)), some (.int (x1)), some (.int (x2)), some (.int (x3 + 1)), d4, d5, d6]) DX12_falsely_151 rfl ki_1 (by decide) rfl ?_
  refine r_goto DX12_falsely_154 ?_
  exact hkh hR h
theorem S_X12_falsely_150 {E : EN} {X : CX} {P : Option Value → MH → Prop} {ad : AD} {fu : Nat} {out : Int32 × St} {kh : St → Int32 → Int32 → Int32 → RR} {kx157 : St → Int32 → RR} (hkh : ∀ {V : St} {M : MH} {x1 : Int32} {x2 : Int32} {x3 : Int32} {d4 : Option Value} {d5 : Option Value} {d6 : Option Value}, Rep E ad V M → kh V x1 x2 x3 = some out → G E X RX12 cX12_falsely 7 (some .int) false (rmD 2) P M [some (.ref (ad 2200 0)), some (.int (x1)), some (.int (x2)), some (.int (x3)), d4, d5, d6] 0 0 14 []) (hkx157 : ∀ {V : St} {M : MH} {x2 : Int32} {d0 : Option Value} {d1 : Option Value} {d3 : Option Value} {d4 : Option Value} {d5 : Option Value} {d6 : Option Value}, Rep E ad V M → kx157 V x2 = some out → G E X RX12 cX12_falsely 7 (some .int) false (rmD 2) P M [d0, d1, some (.int (x2)), d3, d4, d5, d6] 0 0 157 []) (hp : ∀ M, Rep E ad out.2 M → P (some (.int out.1)) M) {V : St} {M : MH} {x1 : Int32} {x3 : Int32} {s0 : Int32} {d2 : Option Value} {d4 : Option Value} {d5 : Option Value} {d6 : Option Value} (hR : Rep E ad V M) (h : F_X12_falsely_150 kh kx157 fu V x1 x3 s0 = some out) : G E X RX12 cX12_falsely 7 (some .int) false (rmD 2) P M [some (.ref (ad 2200 0)), some (.int (x1)), d2, some (.int (x3)), d4, d5, d6] 0 0 150 [.int (s0)] := by
  unfold F_X12_falsely_150 at h
  refine t_istore_n (L' := [some (.ref (ad 2200 0)), some (.int (x1)), some (.int (s0)), some (.int (x3)), d4, d5, d6]) DX12_falsely_150 (by decide) rfl ?_
  exact S_X12_falsely_151 (fun hR h => hkh hR h) (fun hR h => hkx157 hR h) hp hR h
theorem S_X12_falsely_138 {E : EN} {X : CX} {P : Option Value → MH → Prop} {ad : AD} {fu : Nat} {out : Int32 × St} {kh : St → Int32 → Int32 → Int32 → RR} {kx157 : St → Int32 → RR} (hkh : ∀ {V : St} {M : MH} {x1 : Int32} {x2 : Int32} {x3 : Int32} {d4 : Option Value} {d5 : Option Value} {d6 : Option Value}, Rep E ad V M → kh V x1 x2 x3 = some out → G E X RX12 cX12_falsely 7 (some .int) false (rmD 2) P M [some (.ref (ad 2200 0)), some (.int (x1)), some (.int (x2)), some (.int (x3)), d4, d5, d6] 0 0 14 []) (hkx157 : ∀ {V : St} {M : MH} {x2 : Int32} {d0 : Option Value} {d1 : Option Value} {d3 : Option Value} {d4 : Option Value} {d5 : Option Value} {d6 : Option Value}, Rep E ad V M → kx157 V x2 = some out → G E X RX12 cX12_falsely 7 (some .int) false (rmD 2) P M [d0, d1, some (.int (x2)), d3, d4, d5, d6] 0 0 157 []) (hp : ∀ M, Rep E ad out.2 M → P (some (.int out.1)) M) {V : St} {M : MH} {x1 : Int32} {x2 : Int32} {x3 : Int32} {x4 : Int32} {d5 : Option Value} {d6 : Option Value} (hR : Rep E ad V M) (h : F_X12_falsely_138 kh kx157 fu V x1 x2 x3 x4 = some out) : G E X RX12 cX12_falsely 7 (some .int) false (rmD 2) P M [some (.ref (ad 2200 0)), some (.int (x1)), some (.int (x2)), some (.int (x3)), some (.int (x4)), d5, d6] 0 0 138 [] := by
  unfold F_X12_falsely_138 at h
  refine r_iload DX12_falsely_138 rfl ?_
  refine r_iload_n DX12_falsely_140 rfl ?_
  refine r_icmp_le DX12_falsely_141 (fun c1 => ?_) (fun c1 => ?_)
  · have h := if_t c1 h
    refine r_iload_n DX12_falsely_149 rfl ?_
    exact S_X12_falsely_150 (fun hR h => hkh hR h) (fun hR h => hkx157 hR h) hp hR h
  · have h := if_f c1 h
    refine r_iload DX12_falsely_144 rfl ?_
    refine r_goto DX12_falsely_146 ?_
    exact S_X12_falsely_150 (fun hR h => hkh hR h) (fun hR h => hkx157 hR h) hp hR h
theorem S_X12_falsely_114 {E : EN} {X : CX} {P : Option Value → MH → Prop} {ad : AD} {fu : Nat} {out : Int32 × St} {kh : St → Int32 → Int32 → Int32 → Int32 → Int32 → RR} {kx138 : St → Int32 → Int32 → Int32 → Int32 → RR} (hkh : ∀ {V : St} {M : MH} {x1 : Int32} {x2 : Int32} {x3 : Int32} {x4 : Int32} {x5 : Int32} {d6 : Option Value}, Rep E ad V M → kh V x1 x2 x3 x4 x5 = some out → G E X RX12 cX12_falsely 7 (some .int) false (rmD 2) P M [some (.ref (ad 2200 0)), some (.int (x1)), some (.int (x2)), some (.int (x3)), some (.int (x4)), some (.int (x5)), d6] 0 0 46 []) (hkx138 : ∀ {V : St} {M : MH} {x1 : Int32} {x2 : Int32} {x3 : Int32} {x4 : Int32} {d5 : Option Value} {d6 : Option Value}, Rep E ad V M → kx138 V x1 x2 x3 x4 = some out → G E X RX12 cX12_falsely 7 (some .int) false (rmD 2) P M [some (.ref (ad 2200 0)), some (.int (x1)), some (.int (x2)), some (.int (x3)), some (.int (x4)), d5, d6] 0 0 138 []) (hp : ∀ M, Rep E ad out.2 M → P (some (.int out.1)) M) {V : St} {M : MH} {x1 : Int32} {x2 : Int32} {x3 : Int32} {x4 : Int32} {x5 : Int32} {d6 : Option Value} (hR : Rep E ad V M) (h : F_X12_falsely_114 kh kx138 fu V x1 x2 x3 x4 x5 = some out) : G E X RX12 cX12_falsely 7 (some .int) false (rmD 2) P M [some (.ref (ad 2200 0)), some (.int (x1)), some (.int (x2)), some (.int (x3)), some (.int (x4)), some (.int (x5)), d6] 0 0 114 [] := by
  unfold F_X12_falsely_114 at h
  refine r_iload DX12_falsely_114 rfl ?_
  refine r_aload_n DX12_falsely_116 rfl ?_
  refine s_geta DX12_falsely_117 fl_X12_188 hR ct_2200 (one_cnt _) rfl ?_
  refine r_sipush (v := 500) DX12_falsely_120 ks_500 ?_
  refine r_iload_n DX12_falsely_123 rfl ?_
  refine r_imul DX12_falsely_124 ?_
  refine r_iload DX12_falsely_125 rfl ?_
  refine r_iadd DX12_falsely_127 ?_
  obtain ⟨hg1, h⟩ := gd_inv h
  refine s_iald DX12_falsely_128 hR ct_2276 (one_cnt _) hg1 ?_
  refine r_iadd DX12_falsely_129 ?_
  refine t_istore (L' := [some (.ref (ad 2200 0)), some (.int (x1)), some (.int (x2)), some (.int (x3)), some (.int (x4 + (V 2276 (0) (((500 : Int32) * x1) + x5).toNatClampNeg))), some (.int (x5)), d6]) DX12_falsely_130 (by decide) rfl ?_
  refine t_iinc (v := 1) (L' := [some (.ref (ad 2200 0)), some (.int (x1)), some (.int (x2)), some (.int (x3)), some (.int (x4 + (V 2276 (0) (((500 : Int32) * x1) + x5).toNatClampNeg))), some (.int (x5 + 1)), d6]) DX12_falsely_132 rfl ki_1 (by decide) rfl ?_
  refine r_goto DX12_falsely_135 ?_
  exact hkh hR h
theorem S_X12_falsely_105 {E : EN} {X : CX} {P : Option Value → MH → Prop} {ad : AD} {fu : Nat} {out : Int32 × St} {kh : St → Int32 → Int32 → Int32 → Int32 → Int32 → Int32 → RR} {kx114 : St → Int32 → Int32 → Int32 → Int32 → Int32 → RR} (hkh : ∀ {V : St} {M : MH} {x1 : Int32} {x2 : Int32} {x3 : Int32} {x4 : Int32} {x5 : Int32} {x6 : Int32}, Rep E ad V M → kh V x1 x2 x3 x4 x5 x6 = some out → G E X RX12 cX12_falsely 7 (some .int) false (rmD 2) P M [some (.ref (ad 2200 0)), some (.int (x1)), some (.int (x2)), some (.int (x3)), some (.int (x4)), some (.int (x5)), some (.int (x6))] 0 0 60 []) (hkx114 : ∀ {V : St} {M : MH} {x1 : Int32} {x2 : Int32} {x3 : Int32} {x4 : Int32} {x5 : Int32} {d6 : Option Value}, Rep E ad V M → kx114 V x1 x2 x3 x4 x5 = some out → G E X RX12 cX12_falsely 7 (some .int) false (rmD 2) P M [some (.ref (ad 2200 0)), some (.int (x1)), some (.int (x2)), some (.int (x3)), some (.int (x4)), some (.int (x5)), d6] 0 0 114 []) (hp : ∀ M, Rep E ad out.2 M → P (some (.int out.1)) M) {V : St} {M : MH} {x1 : Int32} {x2 : Int32} {x3 : Int32} {x5 : Int32} {x6 : Int32} {s0 : Int32} {s1 : Int32} {d4 : Option Value} (hR : Rep E ad V M) (h : F_X12_falsely_105 kh kx114 fu V x1 x2 x3 x5 x6 s0 s1 = some out) : G E X RX12 cX12_falsely 7 (some .int) false (rmD 2) P M [some (.ref (ad 2200 0)), some (.int (x1)), some (.int (x2)), some (.int (x3)), d4, some (.int (x5)), some (.int (x6))] 0 0 105 [.int (s0), .int (s1)] := by
  unfold F_X12_falsely_105 at h
  refine r_isub DX12_falsely_105 ?_
  refine t_istore (L' := [some (.ref (ad 2200 0)), some (.int (x1)), some (.int (x2)), some (.int (x3)), some (.int (s1 - s0)), some (.int (x5)), some (.int (x6))]) DX12_falsely_106 (by decide) rfl ?_
  refine t_iinc (v := 1) (L' := [some (.ref (ad 2200 0)), some (.int (x1)), some (.int (x2)), some (.int (x3)), some (.int (s1 - s0)), some (.int (x5)), some (.int (x6 + 1))]) DX12_falsely_108 rfl ki_1 (by decide) rfl ?_
  refine r_goto DX12_falsely_111 ?_
  exact hkh hR h
theorem S_X12_falsely_60 {E : EN} {X : CX} {P : Option Value → MH → Prop} {ad : AD} {fu : Nat} {out : Int32 × St} {kh : St → Int32 → Int32 → Int32 → Int32 → Int32 → Int32 → RR} {kx114 : St → Int32 → Int32 → Int32 → Int32 → Int32 → RR} (hkh : ∀ {V : St} {M : MH} {x1 : Int32} {x2 : Int32} {x3 : Int32} {x4 : Int32} {x5 : Int32} {x6 : Int32}, Rep E ad V M → kh V x1 x2 x3 x4 x5 x6 = some out → G E X RX12 cX12_falsely 7 (some .int) false (rmD 2) P M [some (.ref (ad 2200 0)), some (.int (x1)), some (.int (x2)), some (.int (x3)), some (.int (x4)), some (.int (x5)), some (.int (x6))] 0 0 60 []) (hkx114 : ∀ {V : St} {M : MH} {x1 : Int32} {x2 : Int32} {x3 : Int32} {x4 : Int32} {x5 : Int32} {d6 : Option Value}, Rep E ad V M → kx114 V x1 x2 x3 x4 x5 = some out → G E X RX12 cX12_falsely 7 (some .int) false (rmD 2) P M [some (.ref (ad 2200 0)), some (.int (x1)), some (.int (x2)), some (.int (x3)), some (.int (x4)), some (.int (x5)), d6] 0 0 114 []) (hp : ∀ M, Rep E ad out.2 M → P (some (.int out.1)) M) {V : St} {M : MH} {x1 : Int32} {x2 : Int32} {x3 : Int32} {x4 : Int32} {x5 : Int32} {x6 : Int32} (hR : Rep E ad V M) (h : F_X12_falsely_60 kh kx114 fu V x1 x2 x3 x4 x5 x6 = some out) : G E X RX12 cX12_falsely 7 (some .int) false (rmD 2) P M [some (.ref (ad 2200 0)), some (.int (x1)), some (.int (x2)), some (.int (x3)), some (.int (x4)), some (.int (x5)), some (.int (x6))] 0 0 60 [] := by
  unfold F_X12_falsely_60 at h
  refine r_iload DX12_falsely_60 rfl ?_
  refine r_aload_n DX12_falsely_62 rfl ?_
  refine s_geti DX12_falsely_63 fl_X12_291 hR ct_2200 (one_cnt _) rfl ?_
  refine r_icmp_ge DX12_falsely_66 (fun c1 => ?_) (fun c1 => ?_)
  · have h := if_t c1 h
    exact hkx114 hR h
  · have h := if_f c1 h
    refine r_iload DX12_falsely_69 rfl ?_
    refine r_aload_n DX12_falsely_71 rfl ?_
    refine s_geta DX12_falsely_72 fl_X12_112 hR ct_2200 (one_cnt _) rfl ?_
    refine r_iload DX12_falsely_75 rfl ?_
    obtain ⟨hg2, h⟩ := gd_inv h
    refine s_zald DX12_falsely_77 hR ct_2240 (one_cnt _) hg2 ?_
    refine r_if_eq DX12_falsely_78 (fun c3 => ?_) (fun c3 => ?_)
    · have h := if_t c3 h
      refine r_iconst (v := 0) DX12_falsely_104 ki_0 ?_
      exact S_X12_falsely_105 (fun hR h => hkh hR h) (fun hR h => hkx114 hR h) hp hR h
    · have h := if_f c3 h
      refine r_aload_n DX12_falsely_81 rfl ?_
      refine s_geta DX12_falsely_82 fl_X12_185 hR ct_2200 (one_cnt _) rfl ?_
      refine r_sipush (v := 15000) DX12_falsely_85 ks_15000 ?_
      refine r_iload DX12_falsely_88 rfl ?_
      refine r_imul DX12_falsely_90 ?_
      refine r_sipush (v := 500) DX12_falsely_91 ks_500 ?_
      refine r_iload_n DX12_falsely_94 rfl ?_
      refine r_imul DX12_falsely_95 ?_
      refine r_iadd DX12_falsely_96 ?_
      refine r_iload DX12_falsely_97 rfl ?_
      refine r_iadd DX12_falsely_99 ?_
      obtain ⟨hg4, h⟩ := gd_inv h
      refine s_iald DX12_falsely_100 hR ct_2275 (one_cnt _) hg4 ?_
      refine r_goto DX12_falsely_101 ?_
      exact S_X12_falsely_105 (fun hR h => hkh hR h) (fun hR h => hkx114 hR h) hp hR h
theorem SL_X12_falsely_60 {E : EN} {X : CX} {P : Option Value → MH → Prop} {ad : AD} {fu : Nat} {out : Int32 × St} {kx114 : St → Int32 → Int32 → Int32 → Int32 → Int32 → RR} (hkx114 : ∀ {V : St} {M : MH} {x1 : Int32} {x2 : Int32} {x3 : Int32} {x4 : Int32} {x5 : Int32} {d6 : Option Value}, Rep E ad V M → kx114 V x1 x2 x3 x4 x5 = some out → G E X RX12 cX12_falsely 7 (some .int) false (rmD 2) P M [some (.ref (ad 2200 0)), some (.int (x1)), some (.int (x2)), some (.int (x3)), some (.int (x4)), some (.int (x5)), d6] 0 0 114 []) (hp : ∀ M, Rep E ad out.2 M → P (some (.int out.1)) M) : ∀ (n : Nat) {V : St} {M : MH} {x1 : Int32} {x2 : Int32} {x3 : Int32} {x4 : Int32} {x5 : Int32} {x6 : Int32}, Rep E ad V M → Lp_X12_falsely_60 kx114 fu n V x1 x2 x3 x4 x5 x6 = some out → G E X RX12 cX12_falsely 7 (some .int) false (rmD 2) P M [some (.ref (ad 2200 0)), some (.int (x1)), some (.int (x2)), some (.int (x3)), some (.int (x4)), some (.int (x5)), some (.int (x6))] 0 0 60 [] := by
  intro n
  induction n with
  | zero => intros; rename_i h; cases h
  | succ n ih => exact fun hR h => S_X12_falsely_60 (fun hR h => ih hR h) (fun hR h => hkx114 hR h) hp hR h
theorem S_X12_falsely_46 {E : EN} {X : CX} {P : Option Value → MH → Prop} {ad : AD} {fu : Nat} {out : Int32 × St} {kh : St → Int32 → Int32 → Int32 → Int32 → Int32 → RR} {kx138 : St → Int32 → Int32 → Int32 → Int32 → RR} (hkh : ∀ {V : St} {M : MH} {x1 : Int32} {x2 : Int32} {x3 : Int32} {x4 : Int32} {x5 : Int32} {d6 : Option Value}, Rep E ad V M → kh V x1 x2 x3 x4 x5 = some out → G E X RX12 cX12_falsely 7 (some .int) false (rmD 2) P M [some (.ref (ad 2200 0)), some (.int (x1)), some (.int (x2)), some (.int (x3)), some (.int (x4)), some (.int (x5)), d6] 0 0 46 []) (hkx138 : ∀ {V : St} {M : MH} {x1 : Int32} {x2 : Int32} {x3 : Int32} {x4 : Int32} {d5 : Option Value} {d6 : Option Value}, Rep E ad V M → kx138 V x1 x2 x3 x4 = some out → G E X RX12 cX12_falsely 7 (some .int) false (rmD 2) P M [some (.ref (ad 2200 0)), some (.int (x1)), some (.int (x2)), some (.int (x3)), some (.int (x4)), d5, d6] 0 0 138 []) (hp : ∀ M, Rep E ad out.2 M → P (some (.int out.1)) M) {V : St} {M : MH} {x1 : Int32} {x2 : Int32} {x3 : Int32} {x4 : Int32} {x5 : Int32} {d6 : Option Value} (hR : Rep E ad V M) (h : F_X12_falsely_46 kh kx138 fu V x1 x2 x3 x4 x5 = some out) : G E X RX12 cX12_falsely 7 (some .int) false (rmD 2) P M [some (.ref (ad 2200 0)), some (.int (x1)), some (.int (x2)), some (.int (x3)), some (.int (x4)), some (.int (x5)), d6] 0 0 46 [] := by
  unfold F_X12_falsely_46 at h
  refine r_iload DX12_falsely_46 rfl ?_
  refine r_aload_n DX12_falsely_48 rfl ?_
  refine s_geta DX12_falsely_49 fl_X12_218 hR ct_2200 (one_cnt _) rfl ?_
  refine r_iload_n DX12_falsely_52 rfl ?_
  obtain ⟨hg1, h⟩ := gd_inv h
  refine s_iald DX12_falsely_53 hR ct_2290 (one_cnt _) hg1 ?_
  refine r_icmp_gt DX12_falsely_54 (fun c2 => ?_) (fun c2 => ?_)
  · have h := if_t c2 h
    exact hkx138 hR h
  · have h := if_f c2 h
    refine r_iconst (v := 0) DX12_falsely_57 ki_0 ?_
    refine t_istore (L' := [some (.ref (ad 2200 0)), some (.int (x1)), some (.int (x2)), some (.int (x3)), some (.int (x4)), some (.int (x5)), some (.int ((0 : Int32)))]) DX12_falsely_58 (by decide) rfl ?_
    exact SL_X12_falsely_60 (fun hR h => S_X12_falsely_114 (fun hR h => hkh hR h) (fun hR h => hkx138 hR h) hp hR h) hp fu hR h
theorem SL_X12_falsely_46 {E : EN} {X : CX} {P : Option Value → MH → Prop} {ad : AD} {fu : Nat} {out : Int32 × St} {kx138 : St → Int32 → Int32 → Int32 → Int32 → RR} (hkx138 : ∀ {V : St} {M : MH} {x1 : Int32} {x2 : Int32} {x3 : Int32} {x4 : Int32} {d5 : Option Value} {d6 : Option Value}, Rep E ad V M → kx138 V x1 x2 x3 x4 = some out → G E X RX12 cX12_falsely 7 (some .int) false (rmD 2) P M [some (.ref (ad 2200 0)), some (.int (x1)), some (.int (x2)), some (.int (x3)), some (.int (x4)), d5, d6] 0 0 138 []) (hp : ∀ M, Rep E ad out.2 M → P (some (.int out.1)) M) : ∀ (n : Nat) {V : St} {M : MH} {x1 : Int32} {x2 : Int32} {x3 : Int32} {x4 : Int32} {x5 : Int32} {d6 : Option Value}, Rep E ad V M → Lp_X12_falsely_46 kx138 fu n V x1 x2 x3 x4 x5 = some out → G E X RX12 cX12_falsely 7 (some .int) false (rmD 2) P M [some (.ref (ad 2200 0)), some (.int (x1)), some (.int (x2)), some (.int (x3)), some (.int (x4)), some (.int (x5)), d6] 0 0 46 [] := by
  intro n
  induction n with
  | zero => intros; rename_i h; cases h
  | succ n ih => exact fun hR h => S_X12_falsely_46 (fun hR h => ih hR h) (fun hR h => hkx138 hR h) hp hR h
theorem S_X12_falsely_14 {E : EN} {X : CX} {P : Option Value → MH → Prop} {ad : AD} {fu : Nat} {out : Int32 × St} {kh : St → Int32 → Int32 → Int32 → RR} {kx157 : St → Int32 → RR} (hkh : ∀ {V : St} {M : MH} {x1 : Int32} {x2 : Int32} {x3 : Int32} {d4 : Option Value} {d5 : Option Value} {d6 : Option Value}, Rep E ad V M → kh V x1 x2 x3 = some out → G E X RX12 cX12_falsely 7 (some .int) false (rmD 2) P M [some (.ref (ad 2200 0)), some (.int (x1)), some (.int (x2)), some (.int (x3)), d4, d5, d6] 0 0 14 []) (hkx157 : ∀ {V : St} {M : MH} {x2 : Int32} {d0 : Option Value} {d1 : Option Value} {d3 : Option Value} {d4 : Option Value} {d5 : Option Value} {d6 : Option Value}, Rep E ad V M → kx157 V x2 = some out → G E X RX12 cX12_falsely 7 (some .int) false (rmD 2) P M [d0, d1, some (.int (x2)), d3, d4, d5, d6] 0 0 157 []) (hp : ∀ M, Rep E ad out.2 M → P (some (.int out.1)) M) {V : St} {M : MH} {x1 : Int32} {x2 : Int32} {x3 : Int32} {d4 : Option Value} {d5 : Option Value} {d6 : Option Value} (hR : Rep E ad V M) (h : F_X12_falsely_14 kh kx157 fu V x1 x2 x3 = some out) : G E X RX12 cX12_falsely 7 (some .int) false (rmD 2) P M [some (.ref (ad 2200 0)), some (.int (x1)), some (.int (x2)), some (.int (x3)), d4, d5, d6] 0 0 14 [] := by
  unfold F_X12_falsely_14 at h
  refine r_iload_n DX12_falsely_14 rfl ?_
  refine r_aload_n DX12_falsely_15 rfl ?_
  refine s_geti DX12_falsely_16 fl_X12_458 hR ct_2200 (one_cnt _) rfl ?_
  refine r_icmp_ge DX12_falsely_19 (fun c1 => ?_) (fun c1 => ?_)
  · have h := if_t c1 h
    exact hkx157 hR h
  · have h := if_f c1 h
    refine r_aload_n DX12_falsely_22 rfl ?_
    refine s_geta DX12_falsely_23 fl_X12_215 hR ct_2200 (one_cnt _) rfl ?_
    refine r_iload_n DX12_falsely_26 rfl ?_
    obtain ⟨hg2, h⟩ := gd_inv h
    refine s_iald DX12_falsely_27 hR ct_2289 (one_cnt _) hg2 ?_
    refine r_iload_n DX12_falsely_28 rfl ?_
    refine r_icmp_eq DX12_falsely_29 (fun c3 => ?_) (fun c3 => ?_)
    · have h := if_t c3 h
      refine r_aload_n DX12_falsely_35 rfl ?_
      refine s_geta DX12_falsely_36 fl_X12_221 hR ct_2200 (one_cnt _) rfl ?_
      refine r_iload_n DX12_falsely_39 rfl ?_
      obtain ⟨hg4, h⟩ := gd_inv h
      refine s_iald DX12_falsely_40 hR ct_2291 (one_cnt _) hg4 ?_
      refine t_istore (L' := [some (.ref (ad 2200 0)), some (.int (x1)), some (.int (x2)), some (.int (x3)), some (.int ((V 2291 (0) (x3).toNatClampNeg))), d5, d6]) DX12_falsely_41 (by decide) rfl ?_
      refine r_iconst (v := 0) DX12_falsely_43 ki_0 ?_
      refine t_istore (L' := [some (.ref (ad 2200 0)), some (.int (x1)), some (.int (x2)), some (.int (x3)), some (.int ((V 2291 (0) (x3).toNatClampNeg))), some (.int ((0 : Int32))), d6]) DX12_falsely_44 (by decide) rfl ?_
      exact SL_X12_falsely_46 (fun hR h => S_X12_falsely_138 (fun hR h => hkh hR h) (fun hR h => hkx157 hR h) hp hR h) hp fu hR h
    · have h := if_f c3 h
      refine r_goto DX12_falsely_32 ?_
      exact S_X12_falsely_151 (fun hR h => hkh hR h) (fun hR h => hkx157 hR h) hp hR h
theorem SL_X12_falsely_14 {E : EN} {X : CX} {P : Option Value → MH → Prop} {ad : AD} {fu : Nat} {out : Int32 × St} {kx157 : St → Int32 → RR} (hkx157 : ∀ {V : St} {M : MH} {x2 : Int32} {d0 : Option Value} {d1 : Option Value} {d3 : Option Value} {d4 : Option Value} {d5 : Option Value} {d6 : Option Value}, Rep E ad V M → kx157 V x2 = some out → G E X RX12 cX12_falsely 7 (some .int) false (rmD 2) P M [d0, d1, some (.int (x2)), d3, d4, d5, d6] 0 0 157 []) (hp : ∀ M, Rep E ad out.2 M → P (some (.int out.1)) M) : ∀ (n : Nat) {V : St} {M : MH} {x1 : Int32} {x2 : Int32} {x3 : Int32} {d4 : Option Value} {d5 : Option Value} {d6 : Option Value}, Rep E ad V M → Lp_X12_falsely_14 kx157 fu n V x1 x2 x3 = some out → G E X RX12 cX12_falsely 7 (some .int) false (rmD 2) P M [some (.ref (ad 2200 0)), some (.int (x1)), some (.int (x2)), some (.int (x3)), d4, d5, d6] 0 0 14 [] := by
  intro n
  induction n with
  | zero => intros; rename_i h; cases h
  | succ n ih => exact fun hR h => S_X12_falsely_14 (fun hR h => ih hR h) (fun hR h => hkx157 hR h) hp hR h
theorem S_X12_falsely_0 {E : EN} {X : CX} {P : Option Value → MH → Prop} {ad : AD} {fu : Nat} {out : Int32 × St} (hp : ∀ M, Rep E ad out.2 M → P (some (.int out.1)) M) {V : St} {M : MH} {x1 : Int32} (hR : Rep E ad V M) (h : f_X12_falsely fu V x1 = some out) : G E X RX12 cX12_falsely 7 (some .int) false (rmD 2) P M [some (.ref (ad 2200 0)), some (.int (x1)), none, none, none, none, none] 0 0 0 [] := by
  unfold f_X12_falsely at h
  refine r_aload_n DX12_falsely_0 rfl ?_
  refine r_iload_n DX12_falsely_1 rfl ?_
  obtain ⟨r1, V2, hc3, h⟩ := bd_inv h
  refine k_callV (As := [.int (x1)]) (rest := []) (st1 := [.int (r1)]) (w := some (.int r1)) DX12_falsely_2 cv_X12_271 hR ct_2200 (one_cnt _) rfl (C_X12_isThing (out := (r1, V2)) (cxL X) hR hc3) rfl (by decide) (by decide) rfl (Nat.le_of_ble_eq_true rfl) rfl (fun M hR => ?_)
  refine r_if_ne DX12_falsely_5 (fun c4 => ?_) (fun c4 => ?_)
  · have h := if_f c4 h
    refine r_iconst (v := 0) DX12_falsely_10 ki_0 ?_
    refine t_istore_n (L' := [some (.ref (ad 2200 0)), some (.int (x1)), some (.int ((0 : Int32))), none, none, none, none]) DX12_falsely_11 (by decide) rfl ?_
    refine r_iconst (v := 0) DX12_falsely_12 ki_0 ?_
    refine t_istore_n (L' := [some (.ref (ad 2200 0)), some (.int (x1)), some (.int ((0 : Int32))), some (.int ((0 : Int32))), none, none, none]) DX12_falsely_13 (by decide) rfl ?_
    exact SL_X12_falsely_14 (fun hR h => S_X12_falsely_157 hp hR h) hp fu hR h
  · have h := if_t c4 h
    refine r_iconst (v := -1) DX12_falsely_8 ki_m1 ?_
    cases h
    exact r_iret DX12_falsely_9 rfl ⟨Nat.le_refl 0, Nat.le_refl 0⟩ (hp M hR)
theorem C_X12_falsely {E : EN} {ad : AD} {fu : Nat} {out : Int32 × St} {V : St} {M : MH} {x1 : Int32} (l : Launch) (hR : Rep E ad V M) (h : f_X12_falsely fu V x1 = some out) : Ct E l yX12_falsely cX12_falsely 7 (some .int) (rmD 2) [.ref (ad 2200 0), .int (x1)] M (fun v M => v = (some (.int out.1)) ∧ Rep E ad out.2 M) :=
  Ct.of (own := RX12) (ini := false) (L := [some (.ref (ad 2200 0)), some (.int (x1)), none, none, none, none, none]) rfl rfl (fun h => by cases h) rfl (Nat.le_of_ble_eq_true rfl) rfl (fun X _ => S_X12_falsely_0 (fun M hR => ⟨rfl, hR⟩) hR h)
theorem S_X12_types_38 {E : EN} {X : CX} {P : Option Value → MH → Prop} {ad : AD} {fu : Nat} {out : Int32 × St} (hp : ∀ M, Rep E ad out.2 M → P none M) {V : St} {M : MH} {d0 : Option Value} {d1 : Option Value} {d2 : Option Value} (hR : Rep E ad V M) (h : F_X12_types_38 fu V = some out) : G E X RX12 cX12_types 3 none false (rmD 1) P M [d0, d1, d2] 0 0 38 [] := by
  unfold F_X12_types_38 at h
  cases h
  exact r_vret DX12_types_38 rfl ⟨Nat.le_refl 0, Nat.le_refl 0⟩ (hp M hR)
theorem S_X12_types_2 {E : EN} {X : CX} {P : Option Value → MH → Prop} {ad : AD} {fu : Nat} {out : Int32 × St} {kh : St → Int32 → Int32 → RR} {kx38 : St → RR} (hkh : ∀ {V : St} {M : MH} {x1 : Int32} {x2 : Int32}, Rep E ad V M → kh V x1 x2 = some out → G E X RX12 cX12_types 3 none false (rmD 1) P M [some (.ref (ad 2200 0)), some (.int (x1)), some (.int (x2))] 0 0 2 []) (hkx38 : ∀ {V : St} {M : MH} {d0 : Option Value} {d1 : Option Value} {d2 : Option Value}, Rep E ad V M → kx38 V  = some out → G E X RX12 cX12_types 3 none false (rmD 1) P M [d0, d1, d2] 0 0 38 []) (hp : ∀ M, Rep E ad out.2 M → P none M) {V : St} {M : MH} {x1 : Int32} {x2 : Int32} (hR : Rep E ad V M) (h : F_X12_types_2 kh kx38 fu V x1 x2 = some out) : G E X RX12 cX12_types 3 none false (rmD 1) P M [some (.ref (ad 2200 0)), some (.int (x1)), some (.int (x2))] 0 0 2 [] := by
  unfold F_X12_types_2 at h
  refine r_iload_n DX12_types_2 rfl ?_
  refine r_if_lt DX12_types_3 (fun c1 => ?_) (fun c1 => ?_)
  · have h := if_t c1 h
    exact hkx38 hR h
  · have h := if_f c1 h
    refine r_aload_n DX12_types_6 rfl ?_
    refine s_geta DX12_types_7 fl_X12_116 hR ct_2200 (one_cnt _) rfl ?_
    refine r_aload_n DX12_types_10 rfl ?_
    refine s_geti DX12_types_11 fl_X12_274 hR ct_2200 (one_cnt _) rfl ?_
    refine r_iload_n DX12_types_14 rfl ?_
    refine r_bipush (v := 8) DX12_types_15 kb_8 ?_
    refine r_iload_n DX12_types_17 rfl ?_
    refine r_imul DX12_types_18 ?_
    refine r_ishr DX12_types_19 ?_
    refine r_i2b DX12_types_20 ?_
    obtain ⟨hg2, h⟩ := gd_inv h
    obtain ⟨V3, hv4, h⟩ := bv_inv h
    refine s_bast DX12_types_21 hR oka_2241 ct_2241 (one_cnt _) hg2 (fun M hR => ?_)
    have hR := hR.cg hv4
    refine r_aload_n DX12_types_22 rfl ?_
    refine r_aload_n DX12_types_23 rfl ?_
    refine s_geti DX12_types_24 fl_X12_274 hR ct_2200 (one_cnt _) rfl ?_
    refine r_iconst (v := 1) DX12_types_27 ki_1 ?_
    refine r_iadd DX12_types_28 ?_
    obtain ⟨V5, hv6, h⟩ := bv_inv h
    refine s_puti DX12_types_29 fp_X12_274 hR oks_2242 ct_2200 (one_cnt _) rfl rfl rfl (fun M hR => ?_)
    have hR := hR.cg hv6
    refine t_iinc (v := -1) (L' := [some (.ref (ad 2200 0)), some (.int (x1)), some (.int (x2 + (-1)))]) DX12_types_32 rfl ki_m1 (by decide) rfl ?_
    refine r_goto DX12_types_35 ?_
    exact hkh hR h
theorem SL_X12_types_2 {E : EN} {X : CX} {P : Option Value → MH → Prop} {ad : AD} {fu : Nat} {out : Int32 × St} {kx38 : St → RR} (hkx38 : ∀ {V : St} {M : MH} {d0 : Option Value} {d1 : Option Value} {d2 : Option Value}, Rep E ad V M → kx38 V  = some out → G E X RX12 cX12_types 3 none false (rmD 1) P M [d0, d1, d2] 0 0 38 []) (hp : ∀ M, Rep E ad out.2 M → P none M) : ∀ (n : Nat) {V : St} {M : MH} {x1 : Int32} {x2 : Int32}, Rep E ad V M → Lp_X12_types_2 kx38 fu n V x1 x2 = some out → G E X RX12 cX12_types 3 none false (rmD 1) P M [some (.ref (ad 2200 0)), some (.int (x1)), some (.int (x2))] 0 0 2 [] := by
  intro n
  induction n with
  | zero => intros; rename_i h; cases h
  | succ n ih => exact fun hR h => S_X12_types_2 (fun hR h => ih hR h) (fun hR h => hkx38 hR h) hp hR h
theorem S_X12_types_0 {E : EN} {X : CX} {P : Option Value → MH → Prop} {ad : AD} {fu : Nat} {out : Int32 × St} (hp : ∀ M, Rep E ad out.2 M → P none M) {V : St} {M : MH} {x1 : Int32} (hR : Rep E ad V M) (h : f_X12_types fu V x1 = some out) : G E X RX12 cX12_types 3 none false (rmD 1) P M [some (.ref (ad 2200 0)), some (.int (x1)), none] 0 0 0 [] := by
  unfold f_X12_types at h
  refine r_iconst (v := 3) DX12_types_0 ki_3 ?_
  refine t_istore_n (L' := [some (.ref (ad 2200 0)), some (.int (x1)), some (.int ((3 : Int32)))]) DX12_types_1 (by decide) rfl ?_
  exact SL_X12_types_2 (fun hR h => S_X12_types_38 hp hR h) hp fu hR h
theorem C_X12_types {E : EN} {ad : AD} {fu : Nat} {out : Int32 × St} {V : St} {M : MH} {x1 : Int32} (l : Launch) (hR : Rep E ad V M) (h : f_X12_types fu V x1 = some out) : Ct E l yX12_types cX12_types 3 none (rmD 1) [.ref (ad 2200 0), .int (x1)] M (fun v M => v = none ∧ Rep E ad out.2 M) :=
  Ct.of (own := RX12) (ini := false) (L := [some (.ref (ad 2200 0)), some (.int (x1)), none]) rfl rfl (fun h => by cases h) rfl (Nat.le_of_ble_eq_true rfl) rfl (fun X _ => S_X12_types_0 (fun M hR => ⟨rfl, hR⟩) hR h)
theorem S_X12_feed_0 {E : EN} {X : CX} {P : Option Value → MH → Prop} {ad : AD} {fu : Nat} {out : Int32 × St} (hp : ∀ M, Rep E ad out.2 M → P (some (.int out.1)) M) {V : St} {M : MH} {x1 : Int32} {x2 : Int32} {x3 : Int32} {x4 : Int32} {x5 : Int32} (hR : Rep E ad V M) (h : f_X12_feed fu V x1 x2 x3 x4 x5 = some out) : G E X RX12 cX12_feed 6 (some .int) false (rmD 2) P M [some (.ref (ad 2200 0)), some (.int (x1)), some (.int (x2)), some (.int (x3)), some (.int (x4)), some (.int (x5))] 0 0 0 [] := by
  unfold f_X12_feed at h
  refine r_aload_n DX12_feed_0 rfl ?_
  refine s_geti DX12_feed_1 fl_X12_274 hR ct_2200 (one_cnt _) rfl ?_
  refine r_bipush (v := 20) DX12_feed_4 kb_20 ?_
  refine r_iadd DX12_feed_6 ?_
  refine r_sipush (v := 400) DX12_feed_7 ks_400 ?_
  refine r_icmp_le DX12_feed_10 (fun c1 => ?_) (fun c1 => ?_)
  · have h := if_t c1 h
    refine r_aload_n DX12_feed_15 rfl ?_
    refine r_iload_n DX12_feed_16 rfl ?_
    obtain ⟨r2, V3, hc4, h⟩ := bd_inv h
    refine k_callV (As := [.int (x1)]) (rest := []) (st1 := []) (w := none) DX12_feed_17 cv_X12_298 hR ct_2200 (one_cnt _) rfl (C_X12_types (out := (r2, V3)) (cxL X) hR hc4) rfl (by decide) (by decide) rfl (Nat.le_of_ble_eq_true rfl) rfl (fun M hR => ?_)
    refine r_aload_n DX12_feed_20 rfl ?_
    refine r_iload_n DX12_feed_21 rfl ?_
    obtain ⟨r5, V6, hc7, h⟩ := bd_inv h
    refine k_callV (As := [.int (x2)]) (rest := []) (st1 := []) (w := none) DX12_feed_22 cv_X12_298 hR ct_2200 (one_cnt _) rfl (C_X12_types (out := (r5, V6)) (cxL X) hR hc7) rfl (by decide) (by decide) rfl (Nat.le_of_ble_eq_true rfl) rfl (fun M hR => ?_)
    refine r_aload_n DX12_feed_25 rfl ?_
    refine r_iload_n DX12_feed_26 rfl ?_
    obtain ⟨r8, V9, hc10, h⟩ := bd_inv h
    refine k_callV (As := [.int (x3)]) (rest := []) (st1 := []) (w := none) DX12_feed_27 cv_X12_298 hR ct_2200 (one_cnt _) rfl (C_X12_types (out := (r8, V9)) (cxL X) hR hc10) rfl (by decide) (by decide) rfl (Nat.le_of_ble_eq_true rfl) rfl (fun M hR => ?_)
    refine r_aload_n DX12_feed_30 rfl ?_
    refine r_iload DX12_feed_31 rfl ?_
    obtain ⟨r11, V12, hc13, h⟩ := bd_inv h
    refine k_callV (As := [.int (x4)]) (rest := []) (st1 := []) (w := none) DX12_feed_33 cv_X12_298 hR ct_2200 (one_cnt _) rfl (C_X12_types (out := (r11, V12)) (cxL X) hR hc13) rfl (by decide) (by decide) rfl (Nat.le_of_ble_eq_true rfl) rfl (fun M hR => ?_)
    refine r_aload_n DX12_feed_36 rfl ?_
    refine r_iload DX12_feed_37 rfl ?_
    obtain ⟨r14, V15, hc16, h⟩ := bd_inv h
    refine k_callV (As := [.int (x5)]) (rest := []) (st1 := []) (w := none) DX12_feed_39 cv_X12_298 hR ct_2200 (one_cnt _) rfl (C_X12_types (out := (r14, V15)) (cxL X) hR hc16) rfl (by decide) (by decide) rfl (Nat.le_of_ble_eq_true rfl) rfl (fun M hR => ?_)
    refine r_aload_n DX12_feed_42 rfl ?_
    refine s_geti DX12_feed_43 fl_X12_274 hR ct_2200 (one_cnt _) rfl ?_
    cases h
    exact r_iret DX12_feed_46 rfl ⟨Nat.le_refl 0, Nat.le_refl 0⟩ (hp M hR)
  · have h := if_f c1 h
    refine r_iconst (v := -1) DX12_feed_13 ki_m1 ?_
    cases h
    exact r_iret DX12_feed_14 rfl ⟨Nat.le_refl 0, Nat.le_refl 0⟩ (hp M hR)
theorem C_X12_feed {E : EN} {ad : AD} {fu : Nat} {out : Int32 × St} {V : St} {M : MH} {x1 : Int32} {x2 : Int32} {x3 : Int32} {x4 : Int32} {x5 : Int32} (l : Launch) (hR : Rep E ad V M) (h : f_X12_feed fu V x1 x2 x3 x4 x5 = some out) : Ct E l yX12_feed cX12_feed 6 (some .int) (rmD 2) [.ref (ad 2200 0), .int (x1), .int (x2), .int (x3), .int (x4), .int (x5)] M (fun v M => v = (some (.int out.1)) ∧ Rep E ad out.2 M) :=
  Ct.of (own := RX12) (ini := false) (L := [some (.ref (ad 2200 0)), some (.int (x1)), some (.int (x2)), some (.int (x3)), some (.int (x4)), some (.int (x5))]) rfl rfl (fun h => by cases h) rfl (Nat.le_of_ble_eq_true rfl) rfl (fun X _ => S_X12_feed_0 (fun M hR => ⟨rfl, hR⟩) hR h)
theorem S_X12_hasTown_47 {E : EN} {X : CX} {P : Option Value → MH → Prop} {ad : AD} {fu : Nat} {out : Int32 × St} (hp : ∀ M, Rep E ad out.2 M → P (some (.int out.1)) M) {V : St} {M : MH} {s0 : Int32} {d0 : Option Value} {d1 : Option Value} {d2 : Option Value} {d3 : Option Value} (hR : Rep E ad V M) (h : F_X12_hasTown_47 fu V s0 = some out) : G E X RX12 cX12_hasTown 4 (some .boolean) false (rmD 1) P M [d0, d1, d2, d3] 0 0 47 [.int (s0)] := by
  unfold F_X12_hasTown_47 at h
  obtain ⟨hz1, h⟩ := gd_inv h
  cases h
  exact r_zret DX12_hasTown_47 rfl (nz_nar hz1) ⟨Nat.le_refl 0, Nat.le_refl 0⟩ (hp M hR)
theorem S_X12_hasTown_37 {E : EN} {X : CX} {P : Option Value → MH → Prop} {ad : AD} {fu : Nat} {out : Int32 × St} (hp : ∀ M, Rep E ad out.2 M → P (some (.int out.1)) M) {V : St} {M : MH} {x2 : Int32} {d0 : Option Value} {d1 : Option Value} {d3 : Option Value} (hR : Rep E ad V M) (h : F_X12_hasTown_37 fu V x2 = some out) : G E X RX12 cX12_hasTown 4 (some .boolean) false (rmD 1) P M [d0, d1, some (.int (x2)), d3] 0 0 37 [] := by
  unfold F_X12_hasTown_37 at h
  refine r_iload_n DX12_hasTown_37 rfl ?_
  refine r_iconst (v := -1) DX12_hasTown_38 ki_m1 ?_
  refine r_icmp_ne DX12_hasTown_39 (fun c1 => ?_) (fun c1 => ?_)
  · have h := if_f c1 h
    refine r_iconst (v := 0) DX12_hasTown_46 ki_0 ?_
    exact S_X12_hasTown_47 hp hR h
  · have h := if_t c1 h
    refine r_iconst (v := 1) DX12_hasTown_42 ki_1 ?_
    refine r_goto DX12_hasTown_43 ?_
    exact S_X12_hasTown_47 hp hR h
theorem S_X12_hasTown_31 {E : EN} {X : CX} {P : Option Value → MH → Prop} {ad : AD} {fu : Nat} {out : Int32 × St} {kh : St → Int32 → Int32 → Int32 → RR} {kx29 : St → RR} {kx37 : St → Int32 → RR} (hkh : ∀ {V : St} {M : MH} {x1 : Int32} {x2 : Int32} {x3 : Int32}, Rep E ad V M → kh V x1 x2 x3 = some out → G E X RX12 cX12_hasTown 4 (some .boolean) false (rmD 1) P M [some (.ref (ad 2200 0)), some (.int (x1)), some (.int (x2)), some (.int (x3))] 0 0 2 []) (hkx29 : ∀ {V : St} {M : MH} {d0 : Option Value} {d1 : Option Value} {d2 : Option Value} {d3 : Option Value}, Rep E ad V M → kx29 V  = some out → G E X RX12 cX12_hasTown 4 (some .boolean) false (rmD 1) P M [d0, d1, d2, d3] 0 0 29 []) (hkx37 : ∀ {V : St} {M : MH} {x2 : Int32} {d0 : Option Value} {d1 : Option Value} {d3 : Option Value}, Rep E ad V M → kx37 V x2 = some out → G E X RX12 cX12_hasTown 4 (some .boolean) false (rmD 1) P M [d0, d1, some (.int (x2)), d3] 0 0 37 []) (hp : ∀ M, Rep E ad out.2 M → P (some (.int out.1)) M) {V : St} {M : MH} {x1 : Int32} {x2 : Int32} {x3 : Int32} (hR : Rep E ad V M) (h : F_X12_hasTown_31 kh kx29 kx37 fu V x1 x2 x3 = some out) : G E X RX12 cX12_hasTown 4 (some .boolean) false (rmD 1) P M [some (.ref (ad 2200 0)), some (.int (x1)), some (.int (x2)), some (.int (x3))] 0 0 31 [] := by
  unfold F_X12_hasTown_31 at h
  refine t_iinc (v := 1) (L' := [some (.ref (ad 2200 0)), some (.int (x1)), some (.int (x2)), some (.int (x3 + 1))]) DX12_hasTown_31 rfl ki_1 (by decide) rfl ?_
  refine r_goto DX12_hasTown_34 ?_
  exact hkh hR h
theorem S_X12_hasTown_29 {E : EN} {X : CX} {P : Option Value → MH → Prop} {ad : AD} {fu : Nat} {out : Int32 × St} (hp : ∀ M, Rep E ad out.2 M → P (some (.int out.1)) M) {V : St} {M : MH} {d0 : Option Value} {d1 : Option Value} {d2 : Option Value} {d3 : Option Value} (hR : Rep E ad V M) (h : F_X12_hasTown_29 fu V = some out) : G E X RX12 cX12_hasTown 4 (some .boolean) false (rmD 1) P M [d0, d1, d2, d3] 0 0 29 [] := by
  unfold F_X12_hasTown_29 at h
  refine r_iconst (v := 1) DX12_hasTown_29 ki_1 ?_
  cases h
  exact r_zret DX12_hasTown_30 rfl rfl ⟨Nat.le_refl 0, Nat.le_refl 0⟩ (hp M hR)
theorem S_X12_hasTown_2 {E : EN} {X : CX} {P : Option Value → MH → Prop} {ad : AD} {fu : Nat} {out : Int32 × St} {kh : St → Int32 → Int32 → Int32 → RR} {kx29 : St → RR} {kx37 : St → Int32 → RR} (hkh : ∀ {V : St} {M : MH} {x1 : Int32} {x2 : Int32} {x3 : Int32}, Rep E ad V M → kh V x1 x2 x3 = some out → G E X RX12 cX12_hasTown 4 (some .boolean) false (rmD 1) P M [some (.ref (ad 2200 0)), some (.int (x1)), some (.int (x2)), some (.int (x3))] 0 0 2 []) (hkx29 : ∀ {V : St} {M : MH} {d0 : Option Value} {d1 : Option Value} {d2 : Option Value} {d3 : Option Value}, Rep E ad V M → kx29 V  = some out → G E X RX12 cX12_hasTown 4 (some .boolean) false (rmD 1) P M [d0, d1, d2, d3] 0 0 29 []) (hkx37 : ∀ {V : St} {M : MH} {x2 : Int32} {d0 : Option Value} {d1 : Option Value} {d3 : Option Value}, Rep E ad V M → kx37 V x2 = some out → G E X RX12 cX12_hasTown 4 (some .boolean) false (rmD 1) P M [d0, d1, some (.int (x2)), d3] 0 0 37 []) (hp : ∀ M, Rep E ad out.2 M → P (some (.int out.1)) M) {V : St} {M : MH} {x1 : Int32} {x2 : Int32} {x3 : Int32} (hR : Rep E ad V M) (h : F_X12_hasTown_2 kh kx29 kx37 fu V x1 x2 x3 = some out) : G E X RX12 cX12_hasTown 4 (some .boolean) false (rmD 1) P M [some (.ref (ad 2200 0)), some (.int (x1)), some (.int (x2)), some (.int (x3))] 0 0 2 [] := by
  unfold F_X12_hasTown_2 at h
  refine r_iload_n DX12_hasTown_2 rfl ?_
  refine r_aload_n DX12_hasTown_3 rfl ?_
  refine s_geti DX12_hasTown_4 fl_X12_291 hR ct_2200 (one_cnt _) rfl ?_
  refine r_icmp_ge DX12_hasTown_7 (fun c1 => ?_) (fun c1 => ?_)
  · have h := if_t c1 h
    exact hkx37 hR h
  · have h := if_f c1 h
    refine r_iload_n DX12_hasTown_10 rfl ?_
    refine r_iload_n DX12_hasTown_11 rfl ?_
    refine r_ishr DX12_hasTown_12 ?_
    refine r_iconst (v := 1) DX12_hasTown_13 ki_1 ?_
    refine r_iand DX12_hasTown_14 ?_
    refine r_iconst (v := 1) DX12_hasTown_15 ki_1 ?_
    refine r_icmp_ne DX12_hasTown_16 (fun c2 => ?_) (fun c2 => ?_)
    · have h := if_f c2 h
      exact S_X12_hasTown_31 (fun hR h => hkh hR h) (fun hR h => hkx29 hR h) (fun hR h => hkx37 hR h) hp hR h
    · have h := if_t c2 h
      refine r_aload_n DX12_hasTown_19 rfl ?_
      refine s_geta DX12_hasTown_20 fl_X12_91 hR ct_2200 (one_cnt _) rfl ?_
      refine r_iload_n DX12_hasTown_23 rfl ?_
      obtain ⟨hg3, h⟩ := gd_inv h
      refine s_iald DX12_hasTown_24 hR ct_2233 (one_cnt _) hg3 ?_
      refine r_iload_n DX12_hasTown_25 rfl ?_
      refine r_icmp_ne DX12_hasTown_26 (fun c4 => ?_) (fun c4 => ?_)
      · have h := if_f c4 h
        exact S_X12_hasTown_31 (fun hR h => hkh hR h) (fun hR h => hkx29 hR h) (fun hR h => hkx37 hR h) hp hR h
      · have h := if_t c4 h
        exact hkx29 hR h
theorem SL_X12_hasTown_2 {E : EN} {X : CX} {P : Option Value → MH → Prop} {ad : AD} {fu : Nat} {out : Int32 × St} {kx29 : St → RR} {kx37 : St → Int32 → RR} (hkx29 : ∀ {V : St} {M : MH} {d0 : Option Value} {d1 : Option Value} {d2 : Option Value} {d3 : Option Value}, Rep E ad V M → kx29 V  = some out → G E X RX12 cX12_hasTown 4 (some .boolean) false (rmD 1) P M [d0, d1, d2, d3] 0 0 29 []) (hkx37 : ∀ {V : St} {M : MH} {x2 : Int32} {d0 : Option Value} {d1 : Option Value} {d3 : Option Value}, Rep E ad V M → kx37 V x2 = some out → G E X RX12 cX12_hasTown 4 (some .boolean) false (rmD 1) P M [d0, d1, some (.int (x2)), d3] 0 0 37 []) (hp : ∀ M, Rep E ad out.2 M → P (some (.int out.1)) M) : ∀ (n : Nat) {V : St} {M : MH} {x1 : Int32} {x2 : Int32} {x3 : Int32}, Rep E ad V M → Lp_X12_hasTown_2 kx29 kx37 fu n V x1 x2 x3 = some out → G E X RX12 cX12_hasTown 4 (some .boolean) false (rmD 1) P M [some (.ref (ad 2200 0)), some (.int (x1)), some (.int (x2)), some (.int (x3))] 0 0 2 [] := by
  intro n
  induction n with
  | zero => intros; rename_i h; cases h
  | succ n ih => exact fun hR h => S_X12_hasTown_2 (fun hR h => ih hR h) (fun hR h => hkx29 hR h) (fun hR h => hkx37 hR h) hp hR h
theorem S_X12_hasTown_0 {E : EN} {X : CX} {P : Option Value → MH → Prop} {ad : AD} {fu : Nat} {out : Int32 × St} (hp : ∀ M, Rep E ad out.2 M → P (some (.int out.1)) M) {V : St} {M : MH} {x1 : Int32} {x2 : Int32} (hR : Rep E ad V M) (h : f_X12_hasTown fu V x1 x2 = some out) : G E X RX12 cX12_hasTown 4 (some .boolean) false (rmD 1) P M [some (.ref (ad 2200 0)), some (.int (x1)), some (.int (x2)), none] 0 0 0 [] := by
  unfold f_X12_hasTown at h
  refine r_iconst (v := 0) DX12_hasTown_0 ki_0 ?_
  refine t_istore_n (L' := [some (.ref (ad 2200 0)), some (.int (x1)), some (.int (x2)), some (.int ((0 : Int32)))]) DX12_hasTown_1 (by decide) rfl ?_
  exact SL_X12_hasTown_2 (fun hR h => S_X12_hasTown_29 hp hR h) (fun hR h => S_X12_hasTown_37 hp hR h) hp fu hR h
theorem C_X12_hasTown {E : EN} {ad : AD} {fu : Nat} {out : Int32 × St} {V : St} {M : MH} {x1 : Int32} {x2 : Int32} (l : Launch) (hR : Rep E ad V M) (h : f_X12_hasTown fu V x1 x2 = some out) : Ct E l yX12_hasTown cX12_hasTown 4 (some .boolean) (rmD 1) [.ref (ad 2200 0), .int (x1), .int (x2)] M (fun v M => v = (some (.int out.1)) ∧ Rep E ad out.2 M) :=
  Ct.of (own := RX12) (ini := false) (L := [some (.ref (ad 2200 0)), some (.int (x1)), some (.int (x2)), none]) rfl rfl (fun h => by cases h) rfl (Nat.le_of_ble_eq_true rfl) rfl (fun X _ => S_X12_hasTown_0 (fun M hR => ⟨rfl, hR⟩) hR h)
theorem S_X12_up_0 {E : EN} {X : CX} {P : Option Value → MH → Prop} {ad : AD} {fu : Nat} {out : Int32 × St} (hp : ∀ M, Rep E ad out.2 M → P (some (.int out.1)) M) {V : St} {M : MH} {x0 : Int32} {x1 : Int32} (hR : Rep E ad V M) (h : f_X12_up fu V x0 x1 = some out) : G E X RX12 cX12_up 2 (some .int) false (rmD 1) P M [some (.int (x0)), some (.int (x1))] 0 0 0 [] := by
  unfold f_X12_up at h
  refine r_iload_n DX12_up_0 rfl ?_
  refine r_iload_n DX12_up_1 rfl ?_
  refine r_iadd DX12_up_2 ?_
  refine r_iconst (v := 1) DX12_up_3 ki_1 ?_
  refine r_isub DX12_up_4 ?_
  refine r_iload_n DX12_up_5 rfl ?_
  obtain ⟨hn1, h⟩ := gd_inv h
  refine r_idiv DX12_up_6 hn1 ?_
  cases h
  exact r_iret DX12_up_7 rfl ⟨Nat.le_refl 0, Nat.le_refl 0⟩ (hp M hR)
theorem C_X12_up {E : EN} {ad : AD} {fu : Nat} {out : Int32 × St} {V : St} {M : MH} {x0 : Int32} {x1 : Int32} (l : Launch) (hR : Rep E ad V M) (h : f_X12_up fu V x0 x1 = some out) : Ct E l yX12_up cX12_up 2 (some .int) (rmD 1) [.int (x0), .int (x1)] M (fun v M => v = (some (.int out.1)) ∧ Rep E ad out.2 M) :=
  Ct.of (own := RX12) (ini := false) (L := [some (.int (x0)), some (.int (x1))]) rfl rfl (fun h => by cases h) rfl (Nat.le_of_ble_eq_true rfl) rfl (fun X _ => S_X12_up_0 (fun M hR => ⟨rfl, hR⟩) hR h)
theorem S_X12_neededBy_212 {E : EN} {X : CX} {P : Option Value → MH → Prop} {ad : AD} {fu : Nat} {out : Int32 × St} (hp : ∀ M, Rep E ad out.2 M → P (some (.int out.1)) M) {V : St} {M : MH} {s0 : Int32} {d0 : Option Value} {d1 : Option Value} {d2 : Option Value} {d3 : Option Value} {d4 : Option Value} {d5 : Option Value} {d6 : Option Value} {d7 : Option Value} {d8 : Option Value} {d9 : Option Value} (hR : Rep E ad V M) (h : F_X12_neededBy_212 fu V s0 = some out) : G E X RX12 cX12_neededBy 10 (some .int) false (rmD 2) P M [d0, d1, d2, d3, d4, d5, d6, d7, d8, d9] 0 0 212 [.int (s0)] := by
  unfold F_X12_neededBy_212 at h
  cases h
  exact r_iret DX12_neededBy_212 rfl ⟨Nat.le_refl 0, Nat.le_refl 0⟩ (hp M hR)
theorem S_X12_neededBy_199 {E : EN} {X : CX} {P : Option Value → MH → Prop} {ad : AD} {fu : Nat} {out : Int32 × St} (hp : ∀ M, Rep E ad out.2 M → P (some (.int out.1)) M) {V : St} {M : MH} {x5 : Int32} {x6 : Int32} {d0 : Option Value} {d1 : Option Value} {d2 : Option Value} {d3 : Option Value} {d4 : Option Value} {d7 : Option Value} {d8 : Option Value} {d9 : Option Value} (hR : Rep E ad V M) (h : F_X12_neededBy_199 fu V x5 x6 = some out) : G E X RX12 cX12_neededBy 10 (some .int) false (rmD 2) P M [d0, d1, d2, d3, d4, some (.int (x5)), some (.int (x6)), d7, d8, d9] 0 0 199 [] := by
  unfold F_X12_neededBy_199 at h
  refine r_iload DX12_neededBy_199 rfl ?_
  refine r_iload DX12_neededBy_201 rfl ?_
  refine r_icmp_gt DX12_neededBy_203 (fun c1 => ?_) (fun c1 => ?_)
  · have h := if_t c1 h
    refine r_iconst (v := -1) DX12_neededBy_211 ki_m1 ?_
    exact S_X12_neededBy_212 hp hR h
  · have h := if_f c1 h
    refine r_iload DX12_neededBy_206 rfl ?_
    refine r_goto DX12_neededBy_208 ?_
    exact S_X12_neededBy_212 hp hR h
theorem S_X12_neededBy_170 {E : EN} {X : CX} {P : Option Value → MH → Prop} {ad : AD} {fu : Nat} {out : Int32 × St} {kh : St → Int32 → Int32 → Int32 → Int32 → Int32 → RR} {kx135 : St → RR} {kx199 : St → Int32 → Int32 → RR} (hkh : ∀ {V : St} {M : MH} {x2 : Int32} {x4 : Int32} {x5 : Int32} {x6 : Int32} {x7 : Int32} {d1 : Option Value} {d3 : Option Value} {d8 : Option Value} {d9 : Option Value}, Rep E ad V M → kh V x2 x4 x5 x6 x7 = some out → G E X RX12 cX12_neededBy 10 (some .int) false (rmD 2) P M [some (.ref (ad 2200 0)), d1, some (.int (x2)), d3, some (.int (x4)), some (.int (x5)), some (.int (x6)), some (.int (x7)), d8, d9] 0 0 56 []) (hkx135 : ∀ {V : St} {M : MH} {d0 : Option Value} {d1 : Option Value} {d2 : Option Value} {d3 : Option Value} {d4 : Option Value} {d5 : Option Value} {d6 : Option Value} {d7 : Option Value} {d8 : Option Value} {d9 : Option Value}, Rep E ad V M → kx135 V  = some out → G E X RX12 cX12_neededBy 10 (some .int) false (rmD 2) P M [d0, d1, d2, d3, d4, d5, d6, d7, d8, d9] 0 0 135 []) (hkx199 : ∀ {V : St} {M : MH} {x5 : Int32} {x6 : Int32} {d0 : Option Value} {d1 : Option Value} {d2 : Option Value} {d3 : Option Value} {d4 : Option Value} {d7 : Option Value} {d8 : Option Value} {d9 : Option Value}, Rep E ad V M → kx199 V x5 x6 = some out → G E X RX12 cX12_neededBy 10 (some .int) false (rmD 2) P M [d0, d1, d2, d3, d4, some (.int (x5)), some (.int (x6)), d7, d8, d9] 0 0 199 []) (hp : ∀ M, Rep E ad out.2 M → P (some (.int out.1)) M) {V : St} {M : MH} {x2 : Int32} {x4 : Int32} {x5 : Int32} {x6 : Int32} {x7 : Int32} {x8 : Int32} {s0 : Int32} {d1 : Option Value} {d3 : Option Value} {d9 : Option Value} (hR : Rep E ad V M) (h : F_X12_neededBy_170 kh kx135 kx199 fu V x2 x4 x5 x6 x7 x8 s0 = some out) : G E X RX12 cX12_neededBy 10 (some .int) false (rmD 2) P M [some (.ref (ad 2200 0)), d1, some (.int (x2)), d3, some (.int (x4)), some (.int (x5)), some (.int (x6)), some (.int (x7)), some (.int (x8)), d9] 0 0 170 [.int (s0)] := by
  unfold F_X12_neededBy_170 at h
  refine t_istore (L' := [some (.ref (ad 2200 0)), d1, some (.int (x2)), d3, some (.int (x4)), some (.int (x5)), some (.int (x6)), some (.int (x7)), some (.int (x8)), some (.int (s0))]) DX12_neededBy_170 (by decide) rfl ?_
  refine r_iload DX12_neededBy_172 rfl ?_
  refine r_iload DX12_neededBy_174 rfl ?_
  refine r_isub DX12_neededBy_176 ?_
  refine t_istore (L' := [some (.ref (ad 2200 0)), d1, some (.int (x2)), d3, some (.int (x4 - s0)), some (.int (x5)), some (.int (x6)), some (.int (x7)), some (.int (x8)), some (.int (s0))]) DX12_neededBy_177 (by decide) rfl ?_
  refine r_iload DX12_neededBy_179 rfl ?_
  refine r_iload DX12_neededBy_181 rfl ?_
  refine r_aload_n DX12_neededBy_183 rfl ?_
  refine s_geta DX12_neededBy_184 fl_X12_100 hR ct_2200 (one_cnt _) rfl ?_
  refine r_iload DX12_neededBy_187 rfl ?_
  obtain ⟨hg1, h⟩ := gd_inv h
  refine s_iald DX12_neededBy_189 hR ct_2236 (one_cnt _) hg1 ?_
  obtain ⟨r2, V3, hc4, h⟩ := bd_inv h
  refine k_callS (As := [.int (s0), .int ((V 2236 (0) (x8).toNatClampNeg))]) (rest := [.int (x5)]) (st1 := [.int (r2), .int (x5)]) (w := some (.int r2)) DX12_neededBy_190 cs_X12_437 (C_X12_up (out := (r2, V3)) (cxL X) hR hc4) rfl (by decide) (by decide) rfl (Nat.le_of_ble_eq_true rfl) rfl (fun M hR => ?_)
  refine r_iadd DX12_neededBy_193 ?_
  refine t_istore (L' := [some (.ref (ad 2200 0)), d1, some (.int (x2)), d3, some (.int (x4 - s0)), some (.int (x5 + r2)), some (.int (x6)), some (.int (x7)), some (.int (x8)), some (.int (s0))]) DX12_neededBy_194 (by decide) rfl ?_
  refine r_goto DX12_neededBy_196 ?_
  exact hkh hR h
theorem S_X12_neededBy_135 {E : EN} {X : CX} {P : Option Value → MH → Prop} {ad : AD} {fu : Nat} {out : Int32 × St} (hp : ∀ M, Rep E ad out.2 M → P (some (.int out.1)) M) {V : St} {M : MH} {d0 : Option Value} {d1 : Option Value} {d2 : Option Value} {d3 : Option Value} {d4 : Option Value} {d5 : Option Value} {d6 : Option Value} {d7 : Option Value} {d8 : Option Value} {d9 : Option Value} (hR : Rep E ad V M) (h : F_X12_neededBy_135 fu V = some out) : G E X RX12 cX12_neededBy 10 (some .int) false (rmD 2) P M [d0, d1, d2, d3, d4, d5, d6, d7, d8, d9] 0 0 135 [] := by
  unfold F_X12_neededBy_135 at h
  refine r_iconst (v := -1) DX12_neededBy_135 ki_m1 ?_
  cases h
  exact r_iret DX12_neededBy_136 rfl ⟨Nat.le_refl 0, Nat.le_refl 0⟩ (hp M hR)
theorem S_X12_neededBy_129 {E : EN} {X : CX} {P : Option Value → MH → Prop} {ad : AD} {fu : Nat} {out : Int32 × St} {kh : St → Int32 → Int32 → Int32 → Int32 → Int32 → RR} {kx135 : St → RR} {kx199 : St → Int32 → Int32 → RR} (hkh : ∀ {V : St} {M : MH} {x2 : Int32} {x4 : Int32} {x5 : Int32} {x6 : Int32} {x7 : Int32} {d1 : Option Value} {d3 : Option Value} {d8 : Option Value} {d9 : Option Value}, Rep E ad V M → kh V x2 x4 x5 x6 x7 = some out → G E X RX12 cX12_neededBy 10 (some .int) false (rmD 2) P M [some (.ref (ad 2200 0)), d1, some (.int (x2)), d3, some (.int (x4)), some (.int (x5)), some (.int (x6)), some (.int (x7)), d8, d9] 0 0 56 []) (hkx135 : ∀ {V : St} {M : MH} {d0 : Option Value} {d1 : Option Value} {d2 : Option Value} {d3 : Option Value} {d4 : Option Value} {d5 : Option Value} {d6 : Option Value} {d7 : Option Value} {d8 : Option Value} {d9 : Option Value}, Rep E ad V M → kx135 V  = some out → G E X RX12 cX12_neededBy 10 (some .int) false (rmD 2) P M [d0, d1, d2, d3, d4, d5, d6, d7, d8, d9] 0 0 135 []) (hkx199 : ∀ {V : St} {M : MH} {x5 : Int32} {x6 : Int32} {d0 : Option Value} {d1 : Option Value} {d2 : Option Value} {d3 : Option Value} {d4 : Option Value} {d7 : Option Value} {d8 : Option Value} {d9 : Option Value}, Rep E ad V M → kx199 V x5 x6 = some out → G E X RX12 cX12_neededBy 10 (some .int) false (rmD 2) P M [d0, d1, d2, d3, d4, some (.int (x5)), some (.int (x6)), d7, d8, d9] 0 0 199 []) (hp : ∀ M, Rep E ad out.2 M → P (some (.int out.1)) M) {V : St} {M : MH} {x2 : Int32} {x4 : Int32} {x5 : Int32} {x6 : Int32} {x7 : Int32} {x8 : Int32} {d1 : Option Value} {d3 : Option Value} {d9 : Option Value} (hR : Rep E ad V M) (h : F_X12_neededBy_129 kh kx135 kx199 fu V x2 x4 x5 x6 x7 x8 = some out) : G E X RX12 cX12_neededBy 10 (some .int) false (rmD 2) P M [some (.ref (ad 2200 0)), d1, some (.int (x2)), d3, some (.int (x4)), some (.int (x5)), some (.int (x6)), some (.int (x7)), some (.int (x8)), d9] 0 0 129 [] := by
  unfold F_X12_neededBy_129 at h
  refine r_iload DX12_neededBy_129 rfl ?_
  refine r_iconst (v := -1) DX12_neededBy_131 ki_m1 ?_
  refine r_icmp_ne DX12_neededBy_132 (fun c1 => ?_) (fun c1 => ?_)
  · have h := if_f c1 h
    refine r_iload DX12_neededBy_137 rfl ?_
    refine r_iconst (v := 1) DX12_neededBy_139 ki_1 ?_
    refine r_iload DX12_neededBy_140 rfl ?_
    refine r_ishl DX12_neededBy_142 ?_
    refine r_ior DX12_neededBy_143 ?_
    refine t_istore (L' := [some (.ref (ad 2200 0)), d1, some (.int (x2)), d3, some (.int (x4)), some (.int (x5)), some (.int (x6)), some (.int (x7 ||| ((1 : Int32) <<< (x8 &&& 31)))), some (.int (x8)), d9]) DX12_neededBy_144 (by decide) rfl ?_
    refine r_iload DX12_neededBy_146 rfl ?_
    refine r_aload_n DX12_neededBy_148 rfl ?_
    refine s_geta DX12_neededBy_149 fl_X12_94 hR ct_2200 (one_cnt _) rfl ?_
    refine r_iload DX12_neededBy_152 rfl ?_
    obtain ⟨hg2, h⟩ := gd_inv h
    refine s_iald DX12_neededBy_154 hR ct_2234 (one_cnt _) hg2 ?_
    refine r_icmp_ge DX12_neededBy_155 (fun c3 => ?_) (fun c3 => ?_)
    · have h := if_t c3 h
      refine r_aload_n DX12_neededBy_163 rfl ?_
      refine s_geta DX12_neededBy_164 fl_X12_94 hR ct_2200 (one_cnt _) rfl ?_
      refine r_iload DX12_neededBy_167 rfl ?_
      obtain ⟨hg4, h⟩ := gd_inv h
      refine s_iald DX12_neededBy_169 hR ct_2234 (one_cnt _) hg4 ?_
      exact S_X12_neededBy_170 (fun hR h => hkh hR h) (fun hR h => hkx135 hR h) (fun hR h => hkx199 hR h) hp hR h
    · have h := if_f c3 h
      refine r_iload DX12_neededBy_158 rfl ?_
      refine r_goto DX12_neededBy_160 ?_
      exact S_X12_neededBy_170 (fun hR h => hkh hR h) (fun hR h => hkx135 hR h) (fun hR h => hkx199 hR h) hp hR h
  · have h := if_t c1 h
    exact hkx135 hR h
theorem S_X12_neededBy_123 {E : EN} {X : CX} {P : Option Value → MH → Prop} {ad : AD} {fu : Nat} {out : Int32 × St} {kh : St → Int32 → Int32 → Int32 → Int32 → Int32 → Int32 → Int32 → RR} {kx129 : St → Int32 → Int32 → Int32 → Int32 → Int32 → Int32 → RR} (hkh : ∀ {V : St} {M : MH} {x2 : Int32} {x4 : Int32} {x5 : Int32} {x6 : Int32} {x7 : Int32} {x8 : Int32} {x9 : Int32} {d1 : Option Value} {d3 : Option Value}, Rep E ad V M → kh V x2 x4 x5 x6 x7 x8 x9 = some out → G E X RX12 cX12_neededBy 10 (some .int) false (rmD 2) P M [some (.ref (ad 2200 0)), d1, some (.int (x2)), d3, some (.int (x4)), some (.int (x5)), some (.int (x6)), some (.int (x7)), some (.int (x8)), some (.int (x9))] 0 0 67 []) (hkx129 : ∀ {V : St} {M : MH} {x2 : Int32} {x4 : Int32} {x5 : Int32} {x6 : Int32} {x7 : Int32} {x8 : Int32} {d1 : Option Value} {d3 : Option Value} {d9 : Option Value}, Rep E ad V M → kx129 V x2 x4 x5 x6 x7 x8 = some out → G E X RX12 cX12_neededBy 10 (some .int) false (rmD 2) P M [some (.ref (ad 2200 0)), d1, some (.int (x2)), d3, some (.int (x4)), some (.int (x5)), some (.int (x6)), some (.int (x7)), some (.int (x8)), d9] 0 0 129 []) (hp : ∀ M, Rep E ad out.2 M → P (some (.int out.1)) M) {V : St} {M : MH} {x2 : Int32} {x4 : Int32} {x5 : Int32} {x6 : Int32} {x7 : Int32} {x8 : Int32} {x9 : Int32} {d1 : Option Value} {d3 : Option Value} (hR : Rep E ad V M) (h : F_X12_neededBy_123 kh kx129 fu V x2 x4 x5 x6 x7 x8 x9 = some out) : G E X RX12 cX12_neededBy 10 (some .int) false (rmD 2) P M [some (.ref (ad 2200 0)), d1, some (.int (x2)), d3, some (.int (x4)), some (.int (x5)), some (.int (x6)), some (.int (x7)), some (.int (x8)), some (.int (x9))] 0 0 123 [] := by
  unfold F_X12_neededBy_123 at h
  refine t_iinc (v := 1) (L' := [some (.ref (ad 2200 0)), d1, some (.int (x2)), d3, some (.int (x4)), some (.int (x5)), some (.int (x6)), some (.int (x7)), some (.int (x8)), some (.int (x9 + 1))]) DX12_neededBy_123 rfl ki_1 (by decide) rfl ?_
  refine r_goto DX12_neededBy_126 ?_
  exact hkh hR h
theorem S_X12_neededBy_119 {E : EN} {X : CX} {P : Option Value → MH → Prop} {ad : AD} {fu : Nat} {out : Int32 × St} {kh : St → Int32 → Int32 → Int32 → Int32 → Int32 → Int32 → Int32 → RR} {kx129 : St → Int32 → Int32 → Int32 → Int32 → Int32 → Int32 → RR} (hkh : ∀ {V : St} {M : MH} {x2 : Int32} {x4 : Int32} {x5 : Int32} {x6 : Int32} {x7 : Int32} {x8 : Int32} {x9 : Int32} {d1 : Option Value} {d3 : Option Value}, Rep E ad V M → kh V x2 x4 x5 x6 x7 x8 x9 = some out → G E X RX12 cX12_neededBy 10 (some .int) false (rmD 2) P M [some (.ref (ad 2200 0)), d1, some (.int (x2)), d3, some (.int (x4)), some (.int (x5)), some (.int (x6)), some (.int (x7)), some (.int (x8)), some (.int (x9))] 0 0 67 []) (hkx129 : ∀ {V : St} {M : MH} {x2 : Int32} {x4 : Int32} {x5 : Int32} {x6 : Int32} {x7 : Int32} {x8 : Int32} {d1 : Option Value} {d3 : Option Value} {d9 : Option Value}, Rep E ad V M → kx129 V x2 x4 x5 x6 x7 x8 = some out → G E X RX12 cX12_neededBy 10 (some .int) false (rmD 2) P M [some (.ref (ad 2200 0)), d1, some (.int (x2)), d3, some (.int (x4)), some (.int (x5)), some (.int (x6)), some (.int (x7)), some (.int (x8)), d9] 0 0 129 []) (hp : ∀ M, Rep E ad out.2 M → P (some (.int out.1)) M) {V : St} {M : MH} {x2 : Int32} {x4 : Int32} {x5 : Int32} {x6 : Int32} {x7 : Int32} {x9 : Int32} {d1 : Option Value} {d3 : Option Value} {d8 : Option Value} (hR : Rep E ad V M) (h : F_X12_neededBy_119 kh kx129 fu V x2 x4 x5 x6 x7 x9 = some out) : G E X RX12 cX12_neededBy 10 (some .int) false (rmD 2) P M [some (.ref (ad 2200 0)), d1, some (.int (x2)), d3, some (.int (x4)), some (.int (x5)), some (.int (x6)), some (.int (x7)), d8, some (.int (x9))] 0 0 119 [] := by
  unfold F_X12_neededBy_119 at h
  refine r_iload DX12_neededBy_119 rfl ?_
  refine t_istore (L' := [some (.ref (ad 2200 0)), d1, some (.int (x2)), d3, some (.int (x4)), some (.int (x5)), some (.int (x6)), some (.int (x7)), some (.int (x9)), some (.int (x9))]) DX12_neededBy_121 (by decide) rfl ?_
  exact S_X12_neededBy_123 (fun hR h => hkh hR h) (fun hR h => hkx129 hR h) hp hR h
theorem S_X12_neededBy_67 {E : EN} {X : CX} {P : Option Value → MH → Prop} {ad : AD} {fu : Nat} {out : Int32 × St} {kh : St → Int32 → Int32 → Int32 → Int32 → Int32 → Int32 → Int32 → RR} {kx129 : St → Int32 → Int32 → Int32 → Int32 → Int32 → Int32 → RR} (hkh : ∀ {V : St} {M : MH} {x2 : Int32} {x4 : Int32} {x5 : Int32} {x6 : Int32} {x7 : Int32} {x8 : Int32} {x9 : Int32} {d1 : Option Value} {d3 : Option Value}, Rep E ad V M → kh V x2 x4 x5 x6 x7 x8 x9 = some out → G E X RX12 cX12_neededBy 10 (some .int) false (rmD 2) P M [some (.ref (ad 2200 0)), d1, some (.int (x2)), d3, some (.int (x4)), some (.int (x5)), some (.int (x6)), some (.int (x7)), some (.int (x8)), some (.int (x9))] 0 0 67 []) (hkx129 : ∀ {V : St} {M : MH} {x2 : Int32} {x4 : Int32} {x5 : Int32} {x6 : Int32} {x7 : Int32} {x8 : Int32} {d1 : Option Value} {d3 : Option Value} {d9 : Option Value}, Rep E ad V M → kx129 V x2 x4 x5 x6 x7 x8 = some out → G E X RX12 cX12_neededBy 10 (some .int) false (rmD 2) P M [some (.ref (ad 2200 0)), d1, some (.int (x2)), d3, some (.int (x4)), some (.int (x5)), some (.int (x6)), some (.int (x7)), some (.int (x8)), d9] 0 0 129 []) (hp : ∀ M, Rep E ad out.2 M → P (some (.int out.1)) M) {V : St} {M : MH} {x2 : Int32} {x4 : Int32} {x5 : Int32} {x6 : Int32} {x7 : Int32} {x8 : Int32} {x9 : Int32} {d1 : Option Value} {d3 : Option Value} (hR : Rep E ad V M) (h : F_X12_neededBy_67 kh kx129 fu V x2 x4 x5 x6 x7 x8 x9 = some out) : G E X RX12 cX12_neededBy 10 (some .int) false (rmD 2) P M [some (.ref (ad 2200 0)), d1, some (.int (x2)), d3, some (.int (x4)), some (.int (x5)), some (.int (x6)), some (.int (x7)), some (.int (x8)), some (.int (x9))] 0 0 67 [] := by
  unfold F_X12_neededBy_67 at h
  refine r_iload DX12_neededBy_67 rfl ?_
  refine r_aload_n DX12_neededBy_69 rfl ?_
  refine s_geti DX12_neededBy_70 fl_X12_291 hR ct_2200 (one_cnt _) rfl ?_
  refine r_icmp_ge DX12_neededBy_73 (fun c1 => ?_) (fun c1 => ?_)
  · have h := if_t c1 h
    exact hkx129 hR h
  · have h := if_f c1 h
    refine r_iload_n DX12_neededBy_76 rfl ?_
    refine r_iload DX12_neededBy_77 rfl ?_
    refine r_ishr DX12_neededBy_79 ?_
    refine r_iconst (v := 1) DX12_neededBy_80 ki_1 ?_
    refine r_iand DX12_neededBy_81 ?_
    refine r_iconst (v := 1) DX12_neededBy_82 ki_1 ?_
    refine r_icmp_ne DX12_neededBy_83 (fun c2 => ?_) (fun c2 => ?_)
    · have h := if_f c2 h
      exact S_X12_neededBy_123 (fun hR h => hkh hR h) (fun hR h => hkx129 hR h) hp hR h
    · have h := if_t c2 h
      refine r_iload DX12_neededBy_86 rfl ?_
      refine r_iload DX12_neededBy_88 rfl ?_
      refine r_ishr DX12_neededBy_90 ?_
      refine r_iconst (v := 1) DX12_neededBy_91 ki_1 ?_
      refine r_iand DX12_neededBy_92 ?_
      refine r_if_ne DX12_neededBy_93 (fun c3 => ?_) (fun c3 => ?_)
      · have h := if_f c3 h
        exact S_X12_neededBy_123 (fun hR h => hkh hR h) (fun hR h => hkx129 hR h) hp hR h
      · have h := if_t c3 h
        refine r_iload DX12_neededBy_96 rfl ?_
        refine r_iconst (v := -1) DX12_neededBy_98 ki_m1 ?_
        refine r_icmp_eq DX12_neededBy_99 (fun c4 => ?_) (fun c4 => ?_)
        · have h := if_t c4 h
          exact S_X12_neededBy_119 (fun hR h => hkh hR h) (fun hR h => hkx129 hR h) hp hR h
        · have h := if_f c4 h
          refine r_aload_n DX12_neededBy_102 rfl ?_
          refine s_geta DX12_neededBy_103 fl_X12_100 hR ct_2200 (one_cnt _) rfl ?_
          refine r_iload DX12_neededBy_106 rfl ?_
          obtain ⟨hg5, h⟩ := gd_inv h
          refine s_iald DX12_neededBy_108 hR ct_2236 (one_cnt _) hg5 ?_
          refine r_aload_n DX12_neededBy_109 rfl ?_
          refine s_geta DX12_neededBy_110 fl_X12_100 hR ct_2200 (one_cnt _) rfl ?_
          refine r_iload DX12_neededBy_113 rfl ?_
          obtain ⟨hg6, h⟩ := gd_inv h
          refine s_iald DX12_neededBy_115 hR ct_2236 (one_cnt _) hg6 ?_
          refine r_icmp_le DX12_neededBy_116 (fun c7 => ?_) (fun c7 => ?_)
          · have h := if_t c7 h
            exact S_X12_neededBy_123 (fun hR h => hkh hR h) (fun hR h => hkx129 hR h) hp hR h
          · have h := if_f c7 h
            exact S_X12_neededBy_119 (fun hR h => hkh hR h) (fun hR h => hkx129 hR h) hp hR h
theorem SL_X12_neededBy_67 {E : EN} {X : CX} {P : Option Value → MH → Prop} {ad : AD} {fu : Nat} {out : Int32 × St} {kx129 : St → Int32 → Int32 → Int32 → Int32 → Int32 → Int32 → RR} (hkx129 : ∀ {V : St} {M : MH} {x2 : Int32} {x4 : Int32} {x5 : Int32} {x6 : Int32} {x7 : Int32} {x8 : Int32} {d1 : Option Value} {d3 : Option Value} {d9 : Option Value}, Rep E ad V M → kx129 V x2 x4 x5 x6 x7 x8 = some out → G E X RX12 cX12_neededBy 10 (some .int) false (rmD 2) P M [some (.ref (ad 2200 0)), d1, some (.int (x2)), d3, some (.int (x4)), some (.int (x5)), some (.int (x6)), some (.int (x7)), some (.int (x8)), d9] 0 0 129 []) (hp : ∀ M, Rep E ad out.2 M → P (some (.int out.1)) M) : ∀ (n : Nat) {V : St} {M : MH} {x2 : Int32} {x4 : Int32} {x5 : Int32} {x6 : Int32} {x7 : Int32} {x8 : Int32} {x9 : Int32} {d1 : Option Value} {d3 : Option Value}, Rep E ad V M → Lp_X12_neededBy_67 kx129 fu n V x2 x4 x5 x6 x7 x8 x9 = some out → G E X RX12 cX12_neededBy 10 (some .int) false (rmD 2) P M [some (.ref (ad 2200 0)), d1, some (.int (x2)), d3, some (.int (x4)), some (.int (x5)), some (.int (x6)), some (.int (x7)), some (.int (x8)), some (.int (x9))] 0 0 67 [] := by
  intro n
  induction n with
  | zero => intros; rename_i h; cases h
  | succ n ih => exact fun hR h => S_X12_neededBy_67 (fun hR h => ih hR h) (fun hR h => hkx129 hR h) hp hR h
theorem S_X12_neededBy_56 {E : EN} {X : CX} {P : Option Value → MH → Prop} {ad : AD} {fu : Nat} {out : Int32 × St} {kh : St → Int32 → Int32 → Int32 → Int32 → Int32 → RR} {kx135 : St → RR} {kx199 : St → Int32 → Int32 → RR} (hkh : ∀ {V : St} {M : MH} {x2 : Int32} {x4 : Int32} {x5 : Int32} {x6 : Int32} {x7 : Int32} {d1 : Option Value} {d3 : Option Value} {d8 : Option Value} {d9 : Option Value}, Rep E ad V M → kh V x2 x4 x5 x6 x7 = some out → G E X RX12 cX12_neededBy 10 (some .int) false (rmD 2) P M [some (.ref (ad 2200 0)), d1, some (.int (x2)), d3, some (.int (x4)), some (.int (x5)), some (.int (x6)), some (.int (x7)), d8, d9] 0 0 56 []) (hkx135 : ∀ {V : St} {M : MH} {d0 : Option Value} {d1 : Option Value} {d2 : Option Value} {d3 : Option Value} {d4 : Option Value} {d5 : Option Value} {d6 : Option Value} {d7 : Option Value} {d8 : Option Value} {d9 : Option Value}, Rep E ad V M → kx135 V  = some out → G E X RX12 cX12_neededBy 10 (some .int) false (rmD 2) P M [d0, d1, d2, d3, d4, d5, d6, d7, d8, d9] 0 0 135 []) (hkx199 : ∀ {V : St} {M : MH} {x5 : Int32} {x6 : Int32} {d0 : Option Value} {d1 : Option Value} {d2 : Option Value} {d3 : Option Value} {d4 : Option Value} {d7 : Option Value} {d8 : Option Value} {d9 : Option Value}, Rep E ad V M → kx199 V x5 x6 = some out → G E X RX12 cX12_neededBy 10 (some .int) false (rmD 2) P M [d0, d1, d2, d3, d4, some (.int (x5)), some (.int (x6)), d7, d8, d9] 0 0 199 []) (hp : ∀ M, Rep E ad out.2 M → P (some (.int out.1)) M) {V : St} {M : MH} {x2 : Int32} {x4 : Int32} {x5 : Int32} {x6 : Int32} {x7 : Int32} {d1 : Option Value} {d3 : Option Value} {d8 : Option Value} {d9 : Option Value} (hR : Rep E ad V M) (h : F_X12_neededBy_56 kh kx135 kx199 fu V x2 x4 x5 x6 x7 = some out) : G E X RX12 cX12_neededBy 10 (some .int) false (rmD 2) P M [some (.ref (ad 2200 0)), d1, some (.int (x2)), d3, some (.int (x4)), some (.int (x5)), some (.int (x6)), some (.int (x7)), d8, d9] 0 0 56 [] := by
  unfold F_X12_neededBy_56 at h
  refine r_iload DX12_neededBy_56 rfl ?_
  refine r_if_le DX12_neededBy_58 (fun c1 => ?_) (fun c1 => ?_)
  · have h := if_t c1 h
    exact hkx199 hR h
  · have h := if_f c1 h
    refine r_iconst (v := -1) DX12_neededBy_61 ki_m1 ?_
    refine t_istore (L' := [some (.ref (ad 2200 0)), d1, some (.int (x2)), d3, some (.int (x4)), some (.int (x5)), some (.int (x6)), some (.int (x7)), some (.int ((-1 : Int32))), d9]) DX12_neededBy_62 (by decide) rfl ?_
    refine r_iconst (v := 0) DX12_neededBy_64 ki_0 ?_
    refine t_istore (L' := [some (.ref (ad 2200 0)), d1, some (.int (x2)), d3, some (.int (x4)), some (.int (x5)), some (.int (x6)), some (.int (x7)), some (.int ((-1 : Int32))), some (.int ((0 : Int32)))]) DX12_neededBy_65 (by decide) rfl ?_
    exact SL_X12_neededBy_67 (fun hR h => S_X12_neededBy_129 (fun hR h => hkh hR h) (fun hR h => hkx135 hR h) (fun hR h => hkx199 hR h) hp hR h) hp fu hR h
theorem SL_X12_neededBy_56 {E : EN} {X : CX} {P : Option Value → MH → Prop} {ad : AD} {fu : Nat} {out : Int32 × St} {kx135 : St → RR} {kx199 : St → Int32 → Int32 → RR} (hkx135 : ∀ {V : St} {M : MH} {d0 : Option Value} {d1 : Option Value} {d2 : Option Value} {d3 : Option Value} {d4 : Option Value} {d5 : Option Value} {d6 : Option Value} {d7 : Option Value} {d8 : Option Value} {d9 : Option Value}, Rep E ad V M → kx135 V  = some out → G E X RX12 cX12_neededBy 10 (some .int) false (rmD 2) P M [d0, d1, d2, d3, d4, d5, d6, d7, d8, d9] 0 0 135 []) (hkx199 : ∀ {V : St} {M : MH} {x5 : Int32} {x6 : Int32} {d0 : Option Value} {d1 : Option Value} {d2 : Option Value} {d3 : Option Value} {d4 : Option Value} {d7 : Option Value} {d8 : Option Value} {d9 : Option Value}, Rep E ad V M → kx199 V x5 x6 = some out → G E X RX12 cX12_neededBy 10 (some .int) false (rmD 2) P M [d0, d1, d2, d3, d4, some (.int (x5)), some (.int (x6)), d7, d8, d9] 0 0 199 []) (hp : ∀ M, Rep E ad out.2 M → P (some (.int out.1)) M) : ∀ (n : Nat) {V : St} {M : MH} {x2 : Int32} {x4 : Int32} {x5 : Int32} {x6 : Int32} {x7 : Int32} {d1 : Option Value} {d3 : Option Value} {d8 : Option Value} {d9 : Option Value}, Rep E ad V M → Lp_X12_neededBy_56 kx135 kx199 fu n V x2 x4 x5 x6 x7 = some out → G E X RX12 cX12_neededBy 10 (some .int) false (rmD 2) P M [some (.ref (ad 2200 0)), d1, some (.int (x2)), d3, some (.int (x4)), some (.int (x5)), some (.int (x6)), some (.int (x7)), d8, d9] 0 0 56 [] := by
  intro n
  induction n with
  | zero => intros; rename_i h; cases h
  | succ n ih => exact fun hR h => S_X12_neededBy_56 (fun hR h => ih hR h) (fun hR h => hkx135 hR h) (fun hR h => hkx199 hR h) hp hR h
theorem S_X12_neededBy_53 {E : EN} {X : CX} {P : Option Value → MH → Prop} {ad : AD} {fu : Nat} {out : Int32 × St} (hp : ∀ M, Rep E ad out.2 M → P (some (.int out.1)) M) {V : St} {M : MH} {x2 : Int32} {x4 : Int32} {x5 : Int32} {x6 : Int32} {d1 : Option Value} {d3 : Option Value} {d7 : Option Value} {d8 : Option Value} {d9 : Option Value} (hR : Rep E ad V M) (h : F_X12_neededBy_53 fu V x2 x4 x5 x6 = some out) : G E X RX12 cX12_neededBy 10 (some .int) false (rmD 2) P M [some (.ref (ad 2200 0)), d1, some (.int (x2)), d3, some (.int (x4)), some (.int (x5)), some (.int (x6)), d7, d8, d9] 0 0 53 [] := by
  unfold F_X12_neededBy_53 at h
  refine r_iconst (v := 0) DX12_neededBy_53 ki_0 ?_
  refine t_istore (L' := [some (.ref (ad 2200 0)), d1, some (.int (x2)), d3, some (.int (x4)), some (.int (x5)), some (.int (x6)), some (.int ((0 : Int32))), d8, d9]) DX12_neededBy_54 (by decide) rfl ?_
  exact SL_X12_neededBy_56 (fun hR h => S_X12_neededBy_135 hp hR h) (fun hR h => S_X12_neededBy_199 hp hR h) hp fu hR h
theorem S_X12_neededBy_44 {E : EN} {X : CX} {P : Option Value → MH → Prop} {ad : AD} {fu : Nat} {out : Int32 × St} {kh : St → Int32 → Int32 → Int32 → Int32 → Int32 → Int32 → RR} {kx53 : St → Int32 → Int32 → Int32 → Int32 → RR} (hkh : ∀ {V : St} {M : MH} {x1 : Int32} {x2 : Int32} {x4 : Int32} {x5 : Int32} {x6 : Int32} {x7 : Int32} {d3 : Option Value} {d8 : Option Value} {d9 : Option Value}, Rep E ad V M → kh V x1 x2 x4 x5 x6 x7 = some out → G E X RX12 cX12_neededBy 10 (some .int) false (rmD 2) P M [some (.ref (ad 2200 0)), some (.int (x1)), some (.int (x2)), d3, some (.int (x4)), some (.int (x5)), some (.int (x6)), some (.int (x7)), d8, d9] 0 0 12 []) (hkx53 : ∀ {V : St} {M : MH} {x2 : Int32} {x4 : Int32} {x5 : Int32} {x6 : Int32} {d1 : Option Value} {d3 : Option Value} {d7 : Option Value} {d8 : Option Value} {d9 : Option Value}, Rep E ad V M → kx53 V x2 x4 x5 x6 = some out → G E X RX12 cX12_neededBy 10 (some .int) false (rmD 2) P M [some (.ref (ad 2200 0)), d1, some (.int (x2)), d3, some (.int (x4)), some (.int (x5)), some (.int (x6)), d7, d8, d9] 0 0 53 []) (hp : ∀ M, Rep E ad out.2 M → P (some (.int out.1)) M) {V : St} {M : MH} {x1 : Int32} {x2 : Int32} {x4 : Int32} {x5 : Int32} {x7 : Int32} {s0 : Int32} {s1 : Int32} {d3 : Option Value} {d6 : Option Value} {d8 : Option Value} {d9 : Option Value} (hR : Rep E ad V M) (h : F_X12_neededBy_44 kh kx53 fu V x1 x2 x4 x5 x7 s0 s1 = some out) : G E X RX12 cX12_neededBy 10 (some .int) false (rmD 2) P M [some (.ref (ad 2200 0)), some (.int (x1)), some (.int (x2)), d3, some (.int (x4)), some (.int (x5)), d6, some (.int (x7)), d8, d9] 0 0 44 [.int (s0), .int (s1)] := by
  unfold F_X12_neededBy_44 at h
  refine r_iadd DX12_neededBy_44 ?_
  refine t_istore (L' := [some (.ref (ad 2200 0)), some (.int (x1)), some (.int (x2)), d3, some (.int (x4)), some (.int (x5)), some (.int (s1 + s0)), some (.int (x7)), d8, d9]) DX12_neededBy_45 (by decide) rfl ?_
  refine t_iinc (v := 1) (L' := [some (.ref (ad 2200 0)), some (.int (x1)), some (.int (x2)), d3, some (.int (x4)), some (.int (x5)), some (.int (s1 + s0)), some (.int (x7 + 1)), d8, d9]) DX12_neededBy_47 rfl ki_1 (by decide) rfl ?_
  refine r_goto DX12_neededBy_50 ?_
  exact hkh hR h
theorem S_X12_neededBy_12 {E : EN} {X : CX} {P : Option Value → MH → Prop} {ad : AD} {fu : Nat} {out : Int32 × St} {kh : St → Int32 → Int32 → Int32 → Int32 → Int32 → Int32 → RR} {kx53 : St → Int32 → Int32 → Int32 → Int32 → RR} (hkh : ∀ {V : St} {M : MH} {x1 : Int32} {x2 : Int32} {x4 : Int32} {x5 : Int32} {x6 : Int32} {x7 : Int32} {d3 : Option Value} {d8 : Option Value} {d9 : Option Value}, Rep E ad V M → kh V x1 x2 x4 x5 x6 x7 = some out → G E X RX12 cX12_neededBy 10 (some .int) false (rmD 2) P M [some (.ref (ad 2200 0)), some (.int (x1)), some (.int (x2)), d3, some (.int (x4)), some (.int (x5)), some (.int (x6)), some (.int (x7)), d8, d9] 0 0 12 []) (hkx53 : ∀ {V : St} {M : MH} {x2 : Int32} {x4 : Int32} {x5 : Int32} {x6 : Int32} {d1 : Option Value} {d3 : Option Value} {d7 : Option Value} {d8 : Option Value} {d9 : Option Value}, Rep E ad V M → kx53 V x2 x4 x5 x6 = some out → G E X RX12 cX12_neededBy 10 (some .int) false (rmD 2) P M [some (.ref (ad 2200 0)), d1, some (.int (x2)), d3, some (.int (x4)), some (.int (x5)), some (.int (x6)), d7, d8, d9] 0 0 53 []) (hp : ∀ M, Rep E ad out.2 M → P (some (.int out.1)) M) {V : St} {M : MH} {x1 : Int32} {x2 : Int32} {x4 : Int32} {x5 : Int32} {x6 : Int32} {x7 : Int32} {d3 : Option Value} {d8 : Option Value} {d9 : Option Value} (hR : Rep E ad V M) (h : F_X12_neededBy_12 kh kx53 fu V x1 x2 x4 x5 x6 x7 = some out) : G E X RX12 cX12_neededBy 10 (some .int) false (rmD 2) P M [some (.ref (ad 2200 0)), some (.int (x1)), some (.int (x2)), d3, some (.int (x4)), some (.int (x5)), some (.int (x6)), some (.int (x7)), d8, d9] 0 0 12 [] := by
  unfold F_X12_neededBy_12 at h
  refine r_iload DX12_neededBy_12 rfl ?_
  refine r_aload_n DX12_neededBy_14 rfl ?_
  refine s_geti DX12_neededBy_15 fl_X12_291 hR ct_2200 (one_cnt _) rfl ?_
  refine r_icmp_ge DX12_neededBy_18 (fun c1 => ?_) (fun c1 => ?_)
  · have h := if_t c1 h
    exact hkx53 hR h
  · have h := if_f c1 h
    refine r_iload DX12_neededBy_21 rfl ?_
    refine r_iload_n DX12_neededBy_23 rfl ?_
    refine r_iload DX12_neededBy_24 rfl ?_
    refine r_ishr DX12_neededBy_26 ?_
    refine r_iconst (v := 1) DX12_neededBy_27 ki_1 ?_
    refine r_iand DX12_neededBy_28 ?_
    refine r_iconst (v := 1) DX12_neededBy_29 ki_1 ?_
    refine r_icmp_ne DX12_neededBy_30 (fun c2 => ?_) (fun c2 => ?_)
    · have h := if_f c2 h
      refine r_iconst (v := 0) DX12_neededBy_43 ki_0 ?_
      exact S_X12_neededBy_44 (fun hR h => hkh hR h) (fun hR h => hkx53 hR h) hp hR h
    · have h := if_t c2 h
      refine r_aload_n DX12_neededBy_33 rfl ?_
      refine s_geta DX12_neededBy_34 fl_X12_97 hR ct_2200 (one_cnt _) rfl ?_
      refine r_iload DX12_neededBy_37 rfl ?_
      obtain ⟨hg3, h⟩ := gd_inv h
      refine s_iald DX12_neededBy_39 hR ct_2235 (one_cnt _) hg3 ?_
      refine r_goto DX12_neededBy_40 ?_
      exact S_X12_neededBy_44 (fun hR h => hkh hR h) (fun hR h => hkx53 hR h) hp hR h
theorem SL_X12_neededBy_12 {E : EN} {X : CX} {P : Option Value → MH → Prop} {ad : AD} {fu : Nat} {out : Int32 × St} {kx53 : St → Int32 → Int32 → Int32 → Int32 → RR} (hkx53 : ∀ {V : St} {M : MH} {x2 : Int32} {x4 : Int32} {x5 : Int32} {x6 : Int32} {d1 : Option Value} {d3 : Option Value} {d7 : Option Value} {d8 : Option Value} {d9 : Option Value}, Rep E ad V M → kx53 V x2 x4 x5 x6 = some out → G E X RX12 cX12_neededBy 10 (some .int) false (rmD 2) P M [some (.ref (ad 2200 0)), d1, some (.int (x2)), d3, some (.int (x4)), some (.int (x5)), some (.int (x6)), d7, d8, d9] 0 0 53 []) (hp : ∀ M, Rep E ad out.2 M → P (some (.int out.1)) M) : ∀ (n : Nat) {V : St} {M : MH} {x1 : Int32} {x2 : Int32} {x4 : Int32} {x5 : Int32} {x6 : Int32} {x7 : Int32} {d3 : Option Value} {d8 : Option Value} {d9 : Option Value}, Rep E ad V M → Lp_X12_neededBy_12 kx53 fu n V x1 x2 x4 x5 x6 x7 = some out → G E X RX12 cX12_neededBy 10 (some .int) false (rmD 2) P M [some (.ref (ad 2200 0)), some (.int (x1)), some (.int (x2)), d3, some (.int (x4)), some (.int (x5)), some (.int (x6)), some (.int (x7)), d8, d9] 0 0 12 [] := by
  intro n
  induction n with
  | zero => intros; rename_i h; cases h
  | succ n ih => exact fun hR h => S_X12_neededBy_12 (fun hR h => ih hR h) (fun hR h => hkx53 hR h) hp hR h
theorem S_X12_neededBy_0 {E : EN} {X : CX} {P : Option Value → MH → Prop} {ad : AD} {fu : Nat} {out : Int32 × St} (hp : ∀ M, Rep E ad out.2 M → P (some (.int out.1)) M) {V : St} {M : MH} {x1 : Int32} {x2 : Int32} {x3 : Int32} (hR : Rep E ad V M) (h : f_X12_neededBy fu V x1 x2 x3 = some out) : G E X RX12 cX12_neededBy 10 (some .int) false (rmD 2) P M [some (.ref (ad 2200 0)), some (.int (x1)), some (.int (x2)), some (.int (x3)), none, none, none, none, none, none] 0 0 0 [] := by
  unfold f_X12_neededBy at h
  refine r_iload_n DX12_neededBy_0 rfl ?_
  refine t_istore (L' := [some (.ref (ad 2200 0)), some (.int (x1)), some (.int (x2)), some (.int (x3)), some (.int (x3)), none, none, none, none, none]) DX12_neededBy_1 (by decide) rfl ?_
  refine r_iconst (v := 0) DX12_neededBy_3 ki_0 ?_
  refine t_istore (L' := [some (.ref (ad 2200 0)), some (.int (x1)), some (.int (x2)), some (.int (x3)), some (.int (x3)), some (.int ((0 : Int32))), none, none, none, none]) DX12_neededBy_4 (by decide) rfl ?_
  refine r_iconst (v := 0) DX12_neededBy_6 ki_0 ?_
  refine t_istore (L' := [some (.ref (ad 2200 0)), some (.int (x1)), some (.int (x2)), some (.int (x3)), some (.int (x3)), some (.int ((0 : Int32))), some (.int ((0 : Int32))), none, none, none]) DX12_neededBy_7 (by decide) rfl ?_
  refine r_iconst (v := 0) DX12_neededBy_9 ki_0 ?_
  refine t_istore (L' := [some (.ref (ad 2200 0)), some (.int (x1)), some (.int (x2)), some (.int (x3)), some (.int (x3)), some (.int ((0 : Int32))), some (.int ((0 : Int32))), some (.int ((0 : Int32))), none, none]) DX12_neededBy_10 (by decide) rfl ?_
  exact SL_X12_neededBy_12 (fun hR h => S_X12_neededBy_53 hp hR h) hp fu hR h
theorem C_X12_neededBy {E : EN} {ad : AD} {fu : Nat} {out : Int32 × St} {V : St} {M : MH} {x1 : Int32} {x2 : Int32} {x3 : Int32} (l : Launch) (hR : Rep E ad V M) (h : f_X12_neededBy fu V x1 x2 x3 = some out) : Ct E l yX12_neededBy cX12_neededBy 10 (some .int) (rmD 2) [.ref (ad 2200 0), .int (x1), .int (x2), .int (x3)] M (fun v M => v = (some (.int out.1)) ∧ Rep E ad out.2 M) :=
  Ct.of (own := RX12) (ini := false) (L := [some (.ref (ad 2200 0)), some (.int (x1)), some (.int (x2)), some (.int (x3)), none, none, none, none, none, none]) rfl rfl (fun h => by cases h) rfl (Nat.le_of_ble_eq_true rfl) rfl (fun X _ => S_X12_neededBy_0 (fun M hR => ⟨rfl, hR⟩) hR h)
