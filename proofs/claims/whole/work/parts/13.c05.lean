theorem S_X11_paidNow_29 {E : EN} {X : CX} {P : Option Value → MH → Prop} {ad : AD} {fu : Nat} {out : Int32 × St} (hp : ∀ M, Rep E ad out.2 M → P (some (.int out.1)) M) {V : St} {M : MH} {s0 : Int32} {d0 : Option Value} {d1 : Option Value} {d2 : Option Value} (hR : Rep E ad V M) (h : F_X11_paidNow_29 fu V s0 = some out) : G E X RX11 cX11_paidNow 3 (some .int) false (rmD 7) P M [d0, d1, d2] 0 0 29 [.int (s0)] := by
  unfold F_X11_paidNow_29 at h
  cases h
  exact r_iret DX11_paidNow_29 rfl ⟨Nat.le_refl 0, Nat.le_refl 0⟩ (hp M hR)
theorem S_X11_paidNow_0 {E : EN} {X : CX} {P : Option Value → MH → Prop} {ad : AD} {fu : Nat} {out : Int32 × St} (hp : ∀ M, Rep E ad out.2 M → P (some (.int out.1)) M) {V : St} {M : MH} {x1 : Int32} (hR : Rep E ad V M) (h : f_X11_paidNow fu V x1 = some out) : G E X RX11 cX11_paidNow 3 (some .int) false (rmD 7) P M [some (.ref (ad 2100 0)), some (rfq ad 2000 (x1)), none] 0 0 0 [] := by
  unfold f_X11_paidNow at h
  refine r_aload_n DX11_paidNow_0 rfl ?_
  refine r_bipush (v := 99) DX11_paidNow_1 kb_99 ?_
  refine t_aload_n (rfq_or _ _ _) DX11_paidNow_3 rfl ?_
  refine q_null (ad := ad) (g := 1600) DX11_paidNow_4 ?_
  obtain ⟨r1, V2, hc3, h⟩ := bd_inv h
  refine k_callV (As := [.int ((99 : Int32)), rfq ad 2000 (x1), rfq ad 1600 ((-1))]) (rest := []) (st1 := [.int (r1)]) (w := some (.int r1)) DX11_paidNow_5 cv_X11_79 hR ct_2100 (one_cnt _) rfl (C_X11_askNow (out := (r1, V2)) (cxL X) hR hc3) rfl (by decide) (by decide) rfl (Nat.le_of_ble_eq_true rfl) rfl (fun M hR => ?_)
  refine t_istore_n (L' := [some (.ref (ad 2100 0)), some (rfq ad 2000 (x1)), some (.int (r1))]) DX11_paidNow_8 (by decide) rfl ?_
  refine r_iload_n DX11_paidNow_9 rfl ?_
  refine r_iconst (v := -1) DX11_paidNow_10 ki_m1 ?_
  refine r_icmp_ne DX11_paidNow_11 (fun c4 => ?_) (fun c4 => ?_)
  · have h := if_f c4 h
    refine t_aload_n (rfq_or _ _ _) DX11_paidNow_21 rfl ?_
    obtain ⟨⟨hx5, hi6⟩, h⟩ := gd_inv h
    refine q_geti hx5 DX11_paidNow_22 fl_X11_284 hR ct_2000 hi6 rfl ?_
    refine r_iload_n DX11_paidNow_25 rfl ?_
    refine r_mmin DX11_paidNow_26 wd_402 (Nat.le_of_ble_eq_true rfl) (Nat.le_of_ble_eq_true rfl) ?_
    exact S_X11_paidNow_29 hp hR h
  · have h := if_t c4 h
    refine t_aload_n (rfq_or _ _ _) DX11_paidNow_14 rfl ?_
    obtain ⟨⟨hx7, hi8⟩, h⟩ := gd_inv h
    refine q_geti hx7 DX11_paidNow_15 fl_X11_284 hR ct_2000 hi8 rfl ?_
    refine r_goto DX11_paidNow_18 ?_
    exact S_X11_paidNow_29 hp hR h
theorem C_X11_paidNow {E : EN} {ad : AD} {fu : Nat} {out : Int32 × St} {V : St} {M : MH} {x1 : Int32} (l : Launch) (hR : Rep E ad V M) (h : f_X11_paidNow fu V x1 = some out) : Ct E l yX11_paidNow cX11_paidNow 3 (some .int) (rmD 7) [.ref (ad 2100 0), rfq ad 2000 (x1)] M (fun v M => v = (some (.int out.1)) ∧ Rep E ad out.2 M) :=
  Ct.of (own := RX11) (ini := false) (L := [some (.ref (ad 2100 0)), some (rfq ad 2000 (x1)), none]) rfl rfl (fun h => by cases h) (by simp only [List.all_cons, List.all_nil, rfq_cat]; rfl) (Nat.le_of_ble_eq_true rfl) rfl (fun X _ => S_X11_paidNow_0 (fun M hR => ⟨rfl, hR⟩) hR h)
theorem S_X11_loses_22 {E : EN} {X : CX} {P : Option Value → MH → Prop} {ad : AD} {fu : Nat} {out : Int32 × St} (hp : ∀ M, Rep E ad out.2 M → P (some (.int out.1)) M) {V : St} {M : MH} {d0 : Option Value} {d1 : Option Value} {d2 : Option Value} {d3 : Option Value} {d4 : Option Value} {d5 : Option Value} {d6 : Option Value} (hR : Rep E ad V M) (h : F_X11_loses_22 fu V = some out) : G E X RX11 cX11_loses 7 (some .int) false (rmD 8) P M [d0, d1, d2, d3, d4, d5, d6] 0 0 22 [] := by
  unfold F_X11_loses_22 at h
  refine r_ldcw (v := -1000000000) DX11_loses_22 ck_X11_353 ?_
  cases h
  exact r_iret DX11_loses_25 rfl ⟨Nat.le_refl 0, Nat.le_refl 0⟩ (hp M hR)
theorem S_X11_loses_0 {E : EN} {X : CX} {P : Option Value → MH → Prop} {ad : AD} {fu : Nat} {out : Int32 × St} (hp : ∀ M, Rep E ad out.2 M → P (some (.int out.1)) M) {V : St} {M : MH} {x1 : Int32} {x2 : Int32} (hR : Rep E ad V M) (h : f_X11_loses fu V x1 x2 = some out) : G E X RX11 cX11_loses 7 (some .int) false (rmD 8) P M [some (.ref (ad 2100 0)), some (.int (x1)), some (.int (x2)), none, none, none, none] 0 0 0 [] := by
  unfold f_X11_loses at h
  refine r_aload_n DX11_loses_0 rfl ?_
  refine r_iload_n DX11_loses_1 rfl ?_
  obtain ⟨r1, V2, hc3, h⟩ := bd_inv h
  refine k_callV (As := [.int (x1)]) (rest := []) (st1 := [rfq ad 1600 (r1)]) (w := some (rfq ad 1600 r1)) DX11_loses_2 cv_X11_208 hR ct_2100 (one_cnt _) rfl (C_X11_findMaker (out := (r1, V2)) (cxL X) hR hc3) rfl (by decide) (by decide) rfl (Nat.le_of_ble_eq_true rfl) rfl (fun M hR => ?_)
  refine t_astore_n (L' := [some (.ref (ad 2100 0)), some (.int (x1)), some (.int (x2)), some (rfq ad 1600 (r1)), none, none, none]) (rfq_or _ _ _) DX11_loses_5 (by decide) rfl ?_
  refine r_aload_n DX11_loses_6 rfl ?_
  refine r_iload_n DX11_loses_7 rfl ?_
  obtain ⟨r4, V5, hc6, h⟩ := bd_inv h
  refine k_callV (As := [.int (x2)]) (rest := []) (st1 := [rfq ad 2000 (r4)]) (w := some (rfq ad 2000 r4)) DX11_loses_8 cv_X11_242 hR ct_2100 (one_cnt _) rfl (C_X11_findThing (out := (r4, V5)) (cxL X) hR hc6) rfl (by decide) (by decide) rfl (Nat.le_of_ble_eq_true rfl) rfl (fun M hR => ?_)
  refine t_astore (L' := [some (.ref (ad 2100 0)), some (.int (x1)), some (.int (x2)), some (rfq ad 1600 (r1)), some (rfq ad 2000 (r4)), none, none]) (rfq_or _ _ _) DX11_loses_11 (by decide) rfl ?_
  refine t_aload_n (rfq_or _ _ _) DX11_loses_13 rfl ?_
  refine q_ifnull DX11_loses_14 (fun c7 => ?_) (fun c7 => ?_)
  · have h := if_t c7 h
    exact S_X11_loses_22 hp hR h
  · have h := if_f c7 h
    refine t_aload (rfq_or _ _ _) DX11_loses_17 rfl ?_
    refine q_ifnonnull DX11_loses_19 (fun c8 => ?_) (fun c8 => ?_)
    · have h := if_f c8 h
      refine r_aload_n DX11_loses_26 rfl ?_
      refine t_aload (rfq_or _ _ _) DX11_loses_27 rfl ?_
      obtain ⟨r9, V10, hc11, h⟩ := bd_inv h
      refine k_callV (As := [rfq ad 2000 (r4)]) (rest := []) (st1 := [.int (r9)]) (w := some (.int r9)) DX11_loses_29 cv_X11_291 hR ct_2100 (one_cnt _) rfl (C_X11_paidNow (out := (r9, V10)) (cxL X) hR hc11) rfl (by decide) (by decide) rfl (Nat.le_of_ble_eq_true rfl) rfl (fun M hR => ?_)
      refine t_istore (L' := [some (.ref (ad 2100 0)), some (.int (x1)), some (.int (x2)), some (rfq ad 1600 (r1)), some (rfq ad 2000 (r4)), some (.int (r9)), none]) DX11_loses_32 (by decide) rfl ?_
      refine r_iload DX11_loses_34 rfl ?_
      refine r_iconst (v := 0) DX11_loses_36 ki_0 ?_
      refine r_aload_n DX11_loses_37 rfl ?_
      refine r_bipush (v := 100) DX11_loses_38 kb_100 ?_
      refine t_aload (rfq_or _ _ _) DX11_loses_40 rfl ?_
      refine q_null (ad := ad) (g := 1600) DX11_loses_42 ?_
      obtain ⟨r12, V13, hc14, h⟩ := bd_inv h
      refine k_callV (As := [.int ((100 : Int32)), rfq ad 2000 (r4), rfq ad 1600 ((-1))]) (rest := [.int ((0 : Int32)), .int (r9)]) (st1 := [.int (r12), .int ((0 : Int32)), .int (r9)]) (w := some (.int r12)) DX11_loses_43 cv_X11_79 hR ct_2100 (one_cnt _) rfl (C_X11_askNow (out := (r12, V13)) (cxL X) hR hc14) rfl (by decide) (by decide) rfl (Nat.le_of_ble_eq_true rfl) rfl (fun M hR => ?_)
      refine r_mmax DX11_loses_46 wd_395 (Nat.le_of_ble_eq_true rfl) (Nat.le_of_ble_eq_true rfl) ?_
      refine r_imul DX11_loses_49 ?_
      refine r_bipush (v := 100) DX11_loses_50 kb_100 ?_
      refine r_idiv DX11_loses_52 (by decide) ?_
      refine t_istore (L' := [some (.ref (ad 2100 0)), some (.int (x1)), some (.int (x2)), some (rfq ad 1600 (r1)), some (rfq ad 2000 (r4)), some (.int (r9)), some (.int ((r9 * (if (0 : Int32) < r12 then r12 else (0 : Int32))) / ((100 : Int32))))]) DX11_loses_53 (by decide) rfl ?_
      refine t_aload (rfq_or _ _ _) DX11_loses_55 rfl ?_
      obtain ⟨⟨hx18, hi19⟩, h⟩ := gd_inv h
      obtain ⟨r15, V16, hc17, h⟩ := bd_inv h
      refine k_callQ (As := []) (rest := []) (st1 := [.int (r15)]) (w := some (.int r15)) hx18 DX11_loses_57 cv_X11_354 hR ct_2000 hi19 rfl (C_X10_stuffCost (out := (r15, V16)) (cxL X) hR hc17) rfl (by decide) (by decide) rfl (Nat.le_of_ble_eq_true rfl) rfl (fun M hR => ?_)
      refine t_aload_n (rfq_or _ _ _) DX11_loses_60 rfl ?_
      obtain ⟨⟨hx20, hi21⟩, h⟩ := gd_inv h
      refine q_geti hx20 DX11_loses_61 fl_X11_357 hR ct_1600 hi21 rfl ?_
      refine t_aload_n (rfq_or _ _ _) DX11_loses_64 rfl ?_
      refine q_geti hx20 DX11_loses_65 fl_X11_360 hR ct_1600 hi21 rfl ?_
      obtain ⟨r22, V23, hc24, h⟩ := bd_inv h
      refine k_callS (As := [.int ((V16 1605 (r1).toNatClampNeg 0)), .int ((V16 1604 (r1).toNatClampNeg 0))]) (rest := [.int (r15)]) (st1 := [.int (r22), .int (r15)]) (w := some (.int r22)) DX11_loses_68 cs_X11_301 (C_X11_roundedUp (out := (r22, V23)) (cxL X) hR hc24) rfl (by decide) (by decide) rfl (Nat.le_of_ble_eq_true rfl) rfl (fun M hR => ?_)
      refine r_iadd DX11_loses_71 ?_
      refine r_iload DX11_loses_72 rfl ?_
      refine r_iload DX11_loses_74 rfl ?_
      refine r_isub DX11_loses_76 ?_
      refine r_isub DX11_loses_77 ?_
      cases h
      exact r_iret DX11_loses_78 rfl ⟨Nat.le_refl 0, Nat.le_refl 0⟩ (hp M hR)
    · have h := if_t c8 h
      exact S_X11_loses_22 hp hR h
theorem C_X11_loses {E : EN} {ad : AD} {fu : Nat} {out : Int32 × St} {V : St} {M : MH} {x1 : Int32} {x2 : Int32} (l : Launch) (hR : Rep E ad V M) (h : f_X11_loses fu V x1 x2 = some out) : Ct E l yX11_loses cX11_loses 7 (some .int) (rmD 8) [.ref (ad 2100 0), .int (x1), .int (x2)] M (fun v M => v = (some (.int out.1)) ∧ Rep E ad out.2 M) :=
  Ct.of (own := RX11) (ini := false) (L := [some (.ref (ad 2100 0)), some (.int (x1)), some (.int (x2)), none, none, none, none]) rfl rfl (fun h => by cases h) rfl (Nat.le_of_ble_eq_true rfl) rfl (fun X _ => S_X11_loses_0 (fun M hR => ⟨rfl, hR⟩) hR h)
theorem S_X11_named_18 {E : EN} {X : CX} {P : Option Value → MH → Prop} {ad : AD} {fu : Nat} {out : Int32 × St} (hp : ∀ M, Rep E ad out.2 M → P (some (.int out.1)) M) {V : St} {M : MH} {d0 : Option Value} {d1 : Option Value} {d2 : Option Value} {d3 : Option Value} (hR : Rep E ad V M) (h : F_X11_named_18 fu V = some out) : G E X RX11 cX11_named 4 (some .boolean) false (rmD 5) P M [d0, d1, d2, d3] 0 0 18 [] := by
  unfold F_X11_named_18 at h
  refine r_iconst (v := 0) DX11_named_18 ki_0 ?_
  cases h
  exact r_zret DX11_named_19 rfl rfl ⟨Nat.le_refl 0, Nat.le_refl 0⟩ (hp M hR)
theorem S_X11_named_0 {E : EN} {X : CX} {P : Option Value → MH → Prop} {ad : AD} {fu : Nat} {out : Int32 × St} (hp : ∀ M, Rep E ad out.2 M → P (some (.int out.1)) M) {V : St} {M : MH} {x1 : Int32} {x2 : Int32} (hR : Rep E ad V M) (h : f_X11_named fu V x1 x2 = some out) : G E X RX11 cX11_named 4 (some .boolean) false (rmD 5) P M [some (.ref (ad 2100 0)), some (.int (x1)), some (.int (x2)), none] 0 0 0 [] := by
  unfold f_X11_named at h
  refine r_aload_n DX11_named_0 rfl ?_
  refine r_iload_n DX11_named_1 rfl ?_
  obtain ⟨r1, V2, hc3, h⟩ := bd_inv h
  refine k_callV (As := [.int (x1)]) (rest := []) (st1 := [rfq ad 1600 (r1)]) (w := some (rfq ad 1600 r1)) DX11_named_2 cv_X11_208 hR ct_2100 (one_cnt _) rfl (C_X11_findMaker (out := (r1, V2)) (cxL X) hR hc3) rfl (by decide) (by decide) rfl (Nat.le_of_ble_eq_true rfl) rfl (fun M hR => ?_)
  refine t_astore_n (L' := [some (.ref (ad 2100 0)), some (.int (x1)), some (.int (x2)), some (rfq ad 1600 (r1))]) (rfq_or _ _ _) DX11_named_5 (by decide) rfl ?_
  refine t_aload_n (rfq_or _ _ _) DX11_named_6 rfl ?_
  refine q_ifnull DX11_named_7 (fun c4 => ?_) (fun c4 => ?_)
  · have h := if_t c4 h
    exact S_X11_named_18 hp hR h
  · have h := if_f c4 h
    refine t_aload_n (rfq_or _ _ _) DX11_named_10 rfl ?_
    obtain ⟨⟨hx5, hi6⟩, h⟩ := gd_inv h
    refine q_geti hx5 DX11_named_11 fl_X11_212 hR ct_1600 hi6 rfl ?_
    refine r_iload_n DX11_named_14 rfl ?_
    refine r_icmp_ne DX11_named_15 (fun c7 => ?_) (fun c7 => ?_)
    · have h := if_f c7 h
      refine t_aload_n (rfq_or _ _ _) DX11_named_20 rfl ?_
      refine r_iload_n DX11_named_21 rfl ?_
      obtain ⟨hz8, h⟩ := gd_inv h
      obtain ⟨V9, hv10, h⟩ := bv_inv h
      refine q_puti hx5 DX11_named_22 fp_X11_212 hR oks_1607 ct_1600 hi6 rfl (nz_nar hz8) (nz_fit hz8) (fun M hR => ?_)
      have hR := hR.cg hv10
      refine r_iconst (v := 1) DX11_named_25 ki_1 ?_
      cases h
      exact r_zret DX11_named_26 rfl rfl ⟨Nat.le_refl 0, Nat.le_refl 0⟩ (hp M hR)
    · have h := if_t c7 h
      exact S_X11_named_18 hp hR h
theorem C_X11_named {E : EN} {ad : AD} {fu : Nat} {out : Int32 × St} {V : St} {M : MH} {x1 : Int32} {x2 : Int32} (l : Launch) (hR : Rep E ad V M) (h : f_X11_named fu V x1 x2 = some out) : Ct E l yX11_named cX11_named 4 (some .boolean) (rmD 5) [.ref (ad 2100 0), .int (x1), .int (x2)] M (fun v M => v = (some (.int out.1)) ∧ Rep E ad out.2 M) :=
  Ct.of (own := RX11) (ini := false) (L := [some (.ref (ad 2100 0)), some (.int (x1)), some (.int (x2)), none]) rfl rfl (fun h => by cases h) rfl (Nat.le_of_ble_eq_true rfl) rfl (fun X _ => S_X11_named_0 (fun M hR => ⟨rfl, hR⟩) hR h)
theorem S_X11_needs_31 {E : EN} {X : CX} {P : Option Value → MH → Prop} {ad : AD} {fu : Nat} {out : Int32 × St} (hp : ∀ M, Rep E ad out.2 M → P (some (.int out.1)) M) {V : St} {M : MH} {d0 : Option Value} {d1 : Option Value} {d2 : Option Value} {d3 : Option Value} (hR : Rep E ad V M) (h : F_X11_needs_31 fu V = some out) : G E X RX11 cX11_needs 4 (some .int) false (rmD 5) P M [d0, d1, d2, d3] 0 0 31 [] := by
  unfold F_X11_needs_31 at h
  refine r_iconst (v := -1) DX11_needs_31 ki_m1 ?_
  cases h
  exact r_iret DX11_needs_32 rfl ⟨Nat.le_refl 0, Nat.le_refl 0⟩ (hp M hR)
theorem S_X11_needs_0 {E : EN} {X : CX} {P : Option Value → MH → Prop} {ad : AD} {fu : Nat} {out : Int32 × St} (hp : ∀ M, Rep E ad out.2 M → P (some (.int out.1)) M) {V : St} {M : MH} {x1 : Int32} {x2 : Int32} {x3 : Int32} (hR : Rep E ad V M) (h : f_X11_needs fu V x1 x2 x3 = some out) : G E X RX11 cX11_needs 4 (some .int) false (rmD 5) P M [some (.ref (ad 2100 0)), some (.int (x1)), some (.int (x2)), some (.int (x3))] 0 0 0 [] := by
  unfold f_X11_needs at h
  refine r_aload_n DX11_needs_0 rfl ?_
  refine r_iload_n DX11_needs_1 rfl ?_
  obtain ⟨r1, V2, hc3, h⟩ := bd_inv h
  refine k_callV (As := [.int (x1)]) (rest := []) (st1 := [.int (r1)]) (w := some (.int r1)) DX11_needs_2 cv_X11_339 hR ct_2100 (one_cnt _) rfl (C_X11_mayBeTold (out := (r1, V2)) (cxL X) hR hc3) rfl (by decide) (by decide) rfl (Nat.le_of_ble_eq_true rfl) rfl (fun M hR => ?_)
  refine r_if_eq DX11_needs_5 (fun c4 => ?_) (fun c4 => ?_)
  · have h := if_t c4 h
    exact S_X11_needs_31 hp hR h
  · have h := if_f c4 h
    refine r_iload_n DX11_needs_8 rfl ?_
    refine r_if_eq DX11_needs_9 (fun c5 => ?_) (fun c5 => ?_)
    · have h := if_t c5 h
      exact S_X11_needs_31 hp hR h
    · have h := if_f c5 h
      refine r_iload_n DX11_needs_12 rfl ?_
      refine r_iload_n DX11_needs_13 rfl ?_
      refine r_iconst (v := -1) DX11_needs_14 ki_m1 ?_
      refine r_ixor DX11_needs_15 ?_
      refine r_iand DX11_needs_16 ?_
      refine r_if_ne DX11_needs_17 (fun c6 => ?_) (fun c6 => ?_)
      · have h := if_f c6 h
        exact S_X11_needs_31 hp hR h
      · have h := if_t c6 h
        refine r_iload_n DX11_needs_20 rfl ?_
        refine r_iconst (v := 1) DX11_needs_21 ki_1 ?_
        refine r_ldcw (v := 100000) DX11_needs_22 ck_X11_283 ?_
        obtain ⟨r7, V8, hc9, h⟩ := bd_inv h
        refine k_callS (As := [.int (x3), .int ((1 : Int32)), .int ((100000 : Int32))]) (rest := []) (st1 := [.int (r7)]) (w := some (.int r7)) DX11_needs_25 cs_X11_111 (C_X11_within (out := (r7, V8)) (cxL X) hR hc9) rfl (by decide) (by decide) rfl (Nat.le_of_ble_eq_true rfl) rfl (fun M hR => ?_)
        refine r_if_ne DX11_needs_28 (fun c10 => ?_) (fun c10 => ?_)
        · have h := if_f c10 h
          refine r_aload_n DX11_needs_33 rfl ?_
          refine r_iload_n DX11_needs_34 rfl ?_
          refine r_iload_n DX11_needs_35 rfl ?_
          refine r_iload_n DX11_needs_36 rfl ?_
          obtain ⟨r11, V12, hc13, h⟩ := bd_inv h
          refine k_callV (As := [.int (x1), .int (x2), .int (x3)]) (rest := []) (st1 := [.int (r11)]) (w := some (.int r11)) DX11_needs_37 cv_X11_342 hR ct_2100 (one_cnt _) rfl (C_X11_handsToDo (out := (r11, V12)) (cxL X) hR hc13) rfl (by decide) (by decide) rfl (Nat.le_of_ble_eq_true rfl) rfl (fun M hR => ?_)
          cases h
          exact r_iret DX11_needs_40 rfl ⟨Nat.le_refl 0, Nat.le_refl 0⟩ (hp M hR)
        · have h := if_t c10 h
          exact S_X11_needs_31 hp hR h
theorem C_X11_needs {E : EN} {ad : AD} {fu : Nat} {out : Int32 × St} {V : St} {M : MH} {x1 : Int32} {x2 : Int32} {x3 : Int32} (l : Launch) (hR : Rep E ad V M) (h : f_X11_needs fu V x1 x2 x3 = some out) : Ct E l yX11_needs cX11_needs 4 (some .int) (rmD 5) [.ref (ad 2100 0), .int (x1), .int (x2), .int (x3)] M (fun v M => v = (some (.int out.1)) ∧ Rep E ad out.2 M) :=
  Ct.of (own := RX11) (ini := false) (L := [some (.ref (ad 2100 0)), some (.int (x1)), some (.int (x2)), some (.int (x3))]) rfl rfl (fun h => by cases h) rfl (Nat.le_of_ble_eq_true rfl) rfl (fun X _ => S_X11_needs_0 (fun M hR => ⟨rfl, hR⟩) hR h)
theorem S_X11_piece_23 {E : EN} {X : CX} {P : Option Value → MH → Prop} {ad : AD} {fu : Nat} {out : Int32 × St} (hp : ∀ M, Rep E ad out.2 M → P (some (.int out.1)) M) {V : St} {M : MH} {s0 : Int32} {d0 : Option Value} {d1 : Option Value} {d2 : Option Value} {d3 : Option Value} {d4 : Option Value} (hR : Rep E ad V M) (h : F_X11_piece_23 fu V s0 = some out) : G E X RX11 cX11_piece 5 (some .int) false (rmD 6) P M [d0, d1, d2, d3, d4] 0 0 23 [.int (s0)] := by
  unfold F_X11_piece_23 at h
  cases h
  exact r_iret DX11_piece_23 rfl ⟨Nat.le_refl 0, Nat.le_refl 0⟩ (hp M hR)
theorem S_X11_piece_0 {E : EN} {X : CX} {P : Option Value → MH → Prop} {ad : AD} {fu : Nat} {out : Int32 × St} (hp : ∀ M, Rep E ad out.2 M → P (some (.int out.1)) M) {V : St} {M : MH} {x1 : Int32} {x2 : Int32} {x3 : Int32} (hR : Rep E ad V M) (h : f_X11_piece fu V x1 x2 x3 = some out) : G E X RX11 cX11_piece 5 (some .int) false (rmD 6) P M [some (.ref (ad 2100 0)), some (.int (x1)), some (.int (x2)), some (.int (x3)), none] 0 0 0 [] := by
  unfold f_X11_piece at h
  refine r_aload_n DX11_piece_0 rfl ?_
  refine r_iload_n DX11_piece_1 rfl ?_
  obtain ⟨r1, V2, hc3, h⟩ := bd_inv h
  refine k_callV (As := [.int (x1)]) (rest := []) (st1 := [rfq ad 2000 (r1)]) (w := some (rfq ad 2000 r1)) DX11_piece_2 cv_X11_170 hR ct_2100 (one_cnt _) rfl (C_X11_findCoat (out := (r1, V2)) (cxL X) hR hc3) rfl (by decide) (by decide) rfl (Nat.le_of_ble_eq_true rfl) rfl (fun M hR => ?_)
  refine t_astore (L' := [some (.ref (ad 2100 0)), some (.int (x1)), some (.int (x2)), some (.int (x3)), some (rfq ad 2000 (r1))]) (rfq_or _ _ _) DX11_piece_5 (by decide) rfl ?_
  refine t_aload (rfq_or _ _ _) DX11_piece_7 rfl ?_
  refine q_ifnonnull DX11_piece_9 (fun c4 => ?_) (fun c4 => ?_)
  · have h := if_f c4 h
    refine t_aload (rfq_or _ _ _) DX11_piece_16 rfl ?_
    refine r_iload_n DX11_piece_18 rfl ?_
    refine r_iload_n DX11_piece_19 rfl ?_
    obtain ⟨⟨hx8, hi9⟩, h⟩ := gd_inv h
    obtain ⟨r5, V6, hc7, h⟩ := bd_inv h
    refine k_callQ (As := [.int (x2), .int (x3)]) (rest := []) (st1 := [.int (r5)]) (w := some (.int r5)) hx8 DX11_piece_20 cv_X11_174 hR ct_2000 hi9 rfl (C_X10_addPiece (out := (r5, V6)) (cxL X) hR hc7) rfl (by decide) (by decide) rfl (Nat.le_of_ble_eq_true rfl) rfl (fun M hR => ?_)
    exact S_X11_piece_23 hp hR h
  · have h := if_t c4 h
    refine r_iconst (v := -1) DX11_piece_12 ki_m1 ?_
    refine r_goto DX11_piece_13 ?_
    exact S_X11_piece_23 hp hR h
theorem C_X11_piece {E : EN} {ad : AD} {fu : Nat} {out : Int32 × St} {V : St} {M : MH} {x1 : Int32} {x2 : Int32} {x3 : Int32} (l : Launch) (hR : Rep E ad V M) (h : f_X11_piece fu V x1 x2 x3 = some out) : Ct E l yX11_piece cX11_piece 5 (some .int) (rmD 6) [.ref (ad 2100 0), .int (x1), .int (x2), .int (x3)] M (fun v M => v = (some (.int out.1)) ∧ Rep E ad out.2 M) :=
  Ct.of (own := RX11) (ini := false) (L := [some (.ref (ad 2100 0)), some (.int (x1)), some (.int (x2)), some (.int (x3)), none]) rfl rfl (fun h => by cases h) rfl (Nat.le_of_ble_eq_true rfl) rfl (fun X _ => S_X11_piece_0 (fun M hR => ⟨rfl, hR⟩) hR h)
theorem S_X11_price_21 {E : EN} {X : CX} {P : Option Value → MH → Prop} {ad : AD} {fu : Nat} {out : Int32 × St} (hp : ∀ M, Rep E ad out.2 M → P (some (.int out.1)) M) {V : St} {M : MH} {d0 : Option Value} {d1 : Option Value} {d2 : Option Value} {d3 : Option Value} (hR : Rep E ad V M) (h : F_X11_price_21 fu V = some out) : G E X RX11 cX11_price 4 (some .boolean) false (rmD 5) P M [d0, d1, d2, d3] 0 0 21 [] := by
  unfold F_X11_price_21 at h
  refine r_iconst (v := 0) DX11_price_21 ki_0 ?_
  cases h
  exact r_zret DX11_price_22 rfl rfl ⟨Nat.le_refl 0, Nat.le_refl 0⟩ (hp M hR)
theorem S_X11_price_0 {E : EN} {X : CX} {P : Option Value → MH → Prop} {ad : AD} {fu : Nat} {out : Int32 × St} (hp : ∀ M, Rep E ad out.2 M → P (some (.int out.1)) M) {V : St} {M : MH} {x1 : Int32} {x2 : Int32} (hR : Rep E ad V M) (h : f_X11_price fu V x1 x2 = some out) : G E X RX11 cX11_price 4 (some .boolean) false (rmD 5) P M [some (.ref (ad 2100 0)), some (.int (x1)), some (.int (x2)), none] 0 0 0 [] := by
  unfold f_X11_price at h
  refine r_aload_n DX11_price_0 rfl ?_
  refine r_iload_n DX11_price_1 rfl ?_
  obtain ⟨r1, V2, hc3, h⟩ := bd_inv h
  refine k_callV (As := [.int (x1)]) (rest := []) (st1 := [rfq ad 2000 (r1)]) (w := some (rfq ad 2000 r1)) DX11_price_2 cv_X11_242 hR ct_2100 (one_cnt _) rfl (C_X11_findThing (out := (r1, V2)) (cxL X) hR hc3) rfl (by decide) (by decide) rfl (Nat.le_of_ble_eq_true rfl) rfl (fun M hR => ?_)
  refine t_astore_n (L' := [some (.ref (ad 2100 0)), some (.int (x1)), some (.int (x2)), some (rfq ad 2000 (r1))]) (rfq_or _ _ _) DX11_price_5 (by decide) rfl ?_
  refine t_aload_n (rfq_or _ _ _) DX11_price_6 rfl ?_
  refine q_ifnull DX11_price_7 (fun c4 => ?_) (fun c4 => ?_)
  · have h := if_t c4 h
    exact S_X11_price_21 hp hR h
  · have h := if_f c4 h
    refine r_iload_n DX11_price_10 rfl ?_
    refine r_iconst (v := 1) DX11_price_11 ki_1 ?_
    refine r_ldcw (v := 100000) DX11_price_12 ck_X11_283 ?_
    obtain ⟨r5, V6, hc7, h⟩ := bd_inv h
    refine k_callS (As := [.int (x2), .int ((1 : Int32)), .int ((100000 : Int32))]) (rest := []) (st1 := [.int (r5)]) (w := some (.int r5)) DX11_price_15 cs_X11_111 (C_X11_within (out := (r5, V6)) (cxL X) hR hc7) rfl (by decide) (by decide) rfl (Nat.le_of_ble_eq_true rfl) rfl (fun M hR => ?_)
    refine r_if_ne DX11_price_18 (fun c8 => ?_) (fun c8 => ?_)
    · have h := if_f c8 h
      refine t_aload_n (rfq_or _ _ _) DX11_price_23 rfl ?_
      refine r_iload_n DX11_price_24 rfl ?_
      obtain ⟨⟨hx9, hi10⟩, h⟩ := gd_inv h
      obtain ⟨V11, hv12, h⟩ := bv_inv h
      refine q_puti hx9 DX11_price_25 fp_X11_284 hR oks_2010 ct_2000 hi10 rfl rfl rfl (fun M hR => ?_)
      have hR := hR.cg hv12
      refine r_iconst (v := 1) DX11_price_28 ki_1 ?_
      cases h
      exact r_zret DX11_price_29 rfl rfl ⟨Nat.le_refl 0, Nat.le_refl 0⟩ (hp M hR)
    · have h := if_t c8 h
      exact S_X11_price_21 hp hR h
theorem C_X11_price {E : EN} {ad : AD} {fu : Nat} {out : Int32 × St} {V : St} {M : MH} {x1 : Int32} {x2 : Int32} (l : Launch) (hR : Rep E ad V M) (h : f_X11_price fu V x1 x2 = some out) : Ct E l yX11_price cX11_price 4 (some .boolean) (rmD 5) [.ref (ad 2100 0), .int (x1), .int (x2)] M (fun v M => v = (some (.int out.1)) ∧ Rep E ad out.2 M) :=
  Ct.of (own := RX11) (ini := false) (L := [some (.ref (ad 2100 0)), some (.int (x1)), some (.int (x2)), none]) rfl rfl (fun h => by cases h) rfl (Nat.le_of_ble_eq_true rfl) rfl (fun X _ => S_X11_price_0 (fun M hR => ⟨rfl, hR⟩) hR h)
theorem S_X11_putByRate_67 {E : EN} {X : CX} {P : Option Value → MH → Prop} {ad : AD} {fu : Nat} {out : Int32 × St} (hp : ∀ M, Rep E ad out.2 M → P none M) {V : St} {M : MH} {x1 : Int32} {x3 : Int32} {d2 : Option Value} {d4 : Option Value} (hR : Rep E ad V M) (h : F_X11_putByRate_67 fu V x1 x3 = some out) : G E X RX11 cX11_putByRate 5 none false (rmD 4) P M [some (.ref (ad 2100 0)), some (.int (x1)), d2, some (.int (x3)), d4] 0 0 67 [] := by
  unfold F_X11_putByRate_67 at h
  refine r_aload_n DX11_putByRate_67 rfl ?_
  refine s_geta DX11_putByRate_68 fl_X11_32 hR ct_2100 (one_cnt _) rfl ?_
  refine r_iload_n DX11_putByRate_71 rfl ?_
  refine r_iload_n DX11_putByRate_72 rfl ?_
  obtain ⟨hg1, h⟩ := gd_inv h
  obtain ⟨V2, hv3, h⟩ := bv_inv h
  refine s_iast DX11_putByRate_73 hR oka_2107 ct_2107 (one_cnt _) hg1 (fun M hR => ?_)
  have hR := hR.cg hv3
  cases h
  exact r_vret DX11_putByRate_74 rfl ⟨Nat.le_refl 0, Nat.le_refl 0⟩ (hp M hR)
theorem S_X11_putByRate_39 {E : EN} {X : CX} {P : Option Value → MH → Prop} {ad : AD} {fu : Nat} {out : Int32 × St} {kh : St → Int32 → Int32 → Int32 → RR} {kx67 : St → Int32 → Int32 → RR} (hkh : ∀ {V : St} {M : MH} {x1 : Int32} {x3 : Int32} {x4 : Int32} {d2 : Option Value}, Rep E ad V M → kh V x1 x3 x4 = some out → G E X RX11 cX11_putByRate 5 none false (rmD 4) P M [some (.ref (ad 2100 0)), some (.int (x1)), d2, some (.int (x3)), some (.int (x4))] 0 0 39 []) (hkx67 : ∀ {V : St} {M : MH} {x1 : Int32} {x3 : Int32} {d2 : Option Value} {d4 : Option Value}, Rep E ad V M → kx67 V x1 x3 = some out → G E X RX11 cX11_putByRate 5 none false (rmD 4) P M [some (.ref (ad 2100 0)), some (.int (x1)), d2, some (.int (x3)), d4] 0 0 67 []) (hp : ∀ M, Rep E ad out.2 M → P none M) {V : St} {M : MH} {x1 : Int32} {x3 : Int32} {x4 : Int32} {d2 : Option Value} (hR : Rep E ad V M) (h : F_X11_putByRate_39 kh kx67 fu V x1 x3 x4 = some out) : G E X RX11 cX11_putByRate 5 none false (rmD 4) P M [some (.ref (ad 2100 0)), some (.int (x1)), d2, some (.int (x3)), some (.int (x4))] 0 0 39 [] := by
  unfold F_X11_putByRate_39 at h
  refine r_iload DX11_putByRate_39 rfl ?_
  refine r_iload_n DX11_putByRate_41 rfl ?_
  refine r_icmp_le DX11_putByRate_42 (fun c1 => ?_) (fun c1 => ?_)
  · have h := if_t c1 h
    exact hkx67 hR h
  · have h := if_f c1 h
    refine r_aload_n DX11_putByRate_45 rfl ?_
    refine s_geta DX11_putByRate_46 fl_X11_32 hR ct_2100 (one_cnt _) rfl ?_
    refine r_iload DX11_putByRate_49 rfl ?_
    refine r_aload_n DX11_putByRate_51 rfl ?_
    refine s_geta DX11_putByRate_52 fl_X11_32 hR ct_2100 (one_cnt _) rfl ?_
    refine r_iload DX11_putByRate_55 rfl ?_
    refine r_iconst (v := 1) DX11_putByRate_57 ki_1 ?_
    refine r_isub DX11_putByRate_58 ?_
    obtain ⟨hg2, h⟩ := gd_inv h
    refine s_iald DX11_putByRate_59 hR ct_2107 (one_cnt _) hg2 ?_
    obtain ⟨hg3, h⟩ := gd_inv h
    obtain ⟨V4, hv5, h⟩ := bv_inv h
    refine s_iast DX11_putByRate_60 hR oka_2107 ct_2107 (one_cnt _) hg3 (fun M hR => ?_)
    have hR := hR.cg hv5
    refine t_iinc (v := -1) (L' := [some (.ref (ad 2100 0)), some (.int (x1)), d2, some (.int (x3)), some (.int (x4 + (-1)))]) DX11_putByRate_61 rfl ki_m1 (by decide) rfl ?_
    refine r_goto DX11_putByRate_64 ?_
    exact hkh hR h
theorem SL_X11_putByRate_39 {E : EN} {X : CX} {P : Option Value → MH → Prop} {ad : AD} {fu : Nat} {out : Int32 × St} {kx67 : St → Int32 → Int32 → RR} (hkx67 : ∀ {V : St} {M : MH} {x1 : Int32} {x3 : Int32} {d2 : Option Value} {d4 : Option Value}, Rep E ad V M → kx67 V x1 x3 = some out → G E X RX11 cX11_putByRate 5 none false (rmD 4) P M [some (.ref (ad 2100 0)), some (.int (x1)), d2, some (.int (x3)), d4] 0 0 67 []) (hp : ∀ M, Rep E ad out.2 M → P none M) : ∀ (n : Nat) {V : St} {M : MH} {x1 : Int32} {x3 : Int32} {x4 : Int32} {d2 : Option Value}, Rep E ad V M → Lp_X11_putByRate_39 kx67 fu n V x1 x3 x4 = some out → G E X RX11 cX11_putByRate 5 none false (rmD 4) P M [some (.ref (ad 2100 0)), some (.int (x1)), d2, some (.int (x3)), some (.int (x4))] 0 0 39 [] := by
  intro n
  induction n with
  | zero => intros; rename_i h; cases h
  | succ n ih => exact fun hR h => S_X11_putByRate_39 (fun hR h => ih hR h) (fun hR h => hkx67 hR h) hp hR h
theorem S_X11_putByRate_36 {E : EN} {X : CX} {P : Option Value → MH → Prop} {ad : AD} {fu : Nat} {out : Int32 × St} (hp : ∀ M, Rep E ad out.2 M → P none M) {V : St} {M : MH} {x1 : Int32} {x3 : Int32} {d2 : Option Value} {d4 : Option Value} (hR : Rep E ad V M) (h : F_X11_putByRate_36 fu V x1 x3 = some out) : G E X RX11 cX11_putByRate 5 none false (rmD 4) P M [some (.ref (ad 2100 0)), some (.int (x1)), d2, some (.int (x3)), d4] 0 0 36 [] := by
  unfold F_X11_putByRate_36 at h
  refine r_iload_n DX11_putByRate_36 rfl ?_
  refine t_istore (L' := [some (.ref (ad 2100 0)), some (.int (x1)), d2, some (.int (x3)), some (.int (x1))]) DX11_putByRate_37 (by decide) rfl ?_
  exact SL_X11_putByRate_39 (fun hR h => S_X11_putByRate_67 hp hR h) hp fu hR h
theorem S_X11_putByRate_2 {E : EN} {X : CX} {P : Option Value → MH → Prop} {ad : AD} {fu : Nat} {out : Int32 × St} {kh : St → Int32 → Int32 → Int32 → RR} {kx36 : St → Int32 → Int32 → RR} (hkh : ∀ {V : St} {M : MH} {x1 : Int32} {x2 : Int32} {x3 : Int32} {d4 : Option Value}, Rep E ad V M → kh V x1 x2 x3 = some out → G E X RX11 cX11_putByRate 5 none false (rmD 4) P M [some (.ref (ad 2100 0)), some (.int (x1)), some (.int (x2)), some (.int (x3)), d4] 0 0 2 []) (hkx36 : ∀ {V : St} {M : MH} {x1 : Int32} {x3 : Int32} {d2 : Option Value} {d4 : Option Value}, Rep E ad V M → kx36 V x1 x3 = some out → G E X RX11 cX11_putByRate 5 none false (rmD 4) P M [some (.ref (ad 2100 0)), some (.int (x1)), d2, some (.int (x3)), d4] 0 0 36 []) (hp : ∀ M, Rep E ad out.2 M → P none M) {V : St} {M : MH} {x1 : Int32} {x2 : Int32} {x3 : Int32} {d4 : Option Value} (hR : Rep E ad V M) (h : F_X11_putByRate_2 kh kx36 fu V x1 x2 x3 = some out) : G E X RX11 cX11_putByRate 5 none false (rmD 4) P M [some (.ref (ad 2100 0)), some (.int (x1)), some (.int (x2)), some (.int (x3)), d4] 0 0 2 [] := by
  unfold F_X11_putByRate_2 at h
  refine r_iload_n DX11_putByRate_2 rfl ?_
  refine r_iload_n DX11_putByRate_3 rfl ?_
  refine r_icmp_ge DX11_putByRate_4 (fun c1 => ?_) (fun c1 => ?_)
  · have h := if_t c1 h
    exact hkx36 hR h
  · have h := if_f c1 h
    refine r_aload_n DX11_putByRate_7 rfl ?_
    refine s_geto DX11_putByRate_8 fl_X11_29 hR ct_2100 (one_cnt _) rfl ?_
    refine r_aload_n DX11_putByRate_11 rfl ?_
    refine s_geta DX11_putByRate_12 fl_X11_32 hR ct_2100 (one_cnt _) rfl ?_
    refine r_iload_n DX11_putByRate_15 rfl ?_
    obtain ⟨hg2, h⟩ := gd_inv h
    refine s_iald DX11_putByRate_16 hR ct_2107 (one_cnt _) hg2 ?_
    obtain ⟨⟨hx3, hi4⟩, h⟩ := gd_inv h
    refine s_lget (Li := 2106) (g := 1600) DX11_putByRate_17 cv_X11_93 hR (by decide) hx3 hi4 (by decide) (Nat.le_of_ble_eq_true rfl) (fun M hR => ?_)
    refine q_cast hx3 DX11_putByRate_20 wd_405 hR ct_1600 hi4 rfl ?_
    refine q_geti hx3 DX11_putByRate_23 fl_X11_360 hR ct_1600 hi4 rfl ?_
    refine r_iload_n DX11_putByRate_26 rfl ?_
    refine r_icmp_lt DX11_putByRate_27 (fun c5 => ?_) (fun c5 => ?_)
    · have h := if_t c5 h
      exact hkx36 hR h
    · have h := if_f c5 h
      refine t_iinc (v := 1) (L' := [some (.ref (ad 2100 0)), some (.int (x1)), some (.int (x2)), some (.int (x3 + 1)), d4]) DX11_putByRate_30 rfl ki_1 (by decide) rfl ?_
      refine r_goto DX11_putByRate_33 ?_
      exact hkh hR h
theorem SL_X11_putByRate_2 {E : EN} {X : CX} {P : Option Value → MH → Prop} {ad : AD} {fu : Nat} {out : Int32 × St} {kx36 : St → Int32 → Int32 → RR} (hkx36 : ∀ {V : St} {M : MH} {x1 : Int32} {x3 : Int32} {d2 : Option Value} {d4 : Option Value}, Rep E ad V M → kx36 V x1 x3 = some out → G E X RX11 cX11_putByRate 5 none false (rmD 4) P M [some (.ref (ad 2100 0)), some (.int (x1)), d2, some (.int (x3)), d4] 0 0 36 []) (hp : ∀ M, Rep E ad out.2 M → P none M) : ∀ (n : Nat) {V : St} {M : MH} {x1 : Int32} {x2 : Int32} {x3 : Int32} {d4 : Option Value}, Rep E ad V M → Lp_X11_putByRate_2 kx36 fu n V x1 x2 x3 = some out → G E X RX11 cX11_putByRate 5 none false (rmD 4) P M [some (.ref (ad 2100 0)), some (.int (x1)), some (.int (x2)), some (.int (x3)), d4] 0 0 2 [] := by
  intro n
  induction n with
  | zero => intros; rename_i h; cases h
  | succ n ih => exact fun hR h => S_X11_putByRate_2 (fun hR h => ih hR h) (fun hR h => hkx36 hR h) hp hR h
theorem S_X11_putByRate_0 {E : EN} {X : CX} {P : Option Value → MH → Prop} {ad : AD} {fu : Nat} {out : Int32 × St} (hp : ∀ M, Rep E ad out.2 M → P none M) {V : St} {M : MH} {x1 : Int32} {x2 : Int32} (hR : Rep E ad V M) (h : f_X11_putByRate fu V x1 x2 = some out) : G E X RX11 cX11_putByRate 5 none false (rmD 4) P M [some (.ref (ad 2100 0)), some (.int (x1)), some (.int (x2)), none, none] 0 0 0 [] := by
  unfold f_X11_putByRate at h
  refine r_iconst (v := 0) DX11_putByRate_0 ki_0 ?_
  refine t_istore_n (L' := [some (.ref (ad 2100 0)), some (.int (x1)), some (.int (x2)), some (.int ((0 : Int32))), none]) DX11_putByRate_1 (by decide) rfl ?_
  exact SL_X11_putByRate_2 (fun hR h => S_X11_putByRate_36 hp hR h) hp fu hR h
theorem C_X11_putByRate {E : EN} {ad : AD} {fu : Nat} {out : Int32 × St} {V : St} {M : MH} {x1 : Int32} {x2 : Int32} (l : Launch) (hR : Rep E ad V M) (h : f_X11_putByRate fu V x1 x2 = some out) : Ct E l yX11_putByRate cX11_putByRate 5 none (rmD 4) [.ref (ad 2100 0), .int (x1), .int (x2)] M (fun v M => v = none ∧ Rep E ad out.2 M) :=
  Ct.of (own := RX11) (ini := false) (L := [some (.ref (ad 2100 0)), some (.int (x1)), some (.int (x2)), none, none]) rfl rfl (fun h => by cases h) rfl (Nat.le_of_ble_eq_true rfl) rfl (fun X _ => S_X11_putByRate_0 (fun M hR => ⟨rfl, hR⟩) hR h)
theorem S_X2_addStick_53 {E : EN} {X : CX} {P : Option Value → MH → Prop} {ad : AD} {fu : Nat} {out : Int32 × St} (hp : ∀ M, Rep E ad out.2 M → P (some (.int out.1)) M) {V : St} {M : MH} {d0 : Option Value} {d1 : Option Value} {d2 : Option Value} {d3 : Option Value} (hR : Rep E ad V M) (h : F_X2_addStick_53 fu V = some out) : G E X RX2 cX2_addStick 4 (some .int) false (rmD 2) P M [d0, d1, d2, d3] 0 0 53 [] := by
  unfold F_X2_addStick_53 at h
  refine r_iconst (v := -1) DX2_addStick_53 ki_m1 ?_
  cases h
  exact r_iret DX2_addStick_54 rfl ⟨Nat.le_refl 0, Nat.le_refl 0⟩ (hp M hR)
theorem S_X2_addStick_33 {E : EN} {X : CX} {P : Option Value → MH → Prop} {ad : AD} {fu : Nat} {out : Int32 × St} (hp : ∀ M, Rep E ad out.2 M → P (some (.int out.1)) M) {V : St} {M : MH} {d0 : Option Value} {d1 : Option Value} {d2 : Option Value} {d3 : Option Value} (hR : Rep E ad V M) (h : F_X2_addStick_33 fu V = some out) : G E X RX2 cX2_addStick 4 (some .int) false (rmD 2) P M [d0, d1, d2, d3] 0 0 33 [] := by
  unfold F_X2_addStick_33 at h
  refine r_iconst (v := -1) DX2_addStick_33 ki_m1 ?_
  cases h
  exact r_iret DX2_addStick_34 rfl ⟨Nat.le_refl 0, Nat.le_refl 0⟩ (hp M hR)
theorem S_X2_addStick_0 {E : EN} {X : CX} {P : Option Value → MH → Prop} {ad : AD} {fu : Nat} {out : Int32 × St} (hp : ∀ M, Rep E ad out.2 M → P (some (.int out.1)) M) {V : St} {M : MH} {x0 : Int32} {x1 : Int32} {x2 : Int32} {x3 : Int32} (hR : Rep E ad V M) (h : f_X2_addStick fu V x0 x1 x2 x3 = some out) : G E X RX2 cX2_addStick 4 (some .int) false (rmD 2) P M [some (rfq ad 1200 (x0)), some (.int (x1)), some (.int (x2)), some (.int (x3))] 0 0 0 [] := by
  unfold f_X2_addStick at h
  refine r_iload_n DX2_addStick_0 rfl ?_
  refine r_iconst (v := 0) DX2_addStick_1 ki_0 ?_
  refine t_aload_n (rfq_or _ _ _) DX2_addStick_2 rfl ?_
  obtain ⟨⟨hx1, hi2⟩, h⟩ := gd_inv h
  refine q_geti hx1 DX2_addStick_3 fl_X2_59 hR ct_1200 hi2 rfl ?_
  refine r_iconst (v := 1) DX2_addStick_6 ki_1 ?_
  refine r_isub DX2_addStick_7 ?_
  obtain ⟨r3, V4, hc5, h⟩ := bd_inv h
  refine k_callSN (As := [.int (x1), .int ((0 : Int32)), .int ((V 1201 (x0).toNatClampNeg 0) - (1 : Int32))]) (rest := []) (st1 := [.int (r3)]) (w := some (.int r3)) DX2_addStick_8 csn_X2_62 (C_X11_within (out := (r3, V4)) (cxL X) hR hc5) rfl (by decide) (by decide) rfl (Nat.le_of_ble_eq_true rfl) rfl (fun M hR => ?_)
  refine r_if_eq DX2_addStick_11 (fun c6 => ?_) (fun c6 => ?_)
  · have h := if_t c6 h
    exact S_X2_addStick_33 hp hR h
  · have h := if_f c6 h
    refine r_iload_n DX2_addStick_14 rfl ?_
    refine r_iconst (v := 0) DX2_addStick_15 ki_0 ?_
    refine t_aload_n (rfq_or _ _ _) DX2_addStick_16 rfl ?_
    obtain ⟨⟨hx7, hi8⟩, h⟩ := gd_inv h
    refine q_geti hx7 DX2_addStick_17 fl_X2_59 hR ct_1200 hi8 rfl ?_
    refine r_iconst (v := 1) DX2_addStick_20 ki_1 ?_
    refine r_isub DX2_addStick_21 ?_
    obtain ⟨r9, V10, hc11, h⟩ := bd_inv h
    refine k_callSN (As := [.int (x2), .int ((0 : Int32)), .int ((V4 1201 (x0).toNatClampNeg 0) - (1 : Int32))]) (rest := []) (st1 := [.int (r9)]) (w := some (.int r9)) DX2_addStick_22 csn_X2_62 (C_X11_within (out := (r9, V10)) (cxL X) hR hc11) rfl (by decide) (by decide) rfl (Nat.le_of_ble_eq_true rfl) rfl (fun M hR => ?_)
    refine r_if_eq DX2_addStick_25 (fun c12 => ?_) (fun c12 => ?_)
    · have h := if_t c12 h
      exact S_X2_addStick_33 hp hR h
    · have h := if_f c12 h
      refine r_iload_n DX2_addStick_28 rfl ?_
      refine r_iload_n DX2_addStick_29 rfl ?_
      refine r_icmp_ne DX2_addStick_30 (fun c13 => ?_) (fun c13 => ?_)
      · have h := if_f c13 h
        refine r_iload_n DX2_addStick_35 rfl ?_
        refine r_iconst (v := 0) DX2_addStick_36 ki_0 ?_
        refine r_iconst (v := 2) DX2_addStick_37 ki_2 ?_
        obtain ⟨r14, V15, hc16, h⟩ := bd_inv h
        refine k_callSN (As := [.int (x3), .int ((0 : Int32)), .int ((2 : Int32))]) (rest := []) (st1 := [.int (r14)]) (w := some (.int r14)) DX2_addStick_38 csn_X2_62 (C_X11_within (out := (r14, V15)) (cxL X) hR hc16) rfl (by decide) (by decide) rfl (Nat.le_of_ble_eq_true rfl) rfl (fun M hR => ?_)
        refine r_if_eq DX2_addStick_41 (fun c17 => ?_) (fun c17 => ?_)
        · have h := if_t c17 h
          exact S_X2_addStick_53 hp hR h
        · have h := if_f c17 h
          refine t_aload_n (rfq_or _ _ _) DX2_addStick_44 rfl ?_
          obtain ⟨⟨hx18, hi19⟩, h⟩ := gd_inv h
          refine q_geti hx18 DX2_addStick_45 fl_X2_42 hR ct_1200 hi19 rfl ?_
          refine r_bipush (v := 8) DX2_addStick_48 kb_8 ?_
          refine r_icmp_lt DX2_addStick_50 (fun c20 => ?_) (fun c20 => ?_)
          · have h := if_t c20 h
            refine t_aload_n (rfq_or _ _ _) DX2_addStick_55 rfl ?_
            refine q_geta hx18 DX2_addStick_56 fl_X2_11 hR ct_1200 hi19 rfl ?_
            refine t_aload_n (rfq_or _ _ _) DX2_addStick_59 rfl ?_
            refine q_geti hx18 DX2_addStick_60 fl_X2_42 hR ct_1200 hi19 rfl ?_
            refine r_iload_n DX2_addStick_63 rfl ?_
            obtain ⟨hg21, h⟩ := gd_inv h
            obtain ⟨V22, hv23, h⟩ := bv_inv h
            refine s_iast DX2_addStick_64 hR oka_1202 ct_1202 (hi19) hg21 (fun M hR => ?_)
            have hR := hR.cg hv23
            refine t_aload_n (rfq_or _ _ _) DX2_addStick_65 rfl ?_
            have hi24 := cnt_keep hv23 (b := 2104) (by decide) hi19
            refine q_geta hx18 DX2_addStick_66 fl_X2_15 hR ct_1200 hi24 rfl ?_
            refine t_aload_n (rfq_or _ _ _) DX2_addStick_69 rfl ?_
            refine q_geti hx18 DX2_addStick_70 fl_X2_42 hR ct_1200 hi24 rfl ?_
            refine r_iload_n DX2_addStick_73 rfl ?_
            obtain ⟨hg25, h⟩ := gd_inv h
            obtain ⟨V26, hv27, h⟩ := bv_inv h
            refine s_iast DX2_addStick_74 hR oka_1203 ct_1203 (hi24) hg25 (fun M hR => ?_)
            have hR := hR.cg hv27
            refine t_aload_n (rfq_or _ _ _) DX2_addStick_75 rfl ?_
            have hi28 := cnt_keep hv27 (b := 2104) (by decide) hi24
            refine q_geta hx18 DX2_addStick_76 fl_X2_18 hR ct_1200 hi28 rfl ?_
            refine t_aload_n (rfq_or _ _ _) DX2_addStick_79 rfl ?_
            refine q_geti hx18 DX2_addStick_80 fl_X2_42 hR ct_1200 hi28 rfl ?_
            refine r_iload_n DX2_addStick_83 rfl ?_
            obtain ⟨hg29, h⟩ := gd_inv h
            obtain ⟨V30, hv31, h⟩ := bv_inv h
            refine s_iast DX2_addStick_84 hR oka_1204 ct_1204 (hi28) hg29 (fun M hR => ?_)
            have hR := hR.cg hv31
            refine t_aload_n (rfq_or _ _ _) DX2_addStick_85 rfl ?_
            refine r_dup DX2_addStick_86 (rfq_cat _ _ _) ?_
            have hi32 := cnt_keep hv31 (b := 2104) (by decide) hi28
            refine q_geti hx18 DX2_addStick_87 fl_X2_42 hR ct_1200 hi32 rfl ?_
            refine r_iconst (v := 1) DX2_addStick_90 ki_1 ?_
            refine r_iadd DX2_addStick_91 ?_
            obtain ⟨V33, hv34, h⟩ := bv_inv h
            refine q_puti hx18 DX2_addStick_92 fp_X2_42 hR oks_1212 ct_1200 hi32 rfl rfl rfl (fun M hR => ?_)
            have hR := hR.cg hv34
            refine t_aload_n (rfq_or _ _ _) DX2_addStick_95 rfl ?_
            refine r_iconst (v := 0) DX2_addStick_96 ki_0 ?_
            have hi35 := cnt_keep hv34 (b := 2104) (by decide) hi32
            obtain ⟨V36, hv37, h⟩ := bv_inv h
            refine q_puti hx18 DX2_addStick_97 fp_X2_55 hR oks_1216 ct_1200 hi35 rfl rfl rfl (fun M hR => ?_)
            have hR := hR.cg hv37
            refine t_aload_n (rfq_or _ _ _) DX2_addStick_100 rfl ?_
            have hi38 := cnt_keep hv37 (b := 2104) (by decide) hi35
            refine q_geti hx18 DX2_addStick_101 fl_X2_42 hR ct_1200 hi38 rfl ?_
            refine r_iconst (v := 1) DX2_addStick_104 ki_1 ?_
            refine r_isub DX2_addStick_105 ?_
            cases h
            exact r_iret DX2_addStick_106 rfl ⟨Nat.le_refl 0, Nat.le_refl 0⟩ (hp M hR)
          · have h := if_f c20 h
            exact S_X2_addStick_53 hp hR h
      · have h := if_t c13 h
        exact S_X2_addStick_33 hp hR h
theorem C_X2_addStick {E : EN} {ad : AD} {fu : Nat} {out : Int32 × St} {V : St} {M : MH} {x0 : Int32} {x1 : Int32} {x2 : Int32} {x3 : Int32} (l : Launch) (hR : Rep E ad V M) (h : f_X2_addStick fu V x0 x1 x2 x3 = some out) : Ct E l yX2_addStick cX2_addStick 4 (some .int) (rmD 2) [rfq ad 1200 (x0), .int (x1), .int (x2), .int (x3)] M (fun v M => v = (some (.int out.1)) ∧ Rep E ad out.2 M) :=
  Ct.of (own := RX2) (ini := false) (L := [some (rfq ad 1200 (x0)), some (.int (x1)), some (.int (x2)), some (.int (x3))]) rfl rfl (fun h => by cases h) (by simp only [List.all_cons, List.all_nil, rfq_cat]; rfl) (Nat.le_of_ble_eq_true rfl) rfl (fun X _ => S_X2_addStick_0 (fun M hR => ⟨rfl, hR⟩) hR h)
theorem S_X11_stick_25 {E : EN} {X : CX} {P : Option Value → MH → Prop} {ad : AD} {fu : Nat} {out : Int32 × St} (hp : ∀ M, Rep E ad out.2 M → P (some (.int out.1)) M) {V : St} {M : MH} {s0 : Int32} {d0 : Option Value} {d1 : Option Value} {d2 : Option Value} {d3 : Option Value} {d4 : Option Value} {d5 : Option Value} (hR : Rep E ad V M) (h : F_X11_stick_25 fu V s0 = some out) : G E X RX11 cX11_stick 6 (some .int) false (rmD 5) P M [d0, d1, d2, d3, d4, d5] 0 0 25 [.int (s0)] := by
  unfold F_X11_stick_25 at h
  cases h
  exact r_iret DX11_stick_25 rfl ⟨Nat.le_refl 0, Nat.le_refl 0⟩ (hp M hR)
theorem S_X11_stick_0 {E : EN} {X : CX} {P : Option Value → MH → Prop} {ad : AD} {fu : Nat} {out : Int32 × St} (hp : ∀ M, Rep E ad out.2 M → P (some (.int out.1)) M) {V : St} {M : MH} {x1 : Int32} {x2 : Int32} {x3 : Int32} {x4 : Int32} (hR : Rep E ad V M) (h : f_X11_stick fu V x1 x2 x3 x4 = some out) : G E X RX11 cX11_stick 6 (some .int) false (rmD 5) P M [some (.ref (ad 2100 0)), some (.int (x1)), some (.int (x2)), some (.int (x3)), some (.int (x4)), none] 0 0 0 [] := by
  unfold f_X11_stick at h
  refine r_aload_n DX11_stick_0 rfl ?_
  refine r_iload_n DX11_stick_1 rfl ?_
  obtain ⟨r1, V2, hc3, h⟩ := bd_inv h
  refine k_callV (As := [.int (x1)]) (rest := []) (st1 := [rfq ad 1200 (r1)]) (w := some (rfq ad 1200 r1)) DX11_stick_2 cv_X11_133 hR ct_2100 (one_cnt _) rfl (C_X11_findDrawing (out := (r1, V2)) (cxL X) hR hc3) rfl (by decide) (by decide) rfl (Nat.le_of_ble_eq_true rfl) rfl (fun M hR => ?_)
  refine t_astore (L' := [some (.ref (ad 2100 0)), some (.int (x1)), some (.int (x2)), some (.int (x3)), some (.int (x4)), some (rfq ad 1200 (r1))]) (rfq_or _ _ _) DX11_stick_5 (by decide) rfl ?_
  refine t_aload (rfq_or _ _ _) DX11_stick_7 rfl ?_
  refine q_ifnonnull DX11_stick_9 (fun c4 => ?_) (fun c4 => ?_)
  · have h := if_f c4 h
    refine t_aload (rfq_or _ _ _) DX11_stick_16 rfl ?_
    refine r_iload_n DX11_stick_18 rfl ?_
    refine r_iload_n DX11_stick_19 rfl ?_
    refine r_iload DX11_stick_20 rfl ?_
    obtain ⟨⟨hx8, hi9⟩, h⟩ := gd_inv h
    obtain ⟨r5, V6, hc7, h⟩ := bd_inv h
    refine k_callQ (As := [.int (x2), .int (x3), .int (x4)]) (rest := []) (st1 := [.int (r5)]) (w := some (.int r5)) hx8 DX11_stick_22 cv_X11_137 hR ct_1200 hi9 rfl (C_X2_addStick (out := (r5, V6)) (cxL X) hR hc7) rfl (by decide) (by decide) rfl (Nat.le_of_ble_eq_true rfl) rfl (fun M hR => ?_)
    exact S_X11_stick_25 hp hR h
  · have h := if_t c4 h
    refine r_iconst (v := -1) DX11_stick_12 ki_m1 ?_
    refine r_goto DX11_stick_13 ?_
    exact S_X11_stick_25 hp hR h
theorem C_X11_stick {E : EN} {ad : AD} {fu : Nat} {out : Int32 × St} {V : St} {M : MH} {x1 : Int32} {x2 : Int32} {x3 : Int32} {x4 : Int32} (l : Launch) (hR : Rep E ad V M) (h : f_X11_stick fu V x1 x2 x3 x4 = some out) : Ct E l yX11_stick cX11_stick 6 (some .int) (rmD 5) [.ref (ad 2100 0), .int (x1), .int (x2), .int (x3), .int (x4)] M (fun v M => v = (some (.int out.1)) ∧ Rep E ad out.2 M) :=
  Ct.of (own := RX11) (ini := false) (L := [some (.ref (ad 2100 0)), some (.int (x1)), some (.int (x2)), some (.int (x3)), some (.int (x4)), none]) rfl rfl (fun h => by cases h) rfl (Nat.le_of_ble_eq_true rfl) rfl (fun X _ => S_X11_stick_0 (fun M hR => ⟨rfl, hR⟩) hR h)
theorem S_X11_waits_57 {E : EN} {X : CX} {P : Option Value → MH → Prop} {ad : AD} {fu : Nat} {out : Int32 × St} (hp : ∀ M, Rep E ad out.2 M → P (some (.int out.1)) M) {V : St} {M : MH} {s0 : Int32} {d0 : Option Value} {d1 : Option Value} {d2 : Option Value} (hR : Rep E ad V M) (h : F_X11_waits_57 fu V s0 = some out) : G E X RX11 cX11_waits 3 (some .int) false (rmD 5) P M [d0, d1, d2] 0 0 57 [.int (s0)] := by
  unfold F_X11_waits_57 at h
  cases h
  exact r_iret DX11_waits_57 rfl ⟨Nat.le_refl 0, Nat.le_refl 0⟩ (hp M hR)
theorem S_X11_waits_27 {E : EN} {X : CX} {P : Option Value → MH → Prop} {ad : AD} {fu : Nat} {out : Int32 × St} (hp : ∀ M, Rep E ad out.2 M → P (some (.int out.1)) M) {V : St} {M : MH} {d0 : Option Value} {d1 : Option Value} {d2 : Option Value} (hR : Rep E ad V M) (h : F_X11_waits_27 fu V = some out) : G E X RX11 cX11_waits 3 (some .int) false (rmD 5) P M [d0, d1, d2] 0 0 27 [] := by
  unfold F_X11_waits_27 at h
  refine r_iconst (v := -1) DX11_waits_27 ki_m1 ?_
  cases h
  exact r_iret DX11_waits_28 rfl ⟨Nat.le_refl 0, Nat.le_refl 0⟩ (hp M hR)
theorem S_X11_waits_0 {E : EN} {X : CX} {P : Option Value → MH → Prop} {ad : AD} {fu : Nat} {out : Int32 × St} (hp : ∀ M, Rep E ad out.2 M → P (some (.int out.1)) M) {V : St} {M : MH} {x1 : Int32} {x2 : Int32} (hR : Rep E ad V M) (h : f_X11_waits fu V x1 x2 = some out) : G E X RX11 cX11_waits 3 (some .int) false (rmD 5) P M [some (.ref (ad 2100 0)), some (.int (x1)), some (.int (x2))] 0 0 0 [] := by
  unfold f_X11_waits at h
  refine r_iload_n DX11_waits_0 rfl ?_
  refine r_iconst (v := 0) DX11_waits_1 ki_0 ?_
  refine r_aload_n DX11_waits_2 rfl ?_
  refine s_geto DX11_waits_3 fl_X11_39 hR ct_2100 (one_cnt _) rfl ?_
  refine s_lsize (Li := 2109) (g := 1100) DX11_waits_6 cv_X11_89 hR (by decide) (by decide) (Nat.le_of_ble_eq_true rfl) ?_
  refine r_iconst (v := 1) DX11_waits_9 ki_1 ?_
  refine r_isub DX11_waits_10 ?_
  obtain ⟨r1, V2, hc3, h⟩ := bd_inv h
  refine k_callS (As := [.int (x1), .int ((0 : Int32)), .int ((V 2109 0 0) - (1 : Int32))]) (rest := []) (st1 := [.int (r1)]) (w := some (.int r1)) DX11_waits_11 cs_X11_111 (C_X11_within (out := (r1, V2)) (cxL X) hR hc3) rfl (by decide) (by decide) rfl (Nat.le_of_ble_eq_true rfl) rfl (fun M hR => ?_)
  refine r_if_eq DX11_waits_14 (fun c4 => ?_) (fun c4 => ?_)
  · have h := if_t c4 h
    exact S_X11_waits_27 hp hR h
  · have h := if_f c4 h
    refine r_iload_n DX11_waits_17 rfl ?_
    refine r_iconst (v := 1) DX11_waits_18 ki_1 ?_
    refine r_bipush (v := 100) DX11_waits_19 kb_100 ?_
    obtain ⟨r5, V6, hc7, h⟩ := bd_inv h
    refine k_callS (As := [.int (x2), .int ((1 : Int32)), .int ((100 : Int32))]) (rest := []) (st1 := [.int (r5)]) (w := some (.int r5)) DX11_waits_21 cs_X11_111 (C_X11_within (out := (r5, V6)) (cxL X) hR hc7) rfl (by decide) (by decide) rfl (Nat.le_of_ble_eq_true rfl) rfl (fun M hR => ?_)
    refine r_if_ne DX11_waits_24 (fun c8 => ?_) (fun c8 => ?_)
    · have h := if_f c8 h
      refine r_aload_n DX11_waits_29 rfl ?_
      refine s_geto DX11_waits_30 fl_X11_39 hR ct_2100 (one_cnt _) rfl ?_
      refine r_iload_n DX11_waits_33 rfl ?_
      obtain ⟨⟨hx9, hi10⟩, h⟩ := gd_inv h
      refine s_lget (Li := 2109) (g := 1100) DX11_waits_34 cv_X11_93 hR (by decide) hx9 hi10 (by decide) (Nat.le_of_ble_eq_true rfl) (fun M hR => ?_)
      refine q_cast hx9 DX11_waits_37 wd_1135 hR ct_1100 hi10 rfl ?_
      refine q_geti hx9 DX11_waits_40 fl_X11_307 hR ct_1100 hi10 rfl ?_
      refine r_if_eq DX11_waits_43 (fun c11 => ?_) (fun c11 => ?_)
      · have h := if_t c11 h
        refine r_iconst (v := -1) DX11_waits_56 ki_m1 ?_
        exact S_X11_waits_57 hp hR h
      · have h := if_f c11 h
        refine r_aload_n DX11_waits_46 rfl ?_
        refine r_iload_n DX11_waits_47 rfl ?_
        obtain ⟨r12, V13, hc14, h⟩ := bd_inv h
        refine k_callV (As := [.int (x1)]) (rest := []) (st1 := [.int (r12)]) (w := some (.int r12)) DX11_waits_48 cv_X11_313 hR ct_2100 (one_cnt _) rfl (C_X11_howManyBefore (out := (r12, V13)) (cxL X) hR hc14) rfl (by decide) (by decide) rfl (Nat.le_of_ble_eq_true rfl) rfl (fun M hR => ?_)
        refine r_iload_n DX11_waits_51 rfl ?_
        obtain ⟨hn15, h⟩ := gd_inv h
        refine r_idiv DX11_waits_52 hn15 ?_
        refine r_goto DX11_waits_53 ?_
        exact S_X11_waits_57 hp hR h
    · have h := if_t c8 h
      exact S_X11_waits_27 hp hR h
theorem C_X11_waits {E : EN} {ad : AD} {fu : Nat} {out : Int32 × St} {V : St} {M : MH} {x1 : Int32} {x2 : Int32} (l : Launch) (hR : Rep E ad V M) (h : f_X11_waits fu V x1 x2 = some out) : Ct E l yX11_waits cX11_waits 3 (some .int) (rmD 5) [.ref (ad 2100 0), .int (x1), .int (x2)] M (fun v M => v = (some (.int out.1)) ∧ Rep E ad out.2 M) :=
  Ct.of (own := RX11) (ini := false) (L := [some (.ref (ad 2100 0)), some (.int (x1)), some (.int (x2))]) rfl rfl (fun h => by cases h) rfl (Nat.le_of_ble_eq_true rfl) rfl (fun X _ => S_X11_waits_0 (fun M hR => ⟨rfl, hR⟩) hR h)
theorem S_X4_lowestBar_82 {E : EN} {X : CX} {P : Option Value → MH → Prop} {ad : AD} {fu : Nat} {out : Int32 × St} (hp : ∀ M, Rep E ad out.2 M → P (some (.int out.1)) M) {V : St} {M : MH} {d0 : Option Value} {d1 : Option Value} {d2 : Option Value} {d3 : Option Value} {d4 : Option Value} (hR : Rep E ad V M) (h : F_X4_lowestBar_82 fu V = some out) : G E X RX4 cX4_lowestBar 5 (some .int) false (rmD 5) P M [d0, d1, d2, d3, d4] 0 0 82 [] := by
  unfold F_X4_lowestBar_82 at h
  refine r_iconst (v := -1) DX4_lowestBar_82 ki_m1 ?_
  cases h
  exact r_iret DX4_lowestBar_83 rfl ⟨Nat.le_refl 0, Nat.le_refl 0⟩ (hp M hR)
theorem S_X4_lowestBar_76 {E : EN} {X : CX} {P : Option Value → MH → Prop} {ad : AD} {fu : Nat} {out : Int32 × St} {kh : St → Int32 → Int32 → RR} {kx59 : St → Int32 → Int32 → Int32 → RR} {kx82 : St → RR} (hkh : ∀ {V : St} {M : MH} {x1 : Int32} {x2 : Int32} {d3 : Option Value} {d4 : Option Value}, Rep E ad V M → kh V x1 x2 = some out → G E X RX4 cX4_lowestBar 5 (some .int) false (rmD 5) P M [some (.ref (ad 1400 0)), some (.int (x1)), some (.int (x2)), d3, d4] 0 0 2 []) (hkx59 : ∀ {V : St} {M : MH} {x1 : Int32} {x2 : Int32} {x4 : Int32} {d0 : Option Value} {d3 : Option Value}, Rep E ad V M → kx59 V x1 x2 x4 = some out → G E X RX4 cX4_lowestBar 5 (some .int) false (rmD 5) P M [d0, some (.int (x1)), some (.int (x2)), d3, some (.int (x4))] 0 0 59 []) (hkx82 : ∀ {V : St} {M : MH} {d0 : Option Value} {d1 : Option Value} {d2 : Option Value} {d3 : Option Value} {d4 : Option Value}, Rep E ad V M → kx82 V  = some out → G E X RX4 cX4_lowestBar 5 (some .int) false (rmD 5) P M [d0, d1, d2, d3, d4] 0 0 82 []) (hp : ∀ M, Rep E ad out.2 M → P (some (.int out.1)) M) {V : St} {M : MH} {x1 : Int32} {x2 : Int32} {d3 : Option Value} {d4 : Option Value} (hR : Rep E ad V M) (h : F_X4_lowestBar_76 kh kx59 kx82 fu V x1 x2 = some out) : G E X RX4 cX4_lowestBar 5 (some .int) false (rmD 5) P M [some (.ref (ad 1400 0)), some (.int (x1)), some (.int (x2)), d3, d4] 0 0 76 [] := by
  unfold F_X4_lowestBar_76 at h
  refine t_iinc (v := 1) (L' := [some (.ref (ad 1400 0)), some (.int (x1)), some (.int (x2 + 1)), d3, d4]) DX4_lowestBar_76 rfl ki_1 (by decide) rfl ?_
  refine r_goto DX4_lowestBar_79 ?_
  exact hkh hR h
theorem S_X4_lowestBar_70 {E : EN} {X : CX} {P : Option Value → MH → Prop} {ad : AD} {fu : Nat} {out : Int32 × St} {kh : St → Int32 → Int32 → Int32 → Int32 → RR} {kx59 : St → Int32 → Int32 → Int32 → RR} {kx76 : St → Int32 → Int32 → RR} (hkh : ∀ {V : St} {M : MH} {x1 : Int32} {x2 : Int32} {x3 : Int32} {x4 : Int32}, Rep E ad V M → kh V x1 x2 x3 x4 = some out → G E X RX4 cX4_lowestBar 5 (some .int) false (rmD 5) P M [some (.ref (ad 1400 0)), some (.int (x1)), some (.int (x2)), some (rfq ad 1700 (x3)), some (.int (x4))] 0 0 28 []) (hkx59 : ∀ {V : St} {M : MH} {x1 : Int32} {x2 : Int32} {x4 : Int32} {d0 : Option Value} {d3 : Option Value}, Rep E ad V M → kx59 V x1 x2 x4 = some out → G E X RX4 cX4_lowestBar 5 (some .int) false (rmD 5) P M [d0, some (.int (x1)), some (.int (x2)), d3, some (.int (x4))] 0 0 59 []) (hkx76 : ∀ {V : St} {M : MH} {x1 : Int32} {x2 : Int32} {d3 : Option Value} {d4 : Option Value}, Rep E ad V M → kx76 V x1 x2 = some out → G E X RX4 cX4_lowestBar 5 (some .int) false (rmD 5) P M [some (.ref (ad 1400 0)), some (.int (x1)), some (.int (x2)), d3, d4] 0 0 76 []) (hp : ∀ M, Rep E ad out.2 M → P (some (.int out.1)) M) {V : St} {M : MH} {x1 : Int32} {x2 : Int32} {x3 : Int32} {x4 : Int32} (hR : Rep E ad V M) (h : F_X4_lowestBar_70 kh kx59 kx76 fu V x1 x2 x3 x4 = some out) : G E X RX4 cX4_lowestBar 5 (some .int) false (rmD 5) P M [some (.ref (ad 1400 0)), some (.int (x1)), some (.int (x2)), some (rfq ad 1700 (x3)), some (.int (x4))] 0 0 70 [] := by
  unfold F_X4_lowestBar_70 at h
  refine t_iinc (v := 1) (L' := [some (.ref (ad 1400 0)), some (.int (x1)), some (.int (x2)), some (rfq ad 1700 (x3)), some (.int (x4 + 1))]) DX4_lowestBar_70 rfl ki_1 (by decide) rfl ?_
  refine r_goto DX4_lowestBar_73 ?_
  exact hkh hR h
theorem S_X4_lowestBar_69 {E : EN} {X : CX} {P : Option Value → MH → Prop} {ad : AD} {fu : Nat} {out : Int32 × St} (hp : ∀ M, Rep E ad out.2 M → P (some (.int out.1)) M) {V : St} {M : MH} {s0 : Int32} {d0 : Option Value} {d1 : Option Value} {d2 : Option Value} {d3 : Option Value} {d4 : Option Value} (hR : Rep E ad V M) (h : F_X4_lowestBar_69 fu V s0 = some out) : G E X RX4 cX4_lowestBar 5 (some .int) false (rmD 5) P M [d0, d1, d2, d3, d4] 0 0 69 [.int (s0)] := by
  unfold F_X4_lowestBar_69 at h
  cases h
  exact r_iret DX4_lowestBar_69 rfl ⟨Nat.le_refl 0, Nat.le_refl 0⟩ (hp M hR)
theorem S_X4_lowestBar_59 {E : EN} {X : CX} {P : Option Value → MH → Prop} {ad : AD} {fu : Nat} {out : Int32 × St} (hp : ∀ M, Rep E ad out.2 M → P (some (.int out.1)) M) {V : St} {M : MH} {x1 : Int32} {x2 : Int32} {x4 : Int32} {d0 : Option Value} {d3 : Option Value} (hR : Rep E ad V M) (h : F_X4_lowestBar_59 fu V x1 x2 x4 = some out) : G E X RX4 cX4_lowestBar 5 (some .int) false (rmD 5) P M [d0, some (.int (x1)), some (.int (x2)), d3, some (.int (x4))] 0 0 59 [] := by
  unfold F_X4_lowestBar_59 at h
  refine r_iload_n DX4_lowestBar_59 rfl ?_
  refine r_if_eq DX4_lowestBar_60 (fun c1 => ?_) (fun c1 => ?_)
  · have h := if_t c1 h
    refine r_iload DX4_lowestBar_67 rfl ?_
    exact S_X4_lowestBar_69 hp hR h
  · have h := if_f c1 h
    refine r_iload_n DX4_lowestBar_63 rfl ?_
    refine r_goto DX4_lowestBar_64 ?_
    exact S_X4_lowestBar_69 hp hR h
theorem S_X4_lowestBar_28 {E : EN} {X : CX} {P : Option Value → MH → Prop} {ad : AD} {fu : Nat} {out : Int32 × St} {kh : St → Int32 → Int32 → Int32 → Int32 → RR} {kx59 : St → Int32 → Int32 → Int32 → RR} {kx76 : St → Int32 → Int32 → RR} (hkh : ∀ {V : St} {M : MH} {x1 : Int32} {x2 : Int32} {x3 : Int32} {x4 : Int32}, Rep E ad V M → kh V x1 x2 x3 x4 = some out → G E X RX4 cX4_lowestBar 5 (some .int) false (rmD 5) P M [some (.ref (ad 1400 0)), some (.int (x1)), some (.int (x2)), some (rfq ad 1700 (x3)), some (.int (x4))] 0 0 28 []) (hkx59 : ∀ {V : St} {M : MH} {x1 : Int32} {x2 : Int32} {x4 : Int32} {d0 : Option Value} {d3 : Option Value}, Rep E ad V M → kx59 V x1 x2 x4 = some out → G E X RX4 cX4_lowestBar 5 (some .int) false (rmD 5) P M [d0, some (.int (x1)), some (.int (x2)), d3, some (.int (x4))] 0 0 59 []) (hkx76 : ∀ {V : St} {M : MH} {x1 : Int32} {x2 : Int32} {d3 : Option Value} {d4 : Option Value}, Rep E ad V M → kx76 V x1 x2 = some out → G E X RX4 cX4_lowestBar 5 (some .int) false (rmD 5) P M [some (.ref (ad 1400 0)), some (.int (x1)), some (.int (x2)), d3, d4] 0 0 76 []) (hp : ∀ M, Rep E ad out.2 M → P (some (.int out.1)) M) {V : St} {M : MH} {x1 : Int32} {x2 : Int32} {x3 : Int32} {x4 : Int32} (hR : Rep E ad V M) (h : F_X4_lowestBar_28 kh kx59 kx76 fu V x1 x2 x3 x4 = some out) : G E X RX4 cX4_lowestBar 5 (some .int) false (rmD 5) P M [some (.ref (ad 1400 0)), some (.int (x1)), some (.int (x2)), some (rfq ad 1700 (x3)), some (.int (x4))] 0 0 28 [] := by
  unfold F_X4_lowestBar_28 at h
  refine r_iload DX4_lowestBar_28 rfl ?_
  refine t_aload_n (rfq_or _ _ _) DX4_lowestBar_30 rfl ?_
  obtain ⟨⟨hx1, hi2⟩, h⟩ := gd_inv h
  refine q_geti hx1 DX4_lowestBar_31 fl_X4_61 hR ct_1700 hi2 rfl ?_
  refine r_icmp_ge DX4_lowestBar_34 (fun c3 => ?_) (fun c3 => ?_)
  · have h := if_t c3 h
    exact hkx76 hR h
  · have h := if_f c3 h
    refine r_aload_n DX4_lowestBar_37 rfl ?_
    refine r_iload_n DX4_lowestBar_38 rfl ?_
    refine r_iload DX4_lowestBar_39 rfl ?_
    refine r_bipush (v := 98) DX4_lowestBar_41 kb_98 ?_
    obtain ⟨r4, V5, hc6, h⟩ := bd_inv h
    refine k_callV (As := [.int (x2), .int (x4), .int ((98 : Int32))]) (rest := []) (st1 := [.int (r4)]) (w := some (.int r4)) DX4_lowestBar_43 cv_X4_64 hR ct_1400 (one_cnt _) rfl (C_X4_counts (out := (r4, V5)) (cxL X) hR hc6) rfl (by decide) (by decide) rfl (Nat.le_of_ble_eq_true rfl) rfl (fun M hR => ?_)
    refine r_if_eq DX4_lowestBar_46 (fun c7 => ?_) (fun c7 => ?_)
    · have h := if_t c7 h
      exact S_X4_lowestBar_70 (fun hR h => hkh hR h) (fun hR h => hkx59 hR h) (fun hR h => hkx76 hR h) hp hR h
    · have h := if_f c7 h
      refine r_aload_n DX4_lowestBar_49 rfl ?_
      refine t_aload_n (rfq_or _ _ _) DX4_lowestBar_50 rfl ?_
      refine r_iload DX4_lowestBar_51 rfl ?_
      obtain ⟨r8, V9, hc10, h⟩ := bd_inv h
      refine k_callV (As := [rfq ad 1700 (x3), .int (x4)]) (rest := []) (st1 := [.int (r8)]) (w := some (.int r8)) DX4_lowestBar_53 cv_X4_108 hR ct_1400 (one_cnt _) rfl (C_X4_holds (out := (r8, V9)) (cxL X) hR hc10) rfl (by decide) (by decide) rfl (Nat.le_of_ble_eq_true rfl) rfl (fun M hR => ?_)
      refine r_if_eq DX4_lowestBar_56 (fun c11 => ?_) (fun c11 => ?_)
      · have h := if_t c11 h
        exact S_X4_lowestBar_70 (fun hR h => hkh hR h) (fun hR h => hkx59 hR h) (fun hR h => hkx76 hR h) hp hR h
      · have h := if_f c11 h
        exact hkx59 hR h
theorem SL_X4_lowestBar_28 {E : EN} {X : CX} {P : Option Value → MH → Prop} {ad : AD} {fu : Nat} {out : Int32 × St} {kx59 : St → Int32 → Int32 → Int32 → RR} {kx76 : St → Int32 → Int32 → RR} (hkx59 : ∀ {V : St} {M : MH} {x1 : Int32} {x2 : Int32} {x4 : Int32} {d0 : Option Value} {d3 : Option Value}, Rep E ad V M → kx59 V x1 x2 x4 = some out → G E X RX4 cX4_lowestBar 5 (some .int) false (rmD 5) P M [d0, some (.int (x1)), some (.int (x2)), d3, some (.int (x4))] 0 0 59 []) (hkx76 : ∀ {V : St} {M : MH} {x1 : Int32} {x2 : Int32} {d3 : Option Value} {d4 : Option Value}, Rep E ad V M → kx76 V x1 x2 = some out → G E X RX4 cX4_lowestBar 5 (some .int) false (rmD 5) P M [some (.ref (ad 1400 0)), some (.int (x1)), some (.int (x2)), d3, d4] 0 0 76 []) (hp : ∀ M, Rep E ad out.2 M → P (some (.int out.1)) M) : ∀ (n : Nat) {V : St} {M : MH} {x1 : Int32} {x2 : Int32} {x3 : Int32} {x4 : Int32}, Rep E ad V M → Lp_X4_lowestBar_28 kx59 kx76 fu n V x1 x2 x3 x4 = some out → G E X RX4 cX4_lowestBar 5 (some .int) false (rmD 5) P M [some (.ref (ad 1400 0)), some (.int (x1)), some (.int (x2)), some (rfq ad 1700 (x3)), some (.int (x4))] 0 0 28 [] := by
  intro n
  induction n with
  | zero => intros; rename_i h; cases h
  | succ n ih => exact fun hR h => S_X4_lowestBar_28 (fun hR h => ih hR h) (fun hR h => hkx59 hR h) (fun hR h => hkx76 hR h) hp hR h
theorem S_X4_lowestBar_2 {E : EN} {X : CX} {P : Option Value → MH → Prop} {ad : AD} {fu : Nat} {out : Int32 × St} {kh : St → Int32 → Int32 → RR} {kx59 : St → Int32 → Int32 → Int32 → RR} {kx82 : St → RR} (hkh : ∀ {V : St} {M : MH} {x1 : Int32} {x2 : Int32} {d3 : Option Value} {d4 : Option Value}, Rep E ad V M → kh V x1 x2 = some out → G E X RX4 cX4_lowestBar 5 (some .int) false (rmD 5) P M [some (.ref (ad 1400 0)), some (.int (x1)), some (.int (x2)), d3, d4] 0 0 2 []) (hkx59 : ∀ {V : St} {M : MH} {x1 : Int32} {x2 : Int32} {x4 : Int32} {d0 : Option Value} {d3 : Option Value}, Rep E ad V M → kx59 V x1 x2 x4 = some out → G E X RX4 cX4_lowestBar 5 (some .int) false (rmD 5) P M [d0, some (.int (x1)), some (.int (x2)), d3, some (.int (x4))] 0 0 59 []) (hkx82 : ∀ {V : St} {M : MH} {d0 : Option Value} {d1 : Option Value} {d2 : Option Value} {d3 : Option Value} {d4 : Option Value}, Rep E ad V M → kx82 V  = some out → G E X RX4 cX4_lowestBar 5 (some .int) false (rmD 5) P M [d0, d1, d2, d3, d4] 0 0 82 []) (hp : ∀ M, Rep E ad out.2 M → P (some (.int out.1)) M) {V : St} {M : MH} {x1 : Int32} {x2 : Int32} {d3 : Option Value} {d4 : Option Value} (hR : Rep E ad V M) (h : F_X4_lowestBar_2 kh kx59 kx82 fu V x1 x2 = some out) : G E X RX4 cX4_lowestBar 5 (some .int) false (rmD 5) P M [some (.ref (ad 1400 0)), some (.int (x1)), some (.int (x2)), d3, d4] 0 0 2 [] := by
  unfold F_X4_lowestBar_2 at h
  refine r_iload_n DX4_lowestBar_2 rfl ?_
  refine r_aload_n DX4_lowestBar_3 rfl ?_
  refine s_geto DX4_lowestBar_4 fl_X4_12 hR ct_1400 (one_cnt _) rfl ?_
  refine s_lsize (Li := 1401) (g := 1700) DX4_lowestBar_7 cv_X4_42 hR (by decide) (by decide) (Nat.le_of_ble_eq_true rfl) ?_
  refine r_icmp_ge DX4_lowestBar_10 (fun c1 => ?_) (fun c1 => ?_)
  · have h := if_t c1 h
    exact hkx82 hR h
  · have h := if_f c1 h
    refine r_aload_n DX4_lowestBar_13 rfl ?_
    refine s_geto DX4_lowestBar_14 fl_X4_12 hR ct_1400 (one_cnt _) rfl ?_
    refine r_iload_n DX4_lowestBar_17 rfl ?_
    obtain ⟨⟨hx2, hi3⟩, h⟩ := gd_inv h
    refine s_lget (Li := 1401) (g := 1700) DX4_lowestBar_18 cv_X4_46 hR (by decide) hx2 hi3 (by decide) (Nat.le_of_ble_eq_true rfl) (fun M hR => ?_)
    refine q_cast hx2 DX4_lowestBar_21 wd_358 hR ct_1700 hi3 rfl ?_
    refine t_astore_n (L' := [some (.ref (ad 1400 0)), some (.int (x1)), some (.int (x2)), some (rfq ad 1700 (x2)), d4]) (rfq_or _ _ _) DX4_lowestBar_24 (by decide) rfl ?_
    refine r_iconst (v := 0) DX4_lowestBar_25 ki_0 ?_
    refine t_istore (L' := [some (.ref (ad 1400 0)), some (.int (x1)), some (.int (x2)), some (rfq ad 1700 (x2)), some (.int ((0 : Int32)))]) DX4_lowestBar_26 (by decide) rfl ?_
    exact SL_X4_lowestBar_28 (fun hR h => hkx59 hR h) (fun hR h => S_X4_lowestBar_76 (fun hR h => hkh hR h) (fun hR h => hkx59 hR h) (fun hR h => hkx82 hR h) hp hR h) hp fu hR h
theorem SL_X4_lowestBar_2 {E : EN} {X : CX} {P : Option Value → MH → Prop} {ad : AD} {fu : Nat} {out : Int32 × St} {kx59 : St → Int32 → Int32 → Int32 → RR} {kx82 : St → RR} (hkx59 : ∀ {V : St} {M : MH} {x1 : Int32} {x2 : Int32} {x4 : Int32} {d0 : Option Value} {d3 : Option Value}, Rep E ad V M → kx59 V x1 x2 x4 = some out → G E X RX4 cX4_lowestBar 5 (some .int) false (rmD 5) P M [d0, some (.int (x1)), some (.int (x2)), d3, some (.int (x4))] 0 0 59 []) (hkx82 : ∀ {V : St} {M : MH} {d0 : Option Value} {d1 : Option Value} {d2 : Option Value} {d3 : Option Value} {d4 : Option Value}, Rep E ad V M → kx82 V  = some out → G E X RX4 cX4_lowestBar 5 (some .int) false (rmD 5) P M [d0, d1, d2, d3, d4] 0 0 82 []) (hp : ∀ M, Rep E ad out.2 M → P (some (.int out.1)) M) : ∀ (n : Nat) {V : St} {M : MH} {x1 : Int32} {x2 : Int32} {d3 : Option Value} {d4 : Option Value}, Rep E ad V M → Lp_X4_lowestBar_2 kx59 kx82 fu n V x1 x2 = some out → G E X RX4 cX4_lowestBar 5 (some .int) false (rmD 5) P M [some (.ref (ad 1400 0)), some (.int (x1)), some (.int (x2)), d3, d4] 0 0 2 [] := by
  intro n
  induction n with
  | zero => intros; rename_i h; cases h
  | succ n ih => exact fun hR h => S_X4_lowestBar_2 (fun hR h => ih hR h) (fun hR h => hkx59 hR h) (fun hR h => hkx82 hR h) hp hR h
theorem S_X4_lowestBar_0 {E : EN} {X : CX} {P : Option Value → MH → Prop} {ad : AD} {fu : Nat} {out : Int32 × St} (hp : ∀ M, Rep E ad out.2 M → P (some (.int out.1)) M) {V : St} {M : MH} {x1 : Int32} (hR : Rep E ad V M) (h : f_X4_lowestBar fu V x1 = some out) : G E X RX4 cX4_lowestBar 5 (some .int) false (rmD 5) P M [some (.ref (ad 1400 0)), some (.int (x1)), none, none, none] 0 0 0 [] := by
  unfold f_X4_lowestBar at h
  refine r_iconst (v := 0) DX4_lowestBar_0 ki_0 ?_
  refine t_istore_n (L' := [some (.ref (ad 1400 0)), some (.int (x1)), some (.int ((0 : Int32))), none, none]) DX4_lowestBar_1 (by decide) rfl ?_
  exact SL_X4_lowestBar_2 (fun hR h => S_X4_lowestBar_59 hp hR h) (fun hR h => S_X4_lowestBar_82 hp hR h) hp fu hR h
theorem C_X4_lowestBar {E : EN} {ad : AD} {fu : Nat} {out : Int32 × St} {V : St} {M : MH} {x1 : Int32} (l : Launch) (hR : Rep E ad V M) (h : f_X4_lowestBar fu V x1 = some out) : Ct E l yX4_lowestBar cX4_lowestBar 5 (some .int) (rmD 5) [.ref (ad 1400 0), .int (x1)] M (fun v M => v = (some (.int out.1)) ∧ Rep E ad out.2 M) :=
  Ct.of (own := RX4) (ini := false) (L := [some (.ref (ad 1400 0)), some (.int (x1)), none, none, none]) rfl rfl (fun h => by cases h) rfl (Nat.le_of_ble_eq_true rfl) rfl (fun X _ => S_X4_lowestBar_0 (fun M hR => ⟨rfl, hR⟩) hR h)
theorem S_X11_why_79 {E : EN} {X : CX} {P : Option Value → MH → Prop} {ad : AD} {fu : Nat} {out : Int32 × St} (hp : ∀ M, Rep E ad out.2 M → P (some (.int out.1)) M) {V : St} {M : MH} {s0 : Int32} {d0 : Option Value} {d1 : Option Value} {d2 : Option Value} {d3 : Option Value} {d4 : Option Value} {d5 : Option Value} (hR : Rep E ad V M) (h : F_X11_why_79 fu V s0 = some out) : G E X RX11 cX11_why 6 (some .int) false (rmD 6) P M [d0, d1, d2, d3, d4, d5] 0 0 79 [.int (s0), .ref (ad 1400 0)] := by
  unfold F_X11_why_79 at h
  obtain ⟨r1, V2, hc3, h⟩ := bd_inv h
  refine k_callV (As := [.int (s0)]) (rest := []) (st1 := [.int (r1)]) (w := some (.int r1)) DX11_why_79 cv_X11_256 hR ct_1400 (one_cnt _) rfl (C_X4_lowestBar (out := (r1, V2)) (cxL X) hR hc3) rfl (by decide) (by decide) rfl (Nat.le_of_ble_eq_true rfl) rfl (fun M hR => ?_)
  cases h
  exact r_iret DX11_why_82 rfl ⟨Nat.le_refl 0, Nat.le_refl 0⟩ (hp M hR)
theorem S_X11_why_33 {E : EN} {X : CX} {P : Option Value → MH → Prop} {ad : AD} {fu : Nat} {out : Int32 × St} (hp : ∀ M, Rep E ad out.2 M → P (some (.int out.1)) M) {V : St} {M : MH} {d0 : Option Value} {d1 : Option Value} {d2 : Option Value} {d3 : Option Value} {d4 : Option Value} {d5 : Option Value} (hR : Rep E ad V M) (h : F_X11_why_33 fu V = some out) : G E X RX11 cX11_why 6 (some .int) false (rmD 6) P M [d0, d1, d2, d3, d4, d5] 0 0 33 [] := by
  unfold F_X11_why_33 at h
  refine r_iconst (v := -1) DX11_why_33 ki_m1 ?_
  cases h
  exact r_iret DX11_why_34 rfl ⟨Nat.le_refl 0, Nat.le_refl 0⟩ (hp M hR)
theorem S_X11_why_0 {E : EN} {X : CX} {P : Option Value → MH → Prop} {ad : AD} {fu : Nat} {out : Int32 × St} (hp : ∀ M, Rep E ad out.2 M → P (some (.int out.1)) M) {V : St} {M : MH} {x1 : Int32} {x2 : Int32} {x3 : Int32} (hR : Rep E ad V M) (h : f_X11_why fu V x1 x2 x3 = some out) : G E X RX11 cX11_why 6 (some .int) false (rmD 6) P M [some (.ref (ad 2100 0)), some (.int (x1)), some (.int (x2)), some (.int (x3)), none, none] 0 0 0 [] := by
  unfold f_X11_why at h
  refine r_aload_n DX11_why_0 rfl ?_
  refine r_iload_n DX11_why_1 rfl ?_
  obtain ⟨r1, V2, hc3, h⟩ := bd_inv h
  refine k_callV (As := [.int (x1)]) (rest := []) (st1 := [rfq ad 2000 (r1)]) (w := some (rfq ad 2000 r1)) DX11_why_2 cv_X11_242 hR ct_2100 (one_cnt _) rfl (C_X11_findThing (out := (r1, V2)) (cxL X) hR hc3) rfl (by decide) (by decide) rfl (Nat.le_of_ble_eq_true rfl) rfl (fun M hR => ?_)
  refine t_astore (L' := [some (.ref (ad 2100 0)), some (.int (x1)), some (.int (x2)), some (.int (x3)), some (rfq ad 2000 (r1)), none]) (rfq_or _ _ _) DX11_why_5 (by decide) rfl ?_
  refine r_aload_n DX11_why_7 rfl ?_
  refine r_iload_n DX11_why_8 rfl ?_
  obtain ⟨r4, V5, hc6, h⟩ := bd_inv h
  refine k_callV (As := [.int (x2)]) (rest := []) (st1 := [rfq ad 1600 (r4)]) (w := some (rfq ad 1600 r4)) DX11_why_9 cv_X11_208 hR ct_2100 (one_cnt _) rfl (C_X11_findMaker (out := (r4, V5)) (cxL X) hR hc6) rfl (by decide) (by decide) rfl (Nat.le_of_ble_eq_true rfl) rfl (fun M hR => ?_)
  refine t_astore (L' := [some (.ref (ad 2100 0)), some (.int (x1)), some (.int (x2)), some (.int (x3)), some (rfq ad 2000 (r1)), some (rfq ad 1600 (r4))]) (rfq_or _ _ _) DX11_why_12 (by decide) rfl ?_
  refine t_aload (rfq_or _ _ _) DX11_why_14 rfl ?_
  refine q_ifnull DX11_why_16 (fun c7 => ?_) (fun c7 => ?_)
  · have h := if_t c7 h
    exact S_X11_why_33 hp hR h
  · have h := if_f c7 h
    refine t_aload (rfq_or _ _ _) DX11_why_19 rfl ?_
    refine q_ifnull DX11_why_21 (fun c8 => ?_) (fun c8 => ?_)
    · have h := if_t c8 h
      exact S_X11_why_33 hp hR h
    · have h := if_f c8 h
      refine r_iload_n DX11_why_24 rfl ?_
      refine r_iconst (v := 0) DX11_why_25 ki_0 ?_
      refine r_iconst (v := 1) DX11_why_26 ki_1 ?_
      obtain ⟨r9, V10, hc11, h⟩ := bd_inv h
      refine k_callS (As := [.int (x3), .int ((0 : Int32)), .int ((1 : Int32))]) (rest := []) (st1 := [.int (r9)]) (w := some (.int r9)) DX11_why_27 cs_X11_111 (C_X11_within (out := (r9, V10)) (cxL X) hR hc11) rfl (by decide) (by decide) rfl (Nat.le_of_ble_eq_true rfl) rfl (fun M hR => ?_)
      refine r_if_ne DX11_why_30 (fun c12 => ?_) (fun c12 => ?_)
      · have h := if_f c12 h
        refine r_aload_n DX11_why_35 rfl ?_
        refine s_geto DX11_why_36 fl_X11_68 hR ct_2100 (one_cnt _) rfl ?_
        refine r_aload_n DX11_why_39 rfl ?_
        refine s_geti DX11_why_40 fl_X11_7 hR ct_2100 (one_cnt _) rfl ?_
        refine r_aload_n DX11_why_43 rfl ?_
        refine s_geti DX11_why_44 fl_X11_7 hR ct_2100 (one_cnt _) rfl ?_
        refine r_iconst (v := -1) DX11_why_47 ki_m1 ?_
        obtain ⟨r13, V14, hc15, h⟩ := bd_inv h
        refine k_callV (As := [.int ((V10 2101 0 0)), .int ((V10 2101 0 0)), .int ((-1 : Int32))]) (rest := []) (st1 := []) (w := none) DX11_why_48 cv_X11_245 hR ct_1400 (one_cnt _) rfl (C_X4_weigh (out := (r13, V14)) (cxL X) hR hc15) rfl (by decide) (by decide) rfl (Nat.le_of_ble_eq_true rfl) rfl (fun M hR => ?_)
        refine r_aload_n DX11_why_51 rfl ?_
        refine s_geto DX11_why_52 fl_X11_68 hR ct_2100 (one_cnt _) rfl ?_
        refine r_aload_n DX11_why_55 rfl ?_
        refine s_geti DX11_why_56 fl_X11_7 hR ct_2100 (one_cnt _) rfl ?_
        refine t_aload (rfq_or _ _ _) DX11_why_59 rfl ?_
        refine t_aload (rfq_or _ _ _) DX11_why_61 rfl ?_
        obtain ⟨r16, V17, hc18, h⟩ := bd_inv h
        refine k_callV (As := [.int ((V14 2101 0 0)), rfq ad 2000 (r1), rfq ad 1600 (r4)]) (rest := []) (st1 := []) (w := none) DX11_why_63 cv_X11_248 hR ct_1400 (one_cnt _) rfl (C_X4_setLetters (out := (r16, V17)) (cxL X) hR hc18) rfl (by decide) (by decide) rfl (Nat.le_of_ble_eq_true rfl) rfl (fun M hR => ?_)
        refine r_aload_n DX11_why_66 rfl ?_
        refine s_geto DX11_why_67 fl_X11_68 hR ct_2100 (one_cnt _) rfl ?_
        refine r_iload_n DX11_why_70 rfl ?_
        refine r_if_ne DX11_why_71 (fun c19 => ?_) (fun c19 => ?_)
        · have h := if_f c19 h
          refine r_iconst (v := 0) DX11_why_78 ki_0 ?_
          exact S_X11_why_79 hp hR h
        · have h := if_t c19 h
          refine r_iconst (v := 1) DX11_why_74 ki_1 ?_
          refine r_goto DX11_why_75 ?_
          exact S_X11_why_79 hp hR h
      · have h := if_t c12 h
        exact S_X11_why_33 hp hR h
theorem C_X11_why {E : EN} {ad : AD} {fu : Nat} {out : Int32 × St} {V : St} {M : MH} {x1 : Int32} {x2 : Int32} {x3 : Int32} (l : Launch) (hR : Rep E ad V M) (h : f_X11_why fu V x1 x2 x3 = some out) : Ct E l yX11_why cX11_why 6 (some .int) (rmD 6) [.ref (ad 2100 0), .int (x1), .int (x2), .int (x3)] M (fun v M => v = (some (.int out.1)) ∧ Rep E ad out.2 M) :=
  Ct.of (own := RX11) (ini := false) (L := [some (.ref (ad 2100 0)), some (.int (x1)), some (.int (x2)), some (.int (x3)), none, none]) rfl rfl (fun h => by cases h) rfl (Nat.le_of_ble_eq_true rfl) rfl (fun X _ => S_X11_why_0 (fun M hR => ⟨rfl, hR⟩) hR h)
theorem S_X11_yardsFor_0 {E : EN} {X : CX} {P : Option Value → MH → Prop} {ad : AD} {fu : Nat} {out : Int32 × St} (hp : ∀ M, Rep E ad out.2 M → P (some (.int out.1)) M) {V : St} {M : MH} {x0 : Int32} {x1 : Int32} (hR : Rep E ad V M) (h : f_X11_yardsFor fu V x0 x1 = some out) : G E X RX11 cX11_yardsFor 2 (some .int) false (rmD 2) P M [some (rfq ad 2000 (x0)), some (.int (x1))] 0 0 0 [] := by
  unfold f_X11_yardsFor at h
  refine t_aload_n (rfq_or _ _ _) DX11_yardsFor_0 rfl ?_
  obtain ⟨⟨hx1, hi2⟩, h⟩ := gd_inv h
  refine q_geti hx1 DX11_yardsFor_1 fl_X11_376 hR ct_2000 hi2 rfl ?_
  refine r_iload_n DX11_yardsFor_4 rfl ?_
  refine r_imul DX11_yardsFor_5 ?_
  refine r_bipush (v := 36) DX11_yardsFor_6 kb_36 ?_
  obtain ⟨r3, V4, hc5, h⟩ := bd_inv h
  refine k_callS (As := [.int ((V 2005 (x0).toNatClampNeg 0) * x1), .int ((36 : Int32))]) (rest := []) (st1 := [.int (r3)]) (w := some (.int r3)) DX11_yardsFor_8 cs_X11_301 (C_X11_roundedUp (out := (r3, V4)) (cxL X) hR hc5) rfl (by decide) (by decide) rfl (Nat.le_of_ble_eq_true rfl) rfl (fun M hR => ?_)
  cases h
  exact r_iret DX11_yardsFor_11 rfl ⟨Nat.le_refl 0, Nat.le_refl 0⟩ (hp M hR)
theorem C_X11_yardsFor {E : EN} {ad : AD} {fu : Nat} {out : Int32 × St} {V : St} {M : MH} {x0 : Int32} {x1 : Int32} (l : Launch) (hR : Rep E ad V M) (h : f_X11_yardsFor fu V x0 x1 = some out) : Ct E l yX11_yardsFor cX11_yardsFor 2 (some .int) (rmD 2) [rfq ad 2000 (x0), .int (x1)] M (fun v M => v = (some (.int out.1)) ∧ Rep E ad out.2 M) :=
  Ct.of (own := RX11) (ini := false) (L := [some (rfq ad 2000 (x0)), some (.int (x1))]) rfl rfl (fun h => by cases h) (by simp only [List.all_cons, List.all_nil, rfq_cat]; rfl) (Nat.le_of_ble_eq_true rfl) rfl (fun X _ => S_X11_yardsFor_0 (fun M hR => ⟨rfl, hR⟩) hR h)
theorem S_X11_whyNotMade_99 {E : EN} {X : CX} {P : Option Value → MH → Prop} {ad : AD} {fu : Nat} {out : Int32 × St} (hp : ∀ M, Rep E ad out.2 M → P (some (.int out.1)) M) {V : St} {M : MH} {s0 : Int32} {d0 : Option Value} {d1 : Option Value} {d2 : Option Value} {d3 : Option Value} {d4 : Option Value} {d5 : Option Value} (hR : Rep E ad V M) (h : F_X11_whyNotMade_99 fu V s0 = some out) : G E X RX11 cX11_whyNotMade 6 (some .int) false (rmD 7) P M [d0, d1, d2, d3, d4, d5] 0 0 99 [.int (s0)] := by
  unfold F_X11_whyNotMade_99 at h
  cases h
  exact r_iret DX11_whyNotMade_99 rfl ⟨Nat.le_refl 0, Nat.le_refl 0⟩ (hp M hR)
theorem S_X11_whyNotMade_93 {E : EN} {X : CX} {P : Option Value → MH → Prop} {ad : AD} {fu : Nat} {out : Int32 × St} (hp : ∀ M, Rep E ad out.2 M → P (some (.int out.1)) M) {V : St} {M : MH} {d0 : Option Value} {d1 : Option Value} {d2 : Option Value} {d3 : Option Value} {d4 : Option Value} {d5 : Option Value} (hR : Rep E ad V M) (h : F_X11_whyNotMade_93 fu V = some out) : G E X RX11 cX11_whyNotMade 6 (some .int) false (rmD 7) P M [d0, d1, d2, d3, d4, d5] 0 0 93 [] := by
  unfold F_X11_whyNotMade_93 at h
  refine r_bipush (v := -5) DX11_whyNotMade_93 kb_m5 ?_
  refine r_goto DX11_whyNotMade_95 ?_
  exact S_X11_whyNotMade_99 hp hR h
theorem S_X11_whyNotMade_62 {E : EN} {X : CX} {P : Option Value → MH → Prop} {ad : AD} {fu : Nat} {out : Int32 × St} (hp : ∀ M, Rep E ad out.2 M → P (some (.int out.1)) M) {V : St} {M : MH} {x1 : Int32} {x3 : Int32} {d0 : Option Value} {d2 : Option Value} {d4 : Option Value} {d5 : Option Value} (hR : Rep E ad V M) (h : F_X11_whyNotMade_62 fu V x1 x3 = some out) : G E X RX11 cX11_whyNotMade 6 (some .int) false (rmD 7) P M [d0, some (rfq ad 1600 (x1)), d2, some (.int (x3)), d4, d5] 0 0 62 [] := by
  unfold F_X11_whyNotMade_62 at h
  refine t_aload_n (rfq_or _ _ _) DX11_whyNotMade_62 rfl ?_
  obtain ⟨⟨hx1, hi2⟩, h⟩ := gd_inv h
  refine q_geti hx1 DX11_whyNotMade_63 fl_X11_108 hR ct_1600 hi2 rfl ?_
  refine r_iload_n DX11_whyNotMade_66 rfl ?_
  refine r_iadd DX11_whyNotMade_67 ?_
  refine t_istore (L' := [d0, some (rfq ad 1600 (x1)), d2, some (.int (x3)), d4, some (.int ((V 1608 (x1).toNatClampNeg 0) + x3))]) DX11_whyNotMade_68 (by decide) rfl ?_
  refine r_iload DX11_whyNotMade_70 rfl ?_
  refine t_aload_n (rfq_or _ _ _) DX11_whyNotMade_72 rfl ?_
  refine q_geti hx1 DX11_whyNotMade_73 fl_X11_382 hR ct_1600 hi2 rfl ?_
  refine r_icmp_gt DX11_whyNotMade_76 (fun c3 => ?_) (fun c3 => ?_)
  · have h := if_t c3 h
    exact S_X11_whyNotMade_93 hp hR h
  · have h := if_f c3 h
    refine r_iload DX11_whyNotMade_79 rfl ?_
    refine t_aload_n (rfq_or _ _ _) DX11_whyNotMade_81 rfl ?_
    refine q_geti hx1 DX11_whyNotMade_82 fl_X11_385 hR ct_1600 hi2 rfl ?_
    refine t_aload_n (rfq_or _ _ _) DX11_whyNotMade_85 rfl ?_
    refine q_geti hx1 DX11_whyNotMade_86 fl_X11_360 hR ct_1600 hi2 rfl ?_
    refine r_imul DX11_whyNotMade_89 ?_
    refine r_icmp_le DX11_whyNotMade_90 (fun c4 => ?_) (fun c4 => ?_)
    · have h := if_t c4 h
      refine r_iconst (v := 0) DX11_whyNotMade_98 ki_0 ?_
      exact S_X11_whyNotMade_99 hp hR h
    · have h := if_f c4 h
      exact S_X11_whyNotMade_93 hp hR h
theorem S_X11_whyNotMade_35 {E : EN} {X : CX} {P : Option Value → MH → Prop} {ad : AD} {fu : Nat} {out : Int32 × St} (hp : ∀ M, Rep E ad out.2 M → P (some (.int out.1)) M) {V : St} {M : MH} {x1 : Int32} {x2 : Int32} {x3 : Int32} {d0 : Option Value} {d4 : Option Value} {d5 : Option Value} (hR : Rep E ad V M) (h : F_X11_whyNotMade_35 fu V x1 x2 x3 = some out) : G E X RX11 cX11_whyNotMade 6 (some .int) false (rmD 7) P M [d0, some (rfq ad 1600 (x1)), some (rfq ad 2000 (x2)), some (.int (x3)), d4, d5] 0 0 35 [] := by
  unfold F_X11_whyNotMade_35 at h
  refine t_aload_n (rfq_or _ _ _) DX11_whyNotMade_35 rfl ?_
  obtain ⟨⟨hx1, hi2⟩, h⟩ := gd_inv h
  refine q_geti hx1 DX11_whyNotMade_36 fl_X11_267 hR ct_2000 hi2 rfl ?_
  refine r_if_ne DX11_whyNotMade_39 (fun c3 => ?_) (fun c3 => ?_)
  · have h := if_f c3 h
    exact S_X11_whyNotMade_62 hp hR h
  · have h := if_t c3 h
    refine t_aload_n (rfq_or _ _ _) DX11_whyNotMade_42 rfl ?_
    refine r_iload_n DX11_whyNotMade_43 rfl ?_
    obtain ⟨r4, V5, hc6, h⟩ := bd_inv h
    refine k_callS (As := [rfq ad 2000 (x2), .int (x3)]) (rest := []) (st1 := [.int (r4)]) (w := some (.int r4)) DX11_whyNotMade_44 cs_X11_273 (C_X11_yardsFor (out := (r4, V5)) (cxL X) hR hc6) rfl (by decide) (by decide) rfl (Nat.le_of_ble_eq_true rfl) rfl (fun M hR => ?_)
    refine t_aload_n (rfq_or _ _ _) DX11_whyNotMade_47 rfl ?_
    obtain ⟨⟨hx7, hi8⟩, h⟩ := gd_inv h
    refine q_geta hx7 DX11_whyNotMade_48 fl_X11_216 hR ct_1600 hi8 rfl ?_
    refine t_aload_n (rfq_or _ _ _) DX11_whyNotMade_51 rfl ?_
    obtain ⟨⟨hx9, hi10⟩, h⟩ := gd_inv h
    refine q_geti hx9 DX11_whyNotMade_52 fl_X11_270 hR ct_2000 hi10 rfl ?_
    obtain ⟨hg11, h⟩ := gd_inv h
    refine s_iald DX11_whyNotMade_55 hR ct_1606 (hi8) hg11 ?_
    refine r_icmp_le DX11_whyNotMade_56 (fun c12 => ?_) (fun c12 => ?_)
    · have h := if_t c12 h
      exact S_X11_whyNotMade_62 hp hR h
    · have h := if_f c12 h
      refine r_bipush (v := -4) DX11_whyNotMade_59 kb_m4 ?_
      cases h
      exact r_iret DX11_whyNotMade_61 rfl ⟨Nat.le_refl 0, Nat.le_refl 0⟩ (hp M hR)
theorem S_X11_whyNotMade_0 {E : EN} {X : CX} {P : Option Value → MH → Prop} {ad : AD} {fu : Nat} {out : Int32 × St} (hp : ∀ M, Rep E ad out.2 M → P (some (.int out.1)) M) {V : St} {M : MH} {x1 : Int32} {x2 : Int32} {x3 : Int32} {x4 : Int32} (hR : Rep E ad V M) (h : f_X11_whyNotMade fu V x1 x2 x3 x4 = some out) : G E X RX11 cX11_whyNotMade 6 (some .int) false (rmD 7) P M [some (.ref (ad 2100 0)), some (rfq ad 1600 (x1)), some (rfq ad 2000 (x2)), some (.int (x3)), some (.int (x4)), none] 0 0 0 [] := by
  unfold f_X11_whyNotMade at h
  refine r_aload_n DX11_whyNotMade_0 rfl ?_
  refine r_bipush (v := 98) DX11_whyNotMade_1 kb_98 ?_
  refine t_aload_n (rfq_or _ _ _) DX11_whyNotMade_3 rfl ?_
  refine t_aload_n (rfq_or _ _ _) DX11_whyNotMade_4 rfl ?_
  obtain ⟨r1, V2, hc3, h⟩ := bd_inv h
  refine k_callV (As := [.int ((98 : Int32)), rfq ad 2000 (x2), rfq ad 1600 (x1)]) (rest := []) (st1 := [.int (r1)]) (w := some (.int r1)) DX11_whyNotMade_5 cv_X11_79 hR ct_2100 (one_cnt _) rfl (C_X11_askNow (out := (r1, V2)) (cxL X) hR hc3) rfl (by decide) (by decide) rfl (Nat.le_of_ble_eq_true rfl) rfl (fun M hR => ?_)
  refine r_iconst (v := -1) DX11_whyNotMade_8 ki_m1 ?_
  refine r_icmp_eq DX11_whyNotMade_9 (fun c4 => ?_) (fun c4 => ?_)
  · have h := if_t c4 h
    refine r_iload DX11_whyNotMade_15 rfl ?_
    refine r_if_eq DX11_whyNotMade_17 (fun c5 => ?_) (fun c5 => ?_)
    · have h := if_t c5 h
      exact S_X11_whyNotMade_35 hp hR h
    · have h := if_f c5 h
      refine r_aload_n DX11_whyNotMade_20 rfl ?_
      refine r_bipush (v := 109) DX11_whyNotMade_21 kb_109 ?_
      refine t_aload_n (rfq_or _ _ _) DX11_whyNotMade_23 rfl ?_
      refine t_aload_n (rfq_or _ _ _) DX11_whyNotMade_24 rfl ?_
      obtain ⟨r6, V7, hc8, h⟩ := bd_inv h
      refine k_callV (As := [.int ((109 : Int32)), rfq ad 2000 (x2), rfq ad 1600 (x1)]) (rest := []) (st1 := [.int (r6)]) (w := some (.int r6)) DX11_whyNotMade_25 cv_X11_79 hR ct_2100 (one_cnt _) rfl (C_X11_askNow (out := (r6, V7)) (cxL X) hR hc8) rfl (by decide) (by decide) rfl (Nat.le_of_ble_eq_true rfl) rfl (fun M hR => ?_)
      refine r_iconst (v := -1) DX11_whyNotMade_28 ki_m1 ?_
      refine r_icmp_ne DX11_whyNotMade_29 (fun c9 => ?_) (fun c9 => ?_)
      · have h := if_f c9 h
        exact S_X11_whyNotMade_35 hp hR h
      · have h := if_t c9 h
        refine r_bipush (v := -3) DX11_whyNotMade_32 kb_m3 ?_
        cases h
        exact r_iret DX11_whyNotMade_34 rfl ⟨Nat.le_refl 0, Nat.le_refl 0⟩ (hp M hR)
  · have h := if_f c4 h
    refine r_bipush (v := -2) DX11_whyNotMade_12 kb_m2 ?_
    cases h
    exact r_iret DX11_whyNotMade_14 rfl ⟨Nat.le_refl 0, Nat.le_refl 0⟩ (hp M hR)
theorem C_X11_whyNotMade {E : EN} {ad : AD} {fu : Nat} {out : Int32 × St} {V : St} {M : MH} {x1 : Int32} {x2 : Int32} {x3 : Int32} {x4 : Int32} (l : Launch) (hR : Rep E ad V M) (h : f_X11_whyNotMade fu V x1 x2 x3 x4 = some out) : Ct E l yX11_whyNotMade cX11_whyNotMade 6 (some .int) (rmD 7) [.ref (ad 2100 0), rfq ad 1600 (x1), rfq ad 2000 (x2), .int (x3), .int (x4)] M (fun v M => v = (some (.int out.1)) ∧ Rep E ad out.2 M) :=
  Ct.of (own := RX11) (ini := false) (L := [some (.ref (ad 2100 0)), some (rfq ad 1600 (x1)), some (rfq ad 2000 (x2)), some (.int (x3)), some (.int (x4)), none]) rfl rfl (fun h => by cases h) (by simp only [List.all_cons, List.all_nil, rfq_cat]; rfl) (Nat.le_of_ble_eq_true rfl) rfl (fun X _ => S_X11_whyNotMade_0 (fun M hR => ⟨rfl, hR⟩) hR h)
theorem S_X11_yards_31 {E : EN} {X : CX} {P : Option Value → MH → Prop} {ad : AD} {fu : Nat} {out : Int32 × St} (hp : ∀ M, Rep E ad out.2 M → P (some (.int out.1)) M) {V : St} {M : MH} {d0 : Option Value} {d1 : Option Value} {d2 : Option Value} {d3 : Option Value} {d4 : Option Value} (hR : Rep E ad V M) (h : F_X11_yards_31 fu V = some out) : G E X RX11 cX11_yards 5 (some .int) false (rmD 5) P M [d0, d1, d2, d3, d4] 0 0 31 [] := by
  unfold F_X11_yards_31 at h
  refine r_iconst (v := -1) DX11_yards_31 ki_m1 ?_
  cases h
  exact r_iret DX11_yards_32 rfl ⟨Nat.le_refl 0, Nat.le_refl 0⟩ (hp M hR)
theorem S_X11_yards_0 {E : EN} {X : CX} {P : Option Value → MH → Prop} {ad : AD} {fu : Nat} {out : Int32 × St} (hp : ∀ M, Rep E ad out.2 M → P (some (.int out.1)) M) {V : St} {M : MH} {x1 : Int32} {x2 : Int32} {x3 : Int32} (hR : Rep E ad V M) (h : f_X11_yards fu V x1 x2 x3 = some out) : G E X RX11 cX11_yards 5 (some .int) false (rmD 5) P M [some (.ref (ad 2100 0)), some (.int (x1)), some (.int (x2)), some (.int (x3)), none] 0 0 0 [] := by
  unfold f_X11_yards at h
  refine r_aload_n DX11_yards_0 rfl ?_
  refine r_iload_n DX11_yards_1 rfl ?_
  obtain ⟨r1, V2, hc3, h⟩ := bd_inv h
  refine k_callV (As := [.int (x1)]) (rest := []) (st1 := [rfq ad 1600 (r1)]) (w := some (rfq ad 1600 r1)) DX11_yards_2 cv_X11_208 hR ct_2100 (one_cnt _) rfl (C_X11_findMaker (out := (r1, V2)) (cxL X) hR hc3) rfl (by decide) (by decide) rfl (Nat.le_of_ble_eq_true rfl) rfl (fun M hR => ?_)
  refine t_astore (L' := [some (.ref (ad 2100 0)), some (.int (x1)), some (.int (x2)), some (.int (x3)), some (rfq ad 1600 (r1))]) (rfq_or _ _ _) DX11_yards_5 (by decide) rfl ?_
  refine t_aload (rfq_or _ _ _) DX11_yards_7 rfl ?_
  refine q_ifnull DX11_yards_9 (fun c4 => ?_) (fun c4 => ?_)
  · have h := if_t c4 h
    exact S_X11_yards_31 hp hR h
  · have h := if_f c4 h
    refine r_aload_n DX11_yards_12 rfl ?_
    refine r_iload_n DX11_yards_13 rfl ?_
    obtain ⟨r5, V6, hc7, h⟩ := bd_inv h
    refine k_callV (As := [.int (x2)]) (rest := []) (st1 := [rfq ad 1000 (r5)]) (w := some (rfq ad 1000 r5)) DX11_yards_14 cv_X11_161 hR ct_2100 (one_cnt _) rfl (C_X11_findCloth (out := (r5, V6)) (cxL X) hR hc7) rfl (by decide) (by decide) rfl (Nat.le_of_ble_eq_true rfl) rfl (fun M hR => ?_)
    refine q_ifnull DX11_yards_17 (fun c8 => ?_) (fun c8 => ?_)
    · have h := if_t c8 h
      exact S_X11_yards_31 hp hR h
    · have h := if_f c8 h
      refine r_iload_n DX11_yards_20 rfl ?_
      refine r_iconst (v := 1) DX11_yards_21 ki_1 ?_
      refine r_sipush (v := 10000) DX11_yards_22 ks_10000 ?_
      obtain ⟨r9, V10, hc11, h⟩ := bd_inv h
      refine k_callS (As := [.int (x3), .int ((1 : Int32)), .int ((10000 : Int32))]) (rest := []) (st1 := [.int (r9)]) (w := some (.int r9)) DX11_yards_25 cs_X11_111 (C_X11_within (out := (r9, V10)) (cxL X) hR hc11) rfl (by decide) (by decide) rfl (Nat.le_of_ble_eq_true rfl) rfl (fun M hR => ?_)
      refine r_if_ne DX11_yards_28 (fun c12 => ?_) (fun c12 => ?_)
      · have h := if_f c12 h
        refine t_aload (rfq_or _ _ _) DX11_yards_33 rfl ?_
        obtain ⟨⟨hx13, hi14⟩, h⟩ := gd_inv h
        refine q_geta hx13 DX11_yards_35 fl_X11_216 hR ct_1600 hi14 rfl ?_
        refine r_iload_n DX11_yards_38 rfl ?_
        obtain ⟨hg15, h⟩ := gd_inv h
        refine s_iald DX11_yards_39 hR ct_1606 (hi14) hg15 ?_
        refine r_iload_n DX11_yards_40 rfl ?_
        refine r_iadd DX11_yards_41 ?_
        refine r_ldc (v := 1000000) DX11_yards_42 ck_X11_99 ?_
        refine r_icmp_le DX11_yards_44 (fun c16 => ?_) (fun c16 => ?_)
        · have h := if_t c16 h
          refine t_aload (rfq_or _ _ _) DX11_yards_49 rfl ?_
          refine q_geta hx13 DX11_yards_51 fl_X11_216 hR ct_1600 hi14 rfl ?_
          refine r_iload_n DX11_yards_54 rfl ?_
          refine r_dup2 DX11_yards_55 rfl rfl ?_
          obtain ⟨hg17, h⟩ := gd_inv h
          refine s_iald DX11_yards_56 hR ct_1606 (hi14) hg17 ?_
          refine r_iload_n DX11_yards_57 rfl ?_
          refine r_iadd DX11_yards_58 ?_
          obtain ⟨hg18, h⟩ := gd_inv h
          obtain ⟨V19, hv20, h⟩ := bv_inv h
          refine s_iast DX11_yards_59 hR oka_1606 ct_1606 (hi14) hg18 (fun M hR => ?_)
          have hR := hR.cg hv20
          refine t_aload (rfq_or _ _ _) DX11_yards_60 rfl ?_
          have hi21 := cnt_keep hv20 (b := 2106) (by decide) hi14
          refine q_geta hx13 DX11_yards_62 fl_X11_216 hR ct_1600 hi21 rfl ?_
          refine r_iload_n DX11_yards_65 rfl ?_
          obtain ⟨hg22, h⟩ := gd_inv h
          refine s_iald DX11_yards_66 hR ct_1606 (hi21) hg22 ?_
          cases h
          exact r_iret DX11_yards_67 rfl ⟨Nat.le_refl 0, Nat.le_refl 0⟩ (hp M hR)
        · have h := if_f c16 h
          refine r_iconst (v := -1) DX11_yards_47 ki_m1 ?_
          cases h
          exact r_iret DX11_yards_48 rfl ⟨Nat.le_refl 0, Nat.le_refl 0⟩ (hp M hR)
      · have h := if_t c12 h
        exact S_X11_yards_31 hp hR h
theorem C_X11_yards {E : EN} {ad : AD} {fu : Nat} {out : Int32 × St} {V : St} {M : MH} {x1 : Int32} {x2 : Int32} {x3 : Int32} (l : Launch) (hR : Rep E ad V M) (h : f_X11_yards fu V x1 x2 x3 = some out) : Ct E l yX11_yards cX11_yards 5 (some .int) (rmD 5) [.ref (ad 2100 0), .int (x1), .int (x2), .int (x3)] M (fun v M => v = (some (.int out.1)) ∧ Rep E ad out.2 M) :=
  Ct.of (own := RX11) (ini := false) (L := [some (.ref (ad 2100 0)), some (.int (x1)), some (.int (x2)), some (.int (x3)), none]) rfl rfl (fun h => by cases h) rfl (Nat.le_of_ble_eq_true rfl) rfl (fun X _ => S_X11_yards_0 (fun M hR => ⟨rfl, hR⟩) hR h)
theorem S_X5_atLeast_68 {E : EN} {X : CX} {P : Option Value → MH → Prop} {ad : AD} {fu : Nat} {out : Int32 × St} (hp : ∀ M, Rep E ad out.2 M → P (some (.int out.1)) M) {V : St} {M : MH} {x4 : Int32} {d0 : Option Value} {d1 : Option Value} {d2 : Option Value} {d3 : Option Value} {d5 : Option Value} (hR : Rep E ad V M) (h : F_X5_atLeast_68 fu V x4 = some out) : G E X RX5 cX5_atLeast 6 (some .int) false (rmD 2) P M [d0, d1, d2, d3, some (.int (x4)), d5] 0 0 68 [] := by
  unfold F_X5_atLeast_68 at h
  refine r_iload DX5_atLeast_68 rfl ?_
  cases h
  exact r_iret DX5_atLeast_70 rfl ⟨Nat.le_refl 0, Nat.le_refl 0⟩ (hp M hR)
theorem S_X5_atLeast_57 {E : EN} {X : CX} {P : Option Value → MH → Prop} {ad : AD} {fu : Nat} {out : Int32 × St} {kh : St → Int32 → Int32 → Int32 → Int32 → Int32 → RR} {kx68 : St → Int32 → RR} (hkh : ∀ {V : St} {M : MH} {x1 : Int32} {x2 : Int32} {x3 : Int32} {x4 : Int32} {x5 : Int32}, Rep E ad V M → kh V x1 x2 x3 x4 x5 = some out → G E X RX5 cX5_atLeast 6 (some .int) false (rmD 2) P M [some (.ref (ad 1500 0)), some (.int (x1)), some (.int (x2)), some (.int (x3)), some (.int (x4)), some (.int (x5))] 0 0 13 []) (hkx68 : ∀ {V : St} {M : MH} {x4 : Int32} {d0 : Option Value} {d1 : Option Value} {d2 : Option Value} {d3 : Option Value} {d5 : Option Value}, Rep E ad V M → kx68 V x4 = some out → G E X RX5 cX5_atLeast 6 (some .int) false (rmD 2) P M [d0, d1, d2, d3, some (.int (x4)), d5] 0 0 68 []) (hp : ∀ M, Rep E ad out.2 M → P (some (.int out.1)) M) {V : St} {M : MH} {x1 : Int32} {x2 : Int32} {x3 : Int32} {x4 : Int32} {x5 : Int32} (hR : Rep E ad V M) (h : F_X5_atLeast_57 kh kx68 fu V x1 x2 x3 x4 x5 = some out) : G E X RX5 cX5_atLeast 6 (some .int) false (rmD 2) P M [some (.ref (ad 1500 0)), some (.int (x1)), some (.int (x2)), some (.int (x3)), some (.int (x4)), some (.int (x5))] 0 0 57 [] := by
  unfold F_X5_atLeast_57 at h
  refine r_iload DX5_atLeast_57 rfl ?_
  refine r_iconst (v := 1) DX5_atLeast_59 ki_1 ?_
  refine r_isub DX5_atLeast_60 ?_
  refine r_iload_n DX5_atLeast_61 rfl ?_
  refine r_iand DX5_atLeast_62 ?_
  refine t_istore (L' := [some (.ref (ad 1500 0)), some (.int (x1)), some (.int (x2)), some (.int (x3)), some (.int (x4)), some (.int ((x5 - (1 : Int32)) &&& x1))]) DX5_atLeast_63 (by decide) rfl ?_
  refine r_goto DX5_atLeast_65 ?_
  exact hkh hR h
theorem S_X5_atLeast_13 {E : EN} {X : CX} {P : Option Value → MH → Prop} {ad : AD} {fu : Nat} {out : Int32 × St} {kh : St → Int32 → Int32 → Int32 → Int32 → Int32 → RR} {kx68 : St → Int32 → RR} (hkh : ∀ {V : St} {M : MH} {x1 : Int32} {x2 : Int32} {x3 : Int32} {x4 : Int32} {x5 : Int32}, Rep E ad V M → kh V x1 x2 x3 x4 x5 = some out → G E X RX5 cX5_atLeast 6 (some .int) false (rmD 2) P M [some (.ref (ad 1500 0)), some (.int (x1)), some (.int (x2)), some (.int (x3)), some (.int (x4)), some (.int (x5))] 0 0 13 []) (hkx68 : ∀ {V : St} {M : MH} {x4 : Int32} {d0 : Option Value} {d1 : Option Value} {d2 : Option Value} {d3 : Option Value} {d5 : Option Value}, Rep E ad V M → kx68 V x4 = some out → G E X RX5 cX5_atLeast 6 (some .int) false (rmD 2) P M [d0, d1, d2, d3, some (.int (x4)), d5] 0 0 68 []) (hp : ∀ M, Rep E ad out.2 M → P (some (.int out.1)) M) {V : St} {M : MH} {x1 : Int32} {x2 : Int32} {x3 : Int32} {x4 : Int32} {x5 : Int32} (hR : Rep E ad V M) (h : F_X5_atLeast_13 kh kx68 fu V x1 x2 x3 x4 x5 = some out) : G E X RX5 cX5_atLeast 6 (some .int) false (rmD 2) P M [some (.ref (ad 1500 0)), some (.int (x1)), some (.int (x2)), some (.int (x3)), some (.int (x4)), some (.int (x5))] 0 0 13 [] := by
  unfold F_X5_atLeast_13 at h
  refine r_iload DX5_atLeast_13 rfl ?_
  refine r_if_le DX5_atLeast_15 (fun c1 => ?_) (fun c1 => ?_)
  · have h := if_t c1 h
    exact hkx68 hR h
  · have h := if_f c1 h
    refine r_aload_n DX5_atLeast_18 rfl ?_
    refine s_geta DX5_atLeast_19 fl_X5_11 hR ct_1500 (one_cnt _) rfl ?_
    refine r_iload DX5_atLeast_22 rfl ?_
    obtain ⟨hg2, h⟩ := gd_inv h
    refine s_iald DX5_atLeast_24 hR ct_1501 (one_cnt _) hg2 ?_
    refine r_iload_n DX5_atLeast_25 rfl ?_
    refine r_icmp_gt DX5_atLeast_26 (fun c3 => ?_) (fun c3 => ?_)
    · have h := if_t c3 h
      exact S_X5_atLeast_57 (fun hR h => hkh hR h) (fun hR h => hkx68 hR h) hp hR h
    · have h := if_f c3 h
      refine r_iload DX5_atLeast_29 rfl ?_
      refine r_iload_n DX5_atLeast_31 rfl ?_
      refine r_aload_n DX5_atLeast_32 rfl ?_
      refine s_geta DX5_atLeast_33 fl_X5_15 hR ct_1500 (one_cnt _) rfl ?_
      refine r_iload DX5_atLeast_36 rfl ?_
      obtain ⟨hg4, h⟩ := gd_inv h
      refine s_iald DX5_atLeast_38 hR ct_1502 (one_cnt _) hg4 ?_
      refine r_mmax DX5_atLeast_39 wd_730 (Nat.le_of_ble_eq_true rfl) (Nat.le_of_ble_eq_true rfl) ?_
      refine r_aload_n DX5_atLeast_42 rfl ?_
      refine s_geta DX5_atLeast_43 fl_X5_18 hR ct_1500 (one_cnt _) rfl ?_
      refine r_iload_n DX5_atLeast_46 rfl ?_
      refine r_iload DX5_atLeast_47 rfl ?_
      refine r_ixor DX5_atLeast_49 ?_
      obtain ⟨hg5, h⟩ := gd_inv h
      refine s_iald DX5_atLeast_50 hR ct_1503 (one_cnt _) hg5 ?_
      refine r_iadd DX5_atLeast_51 ?_
      refine r_mmin DX5_atLeast_52 wd_751 (Nat.le_of_ble_eq_true rfl) (Nat.le_of_ble_eq_true rfl) ?_
      refine t_istore (L' := [some (.ref (ad 1500 0)), some (.int (x1)), some (.int (x2)), some (.int (x3)), some (.int ((if (if x3 < (V 1502 (0) (x5).toNatClampNeg) then (V 1502 (0) (x5).toNatClampNeg) else x3) + (V 1503 (0) (x1 ^^^ x5).toNatClampNeg) < x4 then (if x3 < (V 1502 (0) (x5).toNatClampNeg) then (V 1502 (0) (x5).toNatClampNeg) else x3) + (V 1503 (0) (x1 ^^^ x5).toNatClampNeg) else x4))), some (.int (x5))]) DX5_atLeast_55 (by decide) rfl ?_
      exact S_X5_atLeast_57 (fun hR h => hkh hR h) (fun hR h => hkx68 hR h) hp hR h
theorem SL_X5_atLeast_13 {E : EN} {X : CX} {P : Option Value → MH → Prop} {ad : AD} {fu : Nat} {out : Int32 × St} {kx68 : St → Int32 → RR} (hkx68 : ∀ {V : St} {M : MH} {x4 : Int32} {d0 : Option Value} {d1 : Option Value} {d2 : Option Value} {d3 : Option Value} {d5 : Option Value}, Rep E ad V M → kx68 V x4 = some out → G E X RX5 cX5_atLeast 6 (some .int) false (rmD 2) P M [d0, d1, d2, d3, some (.int (x4)), d5] 0 0 68 []) (hp : ∀ M, Rep E ad out.2 M → P (some (.int out.1)) M) : ∀ (n : Nat) {V : St} {M : MH} {x1 : Int32} {x2 : Int32} {x3 : Int32} {x4 : Int32} {x5 : Int32}, Rep E ad V M → Lp_X5_atLeast_13 kx68 fu n V x1 x2 x3 x4 x5 = some out → G E X RX5 cX5_atLeast 6 (some .int) false (rmD 2) P M [some (.ref (ad 1500 0)), some (.int (x1)), some (.int (x2)), some (.int (x3)), some (.int (x4)), some (.int (x5))] 0 0 13 [] := by
  intro n
  induction n with
  | zero => intros; rename_i h; cases h
  | succ n ih => exact fun hR h => S_X5_atLeast_13 (fun hR h => ih hR h) (fun hR h => hkx68 hR h) hp hR h
theorem S_X5_atLeast_0 {E : EN} {X : CX} {P : Option Value → MH → Prop} {ad : AD} {fu : Nat} {out : Int32 × St} (hp : ∀ M, Rep E ad out.2 M → P (some (.int out.1)) M) {V : St} {M : MH} {x1 : Int32} {x2 : Int32} {x3 : Int32} (hR : Rep E ad V M) (h : f_X5_atLeast fu V x1 x2 x3 = some out) : G E X RX5 cX5_atLeast 6 (some .int) false (rmD 2) P M [some (.ref (ad 1500 0)), some (.int (x1)), some (.int (x2)), some (.int (x3)), none, none] 0 0 0 [] := by
  unfold f_X5_atLeast at h
  refine r_iload_n DX5_atLeast_0 rfl ?_
  refine r_aload_n DX5_atLeast_1 rfl ?_
  refine s_geta DX5_atLeast_2 fl_X5_18 hR ct_1500 (one_cnt _) rfl ?_
  refine r_iload_n DX5_atLeast_5 rfl ?_
  obtain ⟨hg1, h⟩ := gd_inv h
  refine s_iald DX5_atLeast_6 hR ct_1503 (one_cnt _) hg1 ?_
  refine r_iadd DX5_atLeast_7 ?_
  refine t_istore (L' := [some (.ref (ad 1500 0)), some (.int (x1)), some (.int (x2)), some (.int (x3)), some (.int (x3 + (V 1503 (0) (x1).toNatClampNeg))), none]) DX5_atLeast_8 (by decide) rfl ?_
  refine r_iload_n DX5_atLeast_10 rfl ?_
  refine t_istore (L' := [some (.ref (ad 1500 0)), some (.int (x1)), some (.int (x2)), some (.int (x3)), some (.int (x3 + (V 1503 (0) (x1).toNatClampNeg))), some (.int (x1))]) DX5_atLeast_11 (by decide) rfl ?_
  exact SL_X5_atLeast_13 (fun hR h => S_X5_atLeast_68 hp hR h) hp fu hR h
theorem C_X5_atLeast {E : EN} {ad : AD} {fu : Nat} {out : Int32 × St} {V : St} {M : MH} {x1 : Int32} {x2 : Int32} {x3 : Int32} (l : Launch) (hR : Rep E ad V M) (h : f_X5_atLeast fu V x1 x2 x3 = some out) : Ct E l yX5_atLeast cX5_atLeast 6 (some .int) (rmD 2) [.ref (ad 1500 0), .int (x1), .int (x2), .int (x3)] M (fun v M => v = (some (.int out.1)) ∧ Rep E ad out.2 M) :=
  Ct.of (own := RX5) (ini := false) (L := [some (.ref (ad 1500 0)), some (.int (x1)), some (.int (x2)), some (.int (x3)), none, none]) rfl rfl (fun h => by cases h) rfl (Nat.le_of_ble_eq_true rfl) rfl (fun X _ => S_X5_atLeast_0 (fun M hR => ⟨rfl, hR⟩) hR h)
