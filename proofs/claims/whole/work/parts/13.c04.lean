theorem S_X11_first_60 {E : EN} {X : CX} {P : Option Value → MH → Prop} {ad : AD} {fu : Nat} {out : Int32 × St} (hp : ∀ M, Rep E ad out.2 M → P (some (.int out.1)) M) {V : St} {M : MH} {d0 : Option Value} {d1 : Option Value} {d2 : Option Value} {d3 : Option Value} {d4 : Option Value} (hR : Rep E ad V M) (h : F_X11_first_60 fu V = some out) : G E X RX11 cX11_first 5 (some .int) false (rmD 5) P M [d0, d1, d2, d3, d4] 0 0 60 [] := by
  unfold F_X11_first_60 at h
  refine r_iconst (v := -1) DX11_first_60 ki_m1 ?_
  cases h
  exact r_iret DX11_first_61 rfl ⟨Nat.le_refl 0, Nat.le_refl 0⟩ (hp M hR)
theorem S_X11_first_54 {E : EN} {X : CX} {P : Option Value → MH → Prop} {ad : AD} {fu : Nat} {out : Int32 × St} {kh : St → Int32 → Int32 → Int32 → RR} {kx52 : St → Int32 → RR} {kx60 : St → RR} (hkh : ∀ {V : St} {M : MH} {x1 : Int32} {x2 : Int32} {x3 : Int32} {d4 : Option Value}, Rep E ad V M → kh V x1 x2 x3 = some out → G E X RX11 cX11_first 5 (some .int) false (rmD 5) P M [some (.ref (ad 2100 0)), some (.int (x1)), some (.int (x2)), some (.int (x3)), d4] 0 0 2 []) (hkx52 : ∀ {V : St} {M : MH} {x3 : Int32} {d0 : Option Value} {d1 : Option Value} {d2 : Option Value} {d4 : Option Value}, Rep E ad V M → kx52 V x3 = some out → G E X RX11 cX11_first 5 (some .int) false (rmD 5) P M [d0, d1, d2, some (.int (x3)), d4] 0 0 52 []) (hkx60 : ∀ {V : St} {M : MH} {d0 : Option Value} {d1 : Option Value} {d2 : Option Value} {d3 : Option Value} {d4 : Option Value}, Rep E ad V M → kx60 V  = some out → G E X RX11 cX11_first 5 (some .int) false (rmD 5) P M [d0, d1, d2, d3, d4] 0 0 60 []) (hp : ∀ M, Rep E ad out.2 M → P (some (.int out.1)) M) {V : St} {M : MH} {x1 : Int32} {x2 : Int32} {x3 : Int32} {d4 : Option Value} (hR : Rep E ad V M) (h : F_X11_first_54 kh kx52 kx60 fu V x1 x2 x3 = some out) : G E X RX11 cX11_first 5 (some .int) false (rmD 5) P M [some (.ref (ad 2100 0)), some (.int (x1)), some (.int (x2)), some (.int (x3)), d4] 0 0 54 [] := by
  unfold F_X11_first_54 at h
  refine t_iinc (v := 1) (L' := [some (.ref (ad 2100 0)), some (.int (x1)), some (.int (x2)), some (.int (x3 + 1)), d4]) DX11_first_54 rfl ki_1 (by decide) rfl ?_
  refine r_goto DX11_first_57 ?_
  exact hkh hR h
theorem S_X11_first_52 {E : EN} {X : CX} {P : Option Value → MH → Prop} {ad : AD} {fu : Nat} {out : Int32 × St} (hp : ∀ M, Rep E ad out.2 M → P (some (.int out.1)) M) {V : St} {M : MH} {x3 : Int32} {d0 : Option Value} {d1 : Option Value} {d2 : Option Value} {d4 : Option Value} (hR : Rep E ad V M) (h : F_X11_first_52 fu V x3 = some out) : G E X RX11 cX11_first 5 (some .int) false (rmD 5) P M [d0, d1, d2, some (.int (x3)), d4] 0 0 52 [] := by
  unfold F_X11_first_52 at h
  refine r_iload_n DX11_first_52 rfl ?_
  cases h
  exact r_iret DX11_first_53 rfl ⟨Nat.le_refl 0, Nat.le_refl 0⟩ (hp M hR)
theorem S_X11_first_2 {E : EN} {X : CX} {P : Option Value → MH → Prop} {ad : AD} {fu : Nat} {out : Int32 × St} {kh : St → Int32 → Int32 → Int32 → RR} {kx52 : St → Int32 → RR} {kx60 : St → RR} (hkh : ∀ {V : St} {M : MH} {x1 : Int32} {x2 : Int32} {x3 : Int32} {d4 : Option Value}, Rep E ad V M → kh V x1 x2 x3 = some out → G E X RX11 cX11_first 5 (some .int) false (rmD 5) P M [some (.ref (ad 2100 0)), some (.int (x1)), some (.int (x2)), some (.int (x3)), d4] 0 0 2 []) (hkx52 : ∀ {V : St} {M : MH} {x3 : Int32} {d0 : Option Value} {d1 : Option Value} {d2 : Option Value} {d4 : Option Value}, Rep E ad V M → kx52 V x3 = some out → G E X RX11 cX11_first 5 (some .int) false (rmD 5) P M [d0, d1, d2, some (.int (x3)), d4] 0 0 52 []) (hkx60 : ∀ {V : St} {M : MH} {d0 : Option Value} {d1 : Option Value} {d2 : Option Value} {d3 : Option Value} {d4 : Option Value}, Rep E ad V M → kx60 V  = some out → G E X RX11 cX11_first 5 (some .int) false (rmD 5) P M [d0, d1, d2, d3, d4] 0 0 60 []) (hp : ∀ M, Rep E ad out.2 M → P (some (.int out.1)) M) {V : St} {M : MH} {x1 : Int32} {x2 : Int32} {x3 : Int32} {d4 : Option Value} (hR : Rep E ad V M) (h : F_X11_first_2 kh kx52 kx60 fu V x1 x2 x3 = some out) : G E X RX11 cX11_first 5 (some .int) false (rmD 5) P M [some (.ref (ad 2100 0)), some (.int (x1)), some (.int (x2)), some (.int (x3)), d4] 0 0 2 [] := by
  unfold F_X11_first_2 at h
  refine r_iload_n DX11_first_2 rfl ?_
  refine r_aload_n DX11_first_3 rfl ?_
  refine s_geto DX11_first_4 fl_X11_39 hR ct_2100 (one_cnt _) rfl ?_
  refine s_lsize (Li := 2109) (g := 1100) DX11_first_7 cv_X11_89 hR (by decide) (by decide) (Nat.le_of_ble_eq_true rfl) ?_
  refine r_icmp_ge DX11_first_10 (fun c1 => ?_) (fun c1 => ?_)
  · have h := if_t c1 h
    exact hkx60 hR h
  · have h := if_f c1 h
    refine r_aload_n DX11_first_13 rfl ?_
    refine s_geto DX11_first_14 fl_X11_39 hR ct_2100 (one_cnt _) rfl ?_
    refine r_iload_n DX11_first_17 rfl ?_
    obtain ⟨⟨hx2, hi3⟩, h⟩ := gd_inv h
    refine s_lget (Li := 2109) (g := 1100) DX11_first_18 cv_X11_93 hR (by decide) hx2 hi3 (by decide) (Nat.le_of_ble_eq_true rfl) (fun M hR => ?_)
    refine q_cast hx2 DX11_first_21 wd_1135 hR ct_1100 hi3 rfl ?_
    refine t_astore (L' := [some (.ref (ad 2100 0)), some (.int (x1)), some (.int (x2)), some (.int (x3)), some (rfq ad 1100 (x3))]) (rfq_or _ _ _) DX11_first_24 (by decide) rfl ?_
    refine t_aload (rfq_or _ _ _) DX11_first_26 rfl ?_
    refine q_geti hx2 DX11_first_28 fl_X11_307 hR ct_1100 hi3 rfl ?_
    refine r_if_eq DX11_first_31 (fun c4 => ?_) (fun c4 => ?_)
    · have h := if_t c4 h
      exact S_X11_first_54 (fun hR h => hkh hR h) (fun hR h => hkx52 hR h) (fun hR h => hkx60 hR h) hp hR h
    · have h := if_f c4 h
      refine t_aload (rfq_or _ _ _) DX11_first_34 rfl ?_
      refine q_geti hx2 DX11_first_36 fl_X11_310 hR ct_1100 hi3 rfl ?_
      refine r_iload_n DX11_first_39 rfl ?_
      refine r_icmp_ne DX11_first_40 (fun c5 => ?_) (fun c5 => ?_)
      · have h := if_f c5 h
        exact S_X11_first_54 (fun hR h => hkh hR h) (fun hR h => hkx52 hR h) (fun hR h => hkx60 hR h) hp hR h
      · have h := if_t c5 h
        refine r_aload_n DX11_first_43 rfl ?_
        refine r_iload_n DX11_first_44 rfl ?_
        obtain ⟨r6, V7, hc8, h⟩ := bd_inv h
        refine k_callV (As := [.int (x3)]) (rest := []) (st1 := [.int (r6)]) (w := some (.int r6)) DX11_first_45 cv_X11_313 hR ct_2100 (one_cnt _) rfl (C_X11_howManyBefore (out := (r6, V7)) (cxL X) hR hc8) rfl (by decide) (by decide) rfl (Nat.le_of_ble_eq_true rfl) rfl (fun M hR => ?_)
        refine r_iload_n DX11_first_48 rfl ?_
        refine r_icmp_ne DX11_first_49 (fun c9 => ?_) (fun c9 => ?_)
        · have h := if_f c9 h
          exact S_X11_first_54 (fun hR h => hkh hR h) (fun hR h => hkx52 hR h) (fun hR h => hkx60 hR h) hp hR h
        · have h := if_t c9 h
          exact hkx52 hR h
theorem SL_X11_first_2 {E : EN} {X : CX} {P : Option Value → MH → Prop} {ad : AD} {fu : Nat} {out : Int32 × St} {kx52 : St → Int32 → RR} {kx60 : St → RR} (hkx52 : ∀ {V : St} {M : MH} {x3 : Int32} {d0 : Option Value} {d1 : Option Value} {d2 : Option Value} {d4 : Option Value}, Rep E ad V M → kx52 V x3 = some out → G E X RX11 cX11_first 5 (some .int) false (rmD 5) P M [d0, d1, d2, some (.int (x3)), d4] 0 0 52 []) (hkx60 : ∀ {V : St} {M : MH} {d0 : Option Value} {d1 : Option Value} {d2 : Option Value} {d3 : Option Value} {d4 : Option Value}, Rep E ad V M → kx60 V  = some out → G E X RX11 cX11_first 5 (some .int) false (rmD 5) P M [d0, d1, d2, d3, d4] 0 0 60 []) (hp : ∀ M, Rep E ad out.2 M → P (some (.int out.1)) M) : ∀ (n : Nat) {V : St} {M : MH} {x1 : Int32} {x2 : Int32} {x3 : Int32} {d4 : Option Value}, Rep E ad V M → Lp_X11_first_2 kx52 kx60 fu n V x1 x2 x3 = some out → G E X RX11 cX11_first 5 (some .int) false (rmD 5) P M [some (.ref (ad 2100 0)), some (.int (x1)), some (.int (x2)), some (.int (x3)), d4] 0 0 2 [] := by
  intro n
  induction n with
  | zero => intros; rename_i h; cases h
  | succ n ih => exact fun hR h => S_X11_first_2 (fun hR h => ih hR h) (fun hR h => hkx52 hR h) (fun hR h => hkx60 hR h) hp hR h
theorem S_X11_first_0 {E : EN} {X : CX} {P : Option Value → MH → Prop} {ad : AD} {fu : Nat} {out : Int32 × St} (hp : ∀ M, Rep E ad out.2 M → P (some (.int out.1)) M) {V : St} {M : MH} {x1 : Int32} {x2 : Int32} (hR : Rep E ad V M) (h : f_X11_first fu V x1 x2 = some out) : G E X RX11 cX11_first 5 (some .int) false (rmD 5) P M [some (.ref (ad 2100 0)), some (.int (x1)), some (.int (x2)), none, none] 0 0 0 [] := by
  unfold f_X11_first at h
  refine r_iconst (v := 0) DX11_first_0 ki_0 ?_
  refine t_istore_n (L' := [some (.ref (ad 2100 0)), some (.int (x1)), some (.int (x2)), some (.int ((0 : Int32))), none]) DX11_first_1 (by decide) rfl ?_
  exact SL_X11_first_2 (fun hR h => S_X11_first_52 hp hR h) (fun hR h => S_X11_first_60 hp hR h) hp fu hR h
theorem C_X11_first {E : EN} {ad : AD} {fu : Nat} {out : Int32 × St} {V : St} {M : MH} {x1 : Int32} {x2 : Int32} (l : Launch) (hR : Rep E ad V M) (h : f_X11_first fu V x1 x2 = some out) : Ct E l yX11_first cX11_first 5 (some .int) (rmD 5) [.ref (ad 2100 0), .int (x1), .int (x2)] M (fun v M => v = (some (.int out.1)) ∧ Rep E ad out.2 M) :=
  Ct.of (own := RX11) (ini := false) (L := [some (.ref (ad 2100 0)), some (.int (x1)), some (.int (x2)), none, none]) rfl rfl (fun h => by cases h) rfl (Nat.le_of_ble_eq_true rfl) rfl (fun X _ => S_X11_first_0 (fun M hR => ⟨rfl, hR⟩) hR h)
theorem S_X11_goes_115 {E : EN} {X : CX} {P : Option Value → MH → Prop} {ad : AD} {fu : Nat} {out : Int32 × St} (hp : ∀ M, Rep E ad out.2 M → P (some (.int out.1)) M) {V : St} {M : MH} {d1 : Option Value} {d2 : Option Value} {d3 : Option Value} (hR : Rep E ad V M) (h : F_X11_goes_115 fu V = some out) : G E X RX11 cX11_goes 4 (some .int) false (rmD 7) P M [some (.ref (ad 2100 0)), d1, d2, d3] 0 0 115 [] := by
  unfold F_X11_goes_115 at h
  refine r_aload_n DX11_goes_115 rfl ?_
  refine s_geti DX11_goes_116 fl_X11_7 hR ct_2100 (one_cnt _) rfl ?_
  cases h
  exact r_iret DX11_goes_119 rfl ⟨Nat.le_refl 0, Nat.le_refl 0⟩ (hp M hR)
theorem S_X11_goes_83 {E : EN} {X : CX} {P : Option Value → MH → Prop} {ad : AD} {fu : Nat} {out : Int32 × St} {kh : St → Int32 → RR} {kx115 : St → RR} (hkh : ∀ {V : St} {M : MH} {x2 : Int32} {d1 : Option Value} {d3 : Option Value}, Rep E ad V M → kh V x2 = some out → G E X RX11 cX11_goes 4 (some .int) false (rmD 7) P M [some (.ref (ad 2100 0)), d1, some (.int (x2)), d3] 0 0 83 []) (hkx115 : ∀ {V : St} {M : MH} {d1 : Option Value} {d2 : Option Value} {d3 : Option Value}, Rep E ad V M → kx115 V  = some out → G E X RX11 cX11_goes 4 (some .int) false (rmD 7) P M [some (.ref (ad 2100 0)), d1, d2, d3] 0 0 115 []) (hp : ∀ M, Rep E ad out.2 M → P (some (.int out.1)) M) {V : St} {M : MH} {x2 : Int32} {d1 : Option Value} {d3 : Option Value} (hR : Rep E ad V M) (h : F_X11_goes_83 kh kx115 fu V x2 = some out) : G E X RX11 cX11_goes 4 (some .int) false (rmD 7) P M [some (.ref (ad 2100 0)), d1, some (.int (x2)), d3] 0 0 83 [] := by
  unfold F_X11_goes_83 at h
  refine r_iload_n DX11_goes_83 rfl ?_
  refine r_aload_n DX11_goes_84 rfl ?_
  refine s_geto DX11_goes_85 fl_X11_29 hR ct_2100 (one_cnt _) rfl ?_
  refine s_lsize (Li := 2106) (g := 1600) DX11_goes_88 cv_X11_89 hR (by decide) (by decide) (Nat.le_of_ble_eq_true rfl) ?_
  refine r_icmp_ge DX11_goes_91 (fun c1 => ?_) (fun c1 => ?_)
  · have h := if_t c1 h
    exact hkx115 hR h
  · have h := if_f c1 h
    refine r_aload_n DX11_goes_94 rfl ?_
    refine s_geto DX11_goes_95 fl_X11_29 hR ct_2100 (one_cnt _) rfl ?_
    refine r_iload_n DX11_goes_98 rfl ?_
    obtain ⟨⟨hx2, hi3⟩, h⟩ := gd_inv h
    refine s_lget (Li := 2106) (g := 1600) DX11_goes_99 cv_X11_93 hR (by decide) hx2 hi3 (by decide) (Nat.le_of_ble_eq_true rfl) (fun M hR => ?_)
    refine q_cast hx2 DX11_goes_102 wd_405 hR ct_1600 hi3 rfl ?_
    refine r_iconst (v := 0) DX11_goes_105 ki_0 ?_
    obtain ⟨V4, hv5, h⟩ := bv_inv h
    refine q_puti hx2 DX11_goes_106 fp_X11_108 hR oks_1608 ct_1600 hi3 rfl rfl rfl (fun M hR => ?_)
    have hR := hR.cg hv5
    refine t_iinc (v := 1) (L' := [some (.ref (ad 2100 0)), d1, some (.int (x2 + 1)), d3]) DX11_goes_109 rfl ki_1 (by decide) rfl ?_
    refine r_goto DX11_goes_112 ?_
    exact hkh hR h
theorem SL_X11_goes_83 {E : EN} {X : CX} {P : Option Value → MH → Prop} {ad : AD} {fu : Nat} {out : Int32 × St} {kx115 : St → RR} (hkx115 : ∀ {V : St} {M : MH} {d1 : Option Value} {d2 : Option Value} {d3 : Option Value}, Rep E ad V M → kx115 V  = some out → G E X RX11 cX11_goes 4 (some .int) false (rmD 7) P M [some (.ref (ad 2100 0)), d1, d2, d3] 0 0 115 []) (hp : ∀ M, Rep E ad out.2 M → P (some (.int out.1)) M) : ∀ (n : Nat) {V : St} {M : MH} {x2 : Int32} {d1 : Option Value} {d3 : Option Value}, Rep E ad V M → Lp_X11_goes_83 kx115 fu n V x2 = some out → G E X RX11 cX11_goes 4 (some .int) false (rmD 7) P M [some (.ref (ad 2100 0)), d1, some (.int (x2)), d3] 0 0 83 [] := by
  intro n
  induction n with
  | zero => intros; rename_i h; cases h
  | succ n ih => exact fun hR h => S_X11_goes_83 (fun hR h => ih hR h) (fun hR h => hkx115 hR h) hp hR h
theorem S_X11_goes_81 {E : EN} {X : CX} {P : Option Value → MH → Prop} {ad : AD} {fu : Nat} {out : Int32 × St} (hp : ∀ M, Rep E ad out.2 M → P (some (.int out.1)) M) {V : St} {M : MH} {d1 : Option Value} {d2 : Option Value} {d3 : Option Value} (hR : Rep E ad V M) (h : F_X11_goes_81 fu V = some out) : G E X RX11 cX11_goes 4 (some .int) false (rmD 7) P M [some (.ref (ad 2100 0)), d1, d2, d3] 0 0 81 [] := by
  unfold F_X11_goes_81 at h
  refine r_iconst (v := 0) DX11_goes_81 ki_0 ?_
  refine t_istore_n (L' := [some (.ref (ad 2100 0)), d1, some (.int ((0 : Int32))), d3]) DX11_goes_82 (by decide) rfl ?_
  exact SL_X11_goes_83 (fun hR h => S_X11_goes_115 hp hR h) hp fu hR h
theorem S_X11_goes_37 {E : EN} {X : CX} {P : Option Value → MH → Prop} {ad : AD} {fu : Nat} {out : Int32 × St} {kh : St → Int32 → Int32 → RR} {kx81 : St → RR} (hkh : ∀ {V : St} {M : MH} {x1 : Int32} {x2 : Int32} {d3 : Option Value}, Rep E ad V M → kh V x1 x2 = some out → G E X RX11 cX11_goes 4 (some .int) false (rmD 7) P M [some (.ref (ad 2100 0)), some (.int (x1)), some (.int (x2)), d3] 0 0 37 []) (hkx81 : ∀ {V : St} {M : MH} {d1 : Option Value} {d2 : Option Value} {d3 : Option Value}, Rep E ad V M → kx81 V  = some out → G E X RX11 cX11_goes 4 (some .int) false (rmD 7) P M [some (.ref (ad 2100 0)), d1, d2, d3] 0 0 81 []) (hp : ∀ M, Rep E ad out.2 M → P (some (.int out.1)) M) {V : St} {M : MH} {x1 : Int32} {x2 : Int32} {d3 : Option Value} (hR : Rep E ad V M) (h : F_X11_goes_37 kh kx81 fu V x1 x2 = some out) : G E X RX11 cX11_goes 4 (some .int) false (rmD 7) P M [some (.ref (ad 2100 0)), some (.int (x1)), some (.int (x2)), d3] 0 0 37 [] := by
  unfold F_X11_goes_37 at h
  refine r_iload_n DX11_goes_37 rfl ?_
  refine r_aload_n DX11_goes_38 rfl ?_
  refine s_geto DX11_goes_39 fl_X11_36 hR ct_2100 (one_cnt _) rfl ?_
  refine s_lsize (Li := 2108) (g := 1800) DX11_goes_42 cv_X11_89 hR (by decide) (by decide) (Nat.le_of_ble_eq_true rfl) ?_
  refine r_icmp_ge DX11_goes_45 (fun c1 => ?_) (fun c1 => ?_)
  · have h := if_t c1 h
    exact hkx81 hR h
  · have h := if_f c1 h
    refine r_aload_n DX11_goes_48 rfl ?_
    refine s_geto DX11_goes_49 fl_X11_36 hR ct_2100 (one_cnt _) rfl ?_
    refine r_iload_n DX11_goes_52 rfl ?_
    obtain ⟨⟨hx2, hi3⟩, h⟩ := gd_inv h
    refine s_lget (Li := 2108) (g := 1800) DX11_goes_53 cv_X11_93 hR (by decide) hx2 hi3 (by decide) (Nat.le_of_ble_eq_true rfl) (fun M hR => ?_)
    refine q_cast hx2 DX11_goes_56 wd_400 hR ct_1800 hi3 rfl ?_
    refine t_astore_n (L' := [some (.ref (ad 2100 0)), some (.int (x1)), some (.int (x2)), some (rfq ad 1800 (x2))]) (rfq_or _ _ _) DX11_goes_59 (by decide) rfl ?_
    refine t_aload_n (rfq_or _ _ _) DX11_goes_60 rfl ?_
    refine r_ldc (v := 1000000) DX11_goes_61 ck_X11_99 ?_
    refine t_aload_n (rfq_or _ _ _) DX11_goes_63 rfl ?_
    refine q_geti hx2 DX11_goes_64 fl_X11_100 hR ct_1800 hi3 rfl ?_
    refine r_iload_n DX11_goes_67 rfl ?_
    refine r_iadd DX11_goes_68 ?_
    refine r_mmin DX11_goes_69 wd_402 (Nat.le_of_ble_eq_true rfl) (by simp only [List.map_cons, List.map_nil, rfq_cat, List.sum_cons, List.sum_nil]; exact Nat.le_of_ble_eq_true rfl) ?_
    obtain ⟨V4, hv5, h⟩ := bv_inv h
    refine q_puti hx2 DX11_goes_72 fp_X11_100 hR oks_1801 ct_1800 hi3 rfl rfl rfl (fun M hR => ?_)
    have hR := hR.cg hv5
    refine t_iinc (v := 1) (L' := [some (.ref (ad 2100 0)), some (.int (x1)), some (.int (x2 + 1)), some (rfq ad 1800 (x2))]) DX11_goes_75 rfl ki_1 (by decide) rfl ?_
    refine r_goto DX11_goes_78 ?_
    exact hkh hR h
theorem SL_X11_goes_37 {E : EN} {X : CX} {P : Option Value → MH → Prop} {ad : AD} {fu : Nat} {out : Int32 × St} {kx81 : St → RR} (hkx81 : ∀ {V : St} {M : MH} {d1 : Option Value} {d2 : Option Value} {d3 : Option Value}, Rep E ad V M → kx81 V  = some out → G E X RX11 cX11_goes 4 (some .int) false (rmD 7) P M [some (.ref (ad 2100 0)), d1, d2, d3] 0 0 81 []) (hp : ∀ M, Rep E ad out.2 M → P (some (.int out.1)) M) : ∀ (n : Nat) {V : St} {M : MH} {x1 : Int32} {x2 : Int32} {d3 : Option Value}, Rep E ad V M → Lp_X11_goes_37 kx81 fu n V x1 x2 = some out → G E X RX11 cX11_goes 4 (some .int) false (rmD 7) P M [some (.ref (ad 2100 0)), some (.int (x1)), some (.int (x2)), d3] 0 0 37 [] := by
  intro n
  induction n with
  | zero => intros; rename_i h; cases h
  | succ n ih => exact fun hR h => S_X11_goes_37 (fun hR h => ih hR h) (fun hR h => hkx81 hR h) hp hR h
theorem S_X11_goes_0 {E : EN} {X : CX} {P : Option Value → MH → Prop} {ad : AD} {fu : Nat} {out : Int32 × St} (hp : ∀ M, Rep E ad out.2 M → P (some (.int out.1)) M) {V : St} {M : MH} (hR : Rep E ad V M) (h : f_X11_goes fu V = some out) : G E X RX11 cX11_goes 4 (some .int) false (rmD 7) P M [some (.ref (ad 2100 0)), none, none, none] 0 0 0 [] := by
  unfold f_X11_goes at h
  refine r_aload_n DX11_goes_0 rfl ?_
  refine s_geti DX11_goes_1 fl_X11_7 hR ct_2100 (one_cnt _) rfl ?_
  refine r_sipush (v := 499) DX11_goes_4 ks_499 ?_
  refine r_icmp_lt DX11_goes_7 (fun c1 => ?_) (fun c1 => ?_)
  · have h := if_t c1 h
    refine r_aload_n DX11_goes_12 rfl ?_
    refine r_dup DX11_goes_13 rfl ?_
    refine s_geti DX11_goes_14 fl_X11_7 hR ct_2100 (one_cnt _) rfl ?_
    refine r_iconst (v := 1) DX11_goes_17 ki_1 ?_
    refine r_iadd DX11_goes_18 ?_
    obtain ⟨V2, hv3, h⟩ := bv_inv h
    refine s_puti DX11_goes_19 fp_X11_7 hR oks_2101 ct_2100 (one_cnt _) rfl rfl rfl (fun M hR => ?_)
    have hR := hR.cg hv3
    refine r_iconst (v := 0) DX11_goes_22 ki_0 ?_
    refine r_aload_n DX11_goes_23 rfl ?_
    refine r_bipush (v := 103) DX11_goes_24 kb_103 ?_
    refine q_null (ad := ad) (g := 2000) DX11_goes_26 ?_
    refine q_null (ad := ad) (g := 1600) DX11_goes_27 ?_
    obtain ⟨r4, V5, hc6, h⟩ := bd_inv h
    refine k_callV (As := [.int ((103 : Int32)), rfq ad 2000 ((-1)), rfq ad 1600 ((-1))]) (rest := [.int ((0 : Int32))]) (st1 := [.int (r4), .int ((0 : Int32))]) (w := some (.int r4)) DX11_goes_28 cv_X11_79 hR ct_2100 (one_cnt _) rfl (C_X11_askNow (out := (r4, V5)) (cxL X) hR hc6) rfl (by decide) (by decide) rfl (Nat.le_of_ble_eq_true rfl) rfl (fun M hR => ?_)
    refine r_mmax DX11_goes_31 wd_395 (Nat.le_of_ble_eq_true rfl) (Nat.le_of_ble_eq_true rfl) ?_
    refine t_istore_n (L' := [some (.ref (ad 2100 0)), some (.int ((if (0 : Int32) < r4 then r4 else (0 : Int32)))), none, none]) DX11_goes_34 (by decide) rfl ?_
    refine r_iconst (v := 0) DX11_goes_35 ki_0 ?_
    refine t_istore_n (L' := [some (.ref (ad 2100 0)), some (.int ((if (0 : Int32) < r4 then r4 else (0 : Int32)))), some (.int ((0 : Int32))), none]) DX11_goes_36 (by decide) rfl ?_
    exact SL_X11_goes_37 (fun hR h => S_X11_goes_81 hp hR h) hp fu hR h
  · have h := if_f c1 h
    refine r_iconst (v := -1) DX11_goes_10 ki_m1 ?_
    cases h
    exact r_iret DX11_goes_11 rfl ⟨Nat.le_refl 0, Nat.le_refl 0⟩ (hp M hR)
theorem C_X11_goes {E : EN} {ad : AD} {fu : Nat} {out : Int32 × St} {V : St} {M : MH} (l : Launch) (hR : Rep E ad V M) (h : f_X11_goes fu V = some out) : Ct E l yX11_goes cX11_goes 4 (some .int) (rmD 7) [.ref (ad 2100 0)] M (fun v M => v = (some (.int out.1)) ∧ Rep E ad out.2 M) :=
  Ct.of (own := RX11) (ini := false) (L := [some (.ref (ad 2100 0)), none, none, none]) rfl rfl (fun h => by cases h) rfl (Nat.le_of_ble_eq_true rfl) rfl (fun X _ => S_X11_goes_0 (fun M hR => ⟨rfl, hR⟩) hR h)
theorem S_X11_gone_60 {E : EN} {X : CX} {P : Option Value → MH → Prop} {ad : AD} {fu : Nat} {out : Int32 × St} (hp : ∀ M, Rep E ad out.2 M → P (some (.int out.1)) M) {V : St} {M : MH} {s0 : Int32} {d0 : Option Value} {d1 : Option Value} {d2 : Option Value} {d3 : Option Value} {d4 : Option Value} (hR : Rep E ad V M) (h : F_X11_gone_60 fu V s0 = some out) : G E X RX11 cX11_gone 5 (some .int) false (rmD 5) P M [d0, d1, d2, d3, d4] 0 0 60 [.int (s0)] := by
  unfold F_X11_gone_60 at h
  cases h
  exact r_iret DX11_gone_60 rfl ⟨Nat.le_refl 0, Nat.le_refl 0⟩ (hp M hR)
theorem S_X11_gone_21 {E : EN} {X : CX} {P : Option Value → MH → Prop} {ad : AD} {fu : Nat} {out : Int32 × St} (hp : ∀ M, Rep E ad out.2 M → P (some (.int out.1)) M) {V : St} {M : MH} {d0 : Option Value} {d1 : Option Value} {d2 : Option Value} {d3 : Option Value} {d4 : Option Value} (hR : Rep E ad V M) (h : F_X11_gone_21 fu V = some out) : G E X RX11 cX11_gone 5 (some .int) false (rmD 5) P M [d0, d1, d2, d3, d4] 0 0 21 [] := by
  unfold F_X11_gone_21 at h
  refine r_iconst (v := -1) DX11_gone_21 ki_m1 ?_
  cases h
  exact r_iret DX11_gone_22 rfl ⟨Nat.le_refl 0, Nat.le_refl 0⟩ (hp M hR)
theorem S_X11_gone_0 {E : EN} {X : CX} {P : Option Value → MH → Prop} {ad : AD} {fu : Nat} {out : Int32 × St} (hp : ∀ M, Rep E ad out.2 M → P (some (.int out.1)) M) {V : St} {M : MH} {x1 : Int32} {x2 : Int32} (hR : Rep E ad V M) (h : f_X11_gone fu V x1 x2 = some out) : G E X RX11 cX11_gone 5 (some .int) false (rmD 5) P M [some (.ref (ad 2100 0)), some (.int (x1)), some (.int (x2)), none, none] 0 0 0 [] := by
  unfold f_X11_gone at h
  refine r_aload_n DX11_gone_0 rfl ?_
  refine r_iload_n DX11_gone_1 rfl ?_
  obtain ⟨r1, V2, hc3, h⟩ := bd_inv h
  refine k_callV (As := [.int (x1)]) (rest := []) (st1 := [rfq ad 2000 (r1)]) (w := some (rfq ad 2000 r1)) DX11_gone_2 cv_X11_242 hR ct_2100 (one_cnt _) rfl (C_X11_findThing (out := (r1, V2)) (cxL X) hR hc3) rfl (by decide) (by decide) rfl (Nat.le_of_ble_eq_true rfl) rfl (fun M hR => ?_)
  refine t_astore_n (L' := [some (.ref (ad 2100 0)), some (.int (x1)), some (.int (x2)), some (rfq ad 2000 (r1)), none]) (rfq_or _ _ _) DX11_gone_5 (by decide) rfl ?_
  refine t_aload_n (rfq_or _ _ _) DX11_gone_6 rfl ?_
  refine q_ifnull DX11_gone_7 (fun c4 => ?_) (fun c4 => ?_)
  · have h := if_t c4 h
    exact S_X11_gone_21 hp hR h
  · have h := if_f c4 h
    refine r_iload_n DX11_gone_10 rfl ?_
    refine r_iconst (v := 1) DX11_gone_11 ki_1 ?_
    refine r_ldcw (v := 100000) DX11_gone_12 ck_X11_283 ?_
    obtain ⟨r5, V6, hc7, h⟩ := bd_inv h
    refine k_callS (As := [.int (x2), .int ((1 : Int32)), .int ((100000 : Int32))]) (rest := []) (st1 := [.int (r5)]) (w := some (.int r5)) DX11_gone_15 cs_X11_111 (C_X11_within (out := (r5, V6)) (cxL X) hR hc7) rfl (by decide) (by decide) rfl (Nat.le_of_ble_eq_true rfl) rfl (fun M hR => ?_)
    refine r_if_ne DX11_gone_18 (fun c8 => ?_) (fun c8 => ?_)
    · have h := if_f c8 h
      refine t_aload_n (rfq_or _ _ _) DX11_gone_23 rfl ?_
      obtain ⟨⟨hx9, hi10⟩, h⟩ := gd_inv h
      refine q_geta hx9 DX11_gone_24 fl_X11_260 hR ct_2000 hi10 rfl ?_
      refine r_iconst (v := 0) DX11_gone_27 ki_0 ?_
      obtain ⟨hg11, h⟩ := gd_inv h
      refine s_iald DX11_gone_28 hR ct_2006 (hi10) hg11 ?_
      refine t_aload_n (rfq_or _ _ _) DX11_gone_29 rfl ?_
      refine q_geta hx9 DX11_gone_30 fl_X11_260 hR ct_2000 hi10 rfl ?_
      refine r_iconst (v := 1) DX11_gone_33 ki_1 ?_
      obtain ⟨hg12, h⟩ := gd_inv h
      refine s_iald DX11_gone_34 hR ct_2006 (hi10) hg12 ?_
      refine r_iadd DX11_gone_35 ?_
      refine t_istore (L' := [some (.ref (ad 2100 0)), some (.int (x1)), some (.int (x2)), some (rfq ad 2000 (r1)), some (.int ((V6 2006 ((r1).toNatClampNeg) ((0 : Int32)).toNatClampNeg) + (V6 2006 ((r1).toNatClampNeg) ((1 : Int32)).toNatClampNeg)))]) DX11_gone_36 (by decide) rfl ?_
      refine r_iload DX11_gone_38 rfl ?_
      refine r_if_ne DX11_gone_40 (fun c13 => ?_) (fun c13 => ?_)
      · have h := if_f c13 h
        refine r_aload_n DX11_gone_47 rfl ?_
        refine s_geti DX11_gone_48 fl_X11_7 hR ct_2100 (one_cnt _) rfl ?_
        refine r_iload DX11_gone_51 rfl ?_
        refine r_iload_n DX11_gone_53 rfl ?_
        obtain ⟨r14, V15, hc16, h⟩ := bd_inv h
        refine k_callS (As := [.int ((V6 2006 ((r1).toNatClampNeg) ((0 : Int32)).toNatClampNeg) + (V6 2006 ((r1).toNatClampNeg) ((1 : Int32)).toNatClampNeg)), .int (x2)]) (rest := [.int ((V6 2101 0 0))]) (st1 := [.int (r14), .int ((V6 2101 0 0))]) (w := some (.int r14)) DX11_gone_54 cs_X11_301 (C_X11_roundedUp (out := (r14, V15)) (cxL X) hR hc16) rfl (by decide) (by decide) rfl (Nat.le_of_ble_eq_true rfl) rfl (fun M hR => ?_)
        refine r_iadd DX11_gone_57 ?_
        refine r_iconst (v := 1) DX11_gone_58 ki_1 ?_
        refine r_isub DX11_gone_59 ?_
        exact S_X11_gone_60 hp hR h
      · have h := if_t c13 h
        refine r_iconst (v := -1) DX11_gone_43 ki_m1 ?_
        refine r_goto DX11_gone_44 ?_
        exact S_X11_gone_60 hp hR h
    · have h := if_t c8 h
      exact S_X11_gone_21 hp hR h
theorem C_X11_gone {E : EN} {ad : AD} {fu : Nat} {out : Int32 × St} {V : St} {M : MH} {x1 : Int32} {x2 : Int32} (l : Launch) (hR : Rep E ad V M) (h : f_X11_gone fu V x1 x2 = some out) : Ct E l yX11_gone cX11_gone 5 (some .int) (rmD 5) [.ref (ad 2100 0), .int (x1), .int (x2)] M (fun v M => v = (some (.int out.1)) ∧ Rep E ad out.2 M) :=
  Ct.of (own := RX11) (ini := false) (L := [some (.ref (ad 2100 0)), some (.int (x1)), some (.int (x2)), none, none]) rfl rfl (fun h => by cases h) rfl (Nat.le_of_ble_eq_true rfl) rfl (fun X _ => S_X11_gone_0 (fun M hR => ⟨rfl, hR⟩) hR h)
theorem S_X11_isMadeOf_66 {E : EN} {X : CX} {P : Option Value → MH → Prop} {ad : AD} {fu : Nat} {out : Int32 × St} (hp : ∀ M, Rep E ad out.2 M → P (some (.int out.1)) M) {V : St} {M : MH} {s0 : Int32} {d0 : Option Value} {d1 : Option Value} {d2 : Option Value} (hR : Rep E ad V M) (h : F_X11_isMadeOf_66 fu V s0 = some out) : G E X RX11 cX11_isMadeOf 3 (some .boolean) false (rmD 5) P M [d0, d1, d2] 0 0 66 [.int (s0)] := by
  unfold F_X11_isMadeOf_66 at h
  obtain ⟨hz1, h⟩ := gd_inv h
  cases h
  exact r_zret DX11_isMadeOf_66 rfl (nz_nar hz1) ⟨Nat.le_refl 0, Nat.le_refl 0⟩ (hp M hR)
theorem S_X11_isMadeOf_55 {E : EN} {X : CX} {P : Option Value → MH → Prop} {ad : AD} {fu : Nat} {out : Int32 × St} (hp : ∀ M, Rep E ad out.2 M → P (some (.int out.1)) M) {V : St} {M : MH} {s0 : Int32} {d0 : Option Value} {d1 : Option Value} {d2 : Option Value} (hR : Rep E ad V M) (h : F_X11_isMadeOf_55 fu V s0 = some out) : G E X RX11 cX11_isMadeOf 3 (some .boolean) false (rmD 5) P M [d0, d1, d2] 0 0 55 [.int (s0)] := by
  unfold F_X11_isMadeOf_55 at h
  obtain ⟨hz1, h⟩ := gd_inv h
  cases h
  exact r_zret DX11_isMadeOf_55 rfl (nz_nar hz1) ⟨Nat.le_refl 0, Nat.le_refl 0⟩ (hp M hR)
theorem S_X11_isMadeOf_41 {E : EN} {X : CX} {P : Option Value → MH → Prop} {ad : AD} {fu : Nat} {out : Int32 × St} (hp : ∀ M, Rep E ad out.2 M → P (some (.int out.1)) M) {V : St} {M : MH} {s0 : Int32} {d0 : Option Value} {d1 : Option Value} {d2 : Option Value} (hR : Rep E ad V M) (h : F_X11_isMadeOf_41 fu V s0 = some out) : G E X RX11 cX11_isMadeOf 3 (some .boolean) false (rmD 5) P M [d0, d1, d2] 0 0 41 [.int (s0)] := by
  unfold F_X11_isMadeOf_41 at h
  obtain ⟨hz1, h⟩ := gd_inv h
  cases h
  exact r_zret DX11_isMadeOf_41 rfl (nz_nar hz1) ⟨Nat.le_refl 0, Nat.le_refl 0⟩ (hp M hR)
theorem S_X11_isMadeOf_0 {E : EN} {X : CX} {P : Option Value → MH → Prop} {ad : AD} {fu : Nat} {out : Int32 × St} (hp : ∀ M, Rep E ad out.2 M → P (some (.int out.1)) M) {V : St} {M : MH} {x1 : Int32} {x2 : Int32} (hR : Rep E ad V M) (h : f_X11_isMadeOf fu V x1 x2 = some out) : G E X RX11 cX11_isMadeOf 3 (some .boolean) false (rmD 5) P M [some (.ref (ad 2100 0)), some (.int (x1)), some (.int (x2))] 0 0 0 [] := by
  unfold f_X11_isMadeOf at h
  refine r_iload_n DX11_isMadeOf_0 rfl ?_
  by_cases e5 : x1 = 0
  · have h := if_t e5 h
    refine r_table (tgt := 28) DX11_isMadeOf_1 (Or.inr ⟨by rw [e5]; decide, by rw [e5]; decide, by rw [e5]; rfl⟩) rfl ?_
    refine r_aload_n DX11_isMadeOf_28 rfl ?_
    refine r_iload_n DX11_isMadeOf_29 rfl ?_
    obtain ⟨r2, V3, hc4, h⟩ := bd_inv h
    refine k_callV (As := [.int (x2)]) (rest := []) (st1 := [rfq ad 1000 (r2)]) (w := some (rfq ad 1000 r2)) DX11_isMadeOf_30 cv_X11_161 hR ct_2100 (one_cnt _) rfl (C_X11_findCloth (out := (r2, V3)) (cxL X) hR hc4) rfl (by decide) (by decide) rfl (Nat.le_of_ble_eq_true rfl) rfl (fun M hR => ?_)
    refine q_ifnull DX11_isMadeOf_33 (fun c5 => ?_) (fun c5 => ?_)
    · have h := if_t c5 h
      refine r_iconst (v := 0) DX11_isMadeOf_40 ki_0 ?_
      exact S_X11_isMadeOf_41 hp hR h
    · have h := if_f c5 h
      refine r_iconst (v := 1) DX11_isMadeOf_36 ki_1 ?_
      refine r_goto DX11_isMadeOf_37 ?_
      exact S_X11_isMadeOf_41 hp hR h
  have h := if_f e5 h
  by_cases e9 : x1 = 1
  · have h := if_t e9 h
    refine r_table (tgt := 42) DX11_isMadeOf_1 (Or.inr ⟨by rw [e9]; decide, by rw [e9]; decide, by rw [e9]; rfl⟩) rfl ?_
    refine r_aload_n DX11_isMadeOf_42 rfl ?_
    refine r_iload_n DX11_isMadeOf_43 rfl ?_
    obtain ⟨r6, V7, hc8, h⟩ := bd_inv h
    refine k_callV (As := [.int (x2)]) (rest := []) (st1 := [rfq ad 1200 (r6)]) (w := some (rfq ad 1200 r6)) DX11_isMadeOf_44 cv_X11_133 hR ct_2100 (one_cnt _) rfl (C_X11_findDrawing (out := (r6, V7)) (cxL X) hR hc8) rfl (by decide) (by decide) rfl (Nat.le_of_ble_eq_true rfl) rfl (fun M hR => ?_)
    refine q_ifnull DX11_isMadeOf_47 (fun c9 => ?_) (fun c9 => ?_)
    · have h := if_t c9 h
      refine r_iconst (v := 0) DX11_isMadeOf_54 ki_0 ?_
      exact S_X11_isMadeOf_55 hp hR h
    · have h := if_f c9 h
      refine r_iconst (v := 1) DX11_isMadeOf_50 ki_1 ?_
      refine r_goto DX11_isMadeOf_51 ?_
      exact S_X11_isMadeOf_55 hp hR h
  have h := if_f e9 h
  by_cases e10 : x1 = 2
  · have h := if_t e10 h
    refine r_table (tgt := 56) DX11_isMadeOf_1 (Or.inr ⟨by rw [e10]; decide, by rw [e10]; decide, by rw [e10]; rfl⟩) rfl ?_
    refine r_iload_n DX11_isMadeOf_56 rfl ?_
    refine r_iconst (v := -1) DX11_isMadeOf_57 ki_m1 ?_
    refine r_icmp_ne DX11_isMadeOf_58 (fun c10 => ?_) (fun c10 => ?_)
    · have h := if_f c10 h
      refine r_iconst (v := 0) DX11_isMadeOf_65 ki_0 ?_
      exact S_X11_isMadeOf_66 hp hR h
    · have h := if_t c10 h
      refine r_iconst (v := 1) DX11_isMadeOf_61 ki_1 ?_
      refine r_goto DX11_isMadeOf_62 ?_
      exact S_X11_isMadeOf_66 hp hR h
  have h := if_f e10 h
  refine r_tabled (tgt := 67) (cs := [0, 1, 2]) DX11_isMadeOf_1 (by decide) (by decide) (fun z hz => by simp only [List.mem_cons, List.not_mem_nil, or_false] at hz; rcases hz with rfl | rfl | rfl <;> first | exact lv_neT e5 rfl | exact lv_neT e9 rfl | exact lv_neT e10 rfl) rfl ?_
  refine r_iconst (v := 0) DX11_isMadeOf_67 ki_0 ?_
  cases h
  exact r_zret DX11_isMadeOf_68 rfl rfl ⟨Nat.le_refl 0, Nat.le_refl 0⟩ (hp M hR)
theorem C_X11_isMadeOf {E : EN} {ad : AD} {fu : Nat} {out : Int32 × St} {V : St} {M : MH} {x1 : Int32} {x2 : Int32} (l : Launch) (hR : Rep E ad V M) (h : f_X11_isMadeOf fu V x1 x2 = some out) : Ct E l yX11_isMadeOf cX11_isMadeOf 3 (some .boolean) (rmD 5) [.ref (ad 2100 0), .int (x1), .int (x2)] M (fun v M => v = (some (.int out.1)) ∧ Rep E ad out.2 M) :=
  Ct.of (own := RX11) (ini := false) (L := [some (.ref (ad 2100 0)), some (.int (x1)), some (.int (x2))]) rfl rfl (fun h => by cases h) rfl (Nat.le_of_ble_eq_true rfl) rfl (fun X _ => S_X11_isMadeOf_0 (fun M hR => ⟨rfl, hR⟩) hR h)
theorem S_X11_isTaken_39 {E : EN} {X : CX} {P : Option Value → MH → Prop} {ad : AD} {fu : Nat} {out : Int32 × St} (hp : ∀ M, Rep E ad out.2 M → P (some (.int out.1)) M) {V : St} {M : MH} {d0 : Option Value} {d1 : Option Value} {d2 : Option Value} (hR : Rep E ad V M) (h : F_X11_isTaken_39 fu V = some out) : G E X RX11 cX11_isTaken 3 (some .boolean) false (rmD 4) P M [d0, d1, d2] 0 0 39 [] := by
  unfold F_X11_isTaken_39 at h
  refine r_iconst (v := 0) DX11_isTaken_39 ki_0 ?_
  cases h
  exact r_zret DX11_isTaken_40 rfl rfl ⟨Nat.le_refl 0, Nat.le_refl 0⟩ (hp M hR)
theorem S_X11_isTaken_31 {E : EN} {X : CX} {P : Option Value → MH → Prop} {ad : AD} {fu : Nat} {out : Int32 × St} (hp : ∀ M, Rep E ad out.2 M → P (some (.int out.1)) M) {V : St} {M : MH} {d0 : Option Value} {d1 : Option Value} {d2 : Option Value} (hR : Rep E ad V M) (h : F_X11_isTaken_31 fu V = some out) : G E X RX11 cX11_isTaken 3 (some .boolean) false (rmD 4) P M [d0, d1, d2] 0 0 31 [] := by
  unfold F_X11_isTaken_31 at h
  refine r_iconst (v := 1) DX11_isTaken_31 ki_1 ?_
  cases h
  exact r_zret DX11_isTaken_32 rfl rfl ⟨Nat.le_refl 0, Nat.le_refl 0⟩ (hp M hR)
theorem S_X11_isTaken_2 {E : EN} {X : CX} {P : Option Value → MH → Prop} {ad : AD} {fu : Nat} {out : Int32 × St} {kh : St → Int32 → Int32 → RR} {kx31 : St → RR} {kx39 : St → RR} (hkh : ∀ {V : St} {M : MH} {x1 : Int32} {x2 : Int32}, Rep E ad V M → kh V x1 x2 = some out → G E X RX11 cX11_isTaken 3 (some .boolean) false (rmD 4) P M [some (.ref (ad 2100 0)), some (.int (x1)), some (.int (x2))] 0 0 2 []) (hkx31 : ∀ {V : St} {M : MH} {d0 : Option Value} {d1 : Option Value} {d2 : Option Value}, Rep E ad V M → kx31 V  = some out → G E X RX11 cX11_isTaken 3 (some .boolean) false (rmD 4) P M [d0, d1, d2] 0 0 31 []) (hkx39 : ∀ {V : St} {M : MH} {d0 : Option Value} {d1 : Option Value} {d2 : Option Value}, Rep E ad V M → kx39 V  = some out → G E X RX11 cX11_isTaken 3 (some .boolean) false (rmD 4) P M [d0, d1, d2] 0 0 39 []) (hp : ∀ M, Rep E ad out.2 M → P (some (.int out.1)) M) {V : St} {M : MH} {x1 : Int32} {x2 : Int32} (hR : Rep E ad V M) (h : F_X11_isTaken_2 kh kx31 kx39 fu V x1 x2 = some out) : G E X RX11 cX11_isTaken 3 (some .boolean) false (rmD 4) P M [some (.ref (ad 2100 0)), some (.int (x1)), some (.int (x2))] 0 0 2 [] := by
  unfold F_X11_isTaken_2 at h
  refine r_iload_n DX11_isTaken_2 rfl ?_
  refine r_aload_n DX11_isTaken_3 rfl ?_
  refine s_geto DX11_isTaken_4 fl_X11_19 hR ct_2100 (one_cnt _) rfl ?_
  refine s_lsize (Li := 2103) (g := 1000) DX11_isTaken_7 cv_X11_89 hR (by decide) (by decide) (Nat.le_of_ble_eq_true rfl) ?_
  refine r_icmp_ge DX11_isTaken_10 (fun c1 => ?_) (fun c1 => ?_)
  · have h := if_t c1 h
    exact hkx39 hR h
  · have h := if_f c1 h
    refine r_aload_n DX11_isTaken_13 rfl ?_
    refine s_geto DX11_isTaken_14 fl_X11_19 hR ct_2100 (one_cnt _) rfl ?_
    refine r_iload_n DX11_isTaken_17 rfl ?_
    obtain ⟨⟨hx2, hi3⟩, h⟩ := gd_inv h
    refine s_lget (Li := 2103) (g := 1000) DX11_isTaken_18 cv_X11_93 hR (by decide) hx2 hi3 (by decide) (Nat.le_of_ble_eq_true rfl) (fun M hR => ?_)
    refine q_cast hx2 DX11_isTaken_21 wd_417 hR ct_1000 hi3 rfl ?_
    refine q_geti hx2 DX11_isTaken_24 fl_X11_379 hR ct_1000 hi3 rfl ?_
    refine r_iload_n DX11_isTaken_27 rfl ?_
    refine r_icmp_ne DX11_isTaken_28 (fun c4 => ?_) (fun c4 => ?_)
    · have h := if_f c4 h
      refine t_iinc (v := 1) (L' := [some (.ref (ad 2100 0)), some (.int (x1)), some (.int (x2 + 1))]) DX11_isTaken_33 rfl ki_1 (by decide) rfl ?_
      refine r_goto DX11_isTaken_36 ?_
      exact hkh hR h
    · have h := if_t c4 h
      exact hkx31 hR h
theorem SL_X11_isTaken_2 {E : EN} {X : CX} {P : Option Value → MH → Prop} {ad : AD} {fu : Nat} {out : Int32 × St} {kx31 : St → RR} {kx39 : St → RR} (hkx31 : ∀ {V : St} {M : MH} {d0 : Option Value} {d1 : Option Value} {d2 : Option Value}, Rep E ad V M → kx31 V  = some out → G E X RX11 cX11_isTaken 3 (some .boolean) false (rmD 4) P M [d0, d1, d2] 0 0 31 []) (hkx39 : ∀ {V : St} {M : MH} {d0 : Option Value} {d1 : Option Value} {d2 : Option Value}, Rep E ad V M → kx39 V  = some out → G E X RX11 cX11_isTaken 3 (some .boolean) false (rmD 4) P M [d0, d1, d2] 0 0 39 []) (hp : ∀ M, Rep E ad out.2 M → P (some (.int out.1)) M) : ∀ (n : Nat) {V : St} {M : MH} {x1 : Int32} {x2 : Int32}, Rep E ad V M → Lp_X11_isTaken_2 kx31 kx39 fu n V x1 x2 = some out → G E X RX11 cX11_isTaken 3 (some .boolean) false (rmD 4) P M [some (.ref (ad 2100 0)), some (.int (x1)), some (.int (x2))] 0 0 2 [] := by
  intro n
  induction n with
  | zero => intros; rename_i h; cases h
  | succ n ih => exact fun hR h => S_X11_isTaken_2 (fun hR h => ih hR h) (fun hR h => hkx31 hR h) (fun hR h => hkx39 hR h) hp hR h
theorem S_X11_isTaken_0 {E : EN} {X : CX} {P : Option Value → MH → Prop} {ad : AD} {fu : Nat} {out : Int32 × St} (hp : ∀ M, Rep E ad out.2 M → P (some (.int out.1)) M) {V : St} {M : MH} {x1 : Int32} (hR : Rep E ad V M) (h : f_X11_isTaken fu V x1 = some out) : G E X RX11 cX11_isTaken 3 (some .boolean) false (rmD 4) P M [some (.ref (ad 2100 0)), some (.int (x1)), none] 0 0 0 [] := by
  unfold f_X11_isTaken at h
  refine r_iconst (v := 0) DX11_isTaken_0 ki_0 ?_
  refine t_istore_n (L' := [some (.ref (ad 2100 0)), some (.int (x1)), some (.int ((0 : Int32)))]) DX11_isTaken_1 (by decide) rfl ?_
  exact SL_X11_isTaken_2 (fun hR h => S_X11_isTaken_31 hp hR h) (fun hR h => S_X11_isTaken_39 hp hR h) hp fu hR h
theorem C_X11_isTaken {E : EN} {ad : AD} {fu : Nat} {out : Int32 × St} {V : St} {M : MH} {x1 : Int32} (l : Launch) (hR : Rep E ad V M) (h : f_X11_isTaken fu V x1 = some out) : Ct E l yX11_isTaken cX11_isTaken 3 (some .boolean) (rmD 4) [.ref (ad 2100 0), .int (x1)] M (fun v M => v = (some (.int out.1)) ∧ Rep E ad out.2 M) :=
  Ct.of (own := RX11) (ini := false) (L := [some (.ref (ad 2100 0)), some (.int (x1)), none]) rfl rfl (fun h => by cases h) rfl (Nat.le_of_ble_eq_true rfl) rfl (fun X _ => S_X11_isTaken_0 (fun M hR => ⟨rfl, hR⟩) hR h)
theorem S_X11_isTrue_151 {E : EN} {X : CX} {P : Option Value → MH → Prop} {ad : AD} {fu : Nat} {out : Int32 × St} (hp : ∀ M, Rep E ad out.2 M → P (some (.int out.1)) M) {V : St} {M : MH} {s0 : Int32} {d0 : Option Value} {d1 : Option Value} {d2 : Option Value} {d3 : Option Value} {d4 : Option Value} {d5 : Option Value} {d6 : Option Value} {d7 : Option Value} {d8 : Option Value} {d9 : Option Value} (hR : Rep E ad V M) (h : F_X11_isTrue_151 fu V s0 = some out) : G E X RX11 cX11_isTrue 10 (some .int) false (rmD 5) P M [d0, d1, d2, d3, d4, d5, d6, d7, d8, d9] 0 0 151 [.int (s0)] := by
  unfold F_X11_isTrue_151 at h
  cases h
  exact r_iret DX11_isTrue_151 rfl ⟨Nat.le_refl 0, Nat.le_refl 0⟩ (hp M hR)
theorem S_X11_isTrue_150 {E : EN} {X : CX} {P : Option Value → MH → Prop} {ad : AD} {fu : Nat} {out : Int32 × St} (hp : ∀ M, Rep E ad out.2 M → P (some (.int out.1)) M) {V : St} {M : MH} {d0 : Option Value} {d1 : Option Value} {d2 : Option Value} {d3 : Option Value} {d4 : Option Value} {d5 : Option Value} {d6 : Option Value} {d7 : Option Value} {d8 : Option Value} {d9 : Option Value} (hR : Rep E ad V M) (h : F_X11_isTrue_150 fu V = some out) : G E X RX11 cX11_isTrue 10 (some .int) false (rmD 5) P M [d0, d1, d2, d3, d4, d5, d6, d7, d8, d9] 0 0 150 [] := by
  unfold F_X11_isTrue_150 at h
  refine r_iconst (v := 2) DX11_isTrue_150 ki_2 ?_
  exact S_X11_isTrue_151 hp hR h
theorem S_X11_isTrue_133 {E : EN} {X : CX} {P : Option Value → MH → Prop} {ad : AD} {fu : Nat} {out : Int32 × St} (hp : ∀ M, Rep E ad out.2 M → P (some (.int out.1)) M) {V : St} {M : MH} {x6 : Int32} {x7 : Int32} {d0 : Option Value} {d1 : Option Value} {d2 : Option Value} {d3 : Option Value} {d4 : Option Value} {d5 : Option Value} {d8 : Option Value} {d9 : Option Value} (hR : Rep E ad V M) (h : F_X11_isTrue_133 fu V x6 x7 = some out) : G E X RX11 cX11_isTrue 10 (some .int) false (rmD 5) P M [d0, d1, d2, d3, d4, d5, some (.int (x6)), some (.int (x7)), d8, d9] 0 0 133 [] := by
  unfold F_X11_isTrue_133 at h
  refine r_iload DX11_isTrue_133 rfl ?_
  refine r_iconst (v := 2) DX11_isTrue_135 ki_2 ?_
  refine r_icmp_lt DX11_isTrue_136 (fun c1 => ?_) (fun c1 => ?_)
  · have h := if_t c1 h
    exact S_X11_isTrue_150 hp hR h
  · have h := if_f c1 h
    refine r_iload DX11_isTrue_139 rfl ?_
    refine r_iload DX11_isTrue_141 rfl ?_
    refine r_icmp_ne DX11_isTrue_143 (fun c2 => ?_) (fun c2 => ?_)
    · have h := if_f c2 h
      exact S_X11_isTrue_150 hp hR h
    · have h := if_t c2 h
      refine r_iconst (v := 1) DX11_isTrue_146 ki_1 ?_
      refine r_goto DX11_isTrue_147 ?_
      exact S_X11_isTrue_151 hp hR h
theorem S_X11_isTrue_127 {E : EN} {X : CX} {P : Option Value → MH → Prop} {ad : AD} {fu : Nat} {out : Int32 × St} {kh : St → Int32 → Int32 → Int32 → Int32 → Int32 → Int32 → RR} {kx125 : St → RR} {kx133 : St → Int32 → Int32 → RR} (hkh : ∀ {V : St} {M : MH} {x1 : Int32} {x2 : Int32} {x5 : Int32} {x6 : Int32} {x7 : Int32} {x8 : Int32} {d3 : Option Value} {d4 : Option Value} {d9 : Option Value}, Rep E ad V M → kh V x1 x2 x5 x6 x7 x8 = some out → G E X RX11 cX11_isTrue 10 (some .int) false (rmD 5) P M [some (.ref (ad 2100 0)), some (.int (x1)), some (.int (x2)), d3, d4, some (.int (x5)), some (.int (x6)), some (.int (x7)), some (.int (x8)), d9] 0 0 53 []) (hkx125 : ∀ {V : St} {M : MH} {d0 : Option Value} {d1 : Option Value} {d2 : Option Value} {d3 : Option Value} {d4 : Option Value} {d5 : Option Value} {d6 : Option Value} {d7 : Option Value} {d8 : Option Value} {d9 : Option Value}, Rep E ad V M → kx125 V  = some out → G E X RX11 cX11_isTrue 10 (some .int) false (rmD 5) P M [d0, d1, d2, d3, d4, d5, d6, d7, d8, d9] 0 0 125 []) (hkx133 : ∀ {V : St} {M : MH} {x6 : Int32} {x7 : Int32} {d0 : Option Value} {d1 : Option Value} {d2 : Option Value} {d3 : Option Value} {d4 : Option Value} {d5 : Option Value} {d8 : Option Value} {d9 : Option Value}, Rep E ad V M → kx133 V x6 x7 = some out → G E X RX11 cX11_isTrue 10 (some .int) false (rmD 5) P M [d0, d1, d2, d3, d4, d5, some (.int (x6)), some (.int (x7)), d8, d9] 0 0 133 []) (hp : ∀ M, Rep E ad out.2 M → P (some (.int out.1)) M) {V : St} {M : MH} {x1 : Int32} {x2 : Int32} {x5 : Int32} {x6 : Int32} {x7 : Int32} {x8 : Int32} {d3 : Option Value} {d4 : Option Value} {d9 : Option Value} (hR : Rep E ad V M) (h : F_X11_isTrue_127 kh kx125 kx133 fu V x1 x2 x5 x6 x7 x8 = some out) : G E X RX11 cX11_isTrue 10 (some .int) false (rmD 5) P M [some (.ref (ad 2100 0)), some (.int (x1)), some (.int (x2)), d3, d4, some (.int (x5)), some (.int (x6)), some (.int (x7)), some (.int (x8)), d9] 0 0 127 [] := by
  unfold F_X11_isTrue_127 at h
  refine t_iinc (v := 1) (L' := [some (.ref (ad 2100 0)), some (.int (x1)), some (.int (x2)), d3, d4, some (.int (x5)), some (.int (x6)), some (.int (x7)), some (.int (x8 + 1)), d9]) DX11_isTrue_127 rfl ki_1 (by decide) rfl ?_
  refine r_goto DX11_isTrue_130 ?_
  exact hkh hR h
theorem S_X11_isTrue_125 {E : EN} {X : CX} {P : Option Value → MH → Prop} {ad : AD} {fu : Nat} {out : Int32 × St} (hp : ∀ M, Rep E ad out.2 M → P (some (.int out.1)) M) {V : St} {M : MH} {d0 : Option Value} {d1 : Option Value} {d2 : Option Value} {d3 : Option Value} {d4 : Option Value} {d5 : Option Value} {d6 : Option Value} {d7 : Option Value} {d8 : Option Value} {d9 : Option Value} (hR : Rep E ad V M) (h : F_X11_isTrue_125 fu V = some out) : G E X RX11 cX11_isTrue 10 (some .int) false (rmD 5) P M [d0, d1, d2, d3, d4, d5, d6, d7, d8, d9] 0 0 125 [] := by
  unfold F_X11_isTrue_125 at h
  refine r_iconst (v := 0) DX11_isTrue_125 ki_0 ?_
  cases h
  exact r_iret DX11_isTrue_126 rfl ⟨Nat.le_refl 0, Nat.le_refl 0⟩ (hp M hR)
theorem S_X11_isTrue_53 {E : EN} {X : CX} {P : Option Value → MH → Prop} {ad : AD} {fu : Nat} {out : Int32 × St} {kh : St → Int32 → Int32 → Int32 → Int32 → Int32 → Int32 → RR} {kx125 : St → RR} {kx133 : St → Int32 → Int32 → RR} (hkh : ∀ {V : St} {M : MH} {x1 : Int32} {x2 : Int32} {x5 : Int32} {x6 : Int32} {x7 : Int32} {x8 : Int32} {d3 : Option Value} {d4 : Option Value} {d9 : Option Value}, Rep E ad V M → kh V x1 x2 x5 x6 x7 x8 = some out → G E X RX11 cX11_isTrue 10 (some .int) false (rmD 5) P M [some (.ref (ad 2100 0)), some (.int (x1)), some (.int (x2)), d3, d4, some (.int (x5)), some (.int (x6)), some (.int (x7)), some (.int (x8)), d9] 0 0 53 []) (hkx125 : ∀ {V : St} {M : MH} {d0 : Option Value} {d1 : Option Value} {d2 : Option Value} {d3 : Option Value} {d4 : Option Value} {d5 : Option Value} {d6 : Option Value} {d7 : Option Value} {d8 : Option Value} {d9 : Option Value}, Rep E ad V M → kx125 V  = some out → G E X RX11 cX11_isTrue 10 (some .int) false (rmD 5) P M [d0, d1, d2, d3, d4, d5, d6, d7, d8, d9] 0 0 125 []) (hkx133 : ∀ {V : St} {M : MH} {x6 : Int32} {x7 : Int32} {d0 : Option Value} {d1 : Option Value} {d2 : Option Value} {d3 : Option Value} {d4 : Option Value} {d5 : Option Value} {d8 : Option Value} {d9 : Option Value}, Rep E ad V M → kx133 V x6 x7 = some out → G E X RX11 cX11_isTrue 10 (some .int) false (rmD 5) P M [d0, d1, d2, d3, d4, d5, some (.int (x6)), some (.int (x7)), d8, d9] 0 0 133 []) (hp : ∀ M, Rep E ad out.2 M → P (some (.int out.1)) M) {V : St} {M : MH} {x1 : Int32} {x2 : Int32} {x5 : Int32} {x6 : Int32} {x7 : Int32} {x8 : Int32} {d3 : Option Value} {d4 : Option Value} {d9 : Option Value} (hR : Rep E ad V M) (h : F_X11_isTrue_53 kh kx125 kx133 fu V x1 x2 x5 x6 x7 x8 = some out) : G E X RX11 cX11_isTrue 10 (some .int) false (rmD 5) P M [some (.ref (ad 2100 0)), some (.int (x1)), some (.int (x2)), d3, d4, some (.int (x5)), some (.int (x6)), some (.int (x7)), some (.int (x8)), d9] 0 0 53 [] := by
  unfold F_X11_isTrue_53 at h
  refine r_iload DX11_isTrue_53 rfl ?_
  refine r_aload_n DX11_isTrue_55 rfl ?_
  refine s_geto DX11_isTrue_56 fl_X11_45 hR ct_2100 (one_cnt _) rfl ?_
  refine s_lsize (Li := 2111) (g := 1330) DX11_isTrue_59 cv_X11_89 hR (by decide) (by decide) (Nat.le_of_ble_eq_true rfl) ?_
  refine r_icmp_ge DX11_isTrue_62 (fun c1 => ?_) (fun c1 => ?_)
  · have h := if_t c1 h
    exact hkx133 hR h
  · have h := if_f c1 h
    refine r_aload_n DX11_isTrue_65 rfl ?_
    refine s_geto DX11_isTrue_66 fl_X11_45 hR ct_2100 (one_cnt _) rfl ?_
    refine r_iload DX11_isTrue_69 rfl ?_
    obtain ⟨⟨hx2, hi3⟩, h⟩ := gd_inv h
    refine s_lget (Li := 2111) (g := 1330) DX11_isTrue_71 cv_X11_93 hR (by decide) hx2 hi3 (by decide) (Nat.le_of_ble_eq_true rfl) (fun M hR => ?_)
    refine q_cast hx2 DX11_isTrue_74 wd_1073 hR ct_1330 hi3 rfl ?_
    refine t_astore (L' := [some (.ref (ad 2100 0)), some (.int (x1)), some (.int (x2)), d3, d4, some (.int (x5)), some (.int (x6)), some (.int (x7)), some (.int (x8)), some (rfq ad 1330 (x8))]) (rfq_or _ _ _) DX11_isTrue_77 (by decide) rfl ?_
    refine t_aload (rfq_or _ _ _) DX11_isTrue_79 rfl ?_
    refine q_geti hx2 DX11_isTrue_81 fl_X11_323 hR ct_1330 hi3 rfl ?_
    refine r_iload_n DX11_isTrue_84 rfl ?_
    refine r_icmp_ne DX11_isTrue_85 (fun c4 => ?_) (fun c4 => ?_)
    · have h := if_f c4 h
      exact S_X11_isTrue_127 (fun hR h => hkh hR h) (fun hR h => hkx125 hR h) (fun hR h => hkx133 hR h) hp hR h
    · have h := if_t c4 h
      refine t_aload (rfq_or _ _ _) DX11_isTrue_88 rfl ?_
      refine q_geti hx2 DX11_isTrue_90 fl_X11_327 hR ct_1330 hi3 rfl ?_
      refine r_iload_n DX11_isTrue_93 rfl ?_
      refine r_icmp_gt DX11_isTrue_94 (fun c5 => ?_) (fun c5 => ?_)
      · have h := if_t c5 h
        exact S_X11_isTrue_127 (fun hR h => hkh hR h) (fun hR h => hkx125 hR h) (fun hR h => hkx133 hR h) hp hR h
      · have h := if_f c5 h
        refine t_iinc (v := 1) (L' := [some (.ref (ad 2100 0)), some (.int (x1)), some (.int (x2)), d3, d4, some (.int (x5)), some (.int (x6 + 1)), some (.int (x7)), some (.int (x8)), some (rfq ad 1330 (x8))]) DX11_isTrue_97 rfl ki_1 (by decide) rfl ?_
        refine t_aload (rfq_or _ _ _) DX11_isTrue_100 rfl ?_
        refine q_geti hx2 DX11_isTrue_102 fl_X11_324 hR ct_1330 hi3 rfl ?_
        refine r_iload DX11_isTrue_105 rfl ?_
        refine r_icmp_lt DX11_isTrue_107 (fun c6 => ?_) (fun c6 => ?_)
        · have h := if_t c6 h
          refine t_aload (rfq_or _ _ _) DX11_isTrue_116 rfl ?_
          refine q_geti hx2 DX11_isTrue_118 fl_X11_336 hR ct_1330 hi3 rfl ?_
          refine r_iconst (v := 1) DX11_isTrue_121 ki_1 ?_
          refine r_icmp_ne DX11_isTrue_122 (fun c7 => ?_) (fun c7 => ?_)
          · have h := if_f c7 h
            exact S_X11_isTrue_127 (fun hR h => hkh hR h) (fun hR h => hkx125 hR h) (fun hR h => hkx133 hR h) hp hR h
          · have h := if_t c7 h
            exact hkx125 hR h
        · have h := if_f c6 h
          refine t_iinc (v := 1) (L' := [some (.ref (ad 2100 0)), some (.int (x1)), some (.int (x2)), d3, d4, some (.int (x5)), some (.int (x6 + 1)), some (.int (x7 + 1)), some (.int (x8)), some (rfq ad 1330 (x8))]) DX11_isTrue_110 rfl ki_1 (by decide) rfl ?_
          refine r_goto DX11_isTrue_113 ?_
          exact S_X11_isTrue_127 (fun hR h => hkh hR h) (fun hR h => hkx125 hR h) (fun hR h => hkx133 hR h) hp hR h
theorem SL_X11_isTrue_53 {E : EN} {X : CX} {P : Option Value → MH → Prop} {ad : AD} {fu : Nat} {out : Int32 × St} {kx125 : St → RR} {kx133 : St → Int32 → Int32 → RR} (hkx125 : ∀ {V : St} {M : MH} {d0 : Option Value} {d1 : Option Value} {d2 : Option Value} {d3 : Option Value} {d4 : Option Value} {d5 : Option Value} {d6 : Option Value} {d7 : Option Value} {d8 : Option Value} {d9 : Option Value}, Rep E ad V M → kx125 V  = some out → G E X RX11 cX11_isTrue 10 (some .int) false (rmD 5) P M [d0, d1, d2, d3, d4, d5, d6, d7, d8, d9] 0 0 125 []) (hkx133 : ∀ {V : St} {M : MH} {x6 : Int32} {x7 : Int32} {d0 : Option Value} {d1 : Option Value} {d2 : Option Value} {d3 : Option Value} {d4 : Option Value} {d5 : Option Value} {d8 : Option Value} {d9 : Option Value}, Rep E ad V M → kx133 V x6 x7 = some out → G E X RX11 cX11_isTrue 10 (some .int) false (rmD 5) P M [d0, d1, d2, d3, d4, d5, some (.int (x6)), some (.int (x7)), d8, d9] 0 0 133 []) (hp : ∀ M, Rep E ad out.2 M → P (some (.int out.1)) M) : ∀ (n : Nat) {V : St} {M : MH} {x1 : Int32} {x2 : Int32} {x5 : Int32} {x6 : Int32} {x7 : Int32} {x8 : Int32} {d3 : Option Value} {d4 : Option Value} {d9 : Option Value}, Rep E ad V M → Lp_X11_isTrue_53 kx125 kx133 fu n V x1 x2 x5 x6 x7 x8 = some out → G E X RX11 cX11_isTrue 10 (some .int) false (rmD 5) P M [some (.ref (ad 2100 0)), some (.int (x1)), some (.int (x2)), d3, d4, some (.int (x5)), some (.int (x6)), some (.int (x7)), some (.int (x8)), d9] 0 0 53 [] := by
  intro n
  induction n with
  | zero => intros; rename_i h; cases h
  | succ n ih => exact fun hR h => S_X11_isTrue_53 (fun hR h => ih hR h) (fun hR h => hkx125 hR h) (fun hR h => hkx133 hR h) hp hR h
theorem S_X11_isTrue_21 {E : EN} {X : CX} {P : Option Value → MH → Prop} {ad : AD} {fu : Nat} {out : Int32 × St} (hp : ∀ M, Rep E ad out.2 M → P (some (.int out.1)) M) {V : St} {M : MH} {d0 : Option Value} {d1 : Option Value} {d2 : Option Value} {d3 : Option Value} {d4 : Option Value} {d5 : Option Value} {d6 : Option Value} {d7 : Option Value} {d8 : Option Value} {d9 : Option Value} (hR : Rep E ad V M) (h : F_X11_isTrue_21 fu V = some out) : G E X RX11 cX11_isTrue 10 (some .int) false (rmD 5) P M [d0, d1, d2, d3, d4, d5, d6, d7, d8, d9] 0 0 21 [] := by
  unfold F_X11_isTrue_21 at h
  refine r_iconst (v := -1) DX11_isTrue_21 ki_m1 ?_
  cases h
  exact r_iret DX11_isTrue_22 rfl ⟨Nat.le_refl 0, Nat.le_refl 0⟩ (hp M hR)
theorem S_X11_isTrue_0 {E : EN} {X : CX} {P : Option Value → MH → Prop} {ad : AD} {fu : Nat} {out : Int32 × St} (hp : ∀ M, Rep E ad out.2 M → P (some (.int out.1)) M) {V : St} {M : MH} {x1 : Int32} {x2 : Int32} (hR : Rep E ad V M) (h : f_X11_isTrue fu V x1 x2 = some out) : G E X RX11 cX11_isTrue 10 (some .int) false (rmD 5) P M [some (.ref (ad 2100 0)), some (.int (x1)), some (.int (x2)), none, none, none, none, none, none, none] 0 0 0 [] := by
  unfold f_X11_isTrue at h
  refine r_aload_n DX11_isTrue_0 rfl ?_
  refine r_iload_n DX11_isTrue_1 rfl ?_
  obtain ⟨r1, V2, hc3, h⟩ := bd_inv h
  refine k_callV (As := [.int (x1)]) (rest := []) (st1 := [rfq ad 1000 (r1)]) (w := some (rfq ad 1000 r1)) DX11_isTrue_2 cv_X11_161 hR ct_2100 (one_cnt _) rfl (C_X11_findCloth (out := (r1, V2)) (cxL X) hR hc3) rfl (by decide) (by decide) rfl (Nat.le_of_ble_eq_true rfl) rfl (fun M hR => ?_)
  refine t_astore_n (L' := [some (.ref (ad 2100 0)), some (.int (x1)), some (.int (x2)), some (rfq ad 1000 (r1)), none, none, none, none, none, none]) (rfq_or _ _ _) DX11_isTrue_5 (by decide) rfl ?_
  refine t_aload_n (rfq_or _ _ _) DX11_isTrue_6 rfl ?_
  refine q_ifnull DX11_isTrue_7 (fun c4 => ?_) (fun c4 => ?_)
  · have h := if_t c4 h
    exact S_X11_isTrue_21 hp hR h
  · have h := if_f c4 h
    refine r_iload_n DX11_isTrue_10 rfl ?_
    refine r_iconst (v := 0) DX11_isTrue_11 ki_0 ?_
    refine r_sipush (v := 499) DX11_isTrue_12 ks_499 ?_
    obtain ⟨r5, V6, hc7, h⟩ := bd_inv h
    refine k_callS (As := [.int (x2), .int ((0 : Int32)), .int ((499 : Int32))]) (rest := []) (st1 := [.int (r5)]) (w := some (.int r5)) DX11_isTrue_15 cs_X11_111 (C_X11_within (out := (r5, V6)) (cxL X) hR hc7) rfl (by decide) (by decide) rfl (Nat.le_of_ble_eq_true rfl) rfl (fun M hR => ?_)
    refine r_if_ne DX11_isTrue_18 (fun c8 => ?_) (fun c8 => ?_)
    · have h := if_f c8 h
      refine t_aload_n (rfq_or _ _ _) DX11_isTrue_23 rfl ?_
      obtain ⟨⟨hx9, hi10⟩, h⟩ := gd_inv h
      refine q_geti hx9 DX11_isTrue_24 fl_X11_333 hR ct_1000 hi10 rfl ?_
      refine r_aload_n DX11_isTrue_27 rfl ?_
      refine s_geti DX11_isTrue_28 fl_X11_13 hR ct_2100 (one_cnt _) rfl ?_
      refine r_imul DX11_isTrue_31 ?_
      refine t_istore (L' := [some (.ref (ad 2100 0)), some (.int (x1)), some (.int (x2)), some (rfq ad 1000 (r1)), some (.int ((V6 1002 (r1).toNatClampNeg 0) * (V6 2102 0 0))), none, none, none, none, none]) DX11_isTrue_32 (by decide) rfl ?_
      refine r_iload DX11_isTrue_34 rfl ?_
      refine r_iload DX11_isTrue_36 rfl ?_
      refine r_bipush (v := 10) DX11_isTrue_38 kb_10 ?_
      refine r_idiv DX11_isTrue_40 (by decide) ?_
      refine r_isub DX11_isTrue_41 ?_
      refine t_istore (L' := [some (.ref (ad 2100 0)), some (.int (x1)), some (.int (x2)), some (rfq ad 1000 (r1)), some (.int ((V6 1002 (r1).toNatClampNeg 0) * (V6 2102 0 0))), some (.int (((V6 1002 (r1).toNatClampNeg 0) * (V6 2102 0 0)) - (((V6 1002 (r1).toNatClampNeg 0) * (V6 2102 0 0)) / ((10 : Int32))))), none, none, none, none]) DX11_isTrue_42 (by decide) rfl ?_
      refine r_iconst (v := 0) DX11_isTrue_44 ki_0 ?_
      refine t_istore (L' := [some (.ref (ad 2100 0)), some (.int (x1)), some (.int (x2)), some (rfq ad 1000 (r1)), some (.int ((V6 1002 (r1).toNatClampNeg 0) * (V6 2102 0 0))), some (.int (((V6 1002 (r1).toNatClampNeg 0) * (V6 2102 0 0)) - (((V6 1002 (r1).toNatClampNeg 0) * (V6 2102 0 0)) / ((10 : Int32))))), some (.int ((0 : Int32))), none, none, none]) DX11_isTrue_45 (by decide) rfl ?_
      refine r_iconst (v := 0) DX11_isTrue_47 ki_0 ?_
      refine t_istore (L' := [some (.ref (ad 2100 0)), some (.int (x1)), some (.int (x2)), some (rfq ad 1000 (r1)), some (.int ((V6 1002 (r1).toNatClampNeg 0) * (V6 2102 0 0))), some (.int (((V6 1002 (r1).toNatClampNeg 0) * (V6 2102 0 0)) - (((V6 1002 (r1).toNatClampNeg 0) * (V6 2102 0 0)) / ((10 : Int32))))), some (.int ((0 : Int32))), some (.int ((0 : Int32))), none, none]) DX11_isTrue_48 (by decide) rfl ?_
      refine r_iconst (v := 0) DX11_isTrue_50 ki_0 ?_
      refine t_istore (L' := [some (.ref (ad 2100 0)), some (.int (x1)), some (.int (x2)), some (rfq ad 1000 (r1)), some (.int ((V6 1002 (r1).toNatClampNeg 0) * (V6 2102 0 0))), some (.int (((V6 1002 (r1).toNatClampNeg 0) * (V6 2102 0 0)) - (((V6 1002 (r1).toNatClampNeg 0) * (V6 2102 0 0)) / ((10 : Int32))))), some (.int ((0 : Int32))), some (.int ((0 : Int32))), some (.int ((0 : Int32))), none]) DX11_isTrue_51 (by decide) rfl ?_
      exact SL_X11_isTrue_53 (fun hR h => S_X11_isTrue_125 hp hR h) (fun hR h => S_X11_isTrue_133 hp hR h) hp fu hR h
    · have h := if_t c8 h
      exact S_X11_isTrue_21 hp hR h
theorem C_X11_isTrue {E : EN} {ad : AD} {fu : Nat} {out : Int32 × St} {V : St} {M : MH} {x1 : Int32} {x2 : Int32} (l : Launch) (hR : Rep E ad V M) (h : f_X11_isTrue fu V x1 x2 = some out) : Ct E l yX11_isTrue cX11_isTrue 10 (some .int) (rmD 5) [.ref (ad 2100 0), .int (x1), .int (x2)] M (fun v M => v = (some (.int out.1)) ∧ Rep E ad out.2 M) :=
  Ct.of (own := RX11) (ini := false) (L := [some (.ref (ad 2100 0)), some (.int (x1)), some (.int (x2)), none, none, none, none, none, none, none]) rfl rfl (fun h => by cases h) rfl (Nat.le_of_ble_eq_true rfl) rfl (fun X _ => S_X11_isTrue_0 (fun M hR => ⟨rfl, hR⟩) hR h)
theorem S_X5_isWholeOrder_74 {E : EN} {X : CX} {P : Option Value → MH → Prop} {ad : AD} {fu : Nat} {out : Int32 × St} (hp : ∀ M, Rep E ad out.2 M → P (some (.int out.1)) M) {V : St} {M : MH} {d0 : Option Value} {d1 : Option Value} {d2 : Option Value} {d3 : Option Value} {d4 : Option Value} {d5 : Option Value} (hR : Rep E ad V M) (h : F_X5_isWholeOrder_74 fu V = some out) : G E X RX5 cX5_isWholeOrder 6 (some .boolean) false (rmD 2) P M [d0, d1, d2, d3, d4, d5] 0 0 74 [] := by
  unfold F_X5_isWholeOrder_74 at h
  refine r_iconst (v := 1) DX5_isWholeOrder_74 ki_1 ?_
  cases h
  exact r_zret DX5_isWholeOrder_75 rfl rfl ⟨Nat.le_refl 0, Nat.le_refl 0⟩ (hp M hR)
theorem S_X5_isWholeOrder_55 {E : EN} {X : CX} {P : Option Value → MH → Prop} {ad : AD} {fu : Nat} {out : Int32 × St} (hp : ∀ M, Rep E ad out.2 M → P (some (.int out.1)) M) {V : St} {M : MH} {d0 : Option Value} {d1 : Option Value} {d2 : Option Value} {d3 : Option Value} {d4 : Option Value} {d5 : Option Value} (hR : Rep E ad V M) (h : F_X5_isWholeOrder_55 fu V = some out) : G E X RX5 cX5_isWholeOrder 6 (some .boolean) false (rmD 2) P M [d0, d1, d2, d3, d4, d5] 0 0 55 [] := by
  unfold F_X5_isWholeOrder_55 at h
  refine r_iconst (v := 0) DX5_isWholeOrder_55 ki_0 ?_
  cases h
  exact r_zret DX5_isWholeOrder_56 rfl rfl ⟨Nat.le_refl 0, Nat.le_refl 0⟩ (hp M hR)
theorem S_X5_isWholeOrder_22 {E : EN} {X : CX} {P : Option Value → MH → Prop} {ad : AD} {fu : Nat} {out : Int32 × St} {kh : St → Int32 → Int32 → Int32 → RR} {kx55 : St → RR} {kx74 : St → RR} (hkh : ∀ {V : St} {M : MH} {x3 : Int32} {x4 : Int32} {x5 : Int32} {d0 : Option Value} {d1 : Option Value}, Rep E ad V M → kh V x3 x4 x5 = some out → G E X RX5 cX5_isWholeOrder 6 (some .boolean) false (rmD 2) P M [d0, d1, some (.ref (ad 2113 (0))), some (.int (x3)), some (.int (x4)), some (.int (x5))] 0 0 22 []) (hkx55 : ∀ {V : St} {M : MH} {d0 : Option Value} {d1 : Option Value} {d2 : Option Value} {d3 : Option Value} {d4 : Option Value} {d5 : Option Value}, Rep E ad V M → kx55 V  = some out → G E X RX5 cX5_isWholeOrder 6 (some .boolean) false (rmD 2) P M [d0, d1, d2, d3, d4, d5] 0 0 55 []) (hkx74 : ∀ {V : St} {M : MH} {d0 : Option Value} {d1 : Option Value} {d2 : Option Value} {d3 : Option Value} {d4 : Option Value} {d5 : Option Value}, Rep E ad V M → kx74 V  = some out → G E X RX5 cX5_isWholeOrder 6 (some .boolean) false (rmD 2) P M [d0, d1, d2, d3, d4, d5] 0 0 74 []) (hp : ∀ M, Rep E ad out.2 M → P (some (.int out.1)) M) {V : St} {M : MH} {x3 : Int32} {x4 : Int32} {x5 : Int32} {d0 : Option Value} {d1 : Option Value} (hR : Rep E ad V M) (h : F_X5_isWholeOrder_22 kh kx55 kx74 fu V x3 x4 x5 = some out) : G E X RX5 cX5_isWholeOrder 6 (some .boolean) false (rmD 2) P M [d0, d1, some (.ref (ad 2113 (0))), some (.int (x3)), some (.int (x4)), some (.int (x5))] 0 0 22 [] := by
  unfold F_X5_isWholeOrder_22 at h
  refine r_iload DX5_isWholeOrder_22 rfl ?_
  refine r_iload_n DX5_isWholeOrder_24 rfl ?_
  refine r_icmp_ge DX5_isWholeOrder_25 (fun c1 => ?_) (fun c1 => ?_)
  · have h := if_t c1 h
    exact hkx74 hR h
  · have h := if_f c1 h
    refine r_aload_n DX5_isWholeOrder_28 rfl ?_
    refine r_iload DX5_isWholeOrder_29 rfl ?_
    obtain ⟨hg2, h⟩ := gd_inv h
    refine s_bald DX5_isWholeOrder_31 hR ct_2113 (two_cnt _) hg2 ?_
    refine r_iconst (v := 0) DX5_isWholeOrder_32 ki_0 ?_
    refine r_iload_n DX5_isWholeOrder_33 rfl ?_
    refine r_iconst (v := 1) DX5_isWholeOrder_34 ki_1 ?_
    refine r_isub DX5_isWholeOrder_35 ?_
    obtain ⟨r3, V4, hc5, h⟩ := bd_inv h
    refine k_callSN (As := [.int ((V 2113 (0) (x5).toNatClampNeg)), .int ((0 : Int32)), .int (x3 - (1 : Int32))]) (rest := []) (st1 := [.int (r3)]) (w := some (.int r3)) DX5_isWholeOrder_36 csn_X5_39 (C_X11_within (out := (r3, V4)) (cxL X) hR hc5) rfl (by decide) (by decide) rfl (Nat.le_of_ble_eq_true rfl) rfl (fun M hR => ?_)
    refine r_if_eq DX5_isWholeOrder_39 (fun c6 => ?_) (fun c6 => ?_)
    · have h := if_t c6 h
      exact hkx55 hR h
    · have h := if_f c6 h
      refine r_iload DX5_isWholeOrder_42 rfl ?_
      refine r_aload_n DX5_isWholeOrder_44 rfl ?_
      refine r_iload DX5_isWholeOrder_45 rfl ?_
      obtain ⟨hg7, h⟩ := gd_inv h
      refine s_bald DX5_isWholeOrder_47 hR ct_2113 (two_cnt _) hg7 ?_
      refine r_ishr DX5_isWholeOrder_48 ?_
      refine r_iconst (v := 1) DX5_isWholeOrder_49 ki_1 ?_
      refine r_iand DX5_isWholeOrder_50 ?_
      refine r_iconst (v := 1) DX5_isWholeOrder_51 ki_1 ?_
      refine r_icmp_ne DX5_isWholeOrder_52 (fun c8 => ?_) (fun c8 => ?_)
      · have h := if_f c8 h
        refine r_iload DX5_isWholeOrder_57 rfl ?_
        refine r_iconst (v := 1) DX5_isWholeOrder_59 ki_1 ?_
        refine r_aload_n DX5_isWholeOrder_60 rfl ?_
        refine r_iload DX5_isWholeOrder_61 rfl ?_
        obtain ⟨hg9, h⟩ := gd_inv h
        refine s_bald DX5_isWholeOrder_63 hR ct_2113 (two_cnt _) hg9 ?_
        refine r_ishl DX5_isWholeOrder_64 ?_
        refine r_ior DX5_isWholeOrder_65 ?_
        refine t_istore (L' := [d0, d1, some (.ref (ad 2113 (0))), some (.int (x3)), some (.int (x4 ||| ((1 : Int32) <<< ((V4 2113 (0) (x5).toNatClampNeg) &&& 31)))), some (.int (x5))]) DX5_isWholeOrder_66 (by decide) rfl ?_
        refine t_iinc (v := 1) (L' := [d0, d1, some (.ref (ad 2113 (0))), some (.int (x3)), some (.int (x4 ||| ((1 : Int32) <<< ((V4 2113 (0) (x5).toNatClampNeg) &&& 31)))), some (.int (x5 + 1))]) DX5_isWholeOrder_68 rfl ki_1 (by decide) rfl ?_
        refine r_goto DX5_isWholeOrder_71 ?_
        exact hkh hR h
      · have h := if_t c8 h
        exact hkx55 hR h
theorem SL_X5_isWholeOrder_22 {E : EN} {X : CX} {P : Option Value → MH → Prop} {ad : AD} {fu : Nat} {out : Int32 × St} {kx55 : St → RR} {kx74 : St → RR} (hkx55 : ∀ {V : St} {M : MH} {d0 : Option Value} {d1 : Option Value} {d2 : Option Value} {d3 : Option Value} {d4 : Option Value} {d5 : Option Value}, Rep E ad V M → kx55 V  = some out → G E X RX5 cX5_isWholeOrder 6 (some .boolean) false (rmD 2) P M [d0, d1, d2, d3, d4, d5] 0 0 55 []) (hkx74 : ∀ {V : St} {M : MH} {d0 : Option Value} {d1 : Option Value} {d2 : Option Value} {d3 : Option Value} {d4 : Option Value} {d5 : Option Value}, Rep E ad V M → kx74 V  = some out → G E X RX5 cX5_isWholeOrder 6 (some .boolean) false (rmD 2) P M [d0, d1, d2, d3, d4, d5] 0 0 74 []) (hp : ∀ M, Rep E ad out.2 M → P (some (.int out.1)) M) : ∀ (n : Nat) {V : St} {M : MH} {x3 : Int32} {x4 : Int32} {x5 : Int32} {d0 : Option Value} {d1 : Option Value}, Rep E ad V M → Lp_X5_isWholeOrder_22 kx55 kx74 fu n V x3 x4 x5 = some out → G E X RX5 cX5_isWholeOrder 6 (some .boolean) false (rmD 2) P M [d0, d1, some (.ref (ad 2113 (0))), some (.int (x3)), some (.int (x4)), some (.int (x5))] 0 0 22 [] := by
  intro n
  induction n with
  | zero => intros; rename_i h; cases h
  | succ n ih => exact fun hR h => S_X5_isWholeOrder_22 (fun hR h => ih hR h) (fun hR h => hkx55 hR h) (fun hR h => hkx74 hR h) hp hR h
theorem S_X5_isWholeOrder_14 {E : EN} {X : CX} {P : Option Value → MH → Prop} {ad : AD} {fu : Nat} {out : Int32 × St} (hp : ∀ M, Rep E ad out.2 M → P (some (.int out.1)) M) {V : St} {M : MH} {d0 : Option Value} {d1 : Option Value} {d2 : Option Value} {d3 : Option Value} {d4 : Option Value} {d5 : Option Value} (hR : Rep E ad V M) (h : F_X5_isWholeOrder_14 fu V = some out) : G E X RX5 cX5_isWholeOrder 6 (some .boolean) false (rmD 2) P M [d0, d1, d2, d3, d4, d5] 0 0 14 [] := by
  unfold F_X5_isWholeOrder_14 at h
  refine r_iconst (v := 0) DX5_isWholeOrder_14 ki_0 ?_
  cases h
  exact r_zret DX5_isWholeOrder_15 rfl rfl ⟨Nat.le_refl 0, Nat.le_refl 0⟩ (hp M hR)
theorem S_X5_isWholeOrder_0 {E : EN} {X : CX} {P : Option Value → MH → Prop} {ad : AD} {fu : Nat} {out : Int32 × St} (hp : ∀ M, Rep E ad out.2 M → P (some (.int out.1)) M) {V : St} {M : MH} {x1 : Int32} {x3 : Int32} (hR : Rep E ad V M) (h : f_X5_isWholeOrder fu V x1 x3 = some out) : G E X RX5 cX5_isWholeOrder 6 (some .boolean) false (rmD 2) P M [some (.ref (ad 1500 0)), some (rfq ad 2000 (x1)), some (.ref (ad 2113 (0))), some (.int (x3)), none, none] 0 0 0 [] := by
  unfold f_X5_isWholeOrder at h
  refine r_iload_n DX5_isWholeOrder_0 rfl ?_
  refine t_aload_n (rfq_or _ _ _) DX5_isWholeOrder_1 rfl ?_
  obtain ⟨⟨hx1, hi2⟩, h⟩ := gd_inv h
  refine q_geti hx1 DX5_isWholeOrder_2 fl_X5_38 hR ct_2000 hi2 rfl ?_
  refine r_icmp_ne DX5_isWholeOrder_5 (fun c3 => ?_) (fun c3 => ?_)
  · have h := if_f c3 h
    exact S_X5_isWholeOrder_14 hp hR h
  · have h := if_t c3 h
    refine r_iload_n DX5_isWholeOrder_8 rfl ?_
    refine r_aload_n DX5_isWholeOrder_9 rfl ?_
    refine s_blen DX5_isWholeOrder_10 hR ct_2113 (two_cnt _) ?_
    refine r_icmp_le DX5_isWholeOrder_11 (fun c4 => ?_) (fun c4 => ?_)
    · have h := if_t c4 h
      refine r_iconst (v := 0) DX5_isWholeOrder_16 ki_0 ?_
      refine t_istore (L' := [some (.ref (ad 1500 0)), some (rfq ad 2000 (x1)), some (.ref (ad 2113 (0))), some (.int (x3)), some (.int ((0 : Int32))), none]) DX5_isWholeOrder_17 (by decide) rfl ?_
      refine r_iconst (v := 0) DX5_isWholeOrder_19 ki_0 ?_
      refine t_istore (L' := [some (.ref (ad 1500 0)), some (rfq ad 2000 (x1)), some (.ref (ad 2113 (0))), some (.int (x3)), some (.int ((0 : Int32))), some (.int ((0 : Int32)))]) DX5_isWholeOrder_20 (by decide) rfl ?_
      exact SL_X5_isWholeOrder_22 (fun hR h => S_X5_isWholeOrder_55 hp hR h) (fun hR h => S_X5_isWholeOrder_74 hp hR h) hp fu hR h
    · have h := if_f c4 h
      exact S_X5_isWholeOrder_14 hp hR h
theorem C_X5_isWholeOrder {E : EN} {ad : AD} {fu : Nat} {out : Int32 × St} {V : St} {M : MH} {x1 : Int32} {x3 : Int32} (l : Launch) (hR : Rep E ad V M) (h : f_X5_isWholeOrder fu V x1 x3 = some out) : Ct E l yX5_isWholeOrder cX5_isWholeOrder 6 (some .boolean) (rmD 2) [.ref (ad 1500 0), rfq ad 2000 (x1), .ref (ad 2113 (0)), .int (x3)] M (fun v M => v = (some (.int out.1)) ∧ Rep E ad out.2 M) :=
  Ct.of (own := RX5) (ini := false) (L := [some (.ref (ad 1500 0)), some (rfq ad 2000 (x1)), some (.ref (ad 2113 (0))), some (.int (x3)), none, none]) rfl rfl (fun h => by cases h) (by simp only [List.all_cons, List.all_nil, rfq_cat]; rfl) (Nat.le_of_ble_eq_true rfl) rfl (fun X _ => S_X5_isWholeOrder_0 (fun M hR => ⟨rfl, hR⟩) hR h)
theorem S_X5_lengthOf_84 {E : EN} {X : CX} {P : Option Value → MH → Prop} {ad : AD} {fu : Nat} {out : Int32 × St} (hp : ∀ M, Rep E ad out.2 M → P (some (.int out.1)) M) {V : St} {M : MH} {x4 : Int32} {x6 : Int32} {d0 : Option Value} {d1 : Option Value} {d2 : Option Value} {d3 : Option Value} {d5 : Option Value} {d7 : Option Value} {d8 : Option Value} (hR : Rep E ad V M) (h : F_X5_lengthOf_84 fu V x4 x6 = some out) : G E X RX5 cX5_lengthOf 9 (some .int) false (rmD 2) P M [d0, d1, d2, d3, some (.int (x4)), d5, some (.int (x6)), d7, d8] 0 0 84 [] := by
  unfold F_X5_lengthOf_84 at h
  refine r_iload DX5_lengthOf_84 rfl ?_
  refine r_iload DX5_lengthOf_86 rfl ?_
  refine r_iadd DX5_lengthOf_88 ?_
  cases h
  exact r_iret DX5_lengthOf_89 rfl ⟨Nat.le_refl 0, Nat.le_refl 0⟩ (hp M hR)
theorem S_X5_lengthOf_52 {E : EN} {X : CX} {P : Option Value → MH → Prop} {ad : AD} {fu : Nat} {out : Int32 × St} {kh : St → Int32 → Int32 → Int32 → Int32 → Int32 → Int32 → RR} {kx84 : St → Int32 → Int32 → RR} (hkh : ∀ {V : St} {M : MH} {x1 : Int32} {x2 : Int32} {x4 : Int32} {x5 : Int32} {x6 : Int32} {x7 : Int32} {d0 : Option Value} {d8 : Option Value}, Rep E ad V M → kh V x1 x2 x4 x5 x6 x7 = some out → G E X RX5 cX5_lengthOf 9 (some .int) false (rmD 2) P M [d0, some (rfq ad 2000 (x1)), some (.int (x2)), some (.ref (ad 2113 (0))), some (.int (x4)), some (.int (x5)), some (.int (x6)), some (.int (x7)), d8] 0 0 12 []) (hkx84 : ∀ {V : St} {M : MH} {x4 : Int32} {x6 : Int32} {d0 : Option Value} {d1 : Option Value} {d2 : Option Value} {d3 : Option Value} {d5 : Option Value} {d7 : Option Value} {d8 : Option Value}, Rep E ad V M → kx84 V x4 x6 = some out → G E X RX5 cX5_lengthOf 9 (some .int) false (rmD 2) P M [d0, d1, d2, d3, some (.int (x4)), d5, some (.int (x6)), d7, d8] 0 0 84 []) (hp : ∀ M, Rep E ad out.2 M → P (some (.int out.1)) M) {V : St} {M : MH} {x1 : Int32} {x2 : Int32} {x4 : Int32} {x5 : Int32} {x6 : Int32} {x7 : Int32} {x8 : Int32} {d0 : Option Value} (hR : Rep E ad V M) (h : F_X5_lengthOf_52 kh kx84 fu V x1 x2 x4 x5 x6 x7 x8 = some out) : G E X RX5 cX5_lengthOf 9 (some .int) false (rmD 2) P M [d0, some (rfq ad 2000 (x1)), some (.int (x2)), some (.ref (ad 2113 (0))), some (.int (x4)), some (.int (x5)), some (.int (x6)), some (.int (x7)), some (.int (x8))] 0 0 52 [] := by
  unfold F_X5_lengthOf_52 at h
  refine r_iload DX5_lengthOf_52 rfl ?_
  refine t_aload_n (rfq_or _ _ _) DX5_lengthOf_54 rfl ?_
  obtain ⟨⟨hx1, hi2⟩, h⟩ := gd_inv h
  refine q_geta hx1 DX5_lengthOf_55 fl_X5_45 hR ct_2000 hi2 rfl ?_
  refine r_iload DX5_lengthOf_58 rfl ?_
  obtain ⟨hg3, h⟩ := gd_inv h
  refine s_iald DX5_lengthOf_60 hR ct_2008 (hi2) hg3 ?_
  refine r_isub DX5_lengthOf_61 ?_
  refine t_istore (L' := [d0, some (rfq ad 2000 (x1)), some (.int (x2)), some (.ref (ad 2113 (0))), some (.int (x4)), some (.int (x5 - (V 2008 ((x1).toNatClampNeg) (x8).toNatClampNeg))), some (.int (x6)), some (.int (x7)), some (.int (x8))]) DX5_lengthOf_62 (by decide) rfl ?_
  refine r_iload DX5_lengthOf_64 rfl ?_
  refine t_aload_n (rfq_or _ _ _) DX5_lengthOf_66 rfl ?_
  refine q_geta hx1 DX5_lengthOf_67 fl_X5_48 hR ct_2000 hi2 rfl ?_
  refine r_iload DX5_lengthOf_70 rfl ?_
  obtain ⟨hg4, h⟩ := gd_inv h
  refine s_iald DX5_lengthOf_72 hR ct_2007 (hi2) hg4 ?_
  refine r_mmax DX5_lengthOf_73 wd_730 (Nat.le_of_ble_eq_true rfl) (Nat.le_of_ble_eq_true rfl) ?_
  refine t_istore (L' := [d0, some (rfq ad 2000 (x1)), some (.int (x2)), some (.ref (ad 2113 (0))), some (.int (x4)), some (.int (x5 - (V 2008 ((x1).toNatClampNeg) (x8).toNatClampNeg))), some (.int ((if x6 < (V 2007 ((x1).toNatClampNeg) (x8).toNatClampNeg) then (V 2007 ((x1).toNatClampNeg) (x8).toNatClampNeg) else x6))), some (.int (x7)), some (.int (x8))]) DX5_lengthOf_76 (by decide) rfl ?_
  refine t_iinc (v := 1) (L' := [d0, some (rfq ad 2000 (x1)), some (.int (x2)), some (.ref (ad 2113 (0))), some (.int (x4)), some (.int (x5 - (V 2008 ((x1).toNatClampNeg) (x8).toNatClampNeg))), some (.int ((if x6 < (V 2007 ((x1).toNatClampNeg) (x8).toNatClampNeg) then (V 2007 ((x1).toNatClampNeg) (x8).toNatClampNeg) else x6))), some (.int (x7 + 1)), some (.int (x8))]) DX5_lengthOf_78 rfl ki_1 (by decide) rfl ?_
  refine r_goto DX5_lengthOf_81 ?_
  exact hkh hR h
theorem S_X5_lengthOf_12 {E : EN} {X : CX} {P : Option Value → MH → Prop} {ad : AD} {fu : Nat} {out : Int32 × St} {kh : St → Int32 → Int32 → Int32 → Int32 → Int32 → Int32 → RR} {kx84 : St → Int32 → Int32 → RR} (hkh : ∀ {V : St} {M : MH} {x1 : Int32} {x2 : Int32} {x4 : Int32} {x5 : Int32} {x6 : Int32} {x7 : Int32} {d0 : Option Value} {d8 : Option Value}, Rep E ad V M → kh V x1 x2 x4 x5 x6 x7 = some out → G E X RX5 cX5_lengthOf 9 (some .int) false (rmD 2) P M [d0, some (rfq ad 2000 (x1)), some (.int (x2)), some (.ref (ad 2113 (0))), some (.int (x4)), some (.int (x5)), some (.int (x6)), some (.int (x7)), d8] 0 0 12 []) (hkx84 : ∀ {V : St} {M : MH} {x4 : Int32} {x6 : Int32} {d0 : Option Value} {d1 : Option Value} {d2 : Option Value} {d3 : Option Value} {d5 : Option Value} {d7 : Option Value} {d8 : Option Value}, Rep E ad V M → kx84 V x4 x6 = some out → G E X RX5 cX5_lengthOf 9 (some .int) false (rmD 2) P M [d0, d1, d2, d3, some (.int (x4)), d5, some (.int (x6)), d7, d8] 0 0 84 []) (hp : ∀ M, Rep E ad out.2 M → P (some (.int out.1)) M) {V : St} {M : MH} {x1 : Int32} {x2 : Int32} {x4 : Int32} {x5 : Int32} {x6 : Int32} {x7 : Int32} {d0 : Option Value} {d8 : Option Value} (hR : Rep E ad V M) (h : F_X5_lengthOf_12 kh kx84 fu V x1 x2 x4 x5 x6 x7 = some out) : G E X RX5 cX5_lengthOf 9 (some .int) false (rmD 2) P M [d0, some (rfq ad 2000 (x1)), some (.int (x2)), some (.ref (ad 2113 (0))), some (.int (x4)), some (.int (x5)), some (.int (x6)), some (.int (x7)), d8] 0 0 12 [] := by
  unfold F_X5_lengthOf_12 at h
  refine r_iload DX5_lengthOf_12 rfl ?_
  refine t_aload_n (rfq_or _ _ _) DX5_lengthOf_14 rfl ?_
  obtain ⟨⟨hx1, hi2⟩, h⟩ := gd_inv h
  refine q_geti hx1 DX5_lengthOf_15 fl_X5_38 hR ct_2000 hi2 rfl ?_
  refine r_icmp_ge DX5_lengthOf_18 (fun c3 => ?_) (fun c3 => ?_)
  · have h := if_t c3 h
    exact hkx84 hR h
  · have h := if_f c3 h
    refine r_aload_n DX5_lengthOf_21 rfl ?_
    refine r_iload DX5_lengthOf_22 rfl ?_
    obtain ⟨hg4, h⟩ := gd_inv h
    refine s_bald DX5_lengthOf_24 hR ct_2113 (two_cnt _) hg4 ?_
    refine t_istore (L' := [d0, some (rfq ad 2000 (x1)), some (.int (x2)), some (.ref (ad 2113 (0))), some (.int (x4)), some (.int (x5)), some (.int (x6)), some (.int (x7)), some (.int ((V 2113 (0) (x7).toNatClampNeg)))]) DX5_lengthOf_25 (by decide) rfl ?_
    refine t_aload_n (rfq_or _ _ _) DX5_lengthOf_27 rfl ?_
    refine q_geta hx1 DX5_lengthOf_28 fl_X5_45 hR ct_2000 hi2 rfl ?_
    refine r_iload DX5_lengthOf_31 rfl ?_
    obtain ⟨hg5, h⟩ := gd_inv h
    refine s_iald DX5_lengthOf_33 hR ct_2008 (hi2) hg5 ?_
    refine r_iload DX5_lengthOf_34 rfl ?_
    refine r_icmp_le DX5_lengthOf_36 (fun c6 => ?_) (fun c6 => ?_)
    · have h := if_t c6 h
      exact S_X5_lengthOf_52 (fun hR h => hkh hR h) (fun hR h => hkx84 hR h) hp hR h
    · have h := if_f c6 h
      refine r_iload DX5_lengthOf_39 rfl ?_
      refine r_iload DX5_lengthOf_41 rfl ?_
      refine r_iadd DX5_lengthOf_43 ?_
      refine t_istore (L' := [d0, some (rfq ad 2000 (x1)), some (.int (x2)), some (.ref (ad 2113 (0))), some (.int (x4 + x6)), some (.int (x5)), some (.int (x6)), some (.int (x7)), some (.int ((V 2113 (0) (x7).toNatClampNeg)))]) DX5_lengthOf_44 (by decide) rfl ?_
      refine r_iconst (v := 0) DX5_lengthOf_46 ki_0 ?_
      refine t_istore (L' := [d0, some (rfq ad 2000 (x1)), some (.int (x2)), some (.ref (ad 2113 (0))), some (.int (x4 + x6)), some (.int (x5)), some (.int ((0 : Int32))), some (.int (x7)), some (.int ((V 2113 (0) (x7).toNatClampNeg)))]) DX5_lengthOf_47 (by decide) rfl ?_
      refine r_iload_n DX5_lengthOf_49 rfl ?_
      refine t_istore (L' := [d0, some (rfq ad 2000 (x1)), some (.int (x2)), some (.ref (ad 2113 (0))), some (.int (x4 + x6)), some (.int (x2)), some (.int ((0 : Int32))), some (.int (x7)), some (.int ((V 2113 (0) (x7).toNatClampNeg)))]) DX5_lengthOf_50 (by decide) rfl ?_
      exact S_X5_lengthOf_52 (fun hR h => hkh hR h) (fun hR h => hkx84 hR h) hp hR h
theorem SL_X5_lengthOf_12 {E : EN} {X : CX} {P : Option Value → MH → Prop} {ad : AD} {fu : Nat} {out : Int32 × St} {kx84 : St → Int32 → Int32 → RR} (hkx84 : ∀ {V : St} {M : MH} {x4 : Int32} {x6 : Int32} {d0 : Option Value} {d1 : Option Value} {d2 : Option Value} {d3 : Option Value} {d5 : Option Value} {d7 : Option Value} {d8 : Option Value}, Rep E ad V M → kx84 V x4 x6 = some out → G E X RX5 cX5_lengthOf 9 (some .int) false (rmD 2) P M [d0, d1, d2, d3, some (.int (x4)), d5, some (.int (x6)), d7, d8] 0 0 84 []) (hp : ∀ M, Rep E ad out.2 M → P (some (.int out.1)) M) : ∀ (n : Nat) {V : St} {M : MH} {x1 : Int32} {x2 : Int32} {x4 : Int32} {x5 : Int32} {x6 : Int32} {x7 : Int32} {d0 : Option Value} {d8 : Option Value}, Rep E ad V M → Lp_X5_lengthOf_12 kx84 fu n V x1 x2 x4 x5 x6 x7 = some out → G E X RX5 cX5_lengthOf 9 (some .int) false (rmD 2) P M [d0, some (rfq ad 2000 (x1)), some (.int (x2)), some (.ref (ad 2113 (0))), some (.int (x4)), some (.int (x5)), some (.int (x6)), some (.int (x7)), d8] 0 0 12 [] := by
  intro n
  induction n with
  | zero => intros; rename_i h; cases h
  | succ n ih => exact fun hR h => S_X5_lengthOf_12 (fun hR h => ih hR h) (fun hR h => hkx84 hR h) hp hR h
theorem S_X5_lengthOf_0 {E : EN} {X : CX} {P : Option Value → MH → Prop} {ad : AD} {fu : Nat} {out : Int32 × St} (hp : ∀ M, Rep E ad out.2 M → P (some (.int out.1)) M) {V : St} {M : MH} {x1 : Int32} {x2 : Int32} (hR : Rep E ad V M) (h : f_X5_lengthOf fu V x1 x2 = some out) : G E X RX5 cX5_lengthOf 9 (some .int) false (rmD 2) P M [some (.ref (ad 1500 0)), some (rfq ad 2000 (x1)), some (.int (x2)), some (.ref (ad 2113 (0))), none, none, none, none, none] 0 0 0 [] := by
  unfold f_X5_lengthOf at h
  refine r_iconst (v := 0) DX5_lengthOf_0 ki_0 ?_
  refine t_istore (L' := [some (.ref (ad 1500 0)), some (rfq ad 2000 (x1)), some (.int (x2)), some (.ref (ad 2113 (0))), some (.int ((0 : Int32))), none, none, none, none]) DX5_lengthOf_1 (by decide) rfl ?_
  refine r_iconst (v := 0) DX5_lengthOf_3 ki_0 ?_
  refine t_istore (L' := [some (.ref (ad 1500 0)), some (rfq ad 2000 (x1)), some (.int (x2)), some (.ref (ad 2113 (0))), some (.int ((0 : Int32))), some (.int ((0 : Int32))), none, none, none]) DX5_lengthOf_4 (by decide) rfl ?_
  refine r_iconst (v := 0) DX5_lengthOf_6 ki_0 ?_
  refine t_istore (L' := [some (.ref (ad 1500 0)), some (rfq ad 2000 (x1)), some (.int (x2)), some (.ref (ad 2113 (0))), some (.int ((0 : Int32))), some (.int ((0 : Int32))), some (.int ((0 : Int32))), none, none]) DX5_lengthOf_7 (by decide) rfl ?_
  refine r_iconst (v := 0) DX5_lengthOf_9 ki_0 ?_
  refine t_istore (L' := [some (.ref (ad 1500 0)), some (rfq ad 2000 (x1)), some (.int (x2)), some (.ref (ad 2113 (0))), some (.int ((0 : Int32))), some (.int ((0 : Int32))), some (.int ((0 : Int32))), some (.int ((0 : Int32))), none]) DX5_lengthOf_10 (by decide) rfl ?_
  exact SL_X5_lengthOf_12 (fun hR h => S_X5_lengthOf_84 hp hR h) hp fu hR h
theorem C_X5_lengthOf {E : EN} {ad : AD} {fu : Nat} {out : Int32 × St} {V : St} {M : MH} {x1 : Int32} {x2 : Int32} (l : Launch) (hR : Rep E ad V M) (h : f_X5_lengthOf fu V x1 x2 = some out) : Ct E l yX5_lengthOf cX5_lengthOf 9 (some .int) (rmD 2) [.ref (ad 1500 0), rfq ad 2000 (x1), .int (x2), .ref (ad 2113 (0))] M (fun v M => v = (some (.int out.1)) ∧ Rep E ad out.2 M) :=
  Ct.of (own := RX5) (ini := false) (L := [some (.ref (ad 1500 0)), some (rfq ad 2000 (x1)), some (.int (x2)), some (.ref (ad 2113 (0))), none, none, none, none, none]) rfl rfl (fun h => by cases h) (by simp only [List.all_cons, List.all_nil, rfq_cat]; rfl) (Nat.le_of_ble_eq_true rfl) rfl (fun X _ => S_X5_lengthOf_0 (fun M hR => ⟨rfl, hR⟩) hR h)
theorem S_X11_laid_68 {E : EN} {X : CX} {P : Option Value → MH → Prop} {ad : AD} {fu : Nat} {out : Int32 × St} (hp : ∀ M, Rep E ad out.2 M → P (some (.int out.1)) M) {V : St} {M : MH} {d0 : Option Value} {d1 : Option Value} {d2 : Option Value} {d3 : Option Value} {d4 : Option Value} (hR : Rep E ad V M) (h : F_X11_laid_68 fu V = some out) : G E X RX11 cX11_laid 5 (some .int) false (rmD 6) P M [d0, d1, d2, d3, d4] 0 0 68 [] := by
  unfold F_X11_laid_68 at h
  refine r_bipush (v := -2) DX11_laid_68 kb_m2 ?_
  cases h
  exact r_iret DX11_laid_70 rfl ⟨Nat.le_refl 0, Nat.le_refl 0⟩ (hp M hR)
theorem S_X11_laid_35 {E : EN} {X : CX} {P : Option Value → MH → Prop} {ad : AD} {fu : Nat} {out : Int32 × St} (hp : ∀ M, Rep E ad out.2 M → P (some (.int out.1)) M) {V : St} {M : MH} {d0 : Option Value} {d1 : Option Value} {d2 : Option Value} {d3 : Option Value} {d4 : Option Value} (hR : Rep E ad V M) (h : F_X11_laid_35 fu V = some out) : G E X RX11 cX11_laid 5 (some .int) false (rmD 6) P M [d0, d1, d2, d3, d4] 0 0 35 [] := by
  unfold F_X11_laid_35 at h
  refine r_iconst (v := -1) DX11_laid_35 ki_m1 ?_
  cases h
  exact r_iret DX11_laid_36 rfl ⟨Nat.le_refl 0, Nat.le_refl 0⟩ (hp M hR)
theorem S_X11_laid_0 {E : EN} {X : CX} {P : Option Value → MH → Prop} {ad : AD} {fu : Nat} {out : Int32 × St} (hp : ∀ M, Rep E ad out.2 M → P (some (.int out.1)) M) {V : St} {M : MH} {x1 : Int32} {x2 : Int32} {x3 : Int32} (hR : Rep E ad V M) (h : f_X11_laid fu V x1 x2 x3 = some out) : G E X RX11 cX11_laid 5 (some .int) false (rmD 6) P M [some (.ref (ad 2100 0)), some (.int (x1)), some (.int (x2)), some (.int (x3)), none] 0 0 0 [] := by
  unfold f_X11_laid at h
  refine r_aload_n DX11_laid_0 rfl ?_
  refine r_iload_n DX11_laid_1 rfl ?_
  obtain ⟨r1, V2, hc3, h⟩ := bd_inv h
  refine k_callV (As := [.int (x1)]) (rest := []) (st1 := [rfq ad 2000 (r1)]) (w := some (rfq ad 2000 r1)) DX11_laid_2 cv_X11_170 hR ct_2100 (one_cnt _) rfl (C_X11_findCoat (out := (r1, V2)) (cxL X) hR hc3) rfl (by decide) (by decide) rfl (Nat.le_of_ble_eq_true rfl) rfl (fun M hR => ?_)
  refine t_astore (L' := [some (.ref (ad 2100 0)), some (.int (x1)), some (.int (x2)), some (.int (x3)), some (rfq ad 2000 (r1))]) (rfq_or _ _ _) DX11_laid_5 (by decide) rfl ?_
  refine t_aload (rfq_or _ _ _) DX11_laid_7 rfl ?_
  refine q_ifnull DX11_laid_9 (fun c4 => ?_) (fun c4 => ?_)
  · have h := if_t c4 h
    exact S_X11_laid_35 hp hR h
  · have h := if_f c4 h
    refine r_iload_n DX11_laid_12 rfl ?_
    refine r_iconst (v := 1) DX11_laid_13 ki_1 ?_
    refine r_sipush (v := 200) DX11_laid_14 ks_200 ?_
    obtain ⟨r5, V6, hc7, h⟩ := bd_inv h
    refine k_callS (As := [.int (x2), .int ((1 : Int32)), .int ((200 : Int32))]) (rest := []) (st1 := [.int (r5)]) (w := some (.int r5)) DX11_laid_17 cs_X11_111 (C_X11_within (out := (r5, V6)) (cxL X) hR hc7) rfl (by decide) (by decide) rfl (Nat.le_of_ble_eq_true rfl) rfl (fun M hR => ?_)
    refine r_if_eq DX11_laid_20 (fun c8 => ?_) (fun c8 => ?_)
    · have h := if_t c8 h
      exact S_X11_laid_35 hp hR h
    · have h := if_f c8 h
      refine r_iload_n DX11_laid_23 rfl ?_
      refine r_iconst (v := 0) DX11_laid_24 ki_0 ?_
      refine r_aload_n DX11_laid_25 rfl ?_
      refine s_geti DX11_laid_26 fl_X11_55 hR ct_2100 (one_cnt _) rfl ?_
      obtain ⟨r9, V10, hc11, h⟩ := bd_inv h
      refine k_callS (As := [.int (x3), .int ((0 : Int32)), .int ((V6 2114 0 0))]) (rest := []) (st1 := [.int (r9)]) (w := some (.int r9)) DX11_laid_29 cs_X11_111 (C_X11_within (out := (r9, V10)) (cxL X) hR hc11) rfl (by decide) (by decide) rfl (Nat.le_of_ble_eq_true rfl) rfl (fun M hR => ?_)
      refine r_if_ne DX11_laid_32 (fun c12 => ?_) (fun c12 => ?_)
      · have h := if_f c12 h
        refine r_aload_n DX11_laid_37 rfl ?_
        refine r_iconst (v := 0) DX11_laid_38 ki_0 ?_
        obtain ⟨V13, hv14, h⟩ := bv_inv h
        refine s_puti DX11_laid_39 fp_X11_55 hR oks_2114 ct_2100 (one_cnt _) rfl rfl rfl (fun M hR => ?_)
        have hR := hR.cg hv14
        refine r_aload_n DX11_laid_42 rfl ?_
        refine s_geto DX11_laid_43 fl_X11_75 hR ct_2100 (one_cnt _) rfl ?_
        refine t_aload (rfq_or _ _ _) DX11_laid_46 rfl ?_
        refine r_aload_n DX11_laid_48 rfl ?_
        refine s_geta DX11_laid_49 fl_X11_51 hR ct_2100 (one_cnt _) rfl ?_
        refine r_iload_n DX11_laid_52 rfl ?_
        obtain ⟨r15, V16, hc17, h⟩ := bd_inv h
        refine k_callV (As := [rfq ad 2000 (r1), .ref (ad 2113 (0)), .int (x3)]) (rest := []) (st1 := [.int (r15)]) (w := some (.int r15)) DX11_laid_53 cv_X11_177 hR ct_1500 (one_cnt _) rfl (C_X5_isWholeOrder (out := (r15, V16)) (cxL X) hR hc17) rfl (by decide) (by decide) rfl (Nat.le_of_ble_eq_true rfl) rfl (fun M hR => ?_)
        refine r_if_eq DX11_laid_56 (fun c18 => ?_) (fun c18 => ?_)
        · have h := if_t c18 h
          exact S_X11_laid_68 hp hR h
        · have h := if_f c18 h
          refine t_aload (rfq_or _ _ _) DX11_laid_59 rfl ?_
          obtain ⟨⟨hx22, hi23⟩, h⟩ := gd_inv h
          obtain ⟨r19, V20, hc21, h⟩ := bd_inv h
          refine k_callQ (As := []) (rest := []) (st1 := [.int (r19)]) (w := some (.int r19)) hx22 DX11_laid_61 cv_X11_181 hR ct_2000 hi23 rfl (C_X10_widest (out := (r19, V20)) (cxL X) hR hc21) rfl (by decide) (by decide) rfl (Nat.le_of_ble_eq_true rfl) rfl (fun M hR => ?_)
          refine r_iload_n DX11_laid_64 rfl ?_
          refine r_icmp_le DX11_laid_65 (fun c24 => ?_) (fun c24 => ?_)
          · have h := if_t c24 h
            refine r_aload_n DX11_laid_71 rfl ?_
            refine s_geto DX11_laid_72 fl_X11_75 hR ct_2100 (one_cnt _) rfl ?_
            refine t_aload (rfq_or _ _ _) DX11_laid_75 rfl ?_
            refine r_iload_n DX11_laid_77 rfl ?_
            refine r_aload_n DX11_laid_78 rfl ?_
            refine s_geta DX11_laid_79 fl_X11_51 hR ct_2100 (one_cnt _) rfl ?_
            obtain ⟨r25, V26, hc27, h⟩ := bd_inv h
            refine k_callV (As := [rfq ad 2000 (r1), .int (x2), .ref (ad 2113 (0))]) (rest := []) (st1 := [.int (r25)]) (w := some (.int r25)) DX11_laid_82 cv_X11_184 hR ct_1500 (one_cnt _) rfl (C_X5_lengthOf (out := (r25, V26)) (cxL X) hR hc27) rfl (by decide) (by decide) rfl (Nat.le_of_ble_eq_true rfl) rfl (fun M hR => ?_)
            cases h
            exact r_iret DX11_laid_85 rfl ⟨Nat.le_refl 0, Nat.le_refl 0⟩ (hp M hR)
          · have h := if_f c24 h
            exact S_X11_laid_68 hp hR h
      · have h := if_t c12 h
        exact S_X11_laid_35 hp hR h
theorem C_X11_laid {E : EN} {ad : AD} {fu : Nat} {out : Int32 × St} {V : St} {M : MH} {x1 : Int32} {x2 : Int32} {x3 : Int32} (l : Launch) (hR : Rep E ad V M) (h : f_X11_laid fu V x1 x2 x3 = some out) : Ct E l yX11_laid cX11_laid 5 (some .int) (rmD 6) [.ref (ad 2100 0), .int (x1), .int (x2), .int (x3)] M (fun v M => v = (some (.int out.1)) ∧ Rep E ad out.2 M) :=
  Ct.of (own := RX11) (ini := false) (L := [some (.ref (ad 2100 0)), some (.int (x1)), some (.int (x2)), some (.int (x3)), none]) rfl rfl (fun h => by cases h) rfl (Nat.le_of_ble_eq_true rfl) rfl (fun X _ => S_X11_laid_0 (fun M hR => ⟨rfl, hR⟩) hR h)
theorem S_X2_addLoad_34 {E : EN} {X : CX} {P : Option Value → MH → Prop} {ad : AD} {fu : Nat} {out : Int32 × St} (hp : ∀ M, Rep E ad out.2 M → P (some (.int out.1)) M) {V : St} {M : MH} {d0 : Option Value} {d1 : Option Value} {d2 : Option Value} (hR : Rep E ad V M) (h : F_X2_addLoad_34 fu V = some out) : G E X RX2 cX2_addLoad 3 (some .boolean) false (rmD 2) P M [d0, d1, d2] 0 0 34 [] := by
  unfold F_X2_addLoad_34 at h
  refine r_iconst (v := 0) DX2_addLoad_34 ki_0 ?_
  cases h
  exact r_zret DX2_addLoad_35 rfl rfl ⟨Nat.le_refl 0, Nat.le_refl 0⟩ (hp M hR)
theorem S_X2_addLoad_0 {E : EN} {X : CX} {P : Option Value → MH → Prop} {ad : AD} {fu : Nat} {out : Int32 × St} (hp : ∀ M, Rep E ad out.2 M → P (some (.int out.1)) M) {V : St} {M : MH} {x0 : Int32} {x1 : Int32} {x2 : Int32} (hR : Rep E ad V M) (h : f_X2_addLoad fu V x0 x1 x2 = some out) : G E X RX2 cX2_addLoad 3 (some .boolean) false (rmD 2) P M [some (rfq ad 1200 (x0)), some (.int (x1)), some (.int (x2))] 0 0 0 [] := by
  unfold f_X2_addLoad at h
  refine r_iload_n DX2_addLoad_0 rfl ?_
  refine r_iconst (v := 1) DX2_addLoad_1 ki_1 ?_
  refine t_aload_n (rfq_or _ _ _) DX2_addLoad_2 rfl ?_
  obtain ⟨⟨hx1, hi2⟩, h⟩ := gd_inv h
  refine q_geti hx1 DX2_addLoad_3 fl_X2_59 hR ct_1200 hi2 rfl ?_
  refine r_iconst (v := 1) DX2_addLoad_6 ki_1 ?_
  refine r_isub DX2_addLoad_7 ?_
  obtain ⟨r3, V4, hc5, h⟩ := bd_inv h
  refine k_callSN (As := [.int (x1), .int ((1 : Int32)), .int ((V 1201 (x0).toNatClampNeg 0) - (1 : Int32))]) (rest := []) (st1 := [.int (r3)]) (w := some (.int r3)) DX2_addLoad_8 csn_X2_62 (C_X11_within (out := (r3, V4)) (cxL X) hR hc5) rfl (by decide) (by decide) rfl (Nat.le_of_ble_eq_true rfl) rfl (fun M hR => ?_)
  refine r_if_eq DX2_addLoad_11 (fun c6 => ?_) (fun c6 => ?_)
  · have h := if_t c6 h
    exact S_X2_addLoad_34 hp hR h
  · have h := if_f c6 h
    refine r_iload_n DX2_addLoad_14 rfl ?_
    refine r_iconst (v := 1) DX2_addLoad_15 ki_1 ?_
    refine r_sipush (v := 500) DX2_addLoad_16 ks_500 ?_
    obtain ⟨r7, V8, hc9, h⟩ := bd_inv h
    refine k_callSN (As := [.int (x2), .int ((1 : Int32)), .int ((500 : Int32))]) (rest := []) (st1 := [.int (r7)]) (w := some (.int r7)) DX2_addLoad_19 csn_X2_62 (C_X11_within (out := (r7, V8)) (cxL X) hR hc9) rfl (by decide) (by decide) rfl (Nat.le_of_ble_eq_true rfl) rfl (fun M hR => ?_)
    refine r_if_eq DX2_addLoad_22 (fun c10 => ?_) (fun c10 => ?_)
    · have h := if_t c10 h
      exact S_X2_addLoad_34 hp hR h
    · have h := if_f c10 h
      refine t_aload_n (rfq_or _ _ _) DX2_addLoad_25 rfl ?_
      obtain ⟨⟨hx11, hi12⟩, h⟩ := gd_inv h
      refine q_geti hx11 DX2_addLoad_26 fl_X2_46 hR ct_1200 hi12 rfl ?_
      refine r_bipush (v := 8) DX2_addLoad_29 kb_8 ?_
      refine r_icmp_lt DX2_addLoad_31 (fun c13 => ?_) (fun c13 => ?_)
      · have h := if_t c13 h
        refine t_aload_n (rfq_or _ _ _) DX2_addLoad_36 rfl ?_
        refine q_geta hx11 DX2_addLoad_37 fl_X2_21 hR ct_1200 hi12 rfl ?_
        refine t_aload_n (rfq_or _ _ _) DX2_addLoad_40 rfl ?_
        refine q_geti hx11 DX2_addLoad_41 fl_X2_46 hR ct_1200 hi12 rfl ?_
        refine r_iload_n DX2_addLoad_44 rfl ?_
        obtain ⟨hg14, h⟩ := gd_inv h
        obtain ⟨V15, hv16, h⟩ := bv_inv h
        refine s_iast DX2_addLoad_45 hR oka_1205 ct_1205 (hi12) hg14 (fun M hR => ?_)
        have hR := hR.cg hv16
        refine t_aload_n (rfq_or _ _ _) DX2_addLoad_46 rfl ?_
        have hi17 := cnt_keep hv16 (b := 2104) (by decide) hi12
        refine q_geta hx11 DX2_addLoad_47 fl_X2_24 hR ct_1200 hi17 rfl ?_
        refine t_aload_n (rfq_or _ _ _) DX2_addLoad_50 rfl ?_
        refine q_geti hx11 DX2_addLoad_51 fl_X2_46 hR ct_1200 hi17 rfl ?_
        refine r_iload_n DX2_addLoad_54 rfl ?_
        obtain ⟨hg18, h⟩ := gd_inv h
        obtain ⟨V19, hv20, h⟩ := bv_inv h
        refine s_iast DX2_addLoad_55 hR oka_1206 ct_1206 (hi17) hg18 (fun M hR => ?_)
        have hR := hR.cg hv20
        refine t_aload_n (rfq_or _ _ _) DX2_addLoad_56 rfl ?_
        refine r_dup DX2_addLoad_57 (rfq_cat _ _ _) ?_
        have hi21 := cnt_keep hv20 (b := 2104) (by decide) hi17
        refine q_geti hx11 DX2_addLoad_58 fl_X2_46 hR ct_1200 hi21 rfl ?_
        refine r_iconst (v := 1) DX2_addLoad_61 ki_1 ?_
        refine r_iadd DX2_addLoad_62 ?_
        obtain ⟨V22, hv23, h⟩ := bv_inv h
        refine q_puti hx11 DX2_addLoad_63 fp_X2_46 hR oks_1213 ct_1200 hi21 rfl rfl rfl (fun M hR => ?_)
        have hR := hR.cg hv23
        refine t_aload_n (rfq_or _ _ _) DX2_addLoad_66 rfl ?_
        refine r_iconst (v := 0) DX2_addLoad_67 ki_0 ?_
        have hi24 := cnt_keep hv23 (b := 2104) (by decide) hi21
        obtain ⟨V25, hv26, h⟩ := bv_inv h
        refine q_puti hx11 DX2_addLoad_68 fp_X2_55 hR oks_1216 ct_1200 hi24 rfl rfl rfl (fun M hR => ?_)
        have hR := hR.cg hv26
        refine r_iconst (v := 1) DX2_addLoad_71 ki_1 ?_
        cases h
        exact r_zret DX2_addLoad_72 rfl rfl ⟨Nat.le_refl 0, Nat.le_refl 0⟩ (hp M hR)
      · have h := if_f c13 h
        exact S_X2_addLoad_34 hp hR h
theorem C_X2_addLoad {E : EN} {ad : AD} {fu : Nat} {out : Int32 × St} {V : St} {M : MH} {x0 : Int32} {x1 : Int32} {x2 : Int32} (l : Launch) (hR : Rep E ad V M) (h : f_X2_addLoad fu V x0 x1 x2 = some out) : Ct E l yX2_addLoad cX2_addLoad 3 (some .boolean) (rmD 2) [rfq ad 1200 (x0), .int (x1), .int (x2)] M (fun v M => v = (some (.int out.1)) ∧ Rep E ad out.2 M) :=
  Ct.of (own := RX2) (ini := false) (L := [some (rfq ad 1200 (x0)), some (.int (x1)), some (.int (x2))]) rfl rfl (fun h => by cases h) (by simp only [List.all_cons, List.all_nil, rfq_cat]; rfl) (Nat.le_of_ble_eq_true rfl) rfl (fun X _ => S_X2_addLoad_0 (fun M hR => ⟨rfl, hR⟩) hR h)
theorem S_X11_load_27 {E : EN} {X : CX} {P : Option Value → MH → Prop} {ad : AD} {fu : Nat} {out : Int32 × St} (hp : ∀ M, Rep E ad out.2 M → P (some (.int out.1)) M) {V : St} {M : MH} {s0 : Int32} {d0 : Option Value} {d1 : Option Value} {d2 : Option Value} {d3 : Option Value} {d4 : Option Value} (hR : Rep E ad V M) (h : F_X11_load_27 fu V s0 = some out) : G E X RX11 cX11_load 5 (some .boolean) false (rmD 5) P M [d0, d1, d2, d3, d4] 0 0 27 [.int (s0)] := by
  unfold F_X11_load_27 at h
  obtain ⟨hz1, h⟩ := gd_inv h
  cases h
  exact r_zret DX11_load_27 rfl (nz_nar hz1) ⟨Nat.le_refl 0, Nat.le_refl 0⟩ (hp M hR)
theorem S_X11_load_26 {E : EN} {X : CX} {P : Option Value → MH → Prop} {ad : AD} {fu : Nat} {out : Int32 × St} (hp : ∀ M, Rep E ad out.2 M → P (some (.int out.1)) M) {V : St} {M : MH} {d0 : Option Value} {d1 : Option Value} {d2 : Option Value} {d3 : Option Value} {d4 : Option Value} (hR : Rep E ad V M) (h : F_X11_load_26 fu V = some out) : G E X RX11 cX11_load 5 (some .boolean) false (rmD 5) P M [d0, d1, d2, d3, d4] 0 0 26 [] := by
  unfold F_X11_load_26 at h
  refine r_iconst (v := 0) DX11_load_26 ki_0 ?_
  exact S_X11_load_27 hp hR h
theorem S_X11_load_0 {E : EN} {X : CX} {P : Option Value → MH → Prop} {ad : AD} {fu : Nat} {out : Int32 × St} (hp : ∀ M, Rep E ad out.2 M → P (some (.int out.1)) M) {V : St} {M : MH} {x1 : Int32} {x2 : Int32} {x3 : Int32} (hR : Rep E ad V M) (h : f_X11_load fu V x1 x2 x3 = some out) : G E X RX11 cX11_load 5 (some .boolean) false (rmD 5) P M [some (.ref (ad 2100 0)), some (.int (x1)), some (.int (x2)), some (.int (x3)), none] 0 0 0 [] := by
  unfold f_X11_load at h
  refine r_aload_n DX11_load_0 rfl ?_
  refine r_iload_n DX11_load_1 rfl ?_
  obtain ⟨r1, V2, hc3, h⟩ := bd_inv h
  refine k_callV (As := [.int (x1)]) (rest := []) (st1 := [rfq ad 1200 (r1)]) (w := some (rfq ad 1200 r1)) DX11_load_2 cv_X11_133 hR ct_2100 (one_cnt _) rfl (C_X11_findDrawing (out := (r1, V2)) (cxL X) hR hc3) rfl (by decide) (by decide) rfl (Nat.le_of_ble_eq_true rfl) rfl (fun M hR => ?_)
  refine t_astore (L' := [some (.ref (ad 2100 0)), some (.int (x1)), some (.int (x2)), some (.int (x3)), some (rfq ad 1200 (r1))]) (rfq_or _ _ _) DX11_load_5 (by decide) rfl ?_
  refine t_aload (rfq_or _ _ _) DX11_load_7 rfl ?_
  refine q_ifnull DX11_load_9 (fun c4 => ?_) (fun c4 => ?_)
  · have h := if_t c4 h
    exact S_X11_load_26 hp hR h
  · have h := if_f c4 h
    refine t_aload (rfq_or _ _ _) DX11_load_12 rfl ?_
    refine r_iload_n DX11_load_14 rfl ?_
    refine r_iload_n DX11_load_15 rfl ?_
    obtain ⟨⟨hx8, hi9⟩, h⟩ := gd_inv h
    obtain ⟨r5, V6, hc7, h⟩ := bd_inv h
    refine k_callQ (As := [.int (x2), .int (x3)]) (rest := []) (st1 := [.int (r5)]) (w := some (.int r5)) hx8 DX11_load_16 cv_X11_141 hR ct_1200 hi9 rfl (C_X2_addLoad (out := (r5, V6)) (cxL X) hR hc7) rfl (by decide) (by decide) rfl (Nat.le_of_ble_eq_true rfl) rfl (fun M hR => ?_)
    refine r_if_eq DX11_load_19 (fun c10 => ?_) (fun c10 => ?_)
    · have h := if_t c10 h
      exact S_X11_load_26 hp hR h
    · have h := if_f c10 h
      refine r_iconst (v := 1) DX11_load_22 ki_1 ?_
      refine r_goto DX11_load_23 ?_
      exact S_X11_load_27 hp hR h
theorem C_X11_load {E : EN} {ad : AD} {fu : Nat} {out : Int32 × St} {V : St} {M : MH} {x1 : Int32} {x2 : Int32} {x3 : Int32} (l : Launch) (hR : Rep E ad V M) (h : f_X11_load fu V x1 x2 x3 = some out) : Ct E l yX11_load cX11_load 5 (some .boolean) (rmD 5) [.ref (ad 2100 0), .int (x1), .int (x2), .int (x3)] M (fun v M => v = (some (.int out.1)) ∧ Rep E ad out.2 M) :=
  Ct.of (own := RX11) (ini := false) (L := [some (.ref (ad 2100 0)), some (.int (x1)), some (.int (x2)), some (.int (x3)), none]) rfl rfl (fun h => by cases h) rfl (Nat.le_of_ble_eq_true rfl) rfl (fun X _ => S_X11_load_0 (fun M hR => ⟨rfl, hR⟩) hR h)
theorem S_X11_look_98 {E : EN} {X : CX} {P : Option Value → MH → Prop} {ad : AD} {fu : Nat} {out : Int32 × St} (hp : ∀ M, Rep E ad out.2 M → P (some (.int out.1)) M) {V : St} {M : MH} {s0 : Int32} {d0 : Option Value} {d1 : Option Value} {d2 : Option Value} {d3 : Option Value} {d4 : Option Value} (hR : Rep E ad V M) (h : F_X11_look_98 fu V s0 = some out) : G E X RX11 cX11_look 5 (some .int) false (rmD 5) P M [d0, d1, d2, d3, d4] 0 0 98 [.int (s0)] := by
  unfold F_X11_look_98 at h
  cases h
  exact r_iret DX11_look_98 rfl ⟨Nat.le_refl 0, Nat.le_refl 0⟩ (hp M hR)
theorem S_X11_look_75 {E : EN} {X : CX} {P : Option Value → MH → Prop} {ad : AD} {fu : Nat} {out : Int32 × St} (hp : ∀ M, Rep E ad out.2 M → P (some (.int out.1)) M) {V : St} {M : MH} {d0 : Option Value} {d1 : Option Value} {d2 : Option Value} {d3 : Option Value} {d4 : Option Value} (hR : Rep E ad V M) (h : F_X11_look_75 fu V = some out) : G E X RX11 cX11_look 5 (some .int) false (rmD 5) P M [d0, d1, d2, d3, d4] 0 0 75 [] := by
  unfold F_X11_look_75 at h
  refine r_iconst (v := -1) DX11_look_75 ki_m1 ?_
  cases h
  exact r_iret DX11_look_76 rfl ⟨Nat.le_refl 0, Nat.le_refl 0⟩ (hp M hR)
theorem S_X11_look_53 {E : EN} {X : CX} {P : Option Value → MH → Prop} {ad : AD} {fu : Nat} {out : Int32 × St} (hp : ∀ M, Rep E ad out.2 M → P (some (.int out.1)) M) {V : St} {M : MH} {x2 : Int32} {s0 : Int32} {d1 : Option Value} {d3 : Option Value} {d4 : Option Value} (hR : Rep E ad V M) (h : F_X11_look_53 fu V x2 s0 = some out) : G E X RX11 cX11_look 5 (some .int) false (rmD 5) P M [some (.ref (ad 2100 0)), d1, some (.int (x2)), d3, d4] 0 0 53 [rfq ad 1600 (s0)] := by
  unfold F_X11_look_53 at h
  refine t_astore (L' := [some (.ref (ad 2100 0)), d1, some (.int (x2)), d3, some (rfq ad 1600 (s0))]) (rfq_or _ _ _) DX11_look_53 (by decide) rfl ?_
  refine t_aload (rfq_or _ _ _) DX11_look_55 rfl ?_
  refine q_ifnull DX11_look_57 (fun c1 => ?_) (fun c1 => ?_)
  · have h := if_t c1 h
    exact S_X11_look_75 hp hR h
  · have h := if_f c1 h
    refine r_iload_n DX11_look_60 rfl ?_
    refine r_iconst (v := 0) DX11_look_61 ki_0 ?_
    refine r_aload_n DX11_look_62 rfl ?_
    refine s_geto DX11_look_63 fl_X11_19 hR ct_2100 (one_cnt _) rfl ?_
    refine s_lsize (Li := 2103) (g := 1000) DX11_look_66 cv_X11_89 hR (by decide) (by decide) (Nat.le_of_ble_eq_true rfl) ?_
    obtain ⟨r2, V3, hc4, h⟩ := bd_inv h
    refine k_callS (As := [.int (x2), .int ((0 : Int32)), .int ((V 2103 0 0))]) (rest := []) (st1 := [.int (r2)]) (w := some (.int r2)) DX11_look_69 cs_X11_111 (C_X11_within (out := (r2, V3)) (cxL X) hR hc4) rfl (by decide) (by decide) rfl (Nat.le_of_ble_eq_true rfl) rfl (fun M hR => ?_)
    refine r_if_ne DX11_look_72 (fun c5 => ?_) (fun c5 => ?_)
    · have h := if_f c5 h
      refine r_iload_n DX11_look_77 rfl ?_
      refine r_if_ne DX11_look_78 (fun c6 => ?_) (fun c6 => ?_)
      · have h := if_f c6 h
        refine t_aload (rfq_or _ _ _) DX11_look_89 rfl ?_
        obtain ⟨⟨hx7, hi8⟩, h⟩ := gd_inv h
        refine q_geta hx7 DX11_look_91 fl_X11_216 hR ct_1600 hi8 rfl ?_
        refine r_iload_n DX11_look_94 rfl ?_
        refine r_iconst (v := 1) DX11_look_95 ki_1 ?_
        refine r_isub DX11_look_96 ?_
        obtain ⟨hg9, h⟩ := gd_inv h
        refine s_iald DX11_look_97 hR ct_1606 (hi8) hg9 ?_
        exact S_X11_look_98 hp hR h
      · have h := if_t c6 h
        refine t_aload (rfq_or _ _ _) DX11_look_81 rfl ?_
        obtain ⟨⟨hx10, hi11⟩, h⟩ := gd_inv h
        refine q_geti hx10 DX11_look_83 fl_X11_108 hR ct_1600 hi11 rfl ?_
        refine r_goto DX11_look_86 ?_
        exact S_X11_look_98 hp hR h
    · have h := if_t c5 h
      exact S_X11_look_75 hp hR h
theorem S_X11_look_34 {E : EN} {X : CX} {P : Option Value → MH → Prop} {ad : AD} {fu : Nat} {out : Int32 × St} (hp : ∀ M, Rep E ad out.2 M → P (some (.int out.1)) M) {V : St} {M : MH} {s0 : Int32} {d0 : Option Value} {d1 : Option Value} {d2 : Option Value} {d3 : Option Value} {d4 : Option Value} (hR : Rep E ad V M) (h : F_X11_look_34 fu V s0 = some out) : G E X RX11 cX11_look 5 (some .int) false (rmD 5) P M [d0, d1, d2, d3, d4] 0 0 34 [.int (s0)] := by
  unfold F_X11_look_34 at h
  cases h
  exact r_iret DX11_look_34 rfl ⟨Nat.le_refl 0, Nat.le_refl 0⟩ (hp M hR)
theorem S_X11_look_0 {E : EN} {X : CX} {P : Option Value → MH → Prop} {ad : AD} {fu : Nat} {out : Int32 × St} (hp : ∀ M, Rep E ad out.2 M → P (some (.int out.1)) M) {V : St} {M : MH} {x1 : Int32} {x2 : Int32} (hR : Rep E ad V M) (h : f_X11_look fu V x1 x2 = some out) : G E X RX11 cX11_look 5 (some .int) false (rmD 5) P M [some (.ref (ad 2100 0)), some (.int (x1)), some (.int (x2)), none, none] 0 0 0 [] := by
  unfold f_X11_look at h
  refine r_aload_n DX11_look_0 rfl ?_
  refine r_iload_n DX11_look_1 rfl ?_
  obtain ⟨r1, V2, hc3, h⟩ := bd_inv h
  refine k_callV (As := [.int (x1)]) (rest := []) (st1 := [rfq ad 1800 (r1)]) (w := some (rfq ad 1800 r1)) DX11_look_2 cv_X11_287 hR ct_2100 (one_cnt _) rfl (C_X11_findPerson (out := (r1, V2)) (cxL X) hR hc3) rfl (by decide) (by decide) rfl (Nat.le_of_ble_eq_true rfl) rfl (fun M hR => ?_)
  refine t_astore_n (L' := [some (.ref (ad 2100 0)), some (.int (x1)), some (.int (x2)), some (rfq ad 1800 (r1)), none]) (rfq_or _ _ _) DX11_look_5 (by decide) rfl ?_
  refine t_aload_n (rfq_or _ _ _) DX11_look_6 rfl ?_
  refine q_ifnull DX11_look_7 (fun c4 => ?_) (fun c4 => ?_)
  · have h := if_t c4 h
    refine r_iload_n DX11_look_35 rfl ?_
    refine r_bipush (v := 100) DX11_look_36 kb_100 ?_
    refine r_icmp_lt DX11_look_38 (fun c5 => ?_) (fun c5 => ?_)
    · have h := if_t c5 h
      refine q_null (ad := ad) (g := 1600) DX11_look_52 ?_
      exact S_X11_look_53 hp hR h
    · have h := if_f c5 h
      refine r_aload_n DX11_look_41 rfl ?_
      refine r_iload_n DX11_look_42 rfl ?_
      refine r_bipush (v := 100) DX11_look_43 kb_100 ?_
      refine r_isub DX11_look_45 ?_
      obtain ⟨r6, V7, hc8, h⟩ := bd_inv h
      refine k_callV (As := [.int (x1 - (100 : Int32))]) (rest := []) (st1 := [rfq ad 1600 (r6)]) (w := some (rfq ad 1600 r6)) DX11_look_46 cv_X11_208 hR ct_2100 (one_cnt _) rfl (C_X11_findMaker (out := (r6, V7)) (cxL X) hR hc8) rfl (by decide) (by decide) rfl (Nat.le_of_ble_eq_true rfl) rfl (fun M hR => ?_)
      refine r_goto DX11_look_49 ?_
      exact S_X11_look_53 hp hR h
  · have h := if_f c4 h
    refine r_iload_n DX11_look_10 rfl ?_
    refine r_if_ne DX11_look_11 (fun c5 => ?_) (fun c5 => ?_)
    · have h := if_f c5 h
      refine r_iload_n DX11_look_21 rfl ?_
      refine r_iconst (v := 1) DX11_look_22 ki_1 ?_
      refine r_icmp_ne DX11_look_23 (fun c6 => ?_) (fun c6 => ?_)
      · have h := if_f c6 h
        refine r_iconst (v := -1) DX11_look_33 ki_m1 ?_
        exact S_X11_look_34 hp hR h
      · have h := if_t c6 h
        refine t_aload_n (rfq_or _ _ _) DX11_look_26 rfl ?_
        obtain ⟨⟨hx7, hi8⟩, h⟩ := gd_inv h
        refine q_geti hx7 DX11_look_27 fl_X11_295 hR ct_1800 hi8 rfl ?_
        refine r_goto DX11_look_30 ?_
        exact S_X11_look_34 hp hR h
    · have h := if_t c5 h
      refine t_aload_n (rfq_or _ _ _) DX11_look_14 rfl ?_
      obtain ⟨⟨hx6, hi7⟩, h⟩ := gd_inv h
      refine q_geti hx6 DX11_look_15 fl_X11_100 hR ct_1800 hi7 rfl ?_
      refine r_goto DX11_look_18 ?_
      exact S_X11_look_34 hp hR h
theorem C_X11_look {E : EN} {ad : AD} {fu : Nat} {out : Int32 × St} {V : St} {M : MH} {x1 : Int32} {x2 : Int32} (l : Launch) (hR : Rep E ad V M) (h : f_X11_look fu V x1 x2 = some out) : Ct E l yX11_look cX11_look 5 (some .int) (rmD 5) [.ref (ad 2100 0), .int (x1), .int (x2)] M (fun v M => v = (some (.int out.1)) ∧ Rep E ad out.2 M) :=
  Ct.of (own := RX11) (ini := false) (L := [some (.ref (ad 2100 0)), some (.int (x1)), some (.int (x2)), none, none]) rfl rfl (fun h => by cases h) rfl (Nat.le_of_ble_eq_true rfl) rfl (fun X _ => S_X11_look_0 (fun M hR => ⟨rfl, hR⟩) hR h)
