theorem S_X11_findMaker_32 {E : EN} {X : CX} {P : Option Value → MH → Prop} {ad : AD} {fu : Nat} {out : Int32 × St} (hp : ∀ M, Rep E ad out.2 M → P (some (rfq ad 1600 out.1)) M) {V : St} {M : MH} {s0 : Int32} {d0 : Option Value} {d1 : Option Value} (hR : Rep E ad V M) (h : F_X11_findMaker_32 fu V s0 = some out) : G E X RX11 cX11_findMaker 2 (some (.object "UtilityBoard$Maker")) false (rmD 4) P M [d0, d1] 0 0 32 [rfq ad 1600 (s0)] := by
  unfold F_X11_findMaker_32 at h
  cases h
  exact r_aret DX11_findMaker_32 rfl (Or.inl ⟨_, rfl⟩) (rfq_or _ _ _) ⟨Nat.le_refl 0, Nat.le_refl 0⟩ (hp M hR)
theorem S_X11_findMaker_0 {E : EN} {X : CX} {P : Option Value → MH → Prop} {ad : AD} {fu : Nat} {out : Int32 × St} (hp : ∀ M, Rep E ad out.2 M → P (some (rfq ad 1600 out.1)) M) {V : St} {M : MH} {x1 : Int32} (hR : Rep E ad V M) (h : f_X11_findMaker fu V x1 = some out) : G E X RX11 cX11_findMaker 2 (some (.object "UtilityBoard$Maker")) false (rmD 4) P M [some (.ref (ad 2100 0)), some (.int (x1))] 0 0 0 [] := by
  unfold f_X11_findMaker at h
  refine r_iload_n DX11_findMaker_0 rfl ?_
  refine r_iconst (v := 0) DX11_findMaker_1 ki_0 ?_
  refine r_aload_n DX11_findMaker_2 rfl ?_
  refine s_geto DX11_findMaker_3 fl_X11_29 hR ct_2100 (one_cnt _) rfl ?_
  refine s_lsize (Li := 2106) (g := 1600) DX11_findMaker_6 cv_X11_89 hR (by decide) (by decide) (Nat.le_of_ble_eq_true rfl) ?_
  refine r_iconst (v := 1) DX11_findMaker_9 ki_1 ?_
  refine r_isub DX11_findMaker_10 ?_
  obtain ⟨r1, V2, hc3, h⟩ := bd_inv h
  refine k_callS (As := [.int (x1), .int ((0 : Int32)), .int ((V 2106 0 0) - (1 : Int32))]) (rest := []) (st1 := [.int (r1)]) (w := some (.int r1)) DX11_findMaker_11 cs_X11_111 (C_X11_within (out := (r1, V2)) (cxL X) hR hc3) rfl (by decide) (by decide) rfl (Nat.le_of_ble_eq_true rfl) rfl (fun M hR => ?_)
  refine r_if_eq DX11_findMaker_14 (fun c4 => ?_) (fun c4 => ?_)
  · have h := if_t c4 h
    refine q_null (ad := ad) (g := 1600) DX11_findMaker_31 ?_
    exact S_X11_findMaker_32 hp hR h
  · have h := if_f c4 h
    refine r_aload_n DX11_findMaker_17 rfl ?_
    refine s_geto DX11_findMaker_18 fl_X11_29 hR ct_2100 (one_cnt _) rfl ?_
    refine r_iload_n DX11_findMaker_21 rfl ?_
    obtain ⟨⟨hx5, hi6⟩, h⟩ := gd_inv h
    refine s_lget (Li := 2106) (g := 1600) DX11_findMaker_22 cv_X11_93 hR (by decide) hx5 hi6 (by decide) (Nat.le_of_ble_eq_true rfl) (fun M hR => ?_)
    refine q_cast hx5 DX11_findMaker_25 wd_405 hR ct_1600 hi6 rfl ?_
    refine r_goto DX11_findMaker_28 ?_
    exact S_X11_findMaker_32 hp hR h
theorem C_X11_findMaker {E : EN} {ad : AD} {fu : Nat} {out : Int32 × St} {V : St} {M : MH} {x1 : Int32} (l : Launch) (hR : Rep E ad V M) (h : f_X11_findMaker fu V x1 = some out) : Ct E l yX11_findMaker cX11_findMaker 2 (some (.object "UtilityBoard$Maker")) (rmD 4) [.ref (ad 2100 0), .int (x1)] M (fun v M => v = (some (rfq ad 1600 out.1)) ∧ Rep E ad out.2 M) :=
  Ct.of (own := RX11) (ini := false) (L := [some (.ref (ad 2100 0)), some (.int (x1))]) rfl rfl (fun h => by cases h) rfl (Nat.le_of_ble_eq_true rfl) rfl (fun X _ => S_X11_findMaker_0 (fun M hR => ⟨rfl, hR⟩) hR h)
theorem S_X11_trulyMarked_98 {E : EN} {X : CX} {P : Option Value → MH → Prop} {ad : AD} {fu : Nat} {out : Int32 × St} (hp : ∀ M, Rep E ad out.2 M → P (some (.int out.1)) M) {V : St} {M : MH} {x3 : Int32} {d0 : Option Value} {d1 : Option Value} {d2 : Option Value} {d4 : Option Value} {d5 : Option Value} {d6 : Option Value} (hR : Rep E ad V M) (h : F_X11_trulyMarked_98 fu V x3 = some out) : G E X RX11 cX11_trulyMarked 7 (some .int) false (rmD 5) P M [d0, d1, d2, some (.int (x3)), d4, d5, d6] 0 0 98 [] := by
  unfold F_X11_trulyMarked_98 at h
  refine r_iload_n DX11_trulyMarked_98 rfl ?_
  cases h
  exact r_iret DX11_trulyMarked_99 rfl ⟨Nat.le_refl 0, Nat.le_refl 0⟩ (hp M hR)
theorem S_X11_trulyMarked_92 {E : EN} {X : CX} {P : Option Value → MH → Prop} {ad : AD} {fu : Nat} {out : Int32 × St} {kh : St → Int32 → Int32 → Int32 → Int32 → RR} {kx98 : St → Int32 → RR} (hkh : ∀ {V : St} {M : MH} {x1 : Int32} {x2 : Int32} {x3 : Int32} {x4 : Int32} {d5 : Option Value} {d6 : Option Value}, Rep E ad V M → kh V x1 x2 x3 x4 = some out → G E X RX11 cX11_trulyMarked 7 (some .int) false (rmD 5) P M [some (.ref (ad 2100 0)), some (.int (x1)), some (.int (x2)), some (.int (x3)), some (.int (x4)), d5, d6] 0 0 5 []) (hkx98 : ∀ {V : St} {M : MH} {x3 : Int32} {d0 : Option Value} {d1 : Option Value} {d2 : Option Value} {d4 : Option Value} {d5 : Option Value} {d6 : Option Value}, Rep E ad V M → kx98 V x3 = some out → G E X RX11 cX11_trulyMarked 7 (some .int) false (rmD 5) P M [d0, d1, d2, some (.int (x3)), d4, d5, d6] 0 0 98 []) (hp : ∀ M, Rep E ad out.2 M → P (some (.int out.1)) M) {V : St} {M : MH} {x1 : Int32} {x2 : Int32} {x3 : Int32} {x4 : Int32} {d5 : Option Value} {d6 : Option Value} (hR : Rep E ad V M) (h : F_X11_trulyMarked_92 kh kx98 fu V x1 x2 x3 x4 = some out) : G E X RX11 cX11_trulyMarked 7 (some .int) false (rmD 5) P M [some (.ref (ad 2100 0)), some (.int (x1)), some (.int (x2)), some (.int (x3)), some (.int (x4)), d5, d6] 0 0 92 [] := by
  unfold F_X11_trulyMarked_92 at h
  refine t_iinc (v := 1) (L' := [some (.ref (ad 2100 0)), some (.int (x1)), some (.int (x2)), some (.int (x3)), some (.int (x4 + 1)), d5, d6]) DX11_trulyMarked_92 rfl ki_1 (by decide) rfl ?_
  refine r_goto DX11_trulyMarked_95 ?_
  exact hkh hR h
theorem S_X11_trulyMarked_5 {E : EN} {X : CX} {P : Option Value → MH → Prop} {ad : AD} {fu : Nat} {out : Int32 × St} {kh : St → Int32 → Int32 → Int32 → Int32 → RR} {kx98 : St → Int32 → RR} (hkh : ∀ {V : St} {M : MH} {x1 : Int32} {x2 : Int32} {x3 : Int32} {x4 : Int32} {d5 : Option Value} {d6 : Option Value}, Rep E ad V M → kh V x1 x2 x3 x4 = some out → G E X RX11 cX11_trulyMarked 7 (some .int) false (rmD 5) P M [some (.ref (ad 2100 0)), some (.int (x1)), some (.int (x2)), some (.int (x3)), some (.int (x4)), d5, d6] 0 0 5 []) (hkx98 : ∀ {V : St} {M : MH} {x3 : Int32} {d0 : Option Value} {d1 : Option Value} {d2 : Option Value} {d4 : Option Value} {d5 : Option Value} {d6 : Option Value}, Rep E ad V M → kx98 V x3 = some out → G E X RX11 cX11_trulyMarked 7 (some .int) false (rmD 5) P M [d0, d1, d2, some (.int (x3)), d4, d5, d6] 0 0 98 []) (hp : ∀ M, Rep E ad out.2 M → P (some (.int out.1)) M) {V : St} {M : MH} {x1 : Int32} {x2 : Int32} {x3 : Int32} {x4 : Int32} {d5 : Option Value} {d6 : Option Value} (hR : Rep E ad V M) (h : F_X11_trulyMarked_5 kh kx98 fu V x1 x2 x3 x4 = some out) : G E X RX11 cX11_trulyMarked 7 (some .int) false (rmD 5) P M [some (.ref (ad 2100 0)), some (.int (x1)), some (.int (x2)), some (.int (x3)), some (.int (x4)), d5, d6] 0 0 5 [] := by
  unfold F_X11_trulyMarked_5 at h
  refine r_iload DX11_trulyMarked_5 rfl ?_
  refine r_aload_n DX11_trulyMarked_7 rfl ?_
  refine s_geto DX11_trulyMarked_8 fl_X11_48 hR ct_2100 (one_cnt _) rfl ?_
  refine s_lsize (Li := 2112) (g := 1360) DX11_trulyMarked_11 cv_X11_89 hR (by decide) (by decide) (Nat.le_of_ble_eq_true rfl) ?_
  refine r_icmp_ge DX11_trulyMarked_14 (fun c1 => ?_) (fun c1 => ?_)
  · have h := if_t c1 h
    exact hkx98 hR h
  · have h := if_f c1 h
    refine r_aload_n DX11_trulyMarked_17 rfl ?_
    refine s_geto DX11_trulyMarked_18 fl_X11_48 hR ct_2100 (one_cnt _) rfl ?_
    refine r_iload DX11_trulyMarked_21 rfl ?_
    obtain ⟨⟨hx2, hi3⟩, h⟩ := gd_inv h
    refine s_lget (Li := 2112) (g := 1360) DX11_trulyMarked_23 cv_X11_93 hR (by decide) hx2 hi3 (by decide) (Nat.le_of_ble_eq_true rfl) (fun M hR => ?_)
    refine q_cast hx2 DX11_trulyMarked_26 wd_1073 hR ct_1360 hi3 rfl ?_
    refine t_astore (L' := [some (.ref (ad 2100 0)), some (.int (x1)), some (.int (x2)), some (.int (x3)), some (.int (x4)), some (rfq ad 1360 (x4)), d6]) (rfq_or _ _ _) DX11_trulyMarked_29 (by decide) rfl ?_
    refine t_aload (rfq_or _ _ _) DX11_trulyMarked_31 rfl ?_
    refine q_geti hx2 DX11_trulyMarked_33 fl_X11_323 hR ct_1360 hi3 rfl ?_
    refine r_iload_n DX11_trulyMarked_36 rfl ?_
    refine r_icmp_ne DX11_trulyMarked_37 (fun c4 => ?_) (fun c4 => ?_)
    · have h := if_f c4 h
      exact S_X11_trulyMarked_92 (fun hR h => hkh hR h) (fun hR h => hkx98 hR h) hp hR h
    · have h := if_t c4 h
      refine t_aload (rfq_or _ _ _) DX11_trulyMarked_40 rfl ?_
      refine q_geti hx2 DX11_trulyMarked_42 fl_X11_327 hR ct_1360 hi3 rfl ?_
      refine r_iload_n DX11_trulyMarked_45 rfl ?_
      refine r_icmp_gt DX11_trulyMarked_46 (fun c5 => ?_) (fun c5 => ?_)
      · have h := if_t c5 h
        exact S_X11_trulyMarked_92 (fun hR h => hkh hR h) (fun hR h => hkx98 hR h) hp hR h
      · have h := if_f c5 h
        refine r_aload_n DX11_trulyMarked_49 rfl ?_
        refine t_aload (rfq_or _ _ _) DX11_trulyMarked_50 rfl ?_
        refine q_geti hx2 DX11_trulyMarked_52 fl_X11_336 hR ct_1360 hi3 rfl ?_
        obtain ⟨r6, V7, hc8, h⟩ := bd_inv h
        refine k_callV (As := [.int ((V 1362 (x4).toNatClampNeg 0))]) (rest := []) (st1 := [rfq ad 1600 (r6)]) (w := some (rfq ad 1600 r6)) DX11_trulyMarked_55 cv_X11_208 hR ct_2100 (one_cnt _) rfl (C_X11_findMaker (out := (r6, V7)) (cxL X) hR hc8) rfl (by decide) (by decide) rfl (Nat.le_of_ble_eq_true rfl) rfl (fun M hR => ?_)
        refine t_astore (L' := [some (.ref (ad 2100 0)), some (.int (x1)), some (.int (x2)), some (.int (x3)), some (.int (x4)), some (rfq ad 1360 (x4)), some (rfq ad 1600 (r6))]) (rfq_or _ _ _) DX11_trulyMarked_58 (by decide) rfl ?_
        refine t_aload (rfq_or _ _ _) DX11_trulyMarked_60 rfl ?_
        refine q_ifnonnull DX11_trulyMarked_62 (fun c9 => ?_) (fun c9 => ?_)
        · have h := if_f c9 h
          refine t_aload (rfq_or _ _ _) DX11_trulyMarked_76 rfl ?_
          obtain ⟨⟨hx10, hi11⟩, h⟩ := gd_inv h
          refine q_geti hx10 DX11_trulyMarked_78 fl_X11_212 hR ct_1600 hi11 rfl ?_
          refine r_if_eq DX11_trulyMarked_81 (fun c12 => ?_) (fun c12 => ?_)
          · have h := if_t c12 h
            exact S_X11_trulyMarked_92 (fun hR h => hkh hR h) (fun hR h => hkx98 hR h) hp hR h
          · have h := if_f c12 h
            refine r_iload_n DX11_trulyMarked_84 rfl ?_
            refine t_aload (rfq_or _ _ _) DX11_trulyMarked_85 rfl ?_
            obtain ⟨⟨hx13, hi14⟩, h⟩ := gd_inv h
            refine q_geti hx13 DX11_trulyMarked_87 fl_X11_324 hR ct_1360 hi14 rfl ?_
            refine r_iadd DX11_trulyMarked_90 ?_
            refine t_istore_n (L' := [some (.ref (ad 2100 0)), some (.int (x1)), some (.int (x2)), some (.int (x3 + (V7 1364 (x4).toNatClampNeg 0))), some (.int (x4)), some (rfq ad 1360 (x4)), some (rfq ad 1600 (r6))]) DX11_trulyMarked_91 (by decide) rfl ?_
            exact S_X11_trulyMarked_92 (fun hR h => hkh hR h) (fun hR h => hkx98 hR h) hp hR h
        · have h := if_t c9 h
          refine r_iload_n DX11_trulyMarked_65 rfl ?_
          refine t_aload (rfq_or _ _ _) DX11_trulyMarked_66 rfl ?_
          obtain ⟨⟨hx12, hi13⟩, h⟩ := gd_inv h
          refine q_geti hx12 DX11_trulyMarked_68 fl_X11_324 hR ct_1360 hi13 rfl ?_
          refine r_isub DX11_trulyMarked_71 ?_
          refine t_istore_n (L' := [some (.ref (ad 2100 0)), some (.int (x1)), some (.int (x2)), some (.int (x3 - (V7 1364 (x4).toNatClampNeg 0))), some (.int (x4)), some (rfq ad 1360 (x4)), some (rfq ad 1600 (r6))]) DX11_trulyMarked_72 (by decide) rfl ?_
          refine r_goto DX11_trulyMarked_73 ?_
          exact S_X11_trulyMarked_92 (fun hR h => hkh hR h) (fun hR h => hkx98 hR h) hp hR h
theorem SL_X11_trulyMarked_5 {E : EN} {X : CX} {P : Option Value → MH → Prop} {ad : AD} {fu : Nat} {out : Int32 × St} {kx98 : St → Int32 → RR} (hkx98 : ∀ {V : St} {M : MH} {x3 : Int32} {d0 : Option Value} {d1 : Option Value} {d2 : Option Value} {d4 : Option Value} {d5 : Option Value} {d6 : Option Value}, Rep E ad V M → kx98 V x3 = some out → G E X RX11 cX11_trulyMarked 7 (some .int) false (rmD 5) P M [d0, d1, d2, some (.int (x3)), d4, d5, d6] 0 0 98 []) (hp : ∀ M, Rep E ad out.2 M → P (some (.int out.1)) M) : ∀ (n : Nat) {V : St} {M : MH} {x1 : Int32} {x2 : Int32} {x3 : Int32} {x4 : Int32} {d5 : Option Value} {d6 : Option Value}, Rep E ad V M → Lp_X11_trulyMarked_5 kx98 fu n V x1 x2 x3 x4 = some out → G E X RX11 cX11_trulyMarked 7 (some .int) false (rmD 5) P M [some (.ref (ad 2100 0)), some (.int (x1)), some (.int (x2)), some (.int (x3)), some (.int (x4)), d5, d6] 0 0 5 [] := by
  intro n
  induction n with
  | zero => intros; rename_i h; cases h
  | succ n ih => exact fun hR h => S_X11_trulyMarked_5 (fun hR h => ih hR h) (fun hR h => hkx98 hR h) hp hR h
theorem S_X11_trulyMarked_0 {E : EN} {X : CX} {P : Option Value → MH → Prop} {ad : AD} {fu : Nat} {out : Int32 × St} (hp : ∀ M, Rep E ad out.2 M → P (some (.int out.1)) M) {V : St} {M : MH} {x1 : Int32} {x2 : Int32} (hR : Rep E ad V M) (h : f_X11_trulyMarked fu V x1 x2 = some out) : G E X RX11 cX11_trulyMarked 7 (some .int) false (rmD 5) P M [some (.ref (ad 2100 0)), some (.int (x1)), some (.int (x2)), none, none, none, none] 0 0 0 [] := by
  unfold f_X11_trulyMarked at h
  refine r_iconst (v := 0) DX11_trulyMarked_0 ki_0 ?_
  refine t_istore_n (L' := [some (.ref (ad 2100 0)), some (.int (x1)), some (.int (x2)), some (.int ((0 : Int32))), none, none, none]) DX11_trulyMarked_1 (by decide) rfl ?_
  refine r_iconst (v := 0) DX11_trulyMarked_2 ki_0 ?_
  refine t_istore (L' := [some (.ref (ad 2100 0)), some (.int (x1)), some (.int (x2)), some (.int ((0 : Int32))), some (.int ((0 : Int32))), none, none]) DX11_trulyMarked_3 (by decide) rfl ?_
  exact SL_X11_trulyMarked_5 (fun hR h => S_X11_trulyMarked_98 hp hR h) hp fu hR h
theorem C_X11_trulyMarked {E : EN} {ad : AD} {fu : Nat} {out : Int32 × St} {V : St} {M : MH} {x1 : Int32} {x2 : Int32} (l : Launch) (hR : Rep E ad V M) (h : f_X11_trulyMarked fu V x1 x2 = some out) : Ct E l yX11_trulyMarked cX11_trulyMarked 7 (some .int) (rmD 5) [.ref (ad 2100 0), .int (x1), .int (x2)] M (fun v M => v = (some (.int out.1)) ∧ Rep E ad out.2 M) :=
  Ct.of (own := RX11) (ini := false) (L := [some (.ref (ad 2100 0)), some (.int (x1)), some (.int (x2)), none, none, none, none]) rfl rfl (fun h => by cases h) rfl (Nat.le_of_ble_eq_true rfl) rfl (fun X _ => S_X11_trulyMarked_0 (fun M hR => ⟨rfl, hR⟩) hR h)
theorem S_X11_falsely_74 {E : EN} {X : CX} {P : Option Value → MH → Prop} {ad : AD} {fu : Nat} {out : Int32 × St} (hp : ∀ M, Rep E ad out.2 M → P (some (.int out.1)) M) {V : St} {M : MH} {x2 : Int32} {d0 : Option Value} {d1 : Option Value} {d3 : Option Value} {d4 : Option Value} (hR : Rep E ad V M) (h : F_X11_falsely_74 fu V x2 = some out) : G E X RX11 cX11_falsely 5 (some .int) false (rmD 6) P M [d0, d1, some (.int (x2)), d3, d4] 0 0 74 [] := by
  unfold F_X11_falsely_74 at h
  refine r_iload_n DX11_falsely_74 rfl ?_
  cases h
  exact r_iret DX11_falsely_75 rfl ⟨Nat.le_refl 0, Nat.le_refl 0⟩ (hp M hR)
theorem S_X11_falsely_68 {E : EN} {X : CX} {P : Option Value → MH → Prop} {ad : AD} {fu : Nat} {out : Int32 × St} {kh : St → Int32 → Int32 → Int32 → RR} {kx74 : St → Int32 → RR} (hkh : ∀ {V : St} {M : MH} {x1 : Int32} {x2 : Int32} {x3 : Int32} {d4 : Option Value}, Rep E ad V M → kh V x1 x2 x3 = some out → G E X RX11 cX11_falsely 5 (some .int) false (rmD 6) P M [some (.ref (ad 2100 0)), some (.int (x1)), some (.int (x2)), some (.int (x3)), d4] 0 0 14 []) (hkx74 : ∀ {V : St} {M : MH} {x2 : Int32} {d0 : Option Value} {d1 : Option Value} {d3 : Option Value} {d4 : Option Value}, Rep E ad V M → kx74 V x2 = some out → G E X RX11 cX11_falsely 5 (some .int) false (rmD 6) P M [d0, d1, some (.int (x2)), d3, d4] 0 0 74 []) (hp : ∀ M, Rep E ad out.2 M → P (some (.int out.1)) M) {V : St} {M : MH} {x1 : Int32} {x2 : Int32} {x3 : Int32} {d4 : Option Value} (hR : Rep E ad V M) (h : F_X11_falsely_68 kh kx74 fu V x1 x2 x3 = some out) : G E X RX11 cX11_falsely 5 (some .int) false (rmD 6) P M [some (.ref (ad 2100 0)), some (.int (x1)), some (.int (x2)), some (.int (x3)), d4] 0 0 68 [] := by
  unfold F_X11_falsely_68 at h
  refine t_iinc (v := 1) (L' := [some (.ref (ad 2100 0)), some (.int (x1)), some (.int (x2)), some (.int (x3 + 1)), d4]) DX11_falsely_68 rfl ki_1 (by decide) rfl ?_
  refine r_goto DX11_falsely_71 ?_
  exact hkh hR h
theorem S_X11_falsely_14 {E : EN} {X : CX} {P : Option Value → MH → Prop} {ad : AD} {fu : Nat} {out : Int32 × St} {kh : St → Int32 → Int32 → Int32 → RR} {kx74 : St → Int32 → RR} (hkh : ∀ {V : St} {M : MH} {x1 : Int32} {x2 : Int32} {x3 : Int32} {d4 : Option Value}, Rep E ad V M → kh V x1 x2 x3 = some out → G E X RX11 cX11_falsely 5 (some .int) false (rmD 6) P M [some (.ref (ad 2100 0)), some (.int (x1)), some (.int (x2)), some (.int (x3)), d4] 0 0 14 []) (hkx74 : ∀ {V : St} {M : MH} {x2 : Int32} {d0 : Option Value} {d1 : Option Value} {d3 : Option Value} {d4 : Option Value}, Rep E ad V M → kx74 V x2 = some out → G E X RX11 cX11_falsely 5 (some .int) false (rmD 6) P M [d0, d1, some (.int (x2)), d3, d4] 0 0 74 []) (hp : ∀ M, Rep E ad out.2 M → P (some (.int out.1)) M) {V : St} {M : MH} {x1 : Int32} {x2 : Int32} {x3 : Int32} {d4 : Option Value} (hR : Rep E ad V M) (h : F_X11_falsely_14 kh kx74 fu V x1 x2 x3 = some out) : G E X RX11 cX11_falsely 5 (some .int) false (rmD 6) P M [some (.ref (ad 2100 0)), some (.int (x1)), some (.int (x2)), some (.int (x3)), d4] 0 0 14 [] := by
  unfold F_X11_falsely_14 at h
  refine r_iload_n DX11_falsely_14 rfl ?_
  refine r_aload_n DX11_falsely_15 rfl ?_
  refine s_geto DX11_falsely_16 fl_X11_42 hR ct_2100 (one_cnt _) rfl ?_
  refine s_lsize (Li := 2110) (g := 1300) DX11_falsely_19 cv_X11_89 hR (by decide) (by decide) (Nat.le_of_ble_eq_true rfl) ?_
  refine r_icmp_ge DX11_falsely_22 (fun c1 => ?_) (fun c1 => ?_)
  · have h := if_t c1 h
    exact hkx74 hR h
  · have h := if_f c1 h
    refine r_aload_n DX11_falsely_25 rfl ?_
    refine s_geto DX11_falsely_26 fl_X11_42 hR ct_2100 (one_cnt _) rfl ?_
    refine r_iload_n DX11_falsely_29 rfl ?_
    obtain ⟨⟨hx2, hi3⟩, h⟩ := gd_inv h
    refine s_lget (Li := 2110) (g := 1300) DX11_falsely_30 cv_X11_93 hR (by decide) hx2 hi3 (by decide) (Nat.le_of_ble_eq_true rfl) (fun M hR => ?_)
    refine q_cast hx2 DX11_falsely_33 wd_1073 hR ct_1300 hi3 rfl ?_
    refine t_astore (L' := [some (.ref (ad 2100 0)), some (.int (x1)), some (.int (x2)), some (.int (x3)), some (rfq ad 1300 (x3))]) (rfq_or _ _ _) DX11_falsely_36 (by decide) rfl ?_
    refine t_aload (rfq_or _ _ _) DX11_falsely_38 rfl ?_
    refine q_geti hx2 DX11_falsely_40 fl_X11_323 hR ct_1300 hi3 rfl ?_
    refine r_iload_n DX11_falsely_43 rfl ?_
    refine r_icmp_ne DX11_falsely_44 (fun c4 => ?_) (fun c4 => ?_)
    · have h := if_f c4 h
      exact S_X11_falsely_68 (fun hR h => hkh hR h) (fun hR h => hkx74 hR h) hp hR h
    · have h := if_t c4 h
      refine r_iload_n DX11_falsely_47 rfl ?_
      refine t_aload (rfq_or _ _ _) DX11_falsely_48 rfl ?_
      refine q_geti hx2 DX11_falsely_50 fl_X11_324 hR ct_1300 hi3 rfl ?_
      refine r_aload_n DX11_falsely_53 rfl ?_
      refine r_iload_n DX11_falsely_54 rfl ?_
      refine t_aload (rfq_or _ _ _) DX11_falsely_55 rfl ?_
      refine q_geti hx2 DX11_falsely_57 fl_X11_327 hR ct_1300 hi3 rfl ?_
      obtain ⟨r5, V6, hc7, h⟩ := bd_inv h
      refine k_callV (As := [.int (x1), .int ((V 1303 (x3).toNatClampNeg 0))]) (rest := [.int ((V 1304 (x3).toNatClampNeg 0)), .int (x2)]) (st1 := [.int (r5), .int ((V 1304 (x3).toNatClampNeg 0)), .int (x2)]) (w := some (.int r5)) DX11_falsely_60 cv_X11_330 hR ct_2100 (one_cnt _) rfl (C_X11_trulyMarked (out := (r5, V6)) (cxL X) hR hc7) rfl (by decide) (by decide) rfl (Nat.le_of_ble_eq_true rfl) rfl (fun M hR => ?_)
      refine r_isub DX11_falsely_63 ?_
      refine r_mmax DX11_falsely_64 wd_395 (Nat.le_of_ble_eq_true rfl) (Nat.le_of_ble_eq_true rfl) ?_
      refine t_istore_n (L' := [some (.ref (ad 2100 0)), some (.int (x1)), some (.int ((if x2 < (V 1304 (x3).toNatClampNeg 0) - r5 then (V 1304 (x3).toNatClampNeg 0) - r5 else x2))), some (.int (x3)), some (rfq ad 1300 (x3))]) DX11_falsely_67 (by decide) rfl ?_
      exact S_X11_falsely_68 (fun hR h => hkh hR h) (fun hR h => hkx74 hR h) hp hR h
theorem SL_X11_falsely_14 {E : EN} {X : CX} {P : Option Value → MH → Prop} {ad : AD} {fu : Nat} {out : Int32 × St} {kx74 : St → Int32 → RR} (hkx74 : ∀ {V : St} {M : MH} {x2 : Int32} {d0 : Option Value} {d1 : Option Value} {d3 : Option Value} {d4 : Option Value}, Rep E ad V M → kx74 V x2 = some out → G E X RX11 cX11_falsely 5 (some .int) false (rmD 6) P M [d0, d1, some (.int (x2)), d3, d4] 0 0 74 []) (hp : ∀ M, Rep E ad out.2 M → P (some (.int out.1)) M) : ∀ (n : Nat) {V : St} {M : MH} {x1 : Int32} {x2 : Int32} {x3 : Int32} {d4 : Option Value}, Rep E ad V M → Lp_X11_falsely_14 kx74 fu n V x1 x2 x3 = some out → G E X RX11 cX11_falsely 5 (some .int) false (rmD 6) P M [some (.ref (ad 2100 0)), some (.int (x1)), some (.int (x2)), some (.int (x3)), d4] 0 0 14 [] := by
  intro n
  induction n with
  | zero => intros; rename_i h; cases h
  | succ n ih => exact fun hR h => S_X11_falsely_14 (fun hR h => ih hR h) (fun hR h => hkx74 hR h) hp hR h
theorem S_X11_falsely_0 {E : EN} {X : CX} {P : Option Value → MH → Prop} {ad : AD} {fu : Nat} {out : Int32 × St} (hp : ∀ M, Rep E ad out.2 M → P (some (.int out.1)) M) {V : St} {M : MH} {x1 : Int32} (hR : Rep E ad V M) (h : f_X11_falsely fu V x1 = some out) : G E X RX11 cX11_falsely 5 (some .int) false (rmD 6) P M [some (.ref (ad 2100 0)), some (.int (x1)), none, none, none] 0 0 0 [] := by
  unfold f_X11_falsely at h
  refine r_aload_n DX11_falsely_0 rfl ?_
  refine r_iload_n DX11_falsely_1 rfl ?_
  obtain ⟨r1, V2, hc3, h⟩ := bd_inv h
  refine k_callV (As := [.int (x1)]) (rest := []) (st1 := [rfq ad 2000 (r1)]) (w := some (rfq ad 2000 r1)) DX11_falsely_2 cv_X11_242 hR ct_2100 (one_cnt _) rfl (C_X11_findThing (out := (r1, V2)) (cxL X) hR hc3) rfl (by decide) (by decide) rfl (Nat.le_of_ble_eq_true rfl) rfl (fun M hR => ?_)
  refine q_ifnonnull DX11_falsely_5 (fun c4 => ?_) (fun c4 => ?_)
  · have h := if_f c4 h
    refine r_iconst (v := 0) DX11_falsely_10 ki_0 ?_
    refine t_istore_n (L' := [some (.ref (ad 2100 0)), some (.int (x1)), some (.int ((0 : Int32))), none, none]) DX11_falsely_11 (by decide) rfl ?_
    refine r_iconst (v := 0) DX11_falsely_12 ki_0 ?_
    refine t_istore_n (L' := [some (.ref (ad 2100 0)), some (.int (x1)), some (.int ((0 : Int32))), some (.int ((0 : Int32))), none]) DX11_falsely_13 (by decide) rfl ?_
    exact SL_X11_falsely_14 (fun hR h => S_X11_falsely_74 hp hR h) hp fu hR h
  · have h := if_t c4 h
    refine r_iconst (v := -1) DX11_falsely_8 ki_m1 ?_
    cases h
    exact r_iret DX11_falsely_9 rfl ⟨Nat.le_refl 0, Nat.le_refl 0⟩ (hp M hR)
theorem C_X11_falsely {E : EN} {ad : AD} {fu : Nat} {out : Int32 × St} {V : St} {M : MH} {x1 : Int32} (l : Launch) (hR : Rep E ad V M) (h : f_X11_falsely fu V x1 = some out) : Ct E l yX11_falsely cX11_falsely 5 (some .int) (rmD 6) [.ref (ad 2100 0), .int (x1)] M (fun v M => v = (some (.int out.1)) ∧ Rep E ad out.2 M) :=
  Ct.of (own := RX11) (ini := false) (L := [some (.ref (ad 2100 0)), some (.int (x1)), none, none, none]) rfl rfl (fun h => by cases h) rfl (Nat.le_of_ble_eq_true rfl) rfl (fun X _ => S_X11_falsely_0 (fun M hR => ⟨rfl, hR⟩) hR h)
theorem S_X11_putOnTape_46 {E : EN} {X : CX} {P : Option Value → MH → Prop} {ad : AD} {fu : Nat} {out : Int32 × St} (hp : ∀ M, Rep E ad out.2 M → P none M) {V : St} {M : MH} {d0 : Option Value} {d1 : Option Value} {d2 : Option Value} (hR : Rep E ad V M) (h : F_X11_putOnTape_46 fu V = some out) : G E X RX11 cX11_putOnTape 3 none false (rmD 1) P M [d0, d1, d2] 0 0 46 [] := by
  unfold F_X11_putOnTape_46 at h
  cases h
  exact r_vret DX11_putOnTape_46 rfl ⟨Nat.le_refl 0, Nat.le_refl 0⟩ (hp M hR)
theorem S_X11_putOnTape_3 {E : EN} {X : CX} {P : Option Value → MH → Prop} {ad : AD} {fu : Nat} {out : Int32 × St} {kh : St → Int32 → Int32 → RR} {kx46 : St → RR} (hkh : ∀ {V : St} {M : MH} {x1 : Int32} {x2 : Int32}, Rep E ad V M → kh V x1 x2 = some out → G E X RX11 cX11_putOnTape 3 none false (rmD 1) P M [some (.ref (ad 2100 0)), some (.int (x1)), some (.int (x2))] 0 0 3 []) (hkx46 : ∀ {V : St} {M : MH} {d0 : Option Value} {d1 : Option Value} {d2 : Option Value}, Rep E ad V M → kx46 V  = some out → G E X RX11 cX11_putOnTape 3 none false (rmD 1) P M [d0, d1, d2] 0 0 46 []) (hp : ∀ M, Rep E ad out.2 M → P none M) {V : St} {M : MH} {x1 : Int32} {x2 : Int32} (hR : Rep E ad V M) (h : F_X11_putOnTape_3 kh kx46 fu V x1 x2 = some out) : G E X RX11 cX11_putOnTape 3 none false (rmD 1) P M [some (.ref (ad 2100 0)), some (.int (x1)), some (.int (x2))] 0 0 3 [] := by
  unfold F_X11_putOnTape_3 at h
  refine r_iload_n DX11_putOnTape_3 rfl ?_
  refine r_if_lt DX11_putOnTape_4 (fun c1 => ?_) (fun c1 => ?_)
  · have h := if_t c1 h
    exact hkx46 hR h
  · have h := if_f c1 h
    refine r_aload_n DX11_putOnTape_7 rfl ?_
    refine s_geti DX11_putOnTape_8 fl_X11_55 hR ct_2100 (one_cnt _) rfl ?_
    refine r_sipush (v := 400) DX11_putOnTape_11 ks_400 ?_
    refine r_icmp_ge DX11_putOnTape_14 (fun c2 => ?_) (fun c2 => ?_)
    · have h := if_t c2 h
      exact hkx46 hR h
    · have h := if_f c2 h
      refine r_aload_n DX11_putOnTape_17 rfl ?_
      refine s_geta DX11_putOnTape_18 fl_X11_51 hR ct_2100 (one_cnt _) rfl ?_
      refine r_aload_n DX11_putOnTape_21 rfl ?_
      refine s_geti DX11_putOnTape_22 fl_X11_55 hR ct_2100 (one_cnt _) rfl ?_
      refine r_iload_n DX11_putOnTape_25 rfl ?_
      refine r_iload_n DX11_putOnTape_26 rfl ?_
      refine r_ishr DX11_putOnTape_27 ?_
      refine r_i2b DX11_putOnTape_28 ?_
      obtain ⟨hg3, h⟩ := gd_inv h
      obtain ⟨V4, hv5, h⟩ := bv_inv h
      refine s_bast DX11_putOnTape_29 hR oka_2113 ct_2113 (two_cnt _) hg3 (fun M hR => ?_)
      have hR := hR.cg hv5
      refine r_aload_n DX11_putOnTape_30 rfl ?_
      refine r_dup DX11_putOnTape_31 rfl ?_
      refine s_geti DX11_putOnTape_32 fl_X11_55 hR ct_2100 (one_cnt _) rfl ?_
      refine r_iconst (v := 1) DX11_putOnTape_35 ki_1 ?_
      refine r_iadd DX11_putOnTape_36 ?_
      obtain ⟨V6, hv7, h⟩ := bv_inv h
      refine s_puti DX11_putOnTape_37 fp_X11_55 hR oks_2114 ct_2100 (one_cnt _) rfl rfl rfl (fun M hR => ?_)
      have hR := hR.cg hv7
      refine t_iinc (v := -8) (L' := [some (.ref (ad 2100 0)), some (.int (x1)), some (.int (x2 + (-8)))]) DX11_putOnTape_40 rfl ki_m8 (by decide) rfl ?_
      refine r_goto DX11_putOnTape_43 ?_
      exact hkh hR h
theorem SL_X11_putOnTape_3 {E : EN} {X : CX} {P : Option Value → MH → Prop} {ad : AD} {fu : Nat} {out : Int32 × St} {kx46 : St → RR} (hkx46 : ∀ {V : St} {M : MH} {d0 : Option Value} {d1 : Option Value} {d2 : Option Value}, Rep E ad V M → kx46 V  = some out → G E X RX11 cX11_putOnTape 3 none false (rmD 1) P M [d0, d1, d2] 0 0 46 []) (hp : ∀ M, Rep E ad out.2 M → P none M) : ∀ (n : Nat) {V : St} {M : MH} {x1 : Int32} {x2 : Int32}, Rep E ad V M → Lp_X11_putOnTape_3 kx46 fu n V x1 x2 = some out → G E X RX11 cX11_putOnTape 3 none false (rmD 1) P M [some (.ref (ad 2100 0)), some (.int (x1)), some (.int (x2))] 0 0 3 [] := by
  intro n
  induction n with
  | zero => intros; rename_i h; cases h
  | succ n ih => exact fun hR h => S_X11_putOnTape_3 (fun hR h => ih hR h) (fun hR h => hkx46 hR h) hp hR h
theorem S_X11_putOnTape_0 {E : EN} {X : CX} {P : Option Value → MH → Prop} {ad : AD} {fu : Nat} {out : Int32 × St} (hp : ∀ M, Rep E ad out.2 M → P none M) {V : St} {M : MH} {x1 : Int32} (hR : Rep E ad V M) (h : f_X11_putOnTape fu V x1 = some out) : G E X RX11 cX11_putOnTape 3 none false (rmD 1) P M [some (.ref (ad 2100 0)), some (.int (x1)), none] 0 0 0 [] := by
  unfold f_X11_putOnTape at h
  refine r_bipush (v := 24) DX11_putOnTape_0 kb_24 ?_
  refine t_istore_n (L' := [some (.ref (ad 2100 0)), some (.int (x1)), some (.int ((24 : Int32)))]) DX11_putOnTape_2 (by decide) rfl ?_
  exact SL_X11_putOnTape_3 (fun hR h => S_X11_putOnTape_46 hp hR h) hp fu hR h
theorem C_X11_putOnTape {E : EN} {ad : AD} {fu : Nat} {out : Int32 × St} {V : St} {M : MH} {x1 : Int32} (l : Launch) (hR : Rep E ad V M) (h : f_X11_putOnTape fu V x1 = some out) : Ct E l yX11_putOnTape cX11_putOnTape 3 none (rmD 1) [.ref (ad 2100 0), .int (x1)] M (fun v M => v = none ∧ Rep E ad out.2 M) :=
  Ct.of (own := RX11) (ini := false) (L := [some (.ref (ad 2100 0)), some (.int (x1)), none]) rfl rfl (fun h => by cases h) rfl (Nat.le_of_ble_eq_true rfl) rfl (fun X _ => S_X11_putOnTape_0 (fun M hR => ⟨rfl, hR⟩) hR h)
theorem S_X11_feed_0 {E : EN} {X : CX} {P : Option Value → MH → Prop} {ad : AD} {fu : Nat} {out : Int32 × St} (hp : ∀ M, Rep E ad out.2 M → P (some (.int out.1)) M) {V : St} {M : MH} {x1 : Int32} {x2 : Int32} {x3 : Int32} {x4 : Int32} {x5 : Int32} (hR : Rep E ad V M) (h : f_X11_feed fu V x1 x2 x3 x4 x5 = some out) : G E X RX11 cX11_feed 6 (some .int) false (rmD 2) P M [some (.ref (ad 2100 0)), some (.int (x1)), some (.int (x2)), some (.int (x3)), some (.int (x4)), some (.int (x5))] 0 0 0 [] := by
  unfold f_X11_feed at h
  refine r_aload_n DX11_feed_0 rfl ?_
  refine s_geti DX11_feed_1 fl_X11_55 hR ct_2100 (one_cnt _) rfl ?_
  refine r_bipush (v := 20) DX11_feed_4 kb_20 ?_
  refine r_iadd DX11_feed_6 ?_
  refine r_sipush (v := 400) DX11_feed_7 ks_400 ?_
  refine r_icmp_le DX11_feed_10 (fun c1 => ?_) (fun c1 => ?_)
  · have h := if_t c1 h
    refine r_aload_n DX11_feed_15 rfl ?_
    refine r_iload_n DX11_feed_16 rfl ?_
    obtain ⟨r2, V3, hc4, h⟩ := bd_inv h
    refine k_callV (As := [.int (x1)]) (rest := []) (st1 := []) (w := none) DX11_feed_17 cv_X11_219 hR ct_2100 (one_cnt _) rfl (C_X11_putOnTape (out := (r2, V3)) (cxL X) hR hc4) rfl (by decide) (by decide) rfl (Nat.le_of_ble_eq_true rfl) rfl (fun M hR => ?_)
    refine r_aload_n DX11_feed_20 rfl ?_
    refine r_iload_n DX11_feed_21 rfl ?_
    obtain ⟨r5, V6, hc7, h⟩ := bd_inv h
    refine k_callV (As := [.int (x2)]) (rest := []) (st1 := []) (w := none) DX11_feed_22 cv_X11_219 hR ct_2100 (one_cnt _) rfl (C_X11_putOnTape (out := (r5, V6)) (cxL X) hR hc7) rfl (by decide) (by decide) rfl (Nat.le_of_ble_eq_true rfl) rfl (fun M hR => ?_)
    refine r_aload_n DX11_feed_25 rfl ?_
    refine r_iload_n DX11_feed_26 rfl ?_
    obtain ⟨r8, V9, hc10, h⟩ := bd_inv h
    refine k_callV (As := [.int (x3)]) (rest := []) (st1 := []) (w := none) DX11_feed_27 cv_X11_219 hR ct_2100 (one_cnt _) rfl (C_X11_putOnTape (out := (r8, V9)) (cxL X) hR hc10) rfl (by decide) (by decide) rfl (Nat.le_of_ble_eq_true rfl) rfl (fun M hR => ?_)
    refine r_aload_n DX11_feed_30 rfl ?_
    refine r_iload DX11_feed_31 rfl ?_
    obtain ⟨r11, V12, hc13, h⟩ := bd_inv h
    refine k_callV (As := [.int (x4)]) (rest := []) (st1 := []) (w := none) DX11_feed_33 cv_X11_219 hR ct_2100 (one_cnt _) rfl (C_X11_putOnTape (out := (r11, V12)) (cxL X) hR hc13) rfl (by decide) (by decide) rfl (Nat.le_of_ble_eq_true rfl) rfl (fun M hR => ?_)
    refine r_aload_n DX11_feed_36 rfl ?_
    refine r_iload DX11_feed_37 rfl ?_
    obtain ⟨r14, V15, hc16, h⟩ := bd_inv h
    refine k_callV (As := [.int (x5)]) (rest := []) (st1 := []) (w := none) DX11_feed_39 cv_X11_219 hR ct_2100 (one_cnt _) rfl (C_X11_putOnTape (out := (r14, V15)) (cxL X) hR hc16) rfl (by decide) (by decide) rfl (Nat.le_of_ble_eq_true rfl) rfl (fun M hR => ?_)
    refine r_aload_n DX11_feed_42 rfl ?_
    refine s_geti DX11_feed_43 fl_X11_55 hR ct_2100 (one_cnt _) rfl ?_
    cases h
    exact r_iret DX11_feed_46 rfl ⟨Nat.le_refl 0, Nat.le_refl 0⟩ (hp M hR)
  · have h := if_f c1 h
    refine r_iconst (v := -1) DX11_feed_13 ki_m1 ?_
    cases h
    exact r_iret DX11_feed_14 rfl ⟨Nat.le_refl 0, Nat.le_refl 0⟩ (hp M hR)
theorem C_X11_feed {E : EN} {ad : AD} {fu : Nat} {out : Int32 × St} {V : St} {M : MH} {x1 : Int32} {x2 : Int32} {x3 : Int32} {x4 : Int32} {x5 : Int32} (l : Launch) (hR : Rep E ad V M) (h : f_X11_feed fu V x1 x2 x3 x4 x5 = some out) : Ct E l yX11_feed cX11_feed 6 (some .int) (rmD 2) [.ref (ad 2100 0), .int (x1), .int (x2), .int (x3), .int (x4), .int (x5)] M (fun v M => v = (some (.int out.1)) ∧ Rep E ad out.2 M) :=
  Ct.of (own := RX11) (ini := false) (L := [some (.ref (ad 2100 0)), some (.int (x1)), some (.int (x2)), some (.int (x3)), some (.int (x4)), some (.int (x5))]) rfl rfl (fun h => by cases h) rfl (Nat.le_of_ble_eq_true rfl) rfl (fun X _ => S_X11_feed_0 (fun M hR => ⟨rfl, hR⟩) hR h)
theorem S_X11_handsToDo_136 {E : EN} {X : CX} {P : Option Value → MH → Prop} {ad : AD} {fu : Nat} {out : Int32 × St} (hp : ∀ M, Rep E ad out.2 M → P (some (.int out.1)) M) {V : St} {M : MH} {s0 : Int32} {d0 : Option Value} {d1 : Option Value} {d2 : Option Value} {d3 : Option Value} {d4 : Option Value} {d5 : Option Value} {d6 : Option Value} {d7 : Option Value} {d8 : Option Value} {d9 : Option Value} {d10 : Option Value} (hR : Rep E ad V M) (h : F_X11_handsToDo_136 fu V s0 = some out) : G E X RX11 cX11_handsToDo 11 (some .int) false (rmD 4) P M [d0, d1, d2, d3, d4, d5, d6, d7, d8, d9, d10] 0 0 136 [.int (s0)] := by
  unfold F_X11_handsToDo_136 at h
  cases h
  exact r_iret DX11_handsToDo_136 rfl ⟨Nat.le_refl 0, Nat.le_refl 0⟩ (hp M hR)
theorem S_X11_handsToDo_129 {E : EN} {X : CX} {P : Option Value → MH → Prop} {ad : AD} {fu : Nat} {out : Int32 × St} (hp : ∀ M, Rep E ad out.2 M → P (some (.int out.1)) M) {V : St} {M : MH} {d0 : Option Value} {d1 : Option Value} {d2 : Option Value} {d3 : Option Value} {d4 : Option Value} {d5 : Option Value} {d6 : Option Value} {d7 : Option Value} {d8 : Option Value} {d9 : Option Value} {d10 : Option Value} (hR : Rep E ad V M) (h : F_X11_handsToDo_129 fu V = some out) : G E X RX11 cX11_handsToDo 11 (some .int) false (rmD 4) P M [d0, d1, d2, d3, d4, d5, d6, d7, d8, d9, d10] 0 0 129 [] := by
  unfold F_X11_handsToDo_129 at h
  refine r_bipush (v := -2) DX11_handsToDo_129 kb_m2 ?_
  refine r_goto DX11_handsToDo_131 ?_
  exact S_X11_handsToDo_136 hp hR h
theorem S_X11_handsToDo_117 {E : EN} {X : CX} {P : Option Value → MH → Prop} {ad : AD} {fu : Nat} {out : Int32 × St} (hp : ∀ M, Rep E ad out.2 M → P (some (.int out.1)) M) {V : St} {M : MH} {x4 : Int32} {x5 : Int32} {x6 : Int32} {d0 : Option Value} {d1 : Option Value} {d2 : Option Value} {d3 : Option Value} {d7 : Option Value} {d8 : Option Value} {d9 : Option Value} {d10 : Option Value} (hR : Rep E ad V M) (h : F_X11_handsToDo_117 fu V x4 x5 x6 = some out) : G E X RX11 cX11_handsToDo 11 (some .int) false (rmD 4) P M [d0, d1, d2, d3, some (.int (x4)), some (.int (x5)), some (.int (x6)), d7, d8, d9, d10] 0 0 117 [] := by
  unfold F_X11_handsToDo_117 at h
  refine r_iload DX11_handsToDo_117 rfl ?_
  refine r_if_gt DX11_handsToDo_119 (fun c1 => ?_) (fun c1 => ?_)
  · have h := if_t c1 h
    exact S_X11_handsToDo_129 hp hR h
  · have h := if_f c1 h
    refine r_iload DX11_handsToDo_122 rfl ?_
    refine r_iload DX11_handsToDo_124 rfl ?_
    refine r_icmp_le DX11_handsToDo_126 (fun c2 => ?_) (fun c2 => ?_)
    · have h := if_t c2 h
      refine r_iload DX11_handsToDo_134 rfl ?_
      exact S_X11_handsToDo_136 hp hR h
    · have h := if_f c2 h
      exact S_X11_handsToDo_129 hp hR h
theorem S_X11_handsToDo_111 {E : EN} {X : CX} {P : Option Value → MH → Prop} {ad : AD} {fu : Nat} {out : Int32 × St} {kh : St → Int32 → Int32 → Int32 → Int32 → Int32 → Int32 → RR} {kx117 : St → Int32 → Int32 → Int32 → RR} (hkh : ∀ {V : St} {M : MH} {x1 : Int32} {x2 : Int32} {x4 : Int32} {x5 : Int32} {x6 : Int32} {x7 : Int32} {d3 : Option Value} {d8 : Option Value} {d9 : Option Value} {d10 : Option Value}, Rep E ad V M → kh V x1 x2 x4 x5 x6 x7 = some out → G E X RX11 cX11_handsToDo 11 (some .int) false (rmD 4) P M [some (.ref (ad 2100 0)), some (.int (x1)), some (.int (x2)), d3, some (.int (x4)), some (.int (x5)), some (.int (x6)), some (.int (x7)), d8, d9, d10] 0 0 12 []) (hkx117 : ∀ {V : St} {M : MH} {x4 : Int32} {x5 : Int32} {x6 : Int32} {d0 : Option Value} {d1 : Option Value} {d2 : Option Value} {d3 : Option Value} {d7 : Option Value} {d8 : Option Value} {d9 : Option Value} {d10 : Option Value}, Rep E ad V M → kx117 V x4 x5 x6 = some out → G E X RX11 cX11_handsToDo 11 (some .int) false (rmD 4) P M [d0, d1, d2, d3, some (.int (x4)), some (.int (x5)), some (.int (x6)), d7, d8, d9, d10] 0 0 117 []) (hp : ∀ M, Rep E ad out.2 M → P (some (.int out.1)) M) {V : St} {M : MH} {x1 : Int32} {x2 : Int32} {x4 : Int32} {x5 : Int32} {x6 : Int32} {x7 : Int32} {d3 : Option Value} {d8 : Option Value} {d9 : Option Value} {d10 : Option Value} (hR : Rep E ad V M) (h : F_X11_handsToDo_111 kh kx117 fu V x1 x2 x4 x5 x6 x7 = some out) : G E X RX11 cX11_handsToDo 11 (some .int) false (rmD 4) P M [some (.ref (ad 2100 0)), some (.int (x1)), some (.int (x2)), d3, some (.int (x4)), some (.int (x5)), some (.int (x6)), some (.int (x7)), d8, d9, d10] 0 0 111 [] := by
  unfold F_X11_handsToDo_111 at h
  refine t_iinc (v := 1) (L' := [some (.ref (ad 2100 0)), some (.int (x1)), some (.int (x2)), d3, some (.int (x4)), some (.int (x5)), some (.int (x6)), some (.int (x7 + 1)), d8, d9, d10]) DX11_handsToDo_111 rfl ki_1 (by decide) rfl ?_
  refine r_goto DX11_handsToDo_114 ?_
  exact hkh hR h
theorem S_X11_handsToDo_67 {E : EN} {X : CX} {P : Option Value → MH → Prop} {ad : AD} {fu : Nat} {out : Int32 × St} {kh : St → Int32 → Int32 → Int32 → Int32 → Int32 → Int32 → RR} {kx117 : St → Int32 → Int32 → Int32 → RR} (hkh : ∀ {V : St} {M : MH} {x1 : Int32} {x2 : Int32} {x4 : Int32} {x5 : Int32} {x6 : Int32} {x7 : Int32} {d3 : Option Value} {d8 : Option Value} {d9 : Option Value} {d10 : Option Value}, Rep E ad V M → kh V x1 x2 x4 x5 x6 x7 = some out → G E X RX11 cX11_handsToDo 11 (some .int) false (rmD 4) P M [some (.ref (ad 2100 0)), some (.int (x1)), some (.int (x2)), d3, some (.int (x4)), some (.int (x5)), some (.int (x6)), some (.int (x7)), d8, d9, d10] 0 0 12 []) (hkx117 : ∀ {V : St} {M : MH} {x4 : Int32} {x5 : Int32} {x6 : Int32} {d0 : Option Value} {d1 : Option Value} {d2 : Option Value} {d3 : Option Value} {d7 : Option Value} {d8 : Option Value} {d9 : Option Value} {d10 : Option Value}, Rep E ad V M → kx117 V x4 x5 x6 = some out → G E X RX11 cX11_handsToDo 11 (some .int) false (rmD 4) P M [d0, d1, d2, d3, some (.int (x4)), some (.int (x5)), some (.int (x6)), d7, d8, d9, d10] 0 0 117 []) (hp : ∀ M, Rep E ad out.2 M → P (some (.int out.1)) M) {V : St} {M : MH} {x1 : Int32} {x2 : Int32} {x4 : Int32} {x5 : Int32} {x6 : Int32} {x7 : Int32} {x8 : Int32} {x9 : Int32} {d3 : Option Value} {d10 : Option Value} (hR : Rep E ad V M) (h : F_X11_handsToDo_67 kh kx117 fu V x1 x2 x4 x5 x6 x7 x8 x9 = some out) : G E X RX11 cX11_handsToDo 11 (some .int) false (rmD 4) P M [some (.ref (ad 2100 0)), some (.int (x1)), some (.int (x2)), d3, some (.int (x4)), some (.int (x5)), some (.int (x6)), some (.int (x7)), some (.int (x8)), some (rfq ad 1600 (x9)), d10] 0 0 67 [] := by
  unfold F_X11_handsToDo_67 at h
  refine r_iload_n DX11_handsToDo_67 rfl ?_
  refine r_iload DX11_handsToDo_68 rfl ?_
  refine r_ishr DX11_handsToDo_70 ?_
  refine r_iconst (v := 1) DX11_handsToDo_71 ki_1 ?_
  refine r_iand DX11_handsToDo_72 ?_
  refine r_iconst (v := 1) DX11_handsToDo_73 ki_1 ?_
  refine r_icmp_ne DX11_handsToDo_74 (fun c1 => ?_) (fun c1 => ?_)
  · have h := if_f c1 h
    exact S_X11_handsToDo_111 (fun hR h => hkh hR h) (fun hR h => hkx117 hR h) hp hR h
  · have h := if_t c1 h
    refine t_aload (rfq_or _ _ _) DX11_handsToDo_77 rfl ?_
    obtain ⟨⟨hx2, hi3⟩, h⟩ := gd_inv h
    refine q_geti hx2 DX11_handsToDo_79 fl_X11_382 hR ct_1600 hi3 rfl ?_
    refine r_iload DX11_handsToDo_82 rfl ?_
    refine r_mmin DX11_handsToDo_84 wd_402 (Nat.le_of_ble_eq_true rfl) (Nat.le_of_ble_eq_true rfl) ?_
    refine t_istore (L' := [some (.ref (ad 2100 0)), some (.int (x1)), some (.int (x2)), d3, some (.int (x4)), some (.int (x5)), some (.int (x6)), some (.int (x7)), some (.int (x8)), some (rfq ad 1600 (x9)), some (.int ((if x6 < (V 1602 (x9).toNatClampNeg 0) then x6 else (V 1602 (x9).toNatClampNeg 0))))]) DX11_handsToDo_87 (by decide) rfl ?_
    refine r_iload DX11_handsToDo_89 rfl ?_
    refine r_iload DX11_handsToDo_91 rfl ?_
    refine t_aload (rfq_or _ _ _) DX11_handsToDo_93 rfl ?_
    refine q_geti hx2 DX11_handsToDo_95 fl_X11_360 hR ct_1600 hi3 rfl ?_
    obtain ⟨r4, V5, hc6, h⟩ := bd_inv h
    refine k_callS (As := [.int ((if x6 < (V 1602 (x9).toNatClampNeg 0) then x6 else (V 1602 (x9).toNatClampNeg 0))), .int ((V 1604 (x9).toNatClampNeg 0))]) (rest := [.int (x5)]) (st1 := [.int (r4), .int (x5)]) (w := some (.int r4)) DX11_handsToDo_98 cs_X11_301 (C_X11_roundedUp (out := (r4, V5)) (cxL X) hR hc6) rfl (by decide) (by decide) rfl (Nat.le_of_ble_eq_true rfl) rfl (fun M hR => ?_)
    refine r_iadd DX11_handsToDo_101 ?_
    refine t_istore (L' := [some (.ref (ad 2100 0)), some (.int (x1)), some (.int (x2)), d3, some (.int (x4)), some (.int (x5 + r4)), some (.int (x6)), some (.int (x7)), some (.int (x8)), some (rfq ad 1600 (x9)), some (.int ((if x6 < (V 1602 (x9).toNatClampNeg 0) then x6 else (V 1602 (x9).toNatClampNeg 0))))]) DX11_handsToDo_102 (by decide) rfl ?_
    refine r_iload DX11_handsToDo_104 rfl ?_
    refine r_iload DX11_handsToDo_106 rfl ?_
    refine r_isub DX11_handsToDo_108 ?_
    refine t_istore (L' := [some (.ref (ad 2100 0)), some (.int (x1)), some (.int (x2)), d3, some (.int (x4)), some (.int (x5 + r4)), some (.int (x6 - (if x6 < (V 1602 (x9).toNatClampNeg 0) then x6 else (V 1602 (x9).toNatClampNeg 0)))), some (.int (x7)), some (.int (x8)), some (rfq ad 1600 (x9)), some (.int ((if x6 < (V 1602 (x9).toNatClampNeg 0) then x6 else (V 1602 (x9).toNatClampNeg 0))))]) DX11_handsToDo_109 (by decide) rfl ?_
    exact S_X11_handsToDo_111 (fun hR h => hkh hR h) (fun hR h => hkx117 hR h) hp hR h
theorem S_X11_handsToDo_12 {E : EN} {X : CX} {P : Option Value → MH → Prop} {ad : AD} {fu : Nat} {out : Int32 × St} {kh : St → Int32 → Int32 → Int32 → Int32 → Int32 → Int32 → RR} {kx117 : St → Int32 → Int32 → Int32 → RR} (hkh : ∀ {V : St} {M : MH} {x1 : Int32} {x2 : Int32} {x4 : Int32} {x5 : Int32} {x6 : Int32} {x7 : Int32} {d3 : Option Value} {d8 : Option Value} {d9 : Option Value} {d10 : Option Value}, Rep E ad V M → kh V x1 x2 x4 x5 x6 x7 = some out → G E X RX11 cX11_handsToDo 11 (some .int) false (rmD 4) P M [some (.ref (ad 2100 0)), some (.int (x1)), some (.int (x2)), d3, some (.int (x4)), some (.int (x5)), some (.int (x6)), some (.int (x7)), d8, d9, d10] 0 0 12 []) (hkx117 : ∀ {V : St} {M : MH} {x4 : Int32} {x5 : Int32} {x6 : Int32} {d0 : Option Value} {d1 : Option Value} {d2 : Option Value} {d3 : Option Value} {d7 : Option Value} {d8 : Option Value} {d9 : Option Value} {d10 : Option Value}, Rep E ad V M → kx117 V x4 x5 x6 = some out → G E X RX11 cX11_handsToDo 11 (some .int) false (rmD 4) P M [d0, d1, d2, d3, some (.int (x4)), some (.int (x5)), some (.int (x6)), d7, d8, d9, d10] 0 0 117 []) (hp : ∀ M, Rep E ad out.2 M → P (some (.int out.1)) M) {V : St} {M : MH} {x1 : Int32} {x2 : Int32} {x4 : Int32} {x5 : Int32} {x6 : Int32} {x7 : Int32} {d3 : Option Value} {d8 : Option Value} {d9 : Option Value} {d10 : Option Value} (hR : Rep E ad V M) (h : F_X11_handsToDo_12 kh kx117 fu V x1 x2 x4 x5 x6 x7 = some out) : G E X RX11 cX11_handsToDo 11 (some .int) false (rmD 4) P M [some (.ref (ad 2100 0)), some (.int (x1)), some (.int (x2)), d3, some (.int (x4)), some (.int (x5)), some (.int (x6)), some (.int (x7)), d8, d9, d10] 0 0 12 [] := by
  unfold F_X11_handsToDo_12 at h
  refine r_iload DX11_handsToDo_12 rfl ?_
  refine r_aload_n DX11_handsToDo_14 rfl ?_
  refine s_geto DX11_handsToDo_15 fl_X11_29 hR ct_2100 (one_cnt _) rfl ?_
  refine s_lsize (Li := 2106) (g := 1600) DX11_handsToDo_18 cv_X11_89 hR (by decide) (by decide) (Nat.le_of_ble_eq_true rfl) ?_
  refine r_icmp_ge DX11_handsToDo_21 (fun c1 => ?_) (fun c1 => ?_)
  · have h := if_t c1 h
    exact hkx117 hR h
  · have h := if_f c1 h
    refine r_aload_n DX11_handsToDo_24 rfl ?_
    refine s_geta DX11_handsToDo_25 fl_X11_32 hR ct_2100 (one_cnt _) rfl ?_
    refine r_iload DX11_handsToDo_28 rfl ?_
    obtain ⟨hg2, h⟩ := gd_inv h
    refine s_iald DX11_handsToDo_30 hR ct_2107 (one_cnt _) hg2 ?_
    refine t_istore (L' := [some (.ref (ad 2100 0)), some (.int (x1)), some (.int (x2)), d3, some (.int (x4)), some (.int (x5)), some (.int (x6)), some (.int (x7)), some (.int ((V 2107 (0) (x7).toNatClampNeg))), d9, d10]) DX11_handsToDo_31 (by decide) rfl ?_
    refine r_aload_n DX11_handsToDo_33 rfl ?_
    refine s_geto DX11_handsToDo_34 fl_X11_29 hR ct_2100 (one_cnt _) rfl ?_
    refine r_iload DX11_handsToDo_37 rfl ?_
    obtain ⟨⟨hx3, hi4⟩, h⟩ := gd_inv h
    refine s_lget (Li := 2106) (g := 1600) DX11_handsToDo_39 cv_X11_93 hR (by decide) hx3 hi4 (by decide) (Nat.le_of_ble_eq_true rfl) (fun M hR => ?_)
    refine q_cast hx3 DX11_handsToDo_42 wd_405 hR ct_1600 hi4 rfl ?_
    refine t_astore (L' := [some (.ref (ad 2100 0)), some (.int (x1)), some (.int (x2)), d3, some (.int (x4)), some (.int (x5)), some (.int (x6)), some (.int (x7)), some (.int ((V 2107 (0) (x7).toNatClampNeg))), some (rfq ad 1600 ((V 2107 (0) (x7).toNatClampNeg))), d10]) (rfq_or _ _ _) DX11_handsToDo_45 (by decide) rfl ?_
    refine r_iload_n DX11_handsToDo_47 rfl ?_
    refine r_iload DX11_handsToDo_48 rfl ?_
    refine r_ishr DX11_handsToDo_50 ?_
    refine r_iconst (v := 1) DX11_handsToDo_51 ki_1 ?_
    refine r_iand DX11_handsToDo_52 ?_
    refine r_iconst (v := 1) DX11_handsToDo_53 ki_1 ?_
    refine r_icmp_ne DX11_handsToDo_54 (fun c5 => ?_) (fun c5 => ?_)
    · have h := if_f c5 h
      exact S_X11_handsToDo_67 (fun hR h => hkh hR h) (fun hR h => hkx117 hR h) hp hR h
    · have h := if_t c5 h
      refine r_iload DX11_handsToDo_57 rfl ?_
      refine t_aload (rfq_or _ _ _) DX11_handsToDo_59 rfl ?_
      refine q_geti hx3 DX11_handsToDo_61 fl_X11_385 hR ct_1600 hi4 rfl ?_
      refine r_iadd DX11_handsToDo_64 ?_
      refine t_istore (L' := [some (.ref (ad 2100 0)), some (.int (x1)), some (.int (x2)), d3, some (.int (x4 + (V 1603 ((V 2107 (0) (x7).toNatClampNeg)).toNatClampNeg 0))), some (.int (x5)), some (.int (x6)), some (.int (x7)), some (.int ((V 2107 (0) (x7).toNatClampNeg))), some (rfq ad 1600 ((V 2107 (0) (x7).toNatClampNeg))), d10]) DX11_handsToDo_65 (by decide) rfl ?_
      exact S_X11_handsToDo_67 (fun hR h => hkh hR h) (fun hR h => hkx117 hR h) hp hR h
theorem SL_X11_handsToDo_12 {E : EN} {X : CX} {P : Option Value → MH → Prop} {ad : AD} {fu : Nat} {out : Int32 × St} {kx117 : St → Int32 → Int32 → Int32 → RR} (hkx117 : ∀ {V : St} {M : MH} {x4 : Int32} {x5 : Int32} {x6 : Int32} {d0 : Option Value} {d1 : Option Value} {d2 : Option Value} {d3 : Option Value} {d7 : Option Value} {d8 : Option Value} {d9 : Option Value} {d10 : Option Value}, Rep E ad V M → kx117 V x4 x5 x6 = some out → G E X RX11 cX11_handsToDo 11 (some .int) false (rmD 4) P M [d0, d1, d2, d3, some (.int (x4)), some (.int (x5)), some (.int (x6)), d7, d8, d9, d10] 0 0 117 []) (hp : ∀ M, Rep E ad out.2 M → P (some (.int out.1)) M) : ∀ (n : Nat) {V : St} {M : MH} {x1 : Int32} {x2 : Int32} {x4 : Int32} {x5 : Int32} {x6 : Int32} {x7 : Int32} {d3 : Option Value} {d8 : Option Value} {d9 : Option Value} {d10 : Option Value}, Rep E ad V M → Lp_X11_handsToDo_12 kx117 fu n V x1 x2 x4 x5 x6 x7 = some out → G E X RX11 cX11_handsToDo 11 (some .int) false (rmD 4) P M [some (.ref (ad 2100 0)), some (.int (x1)), some (.int (x2)), d3, some (.int (x4)), some (.int (x5)), some (.int (x6)), some (.int (x7)), d8, d9, d10] 0 0 12 [] := by
  intro n
  induction n with
  | zero => intros; rename_i h; cases h
  | succ n ih => exact fun hR h => S_X11_handsToDo_12 (fun hR h => ih hR h) (fun hR h => hkx117 hR h) hp hR h
theorem S_X11_handsToDo_0 {E : EN} {X : CX} {P : Option Value → MH → Prop} {ad : AD} {fu : Nat} {out : Int32 × St} (hp : ∀ M, Rep E ad out.2 M → P (some (.int out.1)) M) {V : St} {M : MH} {x1 : Int32} {x2 : Int32} {x3 : Int32} (hR : Rep E ad V M) (h : f_X11_handsToDo fu V x1 x2 x3 = some out) : G E X RX11 cX11_handsToDo 11 (some .int) false (rmD 4) P M [some (.ref (ad 2100 0)), some (.int (x1)), some (.int (x2)), some (.int (x3)), none, none, none, none, none, none, none] 0 0 0 [] := by
  unfold f_X11_handsToDo at h
  refine r_iconst (v := 0) DX11_handsToDo_0 ki_0 ?_
  refine t_istore (L' := [some (.ref (ad 2100 0)), some (.int (x1)), some (.int (x2)), some (.int (x3)), some (.int ((0 : Int32))), none, none, none, none, none, none]) DX11_handsToDo_1 (by decide) rfl ?_
  refine r_iconst (v := 0) DX11_handsToDo_3 ki_0 ?_
  refine t_istore (L' := [some (.ref (ad 2100 0)), some (.int (x1)), some (.int (x2)), some (.int (x3)), some (.int ((0 : Int32))), some (.int ((0 : Int32))), none, none, none, none, none]) DX11_handsToDo_4 (by decide) rfl ?_
  refine r_iload_n DX11_handsToDo_6 rfl ?_
  refine t_istore (L' := [some (.ref (ad 2100 0)), some (.int (x1)), some (.int (x2)), some (.int (x3)), some (.int ((0 : Int32))), some (.int ((0 : Int32))), some (.int (x3)), none, none, none, none]) DX11_handsToDo_7 (by decide) rfl ?_
  refine r_iconst (v := 0) DX11_handsToDo_9 ki_0 ?_
  refine t_istore (L' := [some (.ref (ad 2100 0)), some (.int (x1)), some (.int (x2)), some (.int (x3)), some (.int ((0 : Int32))), some (.int ((0 : Int32))), some (.int (x3)), some (.int ((0 : Int32))), none, none, none]) DX11_handsToDo_10 (by decide) rfl ?_
  exact SL_X11_handsToDo_12 (fun hR h => S_X11_handsToDo_117 hp hR h) hp fu hR h
theorem C_X11_handsToDo {E : EN} {ad : AD} {fu : Nat} {out : Int32 × St} {V : St} {M : MH} {x1 : Int32} {x2 : Int32} {x3 : Int32} (l : Launch) (hR : Rep E ad V M) (h : f_X11_handsToDo fu V x1 x2 x3 = some out) : Ct E l yX11_handsToDo cX11_handsToDo 11 (some .int) (rmD 4) [.ref (ad 2100 0), .int (x1), .int (x2), .int (x3)] M (fun v M => v = (some (.int out.1)) ∧ Rep E ad out.2 M) :=
  Ct.of (own := RX11) (ini := false) (L := [some (.ref (ad 2100 0)), some (.int (x1)), some (.int (x2)), some (.int (x3)), none, none, none, none, none, none, none]) rfl rfl (fun h => by cases h) rfl (Nat.le_of_ble_eq_true rfl) rfl (fun X _ => S_X11_handsToDo_0 (fun M hR => ⟨rfl, hR⟩) hR h)
theorem S_X11_isInTown_48 {E : EN} {X : CX} {P : Option Value → MH → Prop} {ad : AD} {fu : Nat} {out : Int32 × St} (hp : ∀ M, Rep E ad out.2 M → P (some (.int out.1)) M) {V : St} {M : MH} {d0 : Option Value} {d1 : Option Value} {d2 : Option Value} {d3 : Option Value} (hR : Rep E ad V M) (h : F_X11_isInTown_48 fu V = some out) : G E X RX11 cX11_isInTown 4 (some .boolean) false (rmD 4) P M [d0, d1, d2, d3] 0 0 48 [] := by
  unfold F_X11_isInTown_48 at h
  refine r_iconst (v := 0) DX11_isInTown_48 ki_0 ?_
  cases h
  exact r_zret DX11_isInTown_49 rfl rfl ⟨Nat.le_refl 0, Nat.le_refl 0⟩ (hp M hR)
theorem S_X11_isInTown_42 {E : EN} {X : CX} {P : Option Value → MH → Prop} {ad : AD} {fu : Nat} {out : Int32 × St} {kh : St → Int32 → Int32 → Int32 → RR} {kx40 : St → RR} {kx48 : St → RR} (hkh : ∀ {V : St} {M : MH} {x1 : Int32} {x2 : Int32} {x3 : Int32}, Rep E ad V M → kh V x1 x2 x3 = some out → G E X RX11 cX11_isInTown 4 (some .boolean) false (rmD 4) P M [some (.ref (ad 2100 0)), some (.int (x1)), some (.int (x2)), some (.int (x3))] 0 0 2 []) (hkx40 : ∀ {V : St} {M : MH} {d0 : Option Value} {d1 : Option Value} {d2 : Option Value} {d3 : Option Value}, Rep E ad V M → kx40 V  = some out → G E X RX11 cX11_isInTown 4 (some .boolean) false (rmD 4) P M [d0, d1, d2, d3] 0 0 40 []) (hkx48 : ∀ {V : St} {M : MH} {d0 : Option Value} {d1 : Option Value} {d2 : Option Value} {d3 : Option Value}, Rep E ad V M → kx48 V  = some out → G E X RX11 cX11_isInTown 4 (some .boolean) false (rmD 4) P M [d0, d1, d2, d3] 0 0 48 []) (hp : ∀ M, Rep E ad out.2 M → P (some (.int out.1)) M) {V : St} {M : MH} {x1 : Int32} {x2 : Int32} {x3 : Int32} (hR : Rep E ad V M) (h : F_X11_isInTown_42 kh kx40 kx48 fu V x1 x2 x3 = some out) : G E X RX11 cX11_isInTown 4 (some .boolean) false (rmD 4) P M [some (.ref (ad 2100 0)), some (.int (x1)), some (.int (x2)), some (.int (x3))] 0 0 42 [] := by
  unfold F_X11_isInTown_42 at h
  refine t_iinc (v := 1) (L' := [some (.ref (ad 2100 0)), some (.int (x1)), some (.int (x2)), some (.int (x3 + 1))]) DX11_isInTown_42 rfl ki_1 (by decide) rfl ?_
  refine r_goto DX11_isInTown_45 ?_
  exact hkh hR h
theorem S_X11_isInTown_40 {E : EN} {X : CX} {P : Option Value → MH → Prop} {ad : AD} {fu : Nat} {out : Int32 × St} (hp : ∀ M, Rep E ad out.2 M → P (some (.int out.1)) M) {V : St} {M : MH} {d0 : Option Value} {d1 : Option Value} {d2 : Option Value} {d3 : Option Value} (hR : Rep E ad V M) (h : F_X11_isInTown_40 fu V = some out) : G E X RX11 cX11_isInTown 4 (some .boolean) false (rmD 4) P M [d0, d1, d2, d3] 0 0 40 [] := by
  unfold F_X11_isInTown_40 at h
  refine r_iconst (v := 1) DX11_isInTown_40 ki_1 ?_
  cases h
  exact r_zret DX11_isInTown_41 rfl rfl ⟨Nat.le_refl 0, Nat.le_refl 0⟩ (hp M hR)
theorem S_X11_isInTown_2 {E : EN} {X : CX} {P : Option Value → MH → Prop} {ad : AD} {fu : Nat} {out : Int32 × St} {kh : St → Int32 → Int32 → Int32 → RR} {kx40 : St → RR} {kx48 : St → RR} (hkh : ∀ {V : St} {M : MH} {x1 : Int32} {x2 : Int32} {x3 : Int32}, Rep E ad V M → kh V x1 x2 x3 = some out → G E X RX11 cX11_isInTown 4 (some .boolean) false (rmD 4) P M [some (.ref (ad 2100 0)), some (.int (x1)), some (.int (x2)), some (.int (x3))] 0 0 2 []) (hkx40 : ∀ {V : St} {M : MH} {d0 : Option Value} {d1 : Option Value} {d2 : Option Value} {d3 : Option Value}, Rep E ad V M → kx40 V  = some out → G E X RX11 cX11_isInTown 4 (some .boolean) false (rmD 4) P M [d0, d1, d2, d3] 0 0 40 []) (hkx48 : ∀ {V : St} {M : MH} {d0 : Option Value} {d1 : Option Value} {d2 : Option Value} {d3 : Option Value}, Rep E ad V M → kx48 V  = some out → G E X RX11 cX11_isInTown 4 (some .boolean) false (rmD 4) P M [d0, d1, d2, d3] 0 0 48 []) (hp : ∀ M, Rep E ad out.2 M → P (some (.int out.1)) M) {V : St} {M : MH} {x1 : Int32} {x2 : Int32} {x3 : Int32} (hR : Rep E ad V M) (h : F_X11_isInTown_2 kh kx40 kx48 fu V x1 x2 x3 = some out) : G E X RX11 cX11_isInTown 4 (some .boolean) false (rmD 4) P M [some (.ref (ad 2100 0)), some (.int (x1)), some (.int (x2)), some (.int (x3))] 0 0 2 [] := by
  unfold F_X11_isInTown_2 at h
  refine r_iload_n DX11_isInTown_2 rfl ?_
  refine r_aload_n DX11_isInTown_3 rfl ?_
  refine s_geto DX11_isInTown_4 fl_X11_29 hR ct_2100 (one_cnt _) rfl ?_
  refine s_lsize (Li := 2106) (g := 1600) DX11_isInTown_7 cv_X11_89 hR (by decide) (by decide) (Nat.le_of_ble_eq_true rfl) ?_
  refine r_icmp_ge DX11_isInTown_10 (fun c1 => ?_) (fun c1 => ?_)
  · have h := if_t c1 h
    exact hkx48 hR h
  · have h := if_f c1 h
    refine r_iload_n DX11_isInTown_13 rfl ?_
    refine r_iload_n DX11_isInTown_14 rfl ?_
    refine r_ishr DX11_isInTown_15 ?_
    refine r_iconst (v := 1) DX11_isInTown_16 ki_1 ?_
    refine r_iand DX11_isInTown_17 ?_
    refine r_iconst (v := 1) DX11_isInTown_18 ki_1 ?_
    refine r_icmp_ne DX11_isInTown_19 (fun c2 => ?_) (fun c2 => ?_)
    · have h := if_f c2 h
      exact S_X11_isInTown_42 (fun hR h => hkh hR h) (fun hR h => hkx40 hR h) (fun hR h => hkx48 hR h) hp hR h
    · have h := if_t c2 h
      refine r_aload_n DX11_isInTown_22 rfl ?_
      refine s_geto DX11_isInTown_23 fl_X11_29 hR ct_2100 (one_cnt _) rfl ?_
      refine r_iload_n DX11_isInTown_26 rfl ?_
      obtain ⟨⟨hx3, hi4⟩, h⟩ := gd_inv h
      refine s_lget (Li := 2106) (g := 1600) DX11_isInTown_27 cv_X11_93 hR (by decide) hx3 hi4 (by decide) (Nat.le_of_ble_eq_true rfl) (fun M hR => ?_)
      refine q_cast hx3 DX11_isInTown_30 wd_405 hR ct_1600 hi4 rfl ?_
      refine q_geti hx3 DX11_isInTown_33 fl_X11_392 hR ct_1600 hi4 rfl ?_
      refine r_iload_n DX11_isInTown_36 rfl ?_
      refine r_icmp_ne DX11_isInTown_37 (fun c5 => ?_) (fun c5 => ?_)
      · have h := if_f c5 h
        exact S_X11_isInTown_42 (fun hR h => hkh hR h) (fun hR h => hkx40 hR h) (fun hR h => hkx48 hR h) hp hR h
      · have h := if_t c5 h
        exact hkx40 hR h
theorem SL_X11_isInTown_2 {E : EN} {X : CX} {P : Option Value → MH → Prop} {ad : AD} {fu : Nat} {out : Int32 × St} {kx40 : St → RR} {kx48 : St → RR} (hkx40 : ∀ {V : St} {M : MH} {d0 : Option Value} {d1 : Option Value} {d2 : Option Value} {d3 : Option Value}, Rep E ad V M → kx40 V  = some out → G E X RX11 cX11_isInTown 4 (some .boolean) false (rmD 4) P M [d0, d1, d2, d3] 0 0 40 []) (hkx48 : ∀ {V : St} {M : MH} {d0 : Option Value} {d1 : Option Value} {d2 : Option Value} {d3 : Option Value}, Rep E ad V M → kx48 V  = some out → G E X RX11 cX11_isInTown 4 (some .boolean) false (rmD 4) P M [d0, d1, d2, d3] 0 0 48 []) (hp : ∀ M, Rep E ad out.2 M → P (some (.int out.1)) M) : ∀ (n : Nat) {V : St} {M : MH} {x1 : Int32} {x2 : Int32} {x3 : Int32}, Rep E ad V M → Lp_X11_isInTown_2 kx40 kx48 fu n V x1 x2 x3 = some out → G E X RX11 cX11_isInTown 4 (some .boolean) false (rmD 4) P M [some (.ref (ad 2100 0)), some (.int (x1)), some (.int (x2)), some (.int (x3))] 0 0 2 [] := by
  intro n
  induction n with
  | zero => intros; rename_i h; cases h
  | succ n ih => exact fun hR h => S_X11_isInTown_2 (fun hR h => ih hR h) (fun hR h => hkx40 hR h) (fun hR h => hkx48 hR h) hp hR h
theorem S_X11_isInTown_0 {E : EN} {X : CX} {P : Option Value → MH → Prop} {ad : AD} {fu : Nat} {out : Int32 × St} (hp : ∀ M, Rep E ad out.2 M → P (some (.int out.1)) M) {V : St} {M : MH} {x1 : Int32} {x2 : Int32} (hR : Rep E ad V M) (h : f_X11_isInTown fu V x1 x2 = some out) : G E X RX11 cX11_isInTown 4 (some .boolean) false (rmD 4) P M [some (.ref (ad 2100 0)), some (.int (x1)), some (.int (x2)), none] 0 0 0 [] := by
  unfold f_X11_isInTown at h
  refine r_iconst (v := 0) DX11_isInTown_0 ki_0 ?_
  refine t_istore_n (L' := [some (.ref (ad 2100 0)), some (.int (x1)), some (.int (x2)), some (.int ((0 : Int32)))]) DX11_isInTown_1 (by decide) rfl ?_
  exact SL_X11_isInTown_2 (fun hR h => S_X11_isInTown_40 hp hR h) (fun hR h => S_X11_isInTown_48 hp hR h) hp fu hR h
theorem C_X11_isInTown {E : EN} {ad : AD} {fu : Nat} {out : Int32 × St} {V : St} {M : MH} {x1 : Int32} {x2 : Int32} (l : Launch) (hR : Rep E ad V M) (h : f_X11_isInTown fu V x1 x2 = some out) : Ct E l yX11_isInTown cX11_isInTown 4 (some .boolean) (rmD 4) [.ref (ad 2100 0), .int (x1), .int (x2)] M (fun v M => v = (some (.int out.1)) ∧ Rep E ad out.2 M) :=
  Ct.of (own := RX11) (ini := false) (L := [some (.ref (ad 2100 0)), some (.int (x1)), some (.int (x2)), none]) rfl rfl (fun h => by cases h) rfl (Nat.le_of_ble_eq_true rfl) rfl (fun X _ => S_X11_isInTown_0 (fun M hR => ⟨rfl, hR⟩) hR h)
theorem S_X11_mayBeTold_34 {E : EN} {X : CX} {P : Option Value → MH → Prop} {ad : AD} {fu : Nat} {out : Int32 × St} (hp : ∀ M, Rep E ad out.2 M → P (some (.int out.1)) M) {V : St} {M : MH} {s0 : Int32} {d0 : Option Value} {d1 : Option Value} {d2 : Option Value} (hR : Rep E ad V M) (h : F_X11_mayBeTold_34 fu V s0 = some out) : G E X RX11 cX11_mayBeTold 3 (some .boolean) false (rmD 2) P M [d0, d1, d2] 0 0 34 [.int (s0)] := by
  unfold F_X11_mayBeTold_34 at h
  obtain ⟨hz1, h⟩ := gd_inv h
  cases h
  exact r_zret DX11_mayBeTold_34 rfl (nz_nar hz1) ⟨Nat.le_refl 0, Nat.le_refl 0⟩ (hp M hR)
theorem S_X11_mayBeTold_33 {E : EN} {X : CX} {P : Option Value → MH → Prop} {ad : AD} {fu : Nat} {out : Int32 × St} (hp : ∀ M, Rep E ad out.2 M → P (some (.int out.1)) M) {V : St} {M : MH} {d0 : Option Value} {d1 : Option Value} {d2 : Option Value} (hR : Rep E ad V M) (h : F_X11_mayBeTold_33 fu V = some out) : G E X RX11 cX11_mayBeTold 3 (some .boolean) false (rmD 2) P M [d0, d1, d2] 0 0 33 [] := by
  unfold F_X11_mayBeTold_33 at h
  refine r_iconst (v := 0) DX11_mayBeTold_33 ki_0 ?_
  exact S_X11_mayBeTold_34 hp hR h
theorem S_X11_mayBeTold_0 {E : EN} {X : CX} {P : Option Value → MH → Prop} {ad : AD} {fu : Nat} {out : Int32 × St} (hp : ∀ M, Rep E ad out.2 M → P (some (.int out.1)) M) {V : St} {M : MH} {x1 : Int32} (hR : Rep E ad V M) (h : f_X11_mayBeTold fu V x1 = some out) : G E X RX11 cX11_mayBeTold 3 (some .boolean) false (rmD 2) P M [some (.ref (ad 2100 0)), some (.int (x1)), none] 0 0 0 [] := by
  unfold f_X11_mayBeTold at h
  refine r_iconst (v := 1) DX11_mayBeTold_0 ki_1 ?_
  refine r_aload_n DX11_mayBeTold_1 rfl ?_
  refine s_geto DX11_mayBeTold_2 fl_X11_29 hR ct_2100 (one_cnt _) rfl ?_
  refine s_lsize (Li := 2106) (g := 1600) DX11_mayBeTold_5 cv_X11_89 hR (by decide) (by decide) (Nat.le_of_ble_eq_true rfl) ?_
  refine r_ishl DX11_mayBeTold_8 ?_
  refine r_iconst (v := 1) DX11_mayBeTold_9 ki_1 ?_
  refine r_isub DX11_mayBeTold_10 ?_
  refine t_istore_n (L' := [some (.ref (ad 2100 0)), some (.int (x1)), some (.int (((1 : Int32) <<< ((V 2106 0 0) &&& 31)) - (1 : Int32)))]) DX11_mayBeTold_11 (by decide) rfl ?_
  refine r_iload_n DX11_mayBeTold_12 rfl ?_
  refine r_iload_n DX11_mayBeTold_13 rfl ?_
  refine r_iconst (v := -1) DX11_mayBeTold_14 ki_m1 ?_
  refine r_ixor DX11_mayBeTold_15 ?_
  refine r_iand DX11_mayBeTold_16 ?_
  refine r_if_ne DX11_mayBeTold_17 (fun c1 => ?_) (fun c1 => ?_)
  · have h := if_f c1 h
    exact S_X11_mayBeTold_33 hp hR h
  · have h := if_t c1 h
    refine r_iload_n DX11_mayBeTold_20 rfl ?_
    obtain ⟨r2, V3, hc4, h⟩ := bd_inv h
    refine k_callS (As := [.int (x1)]) (rest := []) (st1 := [.int (r2)]) (w := some (.int r2)) DX11_mayBeTold_21 cs_X11_348 (C_J6_bitCount_0f7a4 (out := (r2, V3)) (cxL X) hR hc4) rfl (by decide) (by decide) rfl (Nat.le_of_ble_eq_true rfl) rfl (fun M hR => ?_)
    refine r_bipush (v := 8) DX11_mayBeTold_24 kb_8 ?_
    refine r_icmp_gt DX11_mayBeTold_26 (fun c5 => ?_) (fun c5 => ?_)
    · have h := if_t c5 h
      exact S_X11_mayBeTold_33 hp hR h
    · have h := if_f c5 h
      refine r_iconst (v := 1) DX11_mayBeTold_29 ki_1 ?_
      refine r_goto DX11_mayBeTold_30 ?_
      exact S_X11_mayBeTold_34 hp hR h
theorem C_X11_mayBeTold {E : EN} {ad : AD} {fu : Nat} {out : Int32 × St} {V : St} {M : MH} {x1 : Int32} (l : Launch) (hR : Rep E ad V M) (h : f_X11_mayBeTold fu V x1 = some out) : Ct E l yX11_mayBeTold cX11_mayBeTold 3 (some .boolean) (rmD 2) [.ref (ad 2100 0), .int (x1)] M (fun v M => v = (some (.int out.1)) ∧ Rep E ad out.2 M) :=
  Ct.of (own := RX11) (ini := false) (L := [some (.ref (ad 2100 0)), some (.int (x1)), none]) rfl rfl (fun h => by cases h) rfl (Nat.le_of_ble_eq_true rfl) rfl (fun X _ => S_X11_mayBeTold_0 (fun M hR => ⟨rfl, hR⟩) hR h)
theorem S_X11_fewest_132 {E : EN} {X : CX} {P : Option Value → MH → Prop} {ad : AD} {fu : Nat} {out : Int32 × St} (hp : ∀ M, Rep E ad out.2 M → P (some (.int out.1)) M) {V : St} {M : MH} {x4 : Int32} {d0 : Option Value} {d1 : Option Value} {d2 : Option Value} {d3 : Option Value} {d5 : Option Value} {d6 : Option Value} {d7 : Option Value} (hR : Rep E ad V M) (h : F_X11_fewest_132 fu V x4 = some out) : G E X RX11 cX11_fewest 8 (some .int) false (rmD 5) P M [d0, d1, d2, d3, some (.int (x4)), d5, d6, d7] 0 0 132 [] := by
  unfold F_X11_fewest_132 at h
  refine r_iload DX11_fewest_132 rfl ?_
  cases h
  exact r_iret DX11_fewest_134 rfl ⟨Nat.le_refl 0, Nat.le_refl 0⟩ (hp M hR)
theorem S_X11_fewest_126 {E : EN} {X : CX} {P : Option Value → MH → Prop} {ad : AD} {fu : Nat} {out : Int32 × St} {kh : St → Int32 → Int32 → Int32 → Int32 → Int32 → Int32 → RR} {kx132 : St → Int32 → RR} (hkh : ∀ {V : St} {M : MH} {x1 : Int32} {x2 : Int32} {x3 : Int32} {x4 : Int32} {x5 : Int32} {x6 : Int32} {d7 : Option Value}, Rep E ad V M → kh V x1 x2 x3 x4 x5 x6 = some out → G E X RX11 cX11_fewest 8 (some .int) false (rmD 5) P M [some (.ref (ad 2100 0)), some (.int (x1)), some (.int (x2)), some (.int (x3)), some (.int (x4)), some (.int (x5)), some (.int (x6)), d7] 0 0 40 []) (hkx132 : ∀ {V : St} {M : MH} {x4 : Int32} {d0 : Option Value} {d1 : Option Value} {d2 : Option Value} {d3 : Option Value} {d5 : Option Value} {d6 : Option Value} {d7 : Option Value}, Rep E ad V M → kx132 V x4 = some out → G E X RX11 cX11_fewest 8 (some .int) false (rmD 5) P M [d0, d1, d2, d3, some (.int (x4)), d5, d6, d7] 0 0 132 []) (hp : ∀ M, Rep E ad out.2 M → P (some (.int out.1)) M) {V : St} {M : MH} {x1 : Int32} {x2 : Int32} {x3 : Int32} {x4 : Int32} {x5 : Int32} {x6 : Int32} {d7 : Option Value} (hR : Rep E ad V M) (h : F_X11_fewest_126 kh kx132 fu V x1 x2 x3 x4 x5 x6 = some out) : G E X RX11 cX11_fewest 8 (some .int) false (rmD 5) P M [some (.ref (ad 2100 0)), some (.int (x1)), some (.int (x2)), some (.int (x3)), some (.int (x4)), some (.int (x5)), some (.int (x6)), d7] 0 0 126 [] := by
  unfold F_X11_fewest_126 at h
  refine t_iinc (v := 1) (L' := [some (.ref (ad 2100 0)), some (.int (x1)), some (.int (x2)), some (.int (x3)), some (.int (x4)), some (.int (x5)), some (.int (x6 + 1)), d7]) DX11_fewest_126 rfl ki_1 (by decide) rfl ?_
  refine r_goto DX11_fewest_129 ?_
  exact hkh hR h
theorem S_X11_fewest_118 {E : EN} {X : CX} {P : Option Value → MH → Prop} {ad : AD} {fu : Nat} {out : Int32 × St} {kh : St → Int32 → Int32 → Int32 → Int32 → Int32 → Int32 → RR} {kx132 : St → Int32 → RR} (hkh : ∀ {V : St} {M : MH} {x1 : Int32} {x2 : Int32} {x3 : Int32} {x4 : Int32} {x5 : Int32} {x6 : Int32} {d7 : Option Value}, Rep E ad V M → kh V x1 x2 x3 x4 x5 x6 = some out → G E X RX11 cX11_fewest 8 (some .int) false (rmD 5) P M [some (.ref (ad 2100 0)), some (.int (x1)), some (.int (x2)), some (.int (x3)), some (.int (x4)), some (.int (x5)), some (.int (x6)), d7] 0 0 40 []) (hkx132 : ∀ {V : St} {M : MH} {x4 : Int32} {d0 : Option Value} {d1 : Option Value} {d2 : Option Value} {d3 : Option Value} {d5 : Option Value} {d6 : Option Value} {d7 : Option Value}, Rep E ad V M → kx132 V x4 = some out → G E X RX11 cX11_fewest 8 (some .int) false (rmD 5) P M [d0, d1, d2, d3, some (.int (x4)), d5, d6, d7] 0 0 132 []) (hp : ∀ M, Rep E ad out.2 M → P (some (.int out.1)) M) {V : St} {M : MH} {x1 : Int32} {x2 : Int32} {x3 : Int32} {x6 : Int32} {x7 : Int32} {d4 : Option Value} {d5 : Option Value} (hR : Rep E ad V M) (h : F_X11_fewest_118 kh kx132 fu V x1 x2 x3 x6 x7 = some out) : G E X RX11 cX11_fewest 8 (some .int) false (rmD 5) P M [some (.ref (ad 2100 0)), some (.int (x1)), some (.int (x2)), some (.int (x3)), d4, d5, some (.int (x6)), some (.int (x7))] 0 0 118 [] := by
  unfold F_X11_fewest_118 at h
  refine r_iload DX11_fewest_118 rfl ?_
  refine t_istore (L' := [some (.ref (ad 2100 0)), some (.int (x1)), some (.int (x2)), some (.int (x3)), some (.int (x6)), d5, some (.int (x6)), some (.int (x7))]) DX11_fewest_120 (by decide) rfl ?_
  refine r_iload DX11_fewest_122 rfl ?_
  refine t_istore (L' := [some (.ref (ad 2100 0)), some (.int (x1)), some (.int (x2)), some (.int (x3)), some (.int (x6)), some (.int (x7)), some (.int (x6)), some (.int (x7))]) DX11_fewest_124 (by decide) rfl ?_
  exact S_X11_fewest_126 (fun hR h => hkh hR h) (fun hR h => hkx132 hR h) hp hR h
theorem S_X11_fewest_70 {E : EN} {X : CX} {P : Option Value → MH → Prop} {ad : AD} {fu : Nat} {out : Int32 × St} {kh : St → Int32 → Int32 → Int32 → Int32 → Int32 → Int32 → RR} {kx132 : St → Int32 → RR} (hkh : ∀ {V : St} {M : MH} {x1 : Int32} {x2 : Int32} {x3 : Int32} {x4 : Int32} {x5 : Int32} {x6 : Int32} {d7 : Option Value}, Rep E ad V M → kh V x1 x2 x3 x4 x5 x6 = some out → G E X RX11 cX11_fewest 8 (some .int) false (rmD 5) P M [some (.ref (ad 2100 0)), some (.int (x1)), some (.int (x2)), some (.int (x3)), some (.int (x4)), some (.int (x5)), some (.int (x6)), d7] 0 0 40 []) (hkx132 : ∀ {V : St} {M : MH} {x4 : Int32} {d0 : Option Value} {d1 : Option Value} {d2 : Option Value} {d3 : Option Value} {d5 : Option Value} {d6 : Option Value} {d7 : Option Value}, Rep E ad V M → kx132 V x4 = some out → G E X RX11 cX11_fewest 8 (some .int) false (rmD 5) P M [d0, d1, d2, d3, some (.int (x4)), d5, d6, d7] 0 0 132 []) (hp : ∀ M, Rep E ad out.2 M → P (some (.int out.1)) M) {V : St} {M : MH} {x1 : Int32} {x2 : Int32} {x3 : Int32} {x4 : Int32} {x5 : Int32} {x6 : Int32} {d7 : Option Value} (hR : Rep E ad V M) (h : F_X11_fewest_70 kh kx132 fu V x1 x2 x3 x4 x5 x6 = some out) : G E X RX11 cX11_fewest 8 (some .int) false (rmD 5) P M [some (.ref (ad 2100 0)), some (.int (x1)), some (.int (x2)), some (.int (x3)), some (.int (x4)), some (.int (x5)), some (.int (x6)), d7] 0 0 70 [] := by
  unfold F_X11_fewest_70 at h
  refine r_aload_n DX11_fewest_70 rfl ?_
  refine r_iload_n DX11_fewest_71 rfl ?_
  refine r_iload DX11_fewest_72 rfl ?_
  refine r_iload_n DX11_fewest_74 rfl ?_
  obtain ⟨r1, V2, hc3, h⟩ := bd_inv h
  refine k_callV (As := [.int (x1), .int (x6), .int (x2)]) (rest := []) (st1 := [.int (r1)]) (w := some (.int r1)) DX11_fewest_75 cv_X11_342 hR ct_2100 (one_cnt _) rfl (C_X11_handsToDo (out := (r1, V2)) (cxL X) hR hc3) rfl (by decide) (by decide) rfl (Nat.le_of_ble_eq_true rfl) rfl (fun M hR => ?_)
  refine t_istore (L' := [some (.ref (ad 2100 0)), some (.int (x1)), some (.int (x2)), some (.int (x3)), some (.int (x4)), some (.int (x5)), some (.int (x6)), some (.int (r1))]) DX11_fewest_78 (by decide) rfl ?_
  refine r_iload DX11_fewest_80 rfl ?_
  refine r_if_lt DX11_fewest_82 (fun c4 => ?_) (fun c4 => ?_)
  · have h := if_t c4 h
    exact S_X11_fewest_126 (fun hR h => hkh hR h) (fun hR h => hkx132 hR h) hp hR h
  · have h := if_f c4 h
    refine r_iload DX11_fewest_85 rfl ?_
    refine r_iconst (v := -1) DX11_fewest_87 ki_m1 ?_
    refine r_icmp_eq DX11_fewest_88 (fun c5 => ?_) (fun c5 => ?_)
    · have h := if_t c5 h
      exact S_X11_fewest_118 (fun hR h => hkh hR h) (fun hR h => hkx132 hR h) hp hR h
    · have h := if_f c5 h
      refine r_iload DX11_fewest_91 rfl ?_
      refine r_iload DX11_fewest_93 rfl ?_
      refine r_icmp_lt DX11_fewest_95 (fun c6 => ?_) (fun c6 => ?_)
      · have h := if_t c6 h
        exact S_X11_fewest_118 (fun hR h => hkh hR h) (fun hR h => hkx132 hR h) hp hR h
      · have h := if_f c6 h
        refine r_iload DX11_fewest_98 rfl ?_
        refine r_iload DX11_fewest_100 rfl ?_
        refine r_icmp_ne DX11_fewest_102 (fun c7 => ?_) (fun c7 => ?_)
        · have h := if_f c7 h
          exact S_X11_fewest_126 (fun hR h => hkh hR h) (fun hR h => hkx132 hR h) hp hR h
        · have h := if_t c7 h
          refine r_iload DX11_fewest_105 rfl ?_
          obtain ⟨r8, V9, hc10, h⟩ := bd_inv h
          refine k_callS (As := [.int (x6)]) (rest := []) (st1 := [.int (r8)]) (w := some (.int r8)) DX11_fewest_107 cs_X11_348 (C_J6_bitCount_0f7a4 (out := (r8, V9)) (cxL X) hR hc10) rfl (by decide) (by decide) rfl (Nat.le_of_ble_eq_true rfl) rfl (fun M hR => ?_)
          refine r_iload DX11_fewest_110 rfl ?_
          obtain ⟨r11, V12, hc13, h⟩ := bd_inv h
          refine k_callS (As := [.int (x4)]) (rest := [.int (r8)]) (st1 := [.int (r11), .int (r8)]) (w := some (.int r11)) DX11_fewest_112 cs_X11_348 (C_J6_bitCount_0f7a4 (out := (r11, V12)) (cxL X) hR hc13) rfl (by decide) (by decide) rfl (Nat.le_of_ble_eq_true rfl) rfl (fun M hR => ?_)
          refine r_icmp_ge DX11_fewest_115 (fun c14 => ?_) (fun c14 => ?_)
          · have h := if_t c14 h
            exact S_X11_fewest_126 (fun hR h => hkh hR h) (fun hR h => hkx132 hR h) hp hR h
          · have h := if_f c14 h
            exact S_X11_fewest_118 (fun hR h => hkh hR h) (fun hR h => hkx132 hR h) hp hR h
theorem S_X11_fewest_40 {E : EN} {X : CX} {P : Option Value → MH → Prop} {ad : AD} {fu : Nat} {out : Int32 × St} {kh : St → Int32 → Int32 → Int32 → Int32 → Int32 → Int32 → RR} {kx132 : St → Int32 → RR} (hkh : ∀ {V : St} {M : MH} {x1 : Int32} {x2 : Int32} {x3 : Int32} {x4 : Int32} {x5 : Int32} {x6 : Int32} {d7 : Option Value}, Rep E ad V M → kh V x1 x2 x3 x4 x5 x6 = some out → G E X RX11 cX11_fewest 8 (some .int) false (rmD 5) P M [some (.ref (ad 2100 0)), some (.int (x1)), some (.int (x2)), some (.int (x3)), some (.int (x4)), some (.int (x5)), some (.int (x6)), d7] 0 0 40 []) (hkx132 : ∀ {V : St} {M : MH} {x4 : Int32} {d0 : Option Value} {d1 : Option Value} {d2 : Option Value} {d3 : Option Value} {d5 : Option Value} {d6 : Option Value} {d7 : Option Value}, Rep E ad V M → kx132 V x4 = some out → G E X RX11 cX11_fewest 8 (some .int) false (rmD 5) P M [d0, d1, d2, d3, some (.int (x4)), d5, d6, d7] 0 0 132 []) (hp : ∀ M, Rep E ad out.2 M → P (some (.int out.1)) M) {V : St} {M : MH} {x1 : Int32} {x2 : Int32} {x3 : Int32} {x4 : Int32} {x5 : Int32} {x6 : Int32} {d7 : Option Value} (hR : Rep E ad V M) (h : F_X11_fewest_40 kh kx132 fu V x1 x2 x3 x4 x5 x6 = some out) : G E X RX11 cX11_fewest 8 (some .int) false (rmD 5) P M [some (.ref (ad 2100 0)), some (.int (x1)), some (.int (x2)), some (.int (x3)), some (.int (x4)), some (.int (x5)), some (.int (x6)), d7] 0 0 40 [] := by
  unfold F_X11_fewest_40 at h
  refine r_iload DX11_fewest_40 rfl ?_
  refine r_iload_n DX11_fewest_42 rfl ?_
  refine r_icmp_gt DX11_fewest_43 (fun c1 => ?_) (fun c1 => ?_)
  · have h := if_t c1 h
    exact hkx132 hR h
  · have h := if_f c1 h
    refine r_iload DX11_fewest_46 rfl ?_
    refine r_iload_n DX11_fewest_48 rfl ?_
    refine r_iconst (v := -1) DX11_fewest_49 ki_m1 ?_
    refine r_ixor DX11_fewest_50 ?_
    refine r_iand DX11_fewest_51 ?_
    refine r_if_ne DX11_fewest_52 (fun c2 => ?_) (fun c2 => ?_)
    · have h := if_f c2 h
      exact S_X11_fewest_126 (fun hR h => hkh hR h) (fun hR h => hkx132 hR h) hp hR h
    · have h := if_t c2 h
      refine r_iload_n DX11_fewest_55 rfl ?_
      refine r_iconst (v := -1) DX11_fewest_56 ki_m1 ?_
      refine r_icmp_eq DX11_fewest_57 (fun c3 => ?_) (fun c3 => ?_)
      · have h := if_t c3 h
        exact S_X11_fewest_70 (fun hR h => hkh hR h) (fun hR h => hkx132 hR h) hp hR h
      · have h := if_f c3 h
        refine r_aload_n DX11_fewest_60 rfl ?_
        refine r_iload DX11_fewest_61 rfl ?_
        refine r_iload_n DX11_fewest_63 rfl ?_
        obtain ⟨r4, V5, hc6, h⟩ := bd_inv h
        refine k_callV (As := [.int (x6), .int (x3)]) (rest := []) (st1 := [.int (r4)]) (w := some (.int r4)) DX11_fewest_64 cv_X11_345 hR ct_2100 (one_cnt _) rfl (C_X11_isInTown (out := (r4, V5)) (cxL X) hR hc6) rfl (by decide) (by decide) rfl (Nat.le_of_ble_eq_true rfl) rfl (fun M hR => ?_)
        refine r_if_eq DX11_fewest_67 (fun c7 => ?_) (fun c7 => ?_)
        · have h := if_t c7 h
          exact S_X11_fewest_126 (fun hR h => hkh hR h) (fun hR h => hkx132 hR h) hp hR h
        · have h := if_f c7 h
          exact S_X11_fewest_70 (fun hR h => hkh hR h) (fun hR h => hkx132 hR h) hp hR h
theorem SL_X11_fewest_40 {E : EN} {X : CX} {P : Option Value → MH → Prop} {ad : AD} {fu : Nat} {out : Int32 × St} {kx132 : St → Int32 → RR} (hkx132 : ∀ {V : St} {M : MH} {x4 : Int32} {d0 : Option Value} {d1 : Option Value} {d2 : Option Value} {d3 : Option Value} {d5 : Option Value} {d6 : Option Value} {d7 : Option Value}, Rep E ad V M → kx132 V x4 = some out → G E X RX11 cX11_fewest 8 (some .int) false (rmD 5) P M [d0, d1, d2, d3, some (.int (x4)), d5, d6, d7] 0 0 132 []) (hp : ∀ M, Rep E ad out.2 M → P (some (.int out.1)) M) : ∀ (n : Nat) {V : St} {M : MH} {x1 : Int32} {x2 : Int32} {x3 : Int32} {x4 : Int32} {x5 : Int32} {x6 : Int32} {d7 : Option Value}, Rep E ad V M → Lp_X11_fewest_40 kx132 fu n V x1 x2 x3 x4 x5 x6 = some out → G E X RX11 cX11_fewest 8 (some .int) false (rmD 5) P M [some (.ref (ad 2100 0)), some (.int (x1)), some (.int (x2)), some (.int (x3)), some (.int (x4)), some (.int (x5)), some (.int (x6)), d7] 0 0 40 [] := by
  intro n
  induction n with
  | zero => intros; rename_i h; cases h
  | succ n ih => exact fun hR h => S_X11_fewest_40 (fun hR h => ih hR h) (fun hR h => hkx132 hR h) hp hR h
theorem S_X11_fewest_29 {E : EN} {X : CX} {P : Option Value → MH → Prop} {ad : AD} {fu : Nat} {out : Int32 × St} (hp : ∀ M, Rep E ad out.2 M → P (some (.int out.1)) M) {V : St} {M : MH} {d0 : Option Value} {d1 : Option Value} {d2 : Option Value} {d3 : Option Value} {d4 : Option Value} {d5 : Option Value} {d6 : Option Value} {d7 : Option Value} (hR : Rep E ad V M) (h : F_X11_fewest_29 fu V = some out) : G E X RX11 cX11_fewest 8 (some .int) false (rmD 5) P M [d0, d1, d2, d3, d4, d5, d6, d7] 0 0 29 [] := by
  unfold F_X11_fewest_29 at h
  refine r_iconst (v := -1) DX11_fewest_29 ki_m1 ?_
  cases h
  exact r_iret DX11_fewest_30 rfl ⟨Nat.le_refl 0, Nat.le_refl 0⟩ (hp M hR)
theorem S_X11_fewest_0 {E : EN} {X : CX} {P : Option Value → MH → Prop} {ad : AD} {fu : Nat} {out : Int32 × St} (hp : ∀ M, Rep E ad out.2 M → P (some (.int out.1)) M) {V : St} {M : MH} {x1 : Int32} {x2 : Int32} {x3 : Int32} (hR : Rep E ad V M) (h : f_X11_fewest fu V x1 x2 x3 = some out) : G E X RX11 cX11_fewest 8 (some .int) false (rmD 5) P M [some (.ref (ad 2100 0)), some (.int (x1)), some (.int (x2)), some (.int (x3)), none, none, none, none] 0 0 0 [] := by
  unfold f_X11_fewest at h
  refine r_aload_n DX11_fewest_0 rfl ?_
  refine r_iload_n DX11_fewest_1 rfl ?_
  obtain ⟨r1, V2, hc3, h⟩ := bd_inv h
  refine k_callV (As := [.int (x1)]) (rest := []) (st1 := [.int (r1)]) (w := some (.int r1)) DX11_fewest_2 cv_X11_339 hR ct_2100 (one_cnt _) rfl (C_X11_mayBeTold (out := (r1, V2)) (cxL X) hR hc3) rfl (by decide) (by decide) rfl (Nat.le_of_ble_eq_true rfl) rfl (fun M hR => ?_)
  refine r_if_eq DX11_fewest_5 (fun c4 => ?_) (fun c4 => ?_)
  · have h := if_t c4 h
    exact S_X11_fewest_29 hp hR h
  · have h := if_f c4 h
    refine r_iload_n DX11_fewest_8 rfl ?_
    refine r_iconst (v := 1) DX11_fewest_9 ki_1 ?_
    refine r_ldcw (v := 100000) DX11_fewest_10 ck_X11_283 ?_
    obtain ⟨r5, V6, hc7, h⟩ := bd_inv h
    refine k_callS (As := [.int (x2), .int ((1 : Int32)), .int ((100000 : Int32))]) (rest := []) (st1 := [.int (r5)]) (w := some (.int r5)) DX11_fewest_13 cs_X11_111 (C_X11_within (out := (r5, V6)) (cxL X) hR hc7) rfl (by decide) (by decide) rfl (Nat.le_of_ble_eq_true rfl) rfl (fun M hR => ?_)
    refine r_if_eq DX11_fewest_16 (fun c8 => ?_) (fun c8 => ?_)
    · have h := if_t c8 h
      exact S_X11_fewest_29 hp hR h
    · have h := if_f c8 h
      refine r_iload_n DX11_fewest_19 rfl ?_
      refine r_iconst (v := -1) DX11_fewest_20 ki_m1 ?_
      refine r_bipush (v := 7) DX11_fewest_21 kb_7 ?_
      obtain ⟨r9, V10, hc11, h⟩ := bd_inv h
      refine k_callS (As := [.int (x3), .int ((-1 : Int32)), .int ((7 : Int32))]) (rest := []) (st1 := [.int (r9)]) (w := some (.int r9)) DX11_fewest_23 cs_X11_111 (C_X11_within (out := (r9, V10)) (cxL X) hR hc11) rfl (by decide) (by decide) rfl (Nat.le_of_ble_eq_true rfl) rfl (fun M hR => ?_)
      refine r_if_ne DX11_fewest_26 (fun c12 => ?_) (fun c12 => ?_)
      · have h := if_f c12 h
        refine r_iconst (v := -1) DX11_fewest_31 ki_m1 ?_
        refine t_istore (L' := [some (.ref (ad 2100 0)), some (.int (x1)), some (.int (x2)), some (.int (x3)), some (.int ((-1 : Int32))), none, none, none]) DX11_fewest_32 (by decide) rfl ?_
        refine r_iconst (v := 0) DX11_fewest_34 ki_0 ?_
        refine t_istore (L' := [some (.ref (ad 2100 0)), some (.int (x1)), some (.int (x2)), some (.int (x3)), some (.int ((-1 : Int32))), some (.int ((0 : Int32))), none, none]) DX11_fewest_35 (by decide) rfl ?_
        refine r_iconst (v := 1) DX11_fewest_37 ki_1 ?_
        refine t_istore (L' := [some (.ref (ad 2100 0)), some (.int (x1)), some (.int (x2)), some (.int (x3)), some (.int ((-1 : Int32))), some (.int ((0 : Int32))), some (.int ((1 : Int32))), none]) DX11_fewest_38 (by decide) rfl ?_
        exact SL_X11_fewest_40 (fun hR h => S_X11_fewest_132 hp hR h) hp fu hR h
      · have h := if_t c12 h
        exact S_X11_fewest_29 hp hR h
theorem C_X11_fewest {E : EN} {ad : AD} {fu : Nat} {out : Int32 × St} {V : St} {M : MH} {x1 : Int32} {x2 : Int32} {x3 : Int32} (l : Launch) (hR : Rep E ad V M) (h : f_X11_fewest fu V x1 x2 x3 = some out) : Ct E l yX11_fewest cX11_fewest 8 (some .int) (rmD 5) [.ref (ad 2100 0), .int (x1), .int (x2), .int (x3)] M (fun v M => v = (some (.int out.1)) ∧ Rep E ad out.2 M) :=
  Ct.of (own := RX11) (ini := false) (L := [some (.ref (ad 2100 0)), some (.int (x1)), some (.int (x2)), some (.int (x3)), none, none, none, none]) rfl rfl (fun h => by cases h) rfl (Nat.le_of_ble_eq_true rfl) rfl (fun X _ => S_X11_fewest_0 (fun M hR => ⟨rfl, hR⟩) hR h)
theorem S_X11_findCloth_32 {E : EN} {X : CX} {P : Option Value → MH → Prop} {ad : AD} {fu : Nat} {out : Int32 × St} (hp : ∀ M, Rep E ad out.2 M → P (some (rfq ad 1000 out.1)) M) {V : St} {M : MH} {s0 : Int32} {d0 : Option Value} {d1 : Option Value} (hR : Rep E ad V M) (h : F_X11_findCloth_32 fu V s0 = some out) : G E X RX11 cX11_findCloth 2 (some (.object "UtilityBoard$Cloth")) false (rmD 4) P M [d0, d1] 0 0 32 [rfq ad 1000 (s0)] := by
  unfold F_X11_findCloth_32 at h
  cases h
  exact r_aret DX11_findCloth_32 rfl (Or.inl ⟨_, rfl⟩) (rfq_or _ _ _) ⟨Nat.le_refl 0, Nat.le_refl 0⟩ (hp M hR)
theorem S_X11_findCloth_0 {E : EN} {X : CX} {P : Option Value → MH → Prop} {ad : AD} {fu : Nat} {out : Int32 × St} (hp : ∀ M, Rep E ad out.2 M → P (some (rfq ad 1000 out.1)) M) {V : St} {M : MH} {x1 : Int32} (hR : Rep E ad V M) (h : f_X11_findCloth fu V x1 = some out) : G E X RX11 cX11_findCloth 2 (some (.object "UtilityBoard$Cloth")) false (rmD 4) P M [some (.ref (ad 2100 0)), some (.int (x1))] 0 0 0 [] := by
  unfold f_X11_findCloth at h
  refine r_iload_n DX11_findCloth_0 rfl ?_
  refine r_iconst (v := 0) DX11_findCloth_1 ki_0 ?_
  refine r_aload_n DX11_findCloth_2 rfl ?_
  refine s_geto DX11_findCloth_3 fl_X11_19 hR ct_2100 (one_cnt _) rfl ?_
  refine s_lsize (Li := 2103) (g := 1000) DX11_findCloth_6 cv_X11_89 hR (by decide) (by decide) (Nat.le_of_ble_eq_true rfl) ?_
  refine r_iconst (v := 1) DX11_findCloth_9 ki_1 ?_
  refine r_isub DX11_findCloth_10 ?_
  obtain ⟨r1, V2, hc3, h⟩ := bd_inv h
  refine k_callS (As := [.int (x1), .int ((0 : Int32)), .int ((V 2103 0 0) - (1 : Int32))]) (rest := []) (st1 := [.int (r1)]) (w := some (.int r1)) DX11_findCloth_11 cs_X11_111 (C_X11_within (out := (r1, V2)) (cxL X) hR hc3) rfl (by decide) (by decide) rfl (Nat.le_of_ble_eq_true rfl) rfl (fun M hR => ?_)
  refine r_if_eq DX11_findCloth_14 (fun c4 => ?_) (fun c4 => ?_)
  · have h := if_t c4 h
    refine q_null (ad := ad) (g := 1000) DX11_findCloth_31 ?_
    exact S_X11_findCloth_32 hp hR h
  · have h := if_f c4 h
    refine r_aload_n DX11_findCloth_17 rfl ?_
    refine s_geto DX11_findCloth_18 fl_X11_19 hR ct_2100 (one_cnt _) rfl ?_
    refine r_iload_n DX11_findCloth_21 rfl ?_
    obtain ⟨⟨hx5, hi6⟩, h⟩ := gd_inv h
    refine s_lget (Li := 2103) (g := 1000) DX11_findCloth_22 cv_X11_93 hR (by decide) hx5 hi6 (by decide) (Nat.le_of_ble_eq_true rfl) (fun M hR => ?_)
    refine q_cast hx5 DX11_findCloth_25 wd_417 hR ct_1000 hi6 rfl ?_
    refine r_goto DX11_findCloth_28 ?_
    exact S_X11_findCloth_32 hp hR h
theorem C_X11_findCloth {E : EN} {ad : AD} {fu : Nat} {out : Int32 × St} {V : St} {M : MH} {x1 : Int32} (l : Launch) (hR : Rep E ad V M) (h : f_X11_findCloth fu V x1 = some out) : Ct E l yX11_findCloth cX11_findCloth 2 (some (.object "UtilityBoard$Cloth")) (rmD 4) [.ref (ad 2100 0), .int (x1)] M (fun v M => v = (some (rfq ad 1000 out.1)) ∧ Rep E ad out.2 M) :=
  Ct.of (own := RX11) (ini := false) (L := [some (.ref (ad 2100 0)), some (.int (x1))]) rfl rfl (fun h => by cases h) rfl (Nat.le_of_ble_eq_true rfl) rfl (fun X _ => S_X11_findCloth_0 (fun M hR => ⟨rfl, hR⟩) hR h)
theorem S_X11_findCoat_22 {E : EN} {X : CX} {P : Option Value → MH → Prop} {ad : AD} {fu : Nat} {out : Int32 × St} (hp : ∀ M, Rep E ad out.2 M → P (some (rfq ad 2000 out.1)) M) {V : St} {M : MH} {s0 : Int32} {d0 : Option Value} {d1 : Option Value} {d2 : Option Value} (hR : Rep E ad V M) (h : F_X11_findCoat_22 fu V s0 = some out) : G E X RX11 cX11_findCoat 3 (some (.object "UtilityBoard$Thing")) false (rmD 5) P M [d0, d1, d2] 0 0 22 [rfq ad 2000 (s0)] := by
  unfold F_X11_findCoat_22 at h
  cases h
  exact r_aret DX11_findCoat_22 rfl (Or.inl ⟨_, rfl⟩) (rfq_or _ _ _) ⟨Nat.le_refl 0, Nat.le_refl 0⟩ (hp M hR)
theorem S_X11_findCoat_21 {E : EN} {X : CX} {P : Option Value → MH → Prop} {ad : AD} {fu : Nat} {out : Int32 × St} (hp : ∀ M, Rep E ad out.2 M → P (some (rfq ad 2000 out.1)) M) {V : St} {M : MH} {d0 : Option Value} {d1 : Option Value} {d2 : Option Value} (hR : Rep E ad V M) (h : F_X11_findCoat_21 fu V = some out) : G E X RX11 cX11_findCoat 3 (some (.object "UtilityBoard$Thing")) false (rmD 5) P M [d0, d1, d2] 0 0 21 [] := by
  unfold F_X11_findCoat_21 at h
  refine q_null (ad := ad) (g := 2000) DX11_findCoat_21 ?_
  exact S_X11_findCoat_22 hp hR h
theorem S_X11_findCoat_0 {E : EN} {X : CX} {P : Option Value → MH → Prop} {ad : AD} {fu : Nat} {out : Int32 × St} (hp : ∀ M, Rep E ad out.2 M → P (some (rfq ad 2000 out.1)) M) {V : St} {M : MH} {x1 : Int32} (hR : Rep E ad V M) (h : f_X11_findCoat fu V x1 = some out) : G E X RX11 cX11_findCoat 3 (some (.object "UtilityBoard$Thing")) false (rmD 5) P M [some (.ref (ad 2100 0)), some (.int (x1)), none] 0 0 0 [] := by
  unfold f_X11_findCoat at h
  refine r_aload_n DX11_findCoat_0 rfl ?_
  refine r_iload_n DX11_findCoat_1 rfl ?_
  obtain ⟨r1, V2, hc3, h⟩ := bd_inv h
  refine k_callV (As := [.int (x1)]) (rest := []) (st1 := [rfq ad 2000 (r1)]) (w := some (rfq ad 2000 r1)) DX11_findCoat_2 cv_X11_242 hR ct_2100 (one_cnt _) rfl (C_X11_findThing (out := (r1, V2)) (cxL X) hR hc3) rfl (by decide) (by decide) rfl (Nat.le_of_ble_eq_true rfl) rfl (fun M hR => ?_)
  refine t_astore_n (L' := [some (.ref (ad 2100 0)), some (.int (x1)), some (rfq ad 2000 (r1))]) (rfq_or _ _ _) DX11_findCoat_5 (by decide) rfl ?_
  refine t_aload_n (rfq_or _ _ _) DX11_findCoat_6 rfl ?_
  refine q_ifnull DX11_findCoat_7 (fun c4 => ?_) (fun c4 => ?_)
  · have h := if_t c4 h
    exact S_X11_findCoat_21 hp hR h
  · have h := if_f c4 h
    refine t_aload_n (rfq_or _ _ _) DX11_findCoat_10 rfl ?_
    obtain ⟨⟨hx5, hi6⟩, h⟩ := gd_inv h
    refine q_geti hx5 DX11_findCoat_11 fl_X11_267 hR ct_2000 hi6 rfl ?_
    refine r_if_ne DX11_findCoat_14 (fun c7 => ?_) (fun c7 => ?_)
    · have h := if_f c7 h
      exact S_X11_findCoat_21 hp hR h
    · have h := if_t c7 h
      refine t_aload_n (rfq_or _ _ _) DX11_findCoat_17 rfl ?_
      refine r_goto DX11_findCoat_18 ?_
      exact S_X11_findCoat_22 hp hR h
theorem C_X11_findCoat {E : EN} {ad : AD} {fu : Nat} {out : Int32 × St} {V : St} {M : MH} {x1 : Int32} (l : Launch) (hR : Rep E ad V M) (h : f_X11_findCoat fu V x1 = some out) : Ct E l yX11_findCoat cX11_findCoat 3 (some (.object "UtilityBoard$Thing")) (rmD 5) [.ref (ad 2100 0), .int (x1)] M (fun v M => v = (some (rfq ad 2000 out.1)) ∧ Rep E ad out.2 M) :=
  Ct.of (own := RX11) (ini := false) (L := [some (.ref (ad 2100 0)), some (.int (x1)), none]) rfl rfl (fun h => by cases h) rfl (Nat.le_of_ble_eq_true rfl) rfl (fun X _ => S_X11_findCoat_0 (fun M hR => ⟨rfl, hR⟩) hR h)
theorem S_X1_goesBefore_59 {E : EN} {X : CX} {P : Option Value → MH → Prop} {ad : AD} {fu : Nat} {out : Int32 × St} (hp : ∀ M, Rep E ad out.2 M → P (some (.int out.1)) M) {V : St} {M : MH} {s0 : Int32} {d0 : Option Value} {d1 : Option Value} {d2 : Option Value} (hR : Rep E ad V M) (h : F_X1_goesBefore_59 fu V s0 = some out) : G E X RX1 cX1_goesBefore 3 (some .boolean) false (rmD 1) P M [d0, d1, d2] 0 0 59 [.int (s0)] := by
  unfold F_X1_goesBefore_59 at h
  obtain ⟨hz1, h⟩ := gd_inv h
  cases h
  exact r_zret DX1_goesBefore_59 rfl (nz_nar hz1) ⟨Nat.le_refl 0, Nat.le_refl 0⟩ (hp M hR)
theorem S_X1_goesBefore_27 {E : EN} {X : CX} {P : Option Value → MH → Prop} {ad : AD} {fu : Nat} {out : Int32 × St} (hp : ∀ M, Rep E ad out.2 M → P (some (.int out.1)) M) {V : St} {M : MH} {s0 : Int32} {d0 : Option Value} {d1 : Option Value} {d2 : Option Value} (hR : Rep E ad V M) (h : F_X1_goesBefore_27 fu V s0 = some out) : G E X RX1 cX1_goesBefore 3 (some .boolean) false (rmD 1) P M [d0, d1, d2] 0 0 27 [.int (s0)] := by
  unfold F_X1_goesBefore_27 at h
  obtain ⟨hz1, h⟩ := gd_inv h
  cases h
  exact r_zret DX1_goesBefore_27 rfl (nz_nar hz1) ⟨Nat.le_refl 0, Nat.le_refl 0⟩ (hp M hR)
theorem S_X1_goesBefore_0 {E : EN} {X : CX} {P : Option Value → MH → Prop} {ad : AD} {fu : Nat} {out : Int32 × St} (hp : ∀ M, Rep E ad out.2 M → P (some (.int out.1)) M) {V : St} {M : MH} {x0 : Int32} {x1 : Int32} {x2 : Int32} (hR : Rep E ad V M) (h : f_X1_goesBefore fu V x0 x1 x2 = some out) : G E X RX1 cX1_goesBefore 3 (some .boolean) false (rmD 1) P M [some (rfq ad 1100 (x0)), some (rfq ad 1100 (x1)), some (.int (x2))] 0 0 0 [] := by
  unfold f_X1_goesBefore at h
  refine t_aload_n (rfq_or _ _ _) DX1_goesBefore_0 rfl ?_
  obtain ⟨⟨hx1, hi2⟩, h⟩ := gd_inv h
  refine q_geti hx1 DX1_goesBefore_1 fl_X1_23 hR ct_1100 hi2 rfl ?_
  refine t_aload_n (rfq_or _ _ _) DX1_goesBefore_4 rfl ?_
  obtain ⟨⟨hx3, hi4⟩, h⟩ := gd_inv h
  refine q_geti hx3 DX1_goesBefore_5 fl_X1_23 hR ct_1100 hi4 rfl ?_
  refine r_icmp_eq DX1_goesBefore_8 (fun c5 => ?_) (fun c5 => ?_)
  · have h := if_t c5 h
    refine t_aload_n (rfq_or _ _ _) DX1_goesBefore_28 rfl ?_
    refine q_geti hx1 DX1_goesBefore_29 fl_X1_20 hR ct_1100 hi2 rfl ?_
    refine t_aload_n (rfq_or _ _ _) DX1_goesBefore_32 rfl ?_
    refine q_geti hx3 DX1_goesBefore_33 fl_X1_20 hR ct_1100 hi4 rfl ?_
    refine r_icmp_eq DX1_goesBefore_36 (fun c6 => ?_) (fun c6 => ?_)
    · have h := if_t c6 h
      refine r_iload_n DX1_goesBefore_58 rfl ?_
      exact S_X1_goesBefore_59 hp hR h
    · have h := if_f c6 h
      refine t_aload_n (rfq_or _ _ _) DX1_goesBefore_39 rfl ?_
      refine q_geti hx1 DX1_goesBefore_40 fl_X1_20 hR ct_1100 hi2 rfl ?_
      refine t_aload_n (rfq_or _ _ _) DX1_goesBefore_43 rfl ?_
      refine q_geti hx3 DX1_goesBefore_44 fl_X1_20 hR ct_1100 hi4 rfl ?_
      refine r_icmp_ge DX1_goesBefore_47 (fun c7 => ?_) (fun c7 => ?_)
      · have h := if_t c7 h
        refine r_iconst (v := 0) DX1_goesBefore_54 ki_0 ?_
        refine r_goto DX1_goesBefore_55 ?_
        exact S_X1_goesBefore_59 hp hR h
      · have h := if_f c7 h
        refine r_iconst (v := 1) DX1_goesBefore_50 ki_1 ?_
        refine r_goto DX1_goesBefore_51 ?_
        exact S_X1_goesBefore_59 hp hR h
  · have h := if_f c5 h
    refine t_aload_n (rfq_or _ _ _) DX1_goesBefore_11 rfl ?_
    refine q_geti hx1 DX1_goesBefore_12 fl_X1_23 hR ct_1100 hi2 rfl ?_
    refine t_aload_n (rfq_or _ _ _) DX1_goesBefore_15 rfl ?_
    refine q_geti hx3 DX1_goesBefore_16 fl_X1_23 hR ct_1100 hi4 rfl ?_
    refine r_icmp_le DX1_goesBefore_19 (fun c6 => ?_) (fun c6 => ?_)
    · have h := if_t c6 h
      refine r_iconst (v := 0) DX1_goesBefore_26 ki_0 ?_
      exact S_X1_goesBefore_27 hp hR h
    · have h := if_f c6 h
      refine r_iconst (v := 1) DX1_goesBefore_22 ki_1 ?_
      refine r_goto DX1_goesBefore_23 ?_
      exact S_X1_goesBefore_27 hp hR h
theorem C_X1_goesBefore {E : EN} {ad : AD} {fu : Nat} {out : Int32 × St} {V : St} {M : MH} {x0 : Int32} {x1 : Int32} {x2 : Int32} (l : Launch) (hR : Rep E ad V M) (h : f_X1_goesBefore fu V x0 x1 x2 = some out) : Ct E l yX1_goesBefore cX1_goesBefore 3 (some .boolean) (rmD 1) [rfq ad 1100 (x0), rfq ad 1100 (x1), .int (x2)] M (fun v M => v = (some (.int out.1)) ∧ Rep E ad out.2 M) :=
  Ct.of (own := RX1) (ini := false) (L := [some (rfq ad 1100 (x0)), some (rfq ad 1100 (x1)), some (.int (x2))]) rfl rfl (fun h => by cases h) (by simp only [List.all_cons, List.all_nil, rfq_cat]; rfl) (Nat.le_of_ble_eq_true rfl) rfl (fun X _ => S_X1_goesBefore_0 (fun M hR => ⟨rfl, hR⟩) hR h)
theorem S_X11_howManyBefore_98 {E : EN} {X : CX} {P : Option Value → MH → Prop} {ad : AD} {fu : Nat} {out : Int32 × St} (hp : ∀ M, Rep E ad out.2 M → P (some (.int out.1)) M) {V : St} {M : MH} {x3 : Int32} {d0 : Option Value} {d1 : Option Value} {d2 : Option Value} {d4 : Option Value} {d5 : Option Value} (hR : Rep E ad V M) (h : F_X11_howManyBefore_98 fu V x3 = some out) : G E X RX11 cX11_howManyBefore 6 (some .int) false (rmD 4) P M [d0, d1, d2, some (.int (x3)), d4, d5] 0 0 98 [] := by
  unfold F_X11_howManyBefore_98 at h
  refine r_iload_n DX11_howManyBefore_98 rfl ?_
  cases h
  exact r_iret DX11_howManyBefore_99 rfl ⟨Nat.le_refl 0, Nat.le_refl 0⟩ (hp M hR)
theorem S_X11_howManyBefore_92 {E : EN} {X : CX} {P : Option Value → MH → Prop} {ad : AD} {fu : Nat} {out : Int32 × St} {kh : St → Int32 → Int32 → Int32 → Int32 → RR} {kx98 : St → Int32 → RR} (hkh : ∀ {V : St} {M : MH} {x1 : Int32} {x2 : Int32} {x3 : Int32} {x4 : Int32} {d5 : Option Value}, Rep E ad V M → kh V x1 x2 x3 x4 = some out → G E X RX11 cX11_howManyBefore 6 (some .int) false (rmD 4) P M [some (.ref (ad 2100 0)), some (.int (x1)), some (rfq ad 1100 (x2)), some (.int (x3)), some (.int (x4)), d5] 0 0 17 []) (hkx98 : ∀ {V : St} {M : MH} {x3 : Int32} {d0 : Option Value} {d1 : Option Value} {d2 : Option Value} {d4 : Option Value} {d5 : Option Value}, Rep E ad V M → kx98 V x3 = some out → G E X RX11 cX11_howManyBefore 6 (some .int) false (rmD 4) P M [d0, d1, d2, some (.int (x3)), d4, d5] 0 0 98 []) (hp : ∀ M, Rep E ad out.2 M → P (some (.int out.1)) M) {V : St} {M : MH} {x1 : Int32} {x2 : Int32} {x3 : Int32} {x4 : Int32} {d5 : Option Value} (hR : Rep E ad V M) (h : F_X11_howManyBefore_92 kh kx98 fu V x1 x2 x3 x4 = some out) : G E X RX11 cX11_howManyBefore 6 (some .int) false (rmD 4) P M [some (.ref (ad 2100 0)), some (.int (x1)), some (rfq ad 1100 (x2)), some (.int (x3)), some (.int (x4)), d5] 0 0 92 [] := by
  unfold F_X11_howManyBefore_92 at h
  refine t_iinc (v := 1) (L' := [some (.ref (ad 2100 0)), some (.int (x1)), some (rfq ad 1100 (x2)), some (.int (x3)), some (.int (x4 + 1)), d5]) DX11_howManyBefore_92 rfl ki_1 (by decide) rfl ?_
  refine r_goto DX11_howManyBefore_95 ?_
  exact hkh hR h
theorem S_X11_howManyBefore_83 {E : EN} {X : CX} {P : Option Value → MH → Prop} {ad : AD} {fu : Nat} {out : Int32 × St} {kh : St → Int32 → Int32 → Int32 → Int32 → RR} {kx98 : St → Int32 → RR} (hkh : ∀ {V : St} {M : MH} {x1 : Int32} {x2 : Int32} {x3 : Int32} {x4 : Int32} {d5 : Option Value}, Rep E ad V M → kh V x1 x2 x3 x4 = some out → G E X RX11 cX11_howManyBefore 6 (some .int) false (rmD 4) P M [some (.ref (ad 2100 0)), some (.int (x1)), some (rfq ad 1100 (x2)), some (.int (x3)), some (.int (x4)), d5] 0 0 17 []) (hkx98 : ∀ {V : St} {M : MH} {x3 : Int32} {d0 : Option Value} {d1 : Option Value} {d2 : Option Value} {d4 : Option Value} {d5 : Option Value}, Rep E ad V M → kx98 V x3 = some out → G E X RX11 cX11_howManyBefore 6 (some .int) false (rmD 4) P M [d0, d1, d2, some (.int (x3)), d4, d5] 0 0 98 []) (hp : ∀ M, Rep E ad out.2 M → P (some (.int out.1)) M) {V : St} {M : MH} {x1 : Int32} {x2 : Int32} {x3 : Int32} {x4 : Int32} {s0 : Int32} {s1 : Int32} {s2 : Int32} {d5 : Option Value} (hR : Rep E ad V M) (h : F_X11_howManyBefore_83 kh kx98 fu V x1 x2 x3 x4 s0 s1 s2 = some out) : G E X RX11 cX11_howManyBefore 6 (some .int) false (rmD 4) P M [some (.ref (ad 2100 0)), some (.int (x1)), some (rfq ad 1100 (x2)), some (.int (x3)), some (.int (x4)), d5] 0 0 83 [.int (s0), rfq ad 1100 (s1), rfq ad 1100 (s2)] := by
  unfold F_X11_howManyBefore_83 at h
  obtain ⟨⟨hx4, hi5⟩, h⟩ := gd_inv h
  obtain ⟨r1, V2, hc3, h⟩ := bd_inv h
  refine k_callQ (As := [rfq ad 1100 (s1), .int (s0)]) (rest := []) (st1 := [.int (r1)]) (w := some (.int r1)) hx4 DX11_howManyBefore_83 cv_X11_388 hR ct_1100 hi5 rfl (C_X1_goesBefore (out := (r1, V2)) (cxL X) hR hc3) rfl (by decide) (by decide) rfl (Nat.le_of_ble_eq_true rfl) rfl (fun M hR => ?_)
  refine r_if_eq DX11_howManyBefore_86 (fun c6 => ?_) (fun c6 => ?_)
  · have h := if_t c6 h
    exact S_X11_howManyBefore_92 (fun hR h => hkh hR h) (fun hR h => hkx98 hR h) hp hR h
  · have h := if_f c6 h
    refine t_iinc (v := 1) (L' := [some (.ref (ad 2100 0)), some (.int (x1)), some (rfq ad 1100 (x2)), some (.int (x3 + 1)), some (.int (x4)), d5]) DX11_howManyBefore_89 rfl ki_1 (by decide) rfl ?_
    exact S_X11_howManyBefore_92 (fun hR h => hkh hR h) (fun hR h => hkx98 hR h) hp hR h
theorem S_X11_howManyBefore_17 {E : EN} {X : CX} {P : Option Value → MH → Prop} {ad : AD} {fu : Nat} {out : Int32 × St} {kh : St → Int32 → Int32 → Int32 → Int32 → RR} {kx98 : St → Int32 → RR} (hkh : ∀ {V : St} {M : MH} {x1 : Int32} {x2 : Int32} {x3 : Int32} {x4 : Int32} {d5 : Option Value}, Rep E ad V M → kh V x1 x2 x3 x4 = some out → G E X RX11 cX11_howManyBefore 6 (some .int) false (rmD 4) P M [some (.ref (ad 2100 0)), some (.int (x1)), some (rfq ad 1100 (x2)), some (.int (x3)), some (.int (x4)), d5] 0 0 17 []) (hkx98 : ∀ {V : St} {M : MH} {x3 : Int32} {d0 : Option Value} {d1 : Option Value} {d2 : Option Value} {d4 : Option Value} {d5 : Option Value}, Rep E ad V M → kx98 V x3 = some out → G E X RX11 cX11_howManyBefore 6 (some .int) false (rmD 4) P M [d0, d1, d2, some (.int (x3)), d4, d5] 0 0 98 []) (hp : ∀ M, Rep E ad out.2 M → P (some (.int out.1)) M) {V : St} {M : MH} {x1 : Int32} {x2 : Int32} {x3 : Int32} {x4 : Int32} {d5 : Option Value} (hR : Rep E ad V M) (h : F_X11_howManyBefore_17 kh kx98 fu V x1 x2 x3 x4 = some out) : G E X RX11 cX11_howManyBefore 6 (some .int) false (rmD 4) P M [some (.ref (ad 2100 0)), some (.int (x1)), some (rfq ad 1100 (x2)), some (.int (x3)), some (.int (x4)), d5] 0 0 17 [] := by
  unfold F_X11_howManyBefore_17 at h
  refine r_iload DX11_howManyBefore_17 rfl ?_
  refine r_aload_n DX11_howManyBefore_19 rfl ?_
  refine s_geto DX11_howManyBefore_20 fl_X11_39 hR ct_2100 (one_cnt _) rfl ?_
  refine s_lsize (Li := 2109) (g := 1100) DX11_howManyBefore_23 cv_X11_89 hR (by decide) (by decide) (Nat.le_of_ble_eq_true rfl) ?_
  refine r_icmp_ge DX11_howManyBefore_26 (fun c1 => ?_) (fun c1 => ?_)
  · have h := if_t c1 h
    exact hkx98 hR h
  · have h := if_f c1 h
    refine r_aload_n DX11_howManyBefore_29 rfl ?_
    refine s_geto DX11_howManyBefore_30 fl_X11_39 hR ct_2100 (one_cnt _) rfl ?_
    refine r_iload DX11_howManyBefore_33 rfl ?_
    obtain ⟨⟨hx2, hi3⟩, h⟩ := gd_inv h
    refine s_lget (Li := 2109) (g := 1100) DX11_howManyBefore_35 cv_X11_93 hR (by decide) hx2 hi3 (by decide) (Nat.le_of_ble_eq_true rfl) (fun M hR => ?_)
    refine q_cast hx2 DX11_howManyBefore_38 wd_1135 hR ct_1100 hi3 rfl ?_
    refine t_astore (L' := [some (.ref (ad 2100 0)), some (.int (x1)), some (rfq ad 1100 (x2)), some (.int (x3)), some (.int (x4)), some (rfq ad 1100 (x4))]) (rfq_or _ _ _) DX11_howManyBefore_41 (by decide) rfl ?_
    refine r_iload DX11_howManyBefore_43 rfl ?_
    refine r_iload_n DX11_howManyBefore_45 rfl ?_
    refine r_icmp_eq DX11_howManyBefore_46 (fun c4 => ?_) (fun c4 => ?_)
    · have h := if_t c4 h
      exact S_X11_howManyBefore_92 (fun hR h => hkh hR h) (fun hR h => hkx98 hR h) hp hR h
    · have h := if_f c4 h
      refine t_aload (rfq_or _ _ _) DX11_howManyBefore_49 rfl ?_
      refine q_geti hx2 DX11_howManyBefore_51 fl_X11_307 hR ct_1100 hi3 rfl ?_
      refine r_if_eq DX11_howManyBefore_54 (fun c5 => ?_) (fun c5 => ?_)
      · have h := if_t c5 h
        exact S_X11_howManyBefore_92 (fun hR h => hkh hR h) (fun hR h => hkx98 hR h) hp hR h
      · have h := if_f c5 h
        refine t_aload (rfq_or _ _ _) DX11_howManyBefore_57 rfl ?_
        refine q_geti hx2 DX11_howManyBefore_59 fl_X11_310 hR ct_1100 hi3 rfl ?_
        refine t_aload_n (rfq_or _ _ _) DX11_howManyBefore_62 rfl ?_
        obtain ⟨⟨hx6, hi7⟩, h⟩ := gd_inv h
        refine q_geti hx6 DX11_howManyBefore_63 fl_X11_310 hR ct_1100 hi7 rfl ?_
        refine r_icmp_ne DX11_howManyBefore_66 (fun c8 => ?_) (fun c8 => ?_)
        · have h := if_f c8 h
          exact S_X11_howManyBefore_92 (fun hR h => hkh hR h) (fun hR h => hkx98 hR h) hp hR h
        · have h := if_t c8 h
          refine t_aload (rfq_or _ _ _) DX11_howManyBefore_69 rfl ?_
          refine t_aload_n (rfq_or _ _ _) DX11_howManyBefore_71 rfl ?_
          refine r_iload DX11_howManyBefore_72 rfl ?_
          refine r_iload_n DX11_howManyBefore_74 rfl ?_
          refine r_icmp_ge DX11_howManyBefore_75 (fun c9 => ?_) (fun c9 => ?_)
          · have h := if_t c9 h
            refine r_iconst (v := 0) DX11_howManyBefore_82 ki_0 ?_
            exact S_X11_howManyBefore_83 (fun hR h => hkh hR h) (fun hR h => hkx98 hR h) hp hR h
          · have h := if_f c9 h
            refine r_iconst (v := 1) DX11_howManyBefore_78 ki_1 ?_
            refine r_goto DX11_howManyBefore_79 ?_
            exact S_X11_howManyBefore_83 (fun hR h => hkh hR h) (fun hR h => hkx98 hR h) hp hR h
theorem SL_X11_howManyBefore_17 {E : EN} {X : CX} {P : Option Value → MH → Prop} {ad : AD} {fu : Nat} {out : Int32 × St} {kx98 : St → Int32 → RR} (hkx98 : ∀ {V : St} {M : MH} {x3 : Int32} {d0 : Option Value} {d1 : Option Value} {d2 : Option Value} {d4 : Option Value} {d5 : Option Value}, Rep E ad V M → kx98 V x3 = some out → G E X RX11 cX11_howManyBefore 6 (some .int) false (rmD 4) P M [d0, d1, d2, some (.int (x3)), d4, d5] 0 0 98 []) (hp : ∀ M, Rep E ad out.2 M → P (some (.int out.1)) M) : ∀ (n : Nat) {V : St} {M : MH} {x1 : Int32} {x2 : Int32} {x3 : Int32} {x4 : Int32} {d5 : Option Value}, Rep E ad V M → Lp_X11_howManyBefore_17 kx98 fu n V x1 x2 x3 x4 = some out → G E X RX11 cX11_howManyBefore 6 (some .int) false (rmD 4) P M [some (.ref (ad 2100 0)), some (.int (x1)), some (rfq ad 1100 (x2)), some (.int (x3)), some (.int (x4)), d5] 0 0 17 [] := by
  intro n
  induction n with
  | zero => intros; rename_i h; cases h
  | succ n ih => exact fun hR h => S_X11_howManyBefore_17 (fun hR h => ih hR h) (fun hR h => hkx98 hR h) hp hR h
theorem S_X11_howManyBefore_0 {E : EN} {X : CX} {P : Option Value → MH → Prop} {ad : AD} {fu : Nat} {out : Int32 × St} (hp : ∀ M, Rep E ad out.2 M → P (some (.int out.1)) M) {V : St} {M : MH} {x1 : Int32} (hR : Rep E ad V M) (h : f_X11_howManyBefore fu V x1 = some out) : G E X RX11 cX11_howManyBefore 6 (some .int) false (rmD 4) P M [some (.ref (ad 2100 0)), some (.int (x1)), none, none, none, none] 0 0 0 [] := by
  unfold f_X11_howManyBefore at h
  refine r_aload_n DX11_howManyBefore_0 rfl ?_
  refine s_geto DX11_howManyBefore_1 fl_X11_39 hR ct_2100 (one_cnt _) rfl ?_
  refine r_iload_n DX11_howManyBefore_4 rfl ?_
  obtain ⟨⟨hx1, hi2⟩, h⟩ := gd_inv h
  refine s_lget (Li := 2109) (g := 1100) DX11_howManyBefore_5 cv_X11_93 hR (by decide) hx1 hi2 (by decide) (Nat.le_of_ble_eq_true rfl) (fun M hR => ?_)
  refine q_cast hx1 DX11_howManyBefore_8 wd_1135 hR ct_1100 hi2 rfl ?_
  refine t_astore_n (L' := [some (.ref (ad 2100 0)), some (.int (x1)), some (rfq ad 1100 (x1)), none, none, none]) (rfq_or _ _ _) DX11_howManyBefore_11 (by decide) rfl ?_
  refine r_iconst (v := 0) DX11_howManyBefore_12 ki_0 ?_
  refine t_istore_n (L' := [some (.ref (ad 2100 0)), some (.int (x1)), some (rfq ad 1100 (x1)), some (.int ((0 : Int32))), none, none]) DX11_howManyBefore_13 (by decide) rfl ?_
  refine r_iconst (v := 0) DX11_howManyBefore_14 ki_0 ?_
  refine t_istore (L' := [some (.ref (ad 2100 0)), some (.int (x1)), some (rfq ad 1100 (x1)), some (.int ((0 : Int32))), some (.int ((0 : Int32))), none]) DX11_howManyBefore_15 (by decide) rfl ?_
  exact SL_X11_howManyBefore_17 (fun hR h => S_X11_howManyBefore_98 hp hR h) hp fu hR h
theorem C_X11_howManyBefore {E : EN} {ad : AD} {fu : Nat} {out : Int32 × St} {V : St} {M : MH} {x1 : Int32} (l : Launch) (hR : Rep E ad V M) (h : f_X11_howManyBefore fu V x1 = some out) : Ct E l yX11_howManyBefore cX11_howManyBefore 6 (some .int) (rmD 4) [.ref (ad 2100 0), .int (x1)] M (fun v M => v = (some (.int out.1)) ∧ Rep E ad out.2 M) :=
  Ct.of (own := RX11) (ini := false) (L := [some (.ref (ad 2100 0)), some (.int (x1)), none, none, none, none]) rfl rfl (fun h => by cases h) rfl (Nat.le_of_ble_eq_true rfl) rfl (fun X _ => S_X11_howManyBefore_0 (fun M hR => ⟨rfl, hR⟩) hR h)
