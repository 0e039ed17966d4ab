theorem S_X12_isSome_125 {E : EN} {X : CX} {P : Option Value → MH → Prop} {ad : AD} {fu : Nat} {out : Int32 × St} (hp : ∀ M, Rep E ad out.2 M → P (some (.int out.1)) M) {V : St} {M : MH} {d0 : Option Value} {d1 : Option Value} {d2 : Option Value} {d3 : Option Value} {d4 : Option Value} {d5 : Option Value} {d6 : Option Value} {d7 : Option Value} {d8 : Option Value} (hR : Rep E ad V M) (h : F_X12_isSome_125 fu V = some out) : G E X RX12 cX12_isSome 9 (some .boolean) false (rmD 4) P M [d0, d1, d2, d3, d4, d5, d6, d7, d8] 0 0 125 [] := by
  unfold F_X12_isSome_125 at h
  refine r_iconst (v := 0) DX12_isSome_125 ki_0 ?_
  cases h
  exact r_zret DX12_isSome_126 rfl rfl ⟨Nat.le_refl 0, Nat.le_refl 0⟩ (hp M hR)
theorem S_X12_isSome_119 {E : EN} {X : CX} {P : Option Value → MH → Prop} {ad : AD} {fu : Nat} {out : Int32 × St} {kh : St → Int32 → Int32 → Int32 → Int32 → RR} {kx99 : St → Int32 → Int32 → RR} {kx125 : St → RR} (hkh : ∀ {V : St} {M : MH} {x1 : Int32} {x4 : Int32} {x5 : Int32} {x6 : Int32} {d2 : Option Value} {d3 : Option Value} {d7 : Option Value} {d8 : Option Value}, Rep E ad V M → kh V x1 x4 x5 x6 = some out → G E X RX12 cX12_isSome 9 (some .boolean) false (rmD 4) P M [some (.ref (ad 2200 0)), some (.int (x1)), d2, d3, some (.int (x4)), some (.int (x5)), some (.int (x6)), d7, d8] 0 0 19 []) (hkx99 : ∀ {V : St} {M : MH} {x6 : Int32} {x7 : Int32} {d1 : Option Value} {d2 : Option Value} {d3 : Option Value} {d4 : Option Value} {d5 : Option Value} {d8 : Option Value}, Rep E ad V M → kx99 V x6 x7 = some out → G E X RX12 cX12_isSome 9 (some .boolean) false (rmD 4) P M [some (.ref (ad 2200 0)), d1, d2, d3, d4, d5, some (.int (x6)), some (.int (x7)), d8] 0 0 99 []) (hkx125 : ∀ {V : St} {M : MH} {d0 : Option Value} {d1 : Option Value} {d2 : Option Value} {d3 : Option Value} {d4 : Option Value} {d5 : Option Value} {d6 : Option Value} {d7 : Option Value} {d8 : Option Value}, Rep E ad V M → kx125 V  = some out → G E X RX12 cX12_isSome 9 (some .boolean) false (rmD 4) P M [d0, d1, d2, d3, d4, d5, d6, d7, d8] 0 0 125 []) (hp : ∀ M, Rep E ad out.2 M → P (some (.int out.1)) M) {V : St} {M : MH} {x1 : Int32} {x4 : Int32} {x5 : Int32} {x6 : Int32} {d2 : Option Value} {d3 : Option Value} {d7 : Option Value} {d8 : Option Value} (hR : Rep E ad V M) (h : F_X12_isSome_119 kh kx99 kx125 fu V x1 x4 x5 x6 = some out) : G E X RX12 cX12_isSome 9 (some .boolean) false (rmD 4) P M [some (.ref (ad 2200 0)), some (.int (x1)), d2, d3, some (.int (x4)), some (.int (x5)), some (.int (x6)), d7, d8] 0 0 119 [] := by
  unfold F_X12_isSome_119 at h
  refine t_iinc (v := 1) (L' := [some (.ref (ad 2200 0)), some (.int (x1)), d2, d3, some (.int (x4)), some (.int (x5)), some (.int (x6 + 1)), d7, d8]) DX12_isSome_119 rfl ki_1 (by decide) rfl ?_
  refine r_goto DX12_isSome_122 ?_
  exact hkh hR h
theorem S_X12_isSome_113 {E : EN} {X : CX} {P : Option Value → MH → Prop} {ad : AD} {fu : Nat} {out : Int32 × St} {kh : St → Int32 → Int32 → Int32 → Int32 → Int32 → RR} {kx99 : St → Int32 → Int32 → RR} {kx119 : St → Int32 → Int32 → Int32 → Int32 → RR} (hkh : ∀ {V : St} {M : MH} {x1 : Int32} {x4 : Int32} {x5 : Int32} {x6 : Int32} {x7 : Int32} {d2 : Option Value} {d3 : Option Value} {d8 : Option Value}, Rep E ad V M → kh V x1 x4 x5 x6 x7 = some out → G E X RX12 cX12_isSome 9 (some .boolean) false (rmD 4) P M [some (.ref (ad 2200 0)), some (.int (x1)), d2, d3, some (.int (x4)), some (.int (x5)), some (.int (x6)), some (.int (x7)), d8] 0 0 31 []) (hkx99 : ∀ {V : St} {M : MH} {x6 : Int32} {x7 : Int32} {d1 : Option Value} {d2 : Option Value} {d3 : Option Value} {d4 : Option Value} {d5 : Option Value} {d8 : Option Value}, Rep E ad V M → kx99 V x6 x7 = some out → G E X RX12 cX12_isSome 9 (some .boolean) false (rmD 4) P M [some (.ref (ad 2200 0)), d1, d2, d3, d4, d5, some (.int (x6)), some (.int (x7)), d8] 0 0 99 []) (hkx119 : ∀ {V : St} {M : MH} {x1 : Int32} {x4 : Int32} {x5 : Int32} {x6 : Int32} {d2 : Option Value} {d3 : Option Value} {d7 : Option Value} {d8 : Option Value}, Rep E ad V M → kx119 V x1 x4 x5 x6 = some out → G E X RX12 cX12_isSome 9 (some .boolean) false (rmD 4) P M [some (.ref (ad 2200 0)), some (.int (x1)), d2, d3, some (.int (x4)), some (.int (x5)), some (.int (x6)), d7, d8] 0 0 119 []) (hp : ∀ M, Rep E ad out.2 M → P (some (.int out.1)) M) {V : St} {M : MH} {x1 : Int32} {x4 : Int32} {x5 : Int32} {x6 : Int32} {x7 : Int32} {d2 : Option Value} {d3 : Option Value} {d8 : Option Value} (hR : Rep E ad V M) (h : F_X12_isSome_113 kh kx99 kx119 fu V x1 x4 x5 x6 x7 = some out) : G E X RX12 cX12_isSome 9 (some .boolean) false (rmD 4) P M [some (.ref (ad 2200 0)), some (.int (x1)), d2, d3, some (.int (x4)), some (.int (x5)), some (.int (x6)), some (.int (x7)), d8] 0 0 113 [] := by
  unfold F_X12_isSome_113 at h
  refine t_iinc (v := 1) (L' := [some (.ref (ad 2200 0)), some (.int (x1)), d2, d3, some (.int (x4)), some (.int (x5)), some (.int (x6)), some (.int (x7 + 1)), d8]) DX12_isSome_113 rfl ki_1 (by decide) rfl ?_
  refine r_goto DX12_isSome_116 ?_
  exact hkh hR h
theorem S_X12_isSome_99 {E : EN} {X : CX} {P : Option Value → MH → Prop} {ad : AD} {fu : Nat} {out : Int32 × St} (hp : ∀ M, Rep E ad out.2 M → P (some (.int out.1)) M) {V : St} {M : MH} {x6 : Int32} {x7 : Int32} {d1 : Option Value} {d2 : Option Value} {d3 : Option Value} {d4 : Option Value} {d5 : Option Value} {d8 : Option Value} (hR : Rep E ad V M) (h : F_X12_isSome_99 fu V x6 x7 = some out) : G E X RX12 cX12_isSome 9 (some .boolean) false (rmD 4) P M [some (.ref (ad 2200 0)), d1, d2, d3, d4, d5, some (.int (x6)), some (.int (x7)), d8] 0 0 99 [] := by
  unfold F_X12_isSome_99 at h
  refine r_aload_n DX12_isSome_99 rfl ?_
  refine r_iload DX12_isSome_100 rfl ?_
  obtain ⟨V1, hv2, h⟩ := bv_inv h
  refine s_puti DX12_isSome_102 fp_X12_424 hR oks_2273 ct_2200 (one_cnt _) rfl rfl rfl (fun M hR => ?_)
  have hR := hR.cg hv2
  refine r_aload_n DX12_isSome_105 rfl ?_
  refine r_iload DX12_isSome_106 rfl ?_
  obtain ⟨V3, hv4, h⟩ := bv_inv h
  refine s_puti DX12_isSome_108 fp_X12_427 hR oks_2274 ct_2200 (one_cnt _) rfl rfl rfl (fun M hR => ?_)
  have hR := hR.cg hv4
  refine r_iconst (v := 1) DX12_isSome_111 ki_1 ?_
  cases h
  exact r_zret DX12_isSome_112 rfl rfl ⟨Nat.le_refl 0, Nat.le_refl 0⟩ (hp M hR)
theorem S_X12_isSome_31 {E : EN} {X : CX} {P : Option Value → MH → Prop} {ad : AD} {fu : Nat} {out : Int32 × St} {kh : St → Int32 → Int32 → Int32 → Int32 → Int32 → RR} {kx99 : St → Int32 → Int32 → RR} {kx119 : St → Int32 → Int32 → Int32 → Int32 → RR} (hkh : ∀ {V : St} {M : MH} {x1 : Int32} {x4 : Int32} {x5 : Int32} {x6 : Int32} {x7 : Int32} {d2 : Option Value} {d3 : Option Value} {d8 : Option Value}, Rep E ad V M → kh V x1 x4 x5 x6 x7 = some out → G E X RX12 cX12_isSome 9 (some .boolean) false (rmD 4) P M [some (.ref (ad 2200 0)), some (.int (x1)), d2, d3, some (.int (x4)), some (.int (x5)), some (.int (x6)), some (.int (x7)), d8] 0 0 31 []) (hkx99 : ∀ {V : St} {M : MH} {x6 : Int32} {x7 : Int32} {d1 : Option Value} {d2 : Option Value} {d3 : Option Value} {d4 : Option Value} {d5 : Option Value} {d8 : Option Value}, Rep E ad V M → kx99 V x6 x7 = some out → G E X RX12 cX12_isSome 9 (some .boolean) false (rmD 4) P M [some (.ref (ad 2200 0)), d1, d2, d3, d4, d5, some (.int (x6)), some (.int (x7)), d8] 0 0 99 []) (hkx119 : ∀ {V : St} {M : MH} {x1 : Int32} {x4 : Int32} {x5 : Int32} {x6 : Int32} {d2 : Option Value} {d3 : Option Value} {d7 : Option Value} {d8 : Option Value}, Rep E ad V M → kx119 V x1 x4 x5 x6 = some out → G E X RX12 cX12_isSome 9 (some .boolean) false (rmD 4) P M [some (.ref (ad 2200 0)), some (.int (x1)), d2, d3, some (.int (x4)), some (.int (x5)), some (.int (x6)), d7, d8] 0 0 119 []) (hp : ∀ M, Rep E ad out.2 M → P (some (.int out.1)) M) {V : St} {M : MH} {x1 : Int32} {x4 : Int32} {x5 : Int32} {x6 : Int32} {x7 : Int32} {d2 : Option Value} {d3 : Option Value} {d8 : Option Value} (hR : Rep E ad V M) (h : F_X12_isSome_31 kh kx99 kx119 fu V x1 x4 x5 x6 x7 = some out) : G E X RX12 cX12_isSome 9 (some .boolean) false (rmD 4) P M [some (.ref (ad 2200 0)), some (.int (x1)), d2, d3, some (.int (x4)), some (.int (x5)), some (.int (x6)), some (.int (x7)), d8] 0 0 31 [] := by
  unfold F_X12_isSome_31 at h
  refine r_iload DX12_isSome_31 rfl ?_
  refine r_aload_n DX12_isSome_33 rfl ?_
  refine s_geta DX12_isSome_34 fl_X12_157 hR ct_2200 (one_cnt _) rfl ?_
  refine r_iload DX12_isSome_37 rfl ?_
  obtain ⟨hg1, h⟩ := gd_inv h
  refine s_iald DX12_isSome_39 hR ct_2264 (one_cnt _) hg1 ?_
  refine r_icmp_ge DX12_isSome_40 (fun c2 => ?_) (fun c2 => ?_)
  · have h := if_t c2 h
    exact hkx119 hR h
  · have h := if_f c2 h
    refine r_aload_n DX12_isSome_43 rfl ?_
    refine r_iload DX12_isSome_44 rfl ?_
    refine r_iload DX12_isSome_46 rfl ?_
    refine r_iload DX12_isSome_48 rfl ?_
    obtain ⟨r3, V4, hc5, h⟩ := bd_inv h
    refine k_callV (As := [.int (x6), .int (x4), .int (x5)]) (rest := []) (st1 := [.int (r3)]) (w := some (.int r3)) DX12_isSome_50 cv_X12_403 hR ct_2200 (one_cnt _) rfl (C_X12_isForce (out := (r3, V4)) (cxL X) hR hc5) rfl (by decide) (by decide) rfl (Nat.le_of_ble_eq_true rfl) rfl (fun M hR => ?_)
    refine r_if_eq DX12_isSome_53 (fun c6 => ?_) (fun c6 => ?_)
    · have h := if_t c6 h
      exact hkx119 hR h
    · have h := if_f c6 h
      refine r_bipush (v := 12) DX12_isSome_56 kb_12 ?_
      refine r_iload DX12_isSome_58 rfl ?_
      refine r_imul DX12_isSome_60 ?_
      refine r_iload DX12_isSome_61 rfl ?_
      refine r_iadd DX12_isSome_63 ?_
      refine t_istore (L' := [some (.ref (ad 2200 0)), some (.int (x1)), d2, d3, some (.int (x4)), some (.int (x5)), some (.int (x6)), some (.int (x7)), some (.int (((12 : Int32) * x6) + x7))]) DX12_isSome_64 (by decide) rfl ?_
      refine r_aload_n DX12_isSome_66 rfl ?_
      refine s_geta DX12_isSome_67 fl_X12_160 hR ct_2200 (one_cnt _) rfl ?_
      refine r_iload DX12_isSome_70 rfl ?_
      obtain ⟨hg7, h⟩ := gd_inv h
      refine s_iald DX12_isSome_72 hR ct_2265 (one_cnt _) hg7 ?_
      refine r_iload_n DX12_isSome_73 rfl ?_
      refine r_icmp_ne DX12_isSome_74 (fun c8 => ?_) (fun c8 => ?_)
      · have h := if_f c8 h
        exact S_X12_isSome_113 (fun hR h => hkh hR h) (fun hR h => hkx99 hR h) (fun hR h => hkx119 hR h) hp hR h
      · have h := if_t c8 h
        refine r_aload_n DX12_isSome_77 rfl ?_
        refine s_geta DX12_isSome_78 fl_X12_175 hR ct_2200 (one_cnt _) rfl ?_
        refine r_iload DX12_isSome_81 rfl ?_
        obtain ⟨hg9, h⟩ := gd_inv h
        refine s_zald DX12_isSome_83 hR ct_2270 (one_cnt _) hg9 ?_
        refine r_if_ne DX12_isSome_84 (fun c10 => ?_) (fun c10 => ?_)
        · have h := if_f c10 h
          exact S_X12_isSome_113 (fun hR h => hkh hR h) (fun hR h => hkx99 hR h) (fun hR h => hkx119 hR h) hp hR h
        · have h := if_t c10 h
          refine r_aload_n DX12_isSome_87 rfl ?_
          refine r_iload DX12_isSome_88 rfl ?_
          obtain ⟨r11, V12, hc13, h⟩ := bd_inv h
          refine k_callV (As := [.int (((12 : Int32) * x6) + x7)]) (rest := []) (st1 := [.int (r11)]) (w := some (.int r11)) DX12_isSome_90 cv_X12_417 hR ct_2200 (one_cnt _) rfl (C_X12_holds (out := (r11, V12)) (cxL X) hR hc13) rfl (by decide) (by decide) rfl (Nat.le_of_ble_eq_true rfl) rfl (fun M hR => ?_)
          refine r_if_ne DX12_isSome_93 (fun c14 => ?_) (fun c14 => ?_)
          · have h := if_f c14 h
            exact hkx99 hR h
          · have h := if_t c14 h
            refine r_goto DX12_isSome_96 ?_
            exact S_X12_isSome_113 (fun hR h => hkh hR h) (fun hR h => hkx99 hR h) (fun hR h => hkx119 hR h) hp hR h
theorem SL_X12_isSome_31 {E : EN} {X : CX} {P : Option Value → MH → Prop} {ad : AD} {fu : Nat} {out : Int32 × St} {kx99 : St → Int32 → Int32 → RR} {kx119 : St → Int32 → Int32 → Int32 → Int32 → RR} (hkx99 : ∀ {V : St} {M : MH} {x6 : Int32} {x7 : Int32} {d1 : Option Value} {d2 : Option Value} {d3 : Option Value} {d4 : Option Value} {d5 : Option Value} {d8 : Option Value}, Rep E ad V M → kx99 V x6 x7 = some out → G E X RX12 cX12_isSome 9 (some .boolean) false (rmD 4) P M [some (.ref (ad 2200 0)), d1, d2, d3, d4, d5, some (.int (x6)), some (.int (x7)), d8] 0 0 99 []) (hkx119 : ∀ {V : St} {M : MH} {x1 : Int32} {x4 : Int32} {x5 : Int32} {x6 : Int32} {d2 : Option Value} {d3 : Option Value} {d7 : Option Value} {d8 : Option Value}, Rep E ad V M → kx119 V x1 x4 x5 x6 = some out → G E X RX12 cX12_isSome 9 (some .boolean) false (rmD 4) P M [some (.ref (ad 2200 0)), some (.int (x1)), d2, d3, some (.int (x4)), some (.int (x5)), some (.int (x6)), d7, d8] 0 0 119 []) (hp : ∀ M, Rep E ad out.2 M → P (some (.int out.1)) M) : ∀ (n : Nat) {V : St} {M : MH} {x1 : Int32} {x4 : Int32} {x5 : Int32} {x6 : Int32} {x7 : Int32} {d2 : Option Value} {d3 : Option Value} {d8 : Option Value}, Rep E ad V M → Lp_X12_isSome_31 kx99 kx119 fu n V x1 x4 x5 x6 x7 = some out → G E X RX12 cX12_isSome 9 (some .boolean) false (rmD 4) P M [some (.ref (ad 2200 0)), some (.int (x1)), d2, d3, some (.int (x4)), some (.int (x5)), some (.int (x6)), some (.int (x7)), d8] 0 0 31 [] := by
  intro n
  induction n with
  | zero => intros; rename_i h; cases h
  | succ n ih => exact fun hR h => S_X12_isSome_31 (fun hR h => ih hR h) (fun hR h => hkx99 hR h) (fun hR h => hkx119 hR h) hp hR h
theorem S_X12_isSome_19 {E : EN} {X : CX} {P : Option Value → MH → Prop} {ad : AD} {fu : Nat} {out : Int32 × St} {kh : St → Int32 → Int32 → Int32 → Int32 → RR} {kx99 : St → Int32 → Int32 → RR} {kx125 : St → RR} (hkh : ∀ {V : St} {M : MH} {x1 : Int32} {x4 : Int32} {x5 : Int32} {x6 : Int32} {d2 : Option Value} {d3 : Option Value} {d7 : Option Value} {d8 : Option Value}, Rep E ad V M → kh V x1 x4 x5 x6 = some out → G E X RX12 cX12_isSome 9 (some .boolean) false (rmD 4) P M [some (.ref (ad 2200 0)), some (.int (x1)), d2, d3, some (.int (x4)), some (.int (x5)), some (.int (x6)), d7, d8] 0 0 19 []) (hkx99 : ∀ {V : St} {M : MH} {x6 : Int32} {x7 : Int32} {d1 : Option Value} {d2 : Option Value} {d3 : Option Value} {d4 : Option Value} {d5 : Option Value} {d8 : Option Value}, Rep E ad V M → kx99 V x6 x7 = some out → G E X RX12 cX12_isSome 9 (some .boolean) false (rmD 4) P M [some (.ref (ad 2200 0)), d1, d2, d3, d4, d5, some (.int (x6)), some (.int (x7)), d8] 0 0 99 []) (hkx125 : ∀ {V : St} {M : MH} {d0 : Option Value} {d1 : Option Value} {d2 : Option Value} {d3 : Option Value} {d4 : Option Value} {d5 : Option Value} {d6 : Option Value} {d7 : Option Value} {d8 : Option Value}, Rep E ad V M → kx125 V  = some out → G E X RX12 cX12_isSome 9 (some .boolean) false (rmD 4) P M [d0, d1, d2, d3, d4, d5, d6, d7, d8] 0 0 125 []) (hp : ∀ M, Rep E ad out.2 M → P (some (.int out.1)) M) {V : St} {M : MH} {x1 : Int32} {x4 : Int32} {x5 : Int32} {x6 : Int32} {d2 : Option Value} {d3 : Option Value} {d7 : Option Value} {d8 : Option Value} (hR : Rep E ad V M) (h : F_X12_isSome_19 kh kx99 kx125 fu V x1 x4 x5 x6 = some out) : G E X RX12 cX12_isSome 9 (some .boolean) false (rmD 4) P M [some (.ref (ad 2200 0)), some (.int (x1)), d2, d3, some (.int (x4)), some (.int (x5)), some (.int (x6)), d7, d8] 0 0 19 [] := by
  unfold F_X12_isSome_19 at h
  refine r_iload DX12_isSome_19 rfl ?_
  refine r_aload_n DX12_isSome_21 rfl ?_
  refine s_geti DX12_isSome_22 fl_X12_394 hR ct_2200 (one_cnt _) rfl ?_
  refine r_icmp_ge DX12_isSome_25 (fun c1 => ?_) (fun c1 => ?_)
  · have h := if_t c1 h
    exact hkx125 hR h
  · have h := if_f c1 h
    refine r_iconst (v := 0) DX12_isSome_28 ki_0 ?_
    refine t_istore (L' := [some (.ref (ad 2200 0)), some (.int (x1)), d2, d3, some (.int (x4)), some (.int (x5)), some (.int (x6)), some (.int ((0 : Int32))), d8]) DX12_isSome_29 (by decide) rfl ?_
    exact SL_X12_isSome_31 (fun hR h => hkx99 hR h) (fun hR h => S_X12_isSome_119 (fun hR h => hkh hR h) (fun hR h => hkx99 hR h) (fun hR h => hkx125 hR h) hp hR h) hp fu hR h
theorem SL_X12_isSome_19 {E : EN} {X : CX} {P : Option Value → MH → Prop} {ad : AD} {fu : Nat} {out : Int32 × St} {kx99 : St → Int32 → Int32 → RR} {kx125 : St → RR} (hkx99 : ∀ {V : St} {M : MH} {x6 : Int32} {x7 : Int32} {d1 : Option Value} {d2 : Option Value} {d3 : Option Value} {d4 : Option Value} {d5 : Option Value} {d8 : Option Value}, Rep E ad V M → kx99 V x6 x7 = some out → G E X RX12 cX12_isSome 9 (some .boolean) false (rmD 4) P M [some (.ref (ad 2200 0)), d1, d2, d3, d4, d5, some (.int (x6)), some (.int (x7)), d8] 0 0 99 []) (hkx125 : ∀ {V : St} {M : MH} {d0 : Option Value} {d1 : Option Value} {d2 : Option Value} {d3 : Option Value} {d4 : Option Value} {d5 : Option Value} {d6 : Option Value} {d7 : Option Value} {d8 : Option Value}, Rep E ad V M → kx125 V  = some out → G E X RX12 cX12_isSome 9 (some .boolean) false (rmD 4) P M [d0, d1, d2, d3, d4, d5, d6, d7, d8] 0 0 125 []) (hp : ∀ M, Rep E ad out.2 M → P (some (.int out.1)) M) : ∀ (n : Nat) {V : St} {M : MH} {x1 : Int32} {x4 : Int32} {x5 : Int32} {x6 : Int32} {d2 : Option Value} {d3 : Option Value} {d7 : Option Value} {d8 : Option Value}, Rep E ad V M → Lp_X12_isSome_19 kx99 kx125 fu n V x1 x4 x5 x6 = some out → G E X RX12 cX12_isSome 9 (some .boolean) false (rmD 4) P M [some (.ref (ad 2200 0)), some (.int (x1)), d2, d3, some (.int (x4)), some (.int (x5)), some (.int (x6)), d7, d8] 0 0 19 [] := by
  intro n
  induction n with
  | zero => intros; rename_i h; cases h
  | succ n ih => exact fun hR h => S_X12_isSome_19 (fun hR h => ih hR h) (fun hR h => hkx99 hR h) (fun hR h => hkx125 hR h) hp hR h
theorem S_X12_isSome_0 {E : EN} {X : CX} {P : Option Value → MH → Prop} {ad : AD} {fu : Nat} {out : Int32 × St} (hp : ∀ M, Rep E ad out.2 M → P (some (.int out.1)) M) {V : St} {M : MH} {x1 : Int32} {x2 : Int32} {x3 : Int32} {x4 : Int32} {x5 : Int32} (hR : Rep E ad V M) (h : f_X12_isSome fu V x1 x2 x3 x4 x5 = some out) : G E X RX12 cX12_isSome 9 (some .boolean) false (rmD 4) P M [some (.ref (ad 2200 0)), some (.int (x1)), some (.int (x2)), some (.int (x3)), some (.int (x4)), some (.int (x5)), none, none, none] 0 0 0 [] := by
  unfold f_X12_isSome at h
  refine r_aload_n DX12_isSome_0 rfl ?_
  refine r_iload DX12_isSome_1 rfl ?_
  refine r_iload DX12_isSome_3 rfl ?_
  obtain ⟨r1, V2, hc3, h⟩ := bd_inv h
  refine k_callV (As := [.int (x4), .int (x5)]) (rest := []) (st1 := []) (w := none) DX12_isSome_5 cv_X12_410 hR ct_2200 (one_cnt _) rfl (C_X12_strikes (out := (r1, V2)) (cxL X) hR hc3) rfl (by decide) (by decide) rfl (Nat.le_of_ble_eq_true rfl) rfl (fun M hR => ?_)
  refine r_aload_n DX12_isSome_8 rfl ?_
  refine r_iload_n DX12_isSome_9 rfl ?_
  refine r_iload_n DX12_isSome_10 rfl ?_
  refine r_iload DX12_isSome_11 rfl ?_
  obtain ⟨r4, V5, hc6, h⟩ := bd_inv h
  refine k_callV (As := [.int (x2), .int (x3), .int (x4)]) (rest := []) (st1 := []) (w := none) DX12_isSome_13 cv_X12_413 hR ct_2200 (one_cnt _) rfl (C_X12_setsFacts (out := (r4, V5)) (cxL X) hR hc6) rfl (by decide) (by decide) rfl (Nat.le_of_ble_eq_true rfl) rfl (fun M hR => ?_)
  refine r_iconst (v := 0) DX12_isSome_16 ki_0 ?_
  refine t_istore (L' := [some (.ref (ad 2200 0)), some (.int (x1)), some (.int (x2)), some (.int (x3)), some (.int (x4)), some (.int (x5)), some (.int ((0 : Int32))), none, none]) DX12_isSome_17 (by decide) rfl ?_
  exact SL_X12_isSome_19 (fun hR h => S_X12_isSome_99 hp hR h) (fun hR h => S_X12_isSome_125 hp hR h) hp fu hR h
theorem C_X12_isSome {E : EN} {ad : AD} {fu : Nat} {out : Int32 × St} {V : St} {M : MH} {x1 : Int32} {x2 : Int32} {x3 : Int32} {x4 : Int32} {x5 : Int32} (l : Launch) (hR : Rep E ad V M) (h : f_X12_isSome fu V x1 x2 x3 x4 x5 = some out) : Ct E l yX12_isSome cX12_isSome 9 (some .boolean) (rmD 4) [.ref (ad 2200 0), .int (x1), .int (x2), .int (x3), .int (x4), .int (x5)] M (fun v M => v = (some (.int out.1)) ∧ Rep E ad out.2 M) :=
  Ct.of (own := RX12) (ini := false) (L := [some (.ref (ad 2200 0)), some (.int (x1)), some (.int (x2)), some (.int (x3)), some (.int (x4)), some (.int (x5)), none, none, none]) rfl rfl (fun h => by cases h) rfl (Nat.le_of_ble_eq_true rfl) rfl (fun X _ => S_X12_isSome_0 (fun M hR => ⟨rfl, hR⟩) hR h)
theorem S_X12_beside_97 {E : EN} {X : CX} {P : Option Value → MH → Prop} {ad : AD} {fu : Nat} {out : Int32 × St} (hp : ∀ M, Rep E ad out.2 M → P (some (.int out.1)) M) {V : St} {M : MH} {x2 : Int32} {d1 : Option Value} {d3 : Option Value} {d4 : Option Value} {d5 : Option Value} (hR : Rep E ad V M) (h : F_X12_beside_97 fu V x2 = some out) : G E X RX12 cX12_beside 6 (some .int) false (rmD 5) P M [some (.ref (ad 2200 0)), d1, some (.int (x2)), d3, d4, d5] 0 0 97 [] := by
  unfold F_X12_beside_97 at h
  refine r_aload_n DX12_beside_97 rfl ?_
  refine r_iconst (v := -1) DX12_beside_98 ki_m1 ?_
  obtain ⟨V1, hv2, h⟩ := bv_inv h
  refine s_puti DX12_beside_99 fp_X12_141 hR oks_2259 ct_2200 (one_cnt _) rfl rfl rfl (fun M hR => ?_)
  have hR := hR.cg hv2
  refine r_iload_n DX12_beside_102 rfl ?_
  cases h
  exact r_iret DX12_beside_103 rfl ⟨Nat.le_refl 0, Nat.le_refl 0⟩ (hp M hR)
theorem S_X12_beside_86 {E : EN} {X : CX} {P : Option Value → MH → Prop} {ad : AD} {fu : Nat} {out : Int32 × St} {kh : St → Int32 → Int32 → RR} {kx97 : St → Int32 → RR} (hkh : ∀ {V : St} {M : MH} {x2 : Int32} {x3 : Int32} {d1 : Option Value} {d4 : Option Value} {d5 : Option Value}, Rep E ad V M → kh V x2 x3 = some out → G E X RX12 cX12_beside 6 (some .int) false (rmD 5) P M [some (.ref (ad 2200 0)), d1, some (.int (x2)), some (.int (x3)), d4, d5] 0 0 25 []) (hkx97 : ∀ {V : St} {M : MH} {x2 : Int32} {d1 : Option Value} {d3 : Option Value} {d4 : Option Value} {d5 : Option Value}, Rep E ad V M → kx97 V x2 = some out → G E X RX12 cX12_beside 6 (some .int) false (rmD 5) P M [some (.ref (ad 2200 0)), d1, some (.int (x2)), d3, d4, d5] 0 0 97 []) (hp : ∀ M, Rep E ad out.2 M → P (some (.int out.1)) M) {V : St} {M : MH} {x2 : Int32} {x3 : Int32} {x4 : Int32} {d1 : Option Value} {d5 : Option Value} (hR : Rep E ad V M) (h : F_X12_beside_86 kh kx97 fu V x2 x3 x4 = some out) : G E X RX12 cX12_beside 6 (some .int) false (rmD 5) P M [some (.ref (ad 2200 0)), d1, some (.int (x2)), some (.int (x3)), some (.int (x4)), d5] 0 0 86 [] := by
  unfold F_X12_beside_86 at h
  refine r_iload_n DX12_beside_86 rfl ?_
  refine r_iload DX12_beside_87 rfl ?_
  refine r_iadd DX12_beside_89 ?_
  refine t_istore_n (L' := [some (.ref (ad 2200 0)), d1, some (.int (x2 + x4)), some (.int (x3)), some (.int (x4)), d5]) DX12_beside_90 (by decide) rfl ?_
  refine t_iinc (v := 1) (L' := [some (.ref (ad 2200 0)), d1, some (.int (x2 + x4)), some (.int (x3 + 1)), some (.int (x4)), d5]) DX12_beside_91 rfl ki_1 (by decide) rfl ?_
  refine r_goto DX12_beside_94 ?_
  exact hkh hR h
theorem S_X12_beside_78 {E : EN} {X : CX} {P : Option Value → MH → Prop} {ad : AD} {fu : Nat} {out : Int32 × St} {kh : St → Int32 → Int32 → Int32 → Int32 → RR} {kx86 : St → Int32 → Int32 → Int32 → RR} (hkh : ∀ {V : St} {M : MH} {x2 : Int32} {x3 : Int32} {x4 : Int32} {x5 : Int32} {d1 : Option Value}, Rep E ad V M → kh V x2 x3 x4 x5 = some out → G E X RX12 cX12_beside 6 (some .int) false (rmD 5) P M [some (.ref (ad 2200 0)), d1, some (.int (x2)), some (.int (x3)), some (.int (x4)), some (.int (x5))] 0 0 39 []) (hkx86 : ∀ {V : St} {M : MH} {x2 : Int32} {x3 : Int32} {x4 : Int32} {d1 : Option Value} {d5 : Option Value}, Rep E ad V M → kx86 V x2 x3 x4 = some out → G E X RX12 cX12_beside 6 (some .int) false (rmD 5) P M [some (.ref (ad 2200 0)), d1, some (.int (x2)), some (.int (x3)), some (.int (x4)), d5] 0 0 86 []) (hp : ∀ M, Rep E ad out.2 M → P (some (.int out.1)) M) {V : St} {M : MH} {x2 : Int32} {x3 : Int32} {x5 : Int32} {s0 : Int32} {d1 : Option Value} {d4 : Option Value} (hR : Rep E ad V M) (h : F_X12_beside_78 kh kx86 fu V x2 x3 x5 s0 = some out) : G E X RX12 cX12_beside 6 (some .int) false (rmD 5) P M [some (.ref (ad 2200 0)), d1, some (.int (x2)), some (.int (x3)), d4, some (.int (x5))] 0 0 78 [.int (s0)] := by
  unfold F_X12_beside_78 at h
  refine t_istore (L' := [some (.ref (ad 2200 0)), d1, some (.int (x2)), some (.int (x3)), some (.int (s0)), some (.int (x5))]) DX12_beside_78 (by decide) rfl ?_
  refine t_iinc (v := 1) (L' := [some (.ref (ad 2200 0)), d1, some (.int (x2)), some (.int (x3)), some (.int (s0)), some (.int (x5 + 1))]) DX12_beside_80 rfl ki_1 (by decide) rfl ?_
  refine r_goto DX12_beside_83 ?_
  exact hkh hR h
theorem S_X12_beside_39 {E : EN} {X : CX} {P : Option Value → MH → Prop} {ad : AD} {fu : Nat} {out : Int32 × St} {kh : St → Int32 → Int32 → Int32 → Int32 → RR} {kx86 : St → Int32 → Int32 → Int32 → RR} (hkh : ∀ {V : St} {M : MH} {x2 : Int32} {x3 : Int32} {x4 : Int32} {x5 : Int32} {d1 : Option Value}, Rep E ad V M → kh V x2 x3 x4 x5 = some out → G E X RX12 cX12_beside 6 (some .int) false (rmD 5) P M [some (.ref (ad 2200 0)), d1, some (.int (x2)), some (.int (x3)), some (.int (x4)), some (.int (x5))] 0 0 39 []) (hkx86 : ∀ {V : St} {M : MH} {x2 : Int32} {x3 : Int32} {x4 : Int32} {d1 : Option Value} {d5 : Option Value}, Rep E ad V M → kx86 V x2 x3 x4 = some out → G E X RX12 cX12_beside 6 (some .int) false (rmD 5) P M [some (.ref (ad 2200 0)), d1, some (.int (x2)), some (.int (x3)), some (.int (x4)), d5] 0 0 86 []) (hp : ∀ M, Rep E ad out.2 M → P (some (.int out.1)) M) {V : St} {M : MH} {x2 : Int32} {x3 : Int32} {x4 : Int32} {x5 : Int32} {d1 : Option Value} (hR : Rep E ad V M) (h : F_X12_beside_39 kh kx86 fu V x2 x3 x4 x5 = some out) : G E X RX12 cX12_beside 6 (some .int) false (rmD 5) P M [some (.ref (ad 2200 0)), d1, some (.int (x2)), some (.int (x3)), some (.int (x4)), some (.int (x5))] 0 0 39 [] := by
  unfold F_X12_beside_39 at h
  refine r_iload DX12_beside_39 rfl ?_
  refine r_aload_n DX12_beside_41 rfl ?_
  refine s_geti DX12_beside_42 fl_X12_291 hR ct_2200 (one_cnt _) rfl ?_
  refine r_icmp_ge DX12_beside_45 (fun c1 => ?_) (fun c1 => ?_)
  · have h := if_t c1 h
    exact hkx86 hR h
  · have h := if_f c1 h
    refine r_iload DX12_beside_48 rfl ?_
    refine r_if_ne DX12_beside_50 (fun c2 => ?_) (fun c2 => ?_)
    · have h := if_f c2 h
      exact hkx86 hR h
    · have h := if_t c2 h
      refine r_aload_n DX12_beside_53 rfl ?_
      refine r_bipush (v := 98) DX12_beside_54 kb_98 ?_
      refine r_iload_n DX12_beside_56 rfl ?_
      refine r_iload DX12_beside_57 rfl ?_
      refine r_aload_n DX12_beside_59 rfl ?_
      refine s_geti DX12_beside_60 fl_X12_400 hR ct_2200 (one_cnt _) rfl ?_
      refine r_aload_n DX12_beside_63 rfl ?_
      refine s_geti DX12_beside_64 fl_X12_400 hR ct_2200 (one_cnt _) rfl ?_
      obtain ⟨r3, V4, hc5, h⟩ := bd_inv h
      refine k_callV (As := [.int ((98 : Int32)), .int (x3), .int (x5), .int ((V 2201 0 0)), .int ((V 2201 0 0))]) (rest := []) (st1 := [.int (r3)]) (w := some (.int r3)) DX12_beside_67 cv_X12_433 hR ct_2200 (one_cnt _) rfl (C_X12_isSome (out := (r3, V4)) (cxL X) hR hc5) rfl (by decide) (by decide) rfl (Nat.le_of_ble_eq_true rfl) rfl (fun M hR => ?_)
      refine r_if_eq DX12_beside_70 (fun c6 => ?_) (fun c6 => ?_)
      · have h := if_t c6 h
        refine r_iconst (v := 1) DX12_beside_77 ki_1 ?_
        exact S_X12_beside_78 (fun hR h => hkh hR h) (fun hR h => hkx86 hR h) hp hR h
      · have h := if_f c6 h
        refine r_iconst (v := 0) DX12_beside_73 ki_0 ?_
        refine r_goto DX12_beside_74 ?_
        exact S_X12_beside_78 (fun hR h => hkh hR h) (fun hR h => hkx86 hR h) hp hR h
theorem SL_X12_beside_39 {E : EN} {X : CX} {P : Option Value → MH → Prop} {ad : AD} {fu : Nat} {out : Int32 × St} {kx86 : St → Int32 → Int32 → Int32 → RR} (hkx86 : ∀ {V : St} {M : MH} {x2 : Int32} {x3 : Int32} {x4 : Int32} {d1 : Option Value} {d5 : Option Value}, Rep E ad V M → kx86 V x2 x3 x4 = some out → G E X RX12 cX12_beside 6 (some .int) false (rmD 5) P M [some (.ref (ad 2200 0)), d1, some (.int (x2)), some (.int (x3)), some (.int (x4)), d5] 0 0 86 []) (hp : ∀ M, Rep E ad out.2 M → P (some (.int out.1)) M) : ∀ (n : Nat) {V : St} {M : MH} {x2 : Int32} {x3 : Int32} {x4 : Int32} {x5 : Int32} {d1 : Option Value}, Rep E ad V M → Lp_X12_beside_39 kx86 fu n V x2 x3 x4 x5 = some out → G E X RX12 cX12_beside 6 (some .int) false (rmD 5) P M [some (.ref (ad 2200 0)), d1, some (.int (x2)), some (.int (x3)), some (.int (x4)), some (.int (x5))] 0 0 39 [] := by
  intro n
  induction n with
  | zero => intros; rename_i h; cases h
  | succ n ih => exact fun hR h => S_X12_beside_39 (fun hR h => ih hR h) (fun hR h => hkx86 hR h) hp hR h
theorem S_X12_beside_25 {E : EN} {X : CX} {P : Option Value → MH → Prop} {ad : AD} {fu : Nat} {out : Int32 × St} {kh : St → Int32 → Int32 → RR} {kx97 : St → Int32 → RR} (hkh : ∀ {V : St} {M : MH} {x2 : Int32} {x3 : Int32} {d1 : Option Value} {d4 : Option Value} {d5 : Option Value}, Rep E ad V M → kh V x2 x3 = some out → G E X RX12 cX12_beside 6 (some .int) false (rmD 5) P M [some (.ref (ad 2200 0)), d1, some (.int (x2)), some (.int (x3)), d4, d5] 0 0 25 []) (hkx97 : ∀ {V : St} {M : MH} {x2 : Int32} {d1 : Option Value} {d3 : Option Value} {d4 : Option Value} {d5 : Option Value}, Rep E ad V M → kx97 V x2 = some out → G E X RX12 cX12_beside 6 (some .int) false (rmD 5) P M [some (.ref (ad 2200 0)), d1, some (.int (x2)), d3, d4, d5] 0 0 97 []) (hp : ∀ M, Rep E ad out.2 M → P (some (.int out.1)) M) {V : St} {M : MH} {x2 : Int32} {x3 : Int32} {d1 : Option Value} {d4 : Option Value} {d5 : Option Value} (hR : Rep E ad V M) (h : F_X12_beside_25 kh kx97 fu V x2 x3 = some out) : G E X RX12 cX12_beside 6 (some .int) false (rmD 5) P M [some (.ref (ad 2200 0)), d1, some (.int (x2)), some (.int (x3)), d4, d5] 0 0 25 [] := by
  unfold F_X12_beside_25 at h
  refine r_iload_n DX12_beside_25 rfl ?_
  refine r_aload_n DX12_beside_26 rfl ?_
  refine s_geti DX12_beside_27 fl_X12_242 hR ct_2200 (one_cnt _) rfl ?_
  refine r_icmp_ge DX12_beside_30 (fun c1 => ?_) (fun c1 => ?_)
  · have h := if_t c1 h
    exact hkx97 hR h
  · have h := if_f c1 h
    refine r_iconst (v := 0) DX12_beside_33 ki_0 ?_
    refine t_istore (L' := [some (.ref (ad 2200 0)), d1, some (.int (x2)), some (.int (x3)), some (.int ((0 : Int32))), d5]) DX12_beside_34 (by decide) rfl ?_
    refine r_iconst (v := 0) DX12_beside_36 ki_0 ?_
    refine t_istore (L' := [some (.ref (ad 2200 0)), d1, some (.int (x2)), some (.int (x3)), some (.int ((0 : Int32))), some (.int ((0 : Int32)))]) DX12_beside_37 (by decide) rfl ?_
    exact SL_X12_beside_39 (fun hR h => S_X12_beside_86 (fun hR h => hkh hR h) (fun hR h => hkx97 hR h) hp hR h) hp fu hR h
theorem SL_X12_beside_25 {E : EN} {X : CX} {P : Option Value → MH → Prop} {ad : AD} {fu : Nat} {out : Int32 × St} {kx97 : St → Int32 → RR} (hkx97 : ∀ {V : St} {M : MH} {x2 : Int32} {d1 : Option Value} {d3 : Option Value} {d4 : Option Value} {d5 : Option Value}, Rep E ad V M → kx97 V x2 = some out → G E X RX12 cX12_beside 6 (some .int) false (rmD 5) P M [some (.ref (ad 2200 0)), d1, some (.int (x2)), d3, d4, d5] 0 0 97 []) (hp : ∀ M, Rep E ad out.2 M → P (some (.int out.1)) M) : ∀ (n : Nat) {V : St} {M : MH} {x2 : Int32} {x3 : Int32} {d1 : Option Value} {d4 : Option Value} {d5 : Option Value}, Rep E ad V M → Lp_X12_beside_25 kx97 fu n V x2 x3 = some out → G E X RX12 cX12_beside 6 (some .int) false (rmD 5) P M [some (.ref (ad 2200 0)), d1, some (.int (x2)), some (.int (x3)), d4, d5] 0 0 25 [] := by
  intro n
  induction n with
  | zero => intros; rename_i h; cases h
  | succ n ih => exact fun hR h => S_X12_beside_25 (fun hR h => ih hR h) (fun hR h => hkx97 hR h) hp hR h
theorem S_X12_beside_0 {E : EN} {X : CX} {P : Option Value → MH → Prop} {ad : AD} {fu : Nat} {out : Int32 × St} (hp : ∀ M, Rep E ad out.2 M → P (some (.int out.1)) M) {V : St} {M : MH} {x1 : Int32} (hR : Rep E ad V M) (h : f_X12_beside fu V x1 = some out) : G E X RX12 cX12_beside 6 (some .int) false (rmD 5) P M [some (.ref (ad 2200 0)), some (.int (x1)), none, none, none, none] 0 0 0 [] := by
  unfold f_X12_beside at h
  refine r_iload_n DX12_beside_0 rfl ?_
  refine r_iconst (v := -1) DX12_beside_1 ki_m1 ?_
  refine r_aload_n DX12_beside_2 rfl ?_
  refine s_geti DX12_beside_3 fl_X12_394 hR ct_2200 (one_cnt _) rfl ?_
  refine r_iconst (v := 1) DX12_beside_6 ki_1 ?_
  refine r_isub DX12_beside_7 ?_
  obtain ⟨r1, V2, hc3, h⟩ := bd_inv h
  refine k_callS (As := [.int (x1), .int ((-1 : Int32)), .int ((V 2258 0 0) - (1 : Int32))]) (rest := []) (st1 := [.int (r1)]) (w := some (.int r1)) DX12_beside_8 cs_X12_245 (C_X12_in (out := (r1, V2)) (cxL X) hR hc3) rfl (by decide) (by decide) rfl (Nat.le_of_ble_eq_true rfl) rfl (fun M hR => ?_)
  refine r_if_ne DX12_beside_11 (fun c4 => ?_) (fun c4 => ?_)
  · have h := if_f c4 h
    refine r_aload_n DX12_beside_16 rfl ?_
    refine r_iload_n DX12_beside_17 rfl ?_
    obtain ⟨V5, hv6, h⟩ := bv_inv h
    refine s_puti DX12_beside_18 fp_X12_141 hR oks_2259 ct_2200 (one_cnt _) rfl rfl rfl (fun M hR => ?_)
    have hR := hR.cg hv6
    refine r_iconst (v := 0) DX12_beside_21 ki_0 ?_
    refine t_istore_n (L' := [some (.ref (ad 2200 0)), some (.int (x1)), some (.int ((0 : Int32))), none, none, none]) DX12_beside_22 (by decide) rfl ?_
    refine r_iconst (v := 0) DX12_beside_23 ki_0 ?_
    refine t_istore_n (L' := [some (.ref (ad 2200 0)), some (.int (x1)), some (.int ((0 : Int32))), some (.int ((0 : Int32))), none, none]) DX12_beside_24 (by decide) rfl ?_
    exact SL_X12_beside_25 (fun hR h => S_X12_beside_97 hp hR h) hp fu hR h
  · have h := if_t c4 h
    refine r_iconst (v := -1) DX12_beside_14 ki_m1 ?_
    cases h
    exact r_iret DX12_beside_15 rfl ⟨Nat.le_refl 0, Nat.le_refl 0⟩ (hp M hR)
theorem C_X12_beside {E : EN} {ad : AD} {fu : Nat} {out : Int32 × St} {V : St} {M : MH} {x1 : Int32} (l : Launch) (hR : Rep E ad V M) (h : f_X12_beside fu V x1 = some out) : Ct E l yX12_beside cX12_beside 6 (some .int) (rmD 5) [.ref (ad 2200 0), .int (x1)] M (fun v M => v = (some (.int out.1)) ∧ Rep E ad out.2 M) :=
  Ct.of (own := RX12) (ini := false) (L := [some (.ref (ad 2200 0)), some (.int (x1)), none, none, none, none]) rfl rfl (fun h => by cases h) rfl (Nat.le_of_ble_eq_true rfl) rfl (fun X _ => S_X12_beside_0 (fun M hR => ⟨rfl, hR⟩) hR h)
theorem S_X12_isPerson_17 {E : EN} {X : CX} {P : Option Value → MH → Prop} {ad : AD} {fu : Nat} {out : Int32 × St} (hp : ∀ M, Rep E ad out.2 M → P (some (.int out.1)) M) {V : St} {M : MH} {s0 : Int32} {d0 : Option Value} {d1 : Option Value} (hR : Rep E ad V M) (h : F_X12_isPerson_17 fu V s0 = some out) : G E X RX12 cX12_isPerson 2 (some .boolean) false (rmD 1) P M [d0, d1] 0 0 17 [.int (s0)] := by
  unfold F_X12_isPerson_17 at h
  obtain ⟨hz1, h⟩ := gd_inv h
  cases h
  exact r_zret DX12_isPerson_17 rfl (nz_nar hz1) ⟨Nat.le_refl 0, Nat.le_refl 0⟩ (hp M hR)
theorem S_X12_isPerson_16 {E : EN} {X : CX} {P : Option Value → MH → Prop} {ad : AD} {fu : Nat} {out : Int32 × St} (hp : ∀ M, Rep E ad out.2 M → P (some (.int out.1)) M) {V : St} {M : MH} {d0 : Option Value} {d1 : Option Value} (hR : Rep E ad V M) (h : F_X12_isPerson_16 fu V = some out) : G E X RX12 cX12_isPerson 2 (some .boolean) false (rmD 1) P M [d0, d1] 0 0 16 [] := by
  unfold F_X12_isPerson_16 at h
  refine r_iconst (v := 0) DX12_isPerson_16 ki_0 ?_
  exact S_X12_isPerson_17 hp hR h
theorem S_X12_isPerson_0 {E : EN} {X : CX} {P : Option Value → MH → Prop} {ad : AD} {fu : Nat} {out : Int32 × St} (hp : ∀ M, Rep E ad out.2 M → P (some (.int out.1)) M) {V : St} {M : MH} {x1 : Int32} (hR : Rep E ad V M) (h : f_X12_isPerson fu V x1 = some out) : G E X RX12 cX12_isPerson 2 (some .boolean) false (rmD 1) P M [some (.ref (ad 2200 0)), some (.int (x1))] 0 0 0 [] := by
  unfold f_X12_isPerson at h
  refine r_iload_n DX12_isPerson_0 rfl ?_
  refine r_if_lt DX12_isPerson_1 (fun c1 => ?_) (fun c1 => ?_)
  · have h := if_t c1 h
    exact S_X12_isPerson_16 hp hR h
  · have h := if_f c1 h
    refine r_iload_n DX12_isPerson_4 rfl ?_
    refine r_aload_n DX12_isPerson_5 rfl ?_
    refine s_geti DX12_isPerson_6 fl_X12_440 hR ct_2200 (one_cnt _) rfl ?_
    refine r_icmp_ge DX12_isPerson_9 (fun c2 => ?_) (fun c2 => ?_)
    · have h := if_t c2 h
      exact S_X12_isPerson_16 hp hR h
    · have h := if_f c2 h
      refine r_iconst (v := 1) DX12_isPerson_12 ki_1 ?_
      refine r_goto DX12_isPerson_13 ?_
      exact S_X12_isPerson_17 hp hR h
theorem C_X12_isPerson {E : EN} {ad : AD} {fu : Nat} {out : Int32 × St} {V : St} {M : MH} {x1 : Int32} (l : Launch) (hR : Rep E ad V M) (h : f_X12_isPerson fu V x1 = some out) : Ct E l yX12_isPerson cX12_isPerson 2 (some .boolean) (rmD 1) [.ref (ad 2200 0), .int (x1)] M (fun v M => v = (some (.int out.1)) ∧ Rep E ad out.2 M) :=
  Ct.of (own := RX12) (ini := false) (L := [some (.ref (ad 2200 0)), some (.int (x1))]) rfl rfl (fun h => by cases h) rfl (Nat.le_of_ble_eq_true rfl) rfl (fun X _ => S_X12_isPerson_0 (fun M hR => ⟨rfl, hR⟩) hR h)
theorem S_X12_bombed_73 {E : EN} {X : CX} {P : Option Value → MH → Prop} {ad : AD} {fu : Nat} {out : Int32 × St} (hp : ∀ M, Rep E ad out.2 M → P (some (.int out.1)) M) {V : St} {M : MH} {x2 : Int32} {d0 : Option Value} {d1 : Option Value} {d3 : Option Value} (hR : Rep E ad V M) (h : F_X12_bombed_73 fu V x2 = some out) : G E X RX12 cX12_bombed 4 (some .int) false (rmD 2) P M [d0, d1, some (.int (x2)), d3] 0 0 73 [] := by
  unfold F_X12_bombed_73 at h
  refine r_iload_n DX12_bombed_73 rfl ?_
  cases h
  exact r_iret DX12_bombed_74 rfl ⟨Nat.le_refl 0, Nat.le_refl 0⟩ (hp M hR)
theorem S_X12_bombed_67 {E : EN} {X : CX} {P : Option Value → MH → Prop} {ad : AD} {fu : Nat} {out : Int32 × St} {kh : St → Int32 → Int32 → Int32 → RR} {kx73 : St → Int32 → RR} (hkh : ∀ {V : St} {M : MH} {x1 : Int32} {x2 : Int32} {x3 : Int32}, Rep E ad V M → kh V x1 x2 x3 = some out → G E X RX12 cX12_bombed 4 (some .int) false (rmD 2) P M [some (.ref (ad 2200 0)), some (.int (x1)), some (.int (x2)), some (.int (x3))] 0 0 14 []) (hkx73 : ∀ {V : St} {M : MH} {x2 : Int32} {d0 : Option Value} {d1 : Option Value} {d3 : Option Value}, Rep E ad V M → kx73 V x2 = some out → G E X RX12 cX12_bombed 4 (some .int) false (rmD 2) P M [d0, d1, some (.int (x2)), d3] 0 0 73 []) (hp : ∀ M, Rep E ad out.2 M → P (some (.int out.1)) M) {V : St} {M : MH} {x1 : Int32} {x2 : Int32} {x3 : Int32} (hR : Rep E ad V M) (h : F_X12_bombed_67 kh kx73 fu V x1 x2 x3 = some out) : G E X RX12 cX12_bombed 4 (some .int) false (rmD 2) P M [some (.ref (ad 2200 0)), some (.int (x1)), some (.int (x2)), some (.int (x3))] 0 0 67 [] := by
  unfold F_X12_bombed_67 at h
  refine t_iinc (v := 1) (L' := [some (.ref (ad 2200 0)), some (.int (x1)), some (.int (x2)), some (.int (x3 + 1))]) DX12_bombed_67 rfl ki_1 (by decide) rfl ?_
  refine r_goto DX12_bombed_70 ?_
  exact hkh hR h
theorem S_X12_bombed_14 {E : EN} {X : CX} {P : Option Value → MH → Prop} {ad : AD} {fu : Nat} {out : Int32 × St} {kh : St → Int32 → Int32 → Int32 → RR} {kx73 : St → Int32 → RR} (hkh : ∀ {V : St} {M : MH} {x1 : Int32} {x2 : Int32} {x3 : Int32}, Rep E ad V M → kh V x1 x2 x3 = some out → G E X RX12 cX12_bombed 4 (some .int) false (rmD 2) P M [some (.ref (ad 2200 0)), some (.int (x1)), some (.int (x2)), some (.int (x3))] 0 0 14 []) (hkx73 : ∀ {V : St} {M : MH} {x2 : Int32} {d0 : Option Value} {d1 : Option Value} {d3 : Option Value}, Rep E ad V M → kx73 V x2 = some out → G E X RX12 cX12_bombed 4 (some .int) false (rmD 2) P M [d0, d1, some (.int (x2)), d3] 0 0 73 []) (hp : ∀ M, Rep E ad out.2 M → P (some (.int out.1)) M) {V : St} {M : MH} {x1 : Int32} {x2 : Int32} {x3 : Int32} (hR : Rep E ad V M) (h : F_X12_bombed_14 kh kx73 fu V x1 x2 x3 = some out) : G E X RX12 cX12_bombed 4 (some .int) false (rmD 2) P M [some (.ref (ad 2200 0)), some (.int (x1)), some (.int (x2)), some (.int (x3))] 0 0 14 [] := by
  unfold F_X12_bombed_14 at h
  refine r_iload_n DX12_bombed_14 rfl ?_
  refine r_aload_n DX12_bombed_15 rfl ?_
  refine s_geti DX12_bombed_16 fl_X12_449 hR ct_2200 (one_cnt _) rfl ?_
  refine r_icmp_ge DX12_bombed_19 (fun c1 => ?_) (fun c1 => ?_)
  · have h := if_t c1 h
    exact hkx73 hR h
  · have h := if_f c1 h
    refine r_aload_n DX12_bombed_22 rfl ?_
    refine s_geta DX12_bombed_23 fl_X12_197 hR ct_2200 (one_cnt _) rfl ?_
    refine r_iload_n DX12_bombed_26 rfl ?_
    obtain ⟨hg2, h⟩ := gd_inv h
    refine s_iald DX12_bombed_27 hR ct_2281 (one_cnt _) hg2 ?_
    refine r_iload_n DX12_bombed_28 rfl ?_
    refine r_icmp_ne DX12_bombed_29 (fun c3 => ?_) (fun c3 => ?_)
    · have h := if_f c3 h
      exact S_X12_bombed_67 (fun hR h => hkh hR h) (fun hR h => hkx73 hR h) hp hR h
    · have h := if_t c3 h
      refine r_aload_n DX12_bombed_32 rfl ?_
      refine s_geta DX12_bombed_33 fl_X12_209 hR ct_2200 (one_cnt _) rfl ?_
      refine r_iload_n DX12_bombed_36 rfl ?_
      obtain ⟨hg4, h⟩ := gd_inv h
      refine s_zald DX12_bombed_37 hR ct_2285 (one_cnt _) hg4 ?_
      refine r_if_eq DX12_bombed_38 (fun c5 => ?_) (fun c5 => ?_)
      · have h := if_t c5 h
        exact S_X12_bombed_67 (fun hR h => hkh hR h) (fun hR h => hkx73 hR h) hp hR h
      · have h := if_f c5 h
        refine r_aload_n DX12_bombed_41 rfl ?_
        refine s_geta DX12_bombed_42 fl_X12_206 hR ct_2200 (one_cnt _) rfl ?_
        refine r_iload_n DX12_bombed_45 rfl ?_
        obtain ⟨hg6, h⟩ := gd_inv h
        refine s_iald DX12_bombed_46 hR ct_2284 (one_cnt _) hg6 ?_
        refine r_bipush (v := 99) DX12_bombed_47 kb_99 ?_
        refine r_icmp_ne DX12_bombed_49 (fun c7 => ?_) (fun c7 => ?_)
        · have h := if_f c7 h
          refine r_aload_n DX12_bombed_55 rfl ?_
          refine s_geta DX12_bombed_56 fl_X12_206 hR ct_2200 (one_cnt _) rfl ?_
          refine r_iload_n DX12_bombed_59 rfl ?_
          refine r_bipush (v := 99) DX12_bombed_60 kb_99 ?_
          obtain ⟨hg8, h⟩ := gd_inv h
          obtain ⟨V9, hv10, h⟩ := bv_inv h
          refine s_iast DX12_bombed_62 hR oka_2284 ct_2284 (one_cnt _) hg8 (fun M hR => ?_)
          have hR := hR.cg hv10
          refine r_iload_n DX12_bombed_63 rfl ?_
          refine r_iconst (v := 1) DX12_bombed_64 ki_1 ?_
          refine r_iadd DX12_bombed_65 ?_
          refine t_istore_n (L' := [some (.ref (ad 2200 0)), some (.int (x1)), some (.int (x2 + (1 : Int32))), some (.int (x3))]) DX12_bombed_66 (by decide) rfl ?_
          exact S_X12_bombed_67 (fun hR h => hkh hR h) (fun hR h => hkx73 hR h) hp hR h
        · have h := if_t c7 h
          refine r_goto DX12_bombed_52 ?_
          exact S_X12_bombed_67 (fun hR h => hkh hR h) (fun hR h => hkx73 hR h) hp hR h
theorem SL_X12_bombed_14 {E : EN} {X : CX} {P : Option Value → MH → Prop} {ad : AD} {fu : Nat} {out : Int32 × St} {kx73 : St → Int32 → RR} (hkx73 : ∀ {V : St} {M : MH} {x2 : Int32} {d0 : Option Value} {d1 : Option Value} {d3 : Option Value}, Rep E ad V M → kx73 V x2 = some out → G E X RX12 cX12_bombed 4 (some .int) false (rmD 2) P M [d0, d1, some (.int (x2)), d3] 0 0 73 []) (hp : ∀ M, Rep E ad out.2 M → P (some (.int out.1)) M) : ∀ (n : Nat) {V : St} {M : MH} {x1 : Int32} {x2 : Int32} {x3 : Int32}, Rep E ad V M → Lp_X12_bombed_14 kx73 fu n V x1 x2 x3 = some out → G E X RX12 cX12_bombed 4 (some .int) false (rmD 2) P M [some (.ref (ad 2200 0)), some (.int (x1)), some (.int (x2)), some (.int (x3))] 0 0 14 [] := by
  intro n
  induction n with
  | zero => intros; rename_i h; cases h
  | succ n ih => exact fun hR h => S_X12_bombed_14 (fun hR h => ih hR h) (fun hR h => hkx73 hR h) hp hR h
theorem S_X12_bombed_0 {E : EN} {X : CX} {P : Option Value → MH → Prop} {ad : AD} {fu : Nat} {out : Int32 × St} (hp : ∀ M, Rep E ad out.2 M → P (some (.int out.1)) M) {V : St} {M : MH} {x1 : Int32} (hR : Rep E ad V M) (h : f_X12_bombed fu V x1 = some out) : G E X RX12 cX12_bombed 4 (some .int) false (rmD 2) P M [some (.ref (ad 2200 0)), some (.int (x1)), none, none] 0 0 0 [] := by
  unfold f_X12_bombed at h
  refine r_aload_n DX12_bombed_0 rfl ?_
  refine r_iload_n DX12_bombed_1 rfl ?_
  obtain ⟨r1, V2, hc3, h⟩ := bd_inv h
  refine k_callV (As := [.int (x1)]) (rest := []) (st1 := [.int (r1)]) (w := some (.int r1)) DX12_bombed_2 cv_X12_443 hR ct_2200 (one_cnt _) rfl (C_X12_isPerson (out := (r1, V2)) (cxL X) hR hc3) rfl (by decide) (by decide) rfl (Nat.le_of_ble_eq_true rfl) rfl (fun M hR => ?_)
  refine r_if_ne DX12_bombed_5 (fun c4 => ?_) (fun c4 => ?_)
  · have h := if_f c4 h
    refine r_iconst (v := 0) DX12_bombed_10 ki_0 ?_
    refine t_istore_n (L' := [some (.ref (ad 2200 0)), some (.int (x1)), some (.int ((0 : Int32))), none]) DX12_bombed_11 (by decide) rfl ?_
    refine r_iconst (v := 0) DX12_bombed_12 ki_0 ?_
    refine t_istore_n (L' := [some (.ref (ad 2200 0)), some (.int (x1)), some (.int ((0 : Int32))), some (.int ((0 : Int32)))]) DX12_bombed_13 (by decide) rfl ?_
    exact SL_X12_bombed_14 (fun hR h => S_X12_bombed_73 hp hR h) hp fu hR h
  · have h := if_t c4 h
    refine r_iconst (v := -1) DX12_bombed_8 ki_m1 ?_
    cases h
    exact r_iret DX12_bombed_9 rfl ⟨Nat.le_refl 0, Nat.le_refl 0⟩ (hp M hR)
theorem C_X12_bombed {E : EN} {ad : AD} {fu : Nat} {out : Int32 × St} {V : St} {M : MH} {x1 : Int32} (l : Launch) (hR : Rep E ad V M) (h : f_X12_bombed fu V x1 = some out) : Ct E l yX12_bombed cX12_bombed 4 (some .int) (rmD 2) [.ref (ad 2200 0), .int (x1)] M (fun v M => v = (some (.int out.1)) ∧ Rep E ad out.2 M) :=
  Ct.of (own := RX12) (ini := false) (L := [some (.ref (ad 2200 0)), some (.int (x1)), none, none]) rfl rfl (fun h => by cases h) rfl (Nat.le_of_ble_eq_true rfl) rfl (fun X _ => S_X12_bombed_0 (fun M hR => ⟨rfl, hR⟩) hR h)
theorem S_X12_isThing_17 {E : EN} {X : CX} {P : Option Value → MH → Prop} {ad : AD} {fu : Nat} {out : Int32 × St} (hp : ∀ M, Rep E ad out.2 M → P (some (.int out.1)) M) {V : St} {M : MH} {s0 : Int32} {d0 : Option Value} {d1 : Option Value} (hR : Rep E ad V M) (h : F_X12_isThing_17 fu V s0 = some out) : G E X RX12 cX12_isThing 2 (some .boolean) false (rmD 1) P M [d0, d1] 0 0 17 [.int (s0)] := by
  unfold F_X12_isThing_17 at h
  obtain ⟨hz1, h⟩ := gd_inv h
  cases h
  exact r_zret DX12_isThing_17 rfl (nz_nar hz1) ⟨Nat.le_refl 0, Nat.le_refl 0⟩ (hp M hR)
theorem S_X12_isThing_16 {E : EN} {X : CX} {P : Option Value → MH → Prop} {ad : AD} {fu : Nat} {out : Int32 × St} (hp : ∀ M, Rep E ad out.2 M → P (some (.int out.1)) M) {V : St} {M : MH} {d0 : Option Value} {d1 : Option Value} (hR : Rep E ad V M) (h : F_X12_isThing_16 fu V = some out) : G E X RX12 cX12_isThing 2 (some .boolean) false (rmD 1) P M [d0, d1] 0 0 16 [] := by
  unfold F_X12_isThing_16 at h
  refine r_iconst (v := 0) DX12_isThing_16 ki_0 ?_
  exact S_X12_isThing_17 hp hR h
theorem S_X12_isThing_0 {E : EN} {X : CX} {P : Option Value → MH → Prop} {ad : AD} {fu : Nat} {out : Int32 × St} (hp : ∀ M, Rep E ad out.2 M → P (some (.int out.1)) M) {V : St} {M : MH} {x1 : Int32} (hR : Rep E ad V M) (h : f_X12_isThing fu V x1 = some out) : G E X RX12 cX12_isThing 2 (some .boolean) false (rmD 1) P M [some (.ref (ad 2200 0)), some (.int (x1))] 0 0 0 [] := by
  unfold f_X12_isThing at h
  refine r_iload_n DX12_isThing_0 rfl ?_
  refine r_if_lt DX12_isThing_1 (fun c1 => ?_) (fun c1 => ?_)
  · have h := if_t c1 h
    exact S_X12_isThing_16 hp hR h
  · have h := if_f c1 h
    refine r_iload_n DX12_isThing_4 rfl ?_
    refine r_aload_n DX12_isThing_5 rfl ?_
    refine s_geti DX12_isThing_6 fl_X12_242 hR ct_2200 (one_cnt _) rfl ?_
    refine r_icmp_ge DX12_isThing_9 (fun c2 => ?_) (fun c2 => ?_)
    · have h := if_t c2 h
      exact S_X12_isThing_16 hp hR h
    · have h := if_f c2 h
      refine r_iconst (v := 1) DX12_isThing_12 ki_1 ?_
      refine r_goto DX12_isThing_13 ?_
      exact S_X12_isThing_17 hp hR h
theorem C_X12_isThing {E : EN} {ad : AD} {fu : Nat} {out : Int32 × St} {V : St} {M : MH} {x1 : Int32} (l : Launch) (hR : Rep E ad V M) (h : f_X12_isThing fu V x1 = some out) : Ct E l yX12_isThing cX12_isThing 2 (some .boolean) (rmD 1) [.ref (ad 2200 0), .int (x1)] M (fun v M => v = (some (.int out.1)) ∧ Rep E ad out.2 M) :=
  Ct.of (own := RX12) (ini := false) (L := [some (.ref (ad 2200 0)), some (.int (x1))]) rfl rfl (fun h => by cases h) rfl (Nat.le_of_ble_eq_true rfl) rfl (fun X _ => S_X12_isThing_0 (fun M hR => ⟨rfl, hR⟩) hR h)
theorem S_X12_numberBy_118 {E : EN} {X : CX} {P : Option Value → MH → Prop} {ad : AD} {fu : Nat} {out : Int32 × St} (hp : ∀ M, Rep E ad out.2 M → P (some (.int out.1)) M) {V : St} {M : MH} {d0 : Option Value} {d1 : Option Value} {d2 : Option Value} {d3 : Option Value} {d4 : Option Value} {d5 : Option Value} {d6 : Option Value} {d7 : Option Value} {d8 : Option Value} (hR : Rep E ad V M) (h : F_X12_numberBy_118 fu V = some out) : G E X RX12 cX12_numberBy 9 (some .int) false (rmD 4) P M [d0, d1, d2, d3, d4, d5, d6, d7, d8] 0 0 118 [] := by
  unfold F_X12_numberBy_118 at h
  refine r_iconst (v := -1) DX12_numberBy_118 ki_m1 ?_
  cases h
  exact r_iret DX12_numberBy_119 rfl ⟨Nat.le_refl 0, Nat.le_refl 0⟩ (hp M hR)
theorem S_X12_numberBy_112 {E : EN} {X : CX} {P : Option Value → MH → Prop} {ad : AD} {fu : Nat} {out : Int32 × St} {kh : St → Int32 → Int32 → Int32 → Int32 → RR} {kx98 : St → Int32 → RR} {kx118 : St → RR} (hkh : ∀ {V : St} {M : MH} {x1 : Int32} {x4 : Int32} {x5 : Int32} {x6 : Int32} {d2 : Option Value} {d3 : Option Value} {d7 : Option Value} {d8 : Option Value}, Rep E ad V M → kh V x1 x4 x5 x6 = some out → G E X RX12 cX12_numberBy 9 (some .int) false (rmD 4) P M [some (.ref (ad 2200 0)), some (.int (x1)), d2, d3, some (.int (x4)), some (.int (x5)), some (.int (x6)), d7, d8] 0 0 24 []) (hkx98 : ∀ {V : St} {M : MH} {x8 : Int32} {d1 : Option Value} {d2 : Option Value} {d3 : Option Value} {d4 : Option Value} {d5 : Option Value} {d6 : Option Value} {d7 : Option Value}, Rep E ad V M → kx98 V x8 = some out → G E X RX12 cX12_numberBy 9 (some .int) false (rmD 4) P M [some (.ref (ad 2200 0)), d1, d2, d3, d4, d5, d6, d7, some (.int (x8))] 0 0 98 []) (hkx118 : ∀ {V : St} {M : MH} {d0 : Option Value} {d1 : Option Value} {d2 : Option Value} {d3 : Option Value} {d4 : Option Value} {d5 : Option Value} {d6 : Option Value} {d7 : Option Value} {d8 : Option Value}, Rep E ad V M → kx118 V  = some out → G E X RX12 cX12_numberBy 9 (some .int) false (rmD 4) P M [d0, d1, d2, d3, d4, d5, d6, d7, d8] 0 0 118 []) (hp : ∀ M, Rep E ad out.2 M → P (some (.int out.1)) M) {V : St} {M : MH} {x1 : Int32} {x4 : Int32} {x5 : Int32} {x6 : Int32} {d2 : Option Value} {d3 : Option Value} {d7 : Option Value} {d8 : Option Value} (hR : Rep E ad V M) (h : F_X12_numberBy_112 kh kx98 kx118 fu V x1 x4 x5 x6 = some out) : G E X RX12 cX12_numberBy 9 (some .int) false (rmD 4) P M [some (.ref (ad 2200 0)), some (.int (x1)), d2, d3, some (.int (x4)), some (.int (x5)), some (.int (x6)), d7, d8] 0 0 112 [] := by
  unfold F_X12_numberBy_112 at h
  refine t_iinc (v := -1) (L' := [some (.ref (ad 2200 0)), some (.int (x1)), d2, d3, some (.int (x4)), some (.int (x5)), some (.int (x6 + (-1))), d7, d8]) DX12_numberBy_112 rfl ki_m1 (by decide) rfl ?_
  refine r_goto DX12_numberBy_115 ?_
  exact hkh hR h
theorem S_X12_numberBy_106 {E : EN} {X : CX} {P : Option Value → MH → Prop} {ad : AD} {fu : Nat} {out : Int32 × St} {kh : St → Int32 → Int32 → Int32 → Int32 → Int32 → RR} {kx98 : St → Int32 → RR} {kx112 : St → Int32 → Int32 → Int32 → Int32 → RR} (hkh : ∀ {V : St} {M : MH} {x1 : Int32} {x4 : Int32} {x5 : Int32} {x6 : Int32} {x7 : Int32} {d2 : Option Value} {d3 : Option Value} {d8 : Option Value}, Rep E ad V M → kh V x1 x4 x5 x6 x7 = some out → G E X RX12 cX12_numberBy 9 (some .int) false (rmD 4) P M [some (.ref (ad 2200 0)), some (.int (x1)), d2, d3, some (.int (x4)), some (.int (x5)), some (.int (x6)), some (.int (x7)), d8] 0 0 40 []) (hkx98 : ∀ {V : St} {M : MH} {x8 : Int32} {d1 : Option Value} {d2 : Option Value} {d3 : Option Value} {d4 : Option Value} {d5 : Option Value} {d6 : Option Value} {d7 : Option Value}, Rep E ad V M → kx98 V x8 = some out → G E X RX12 cX12_numberBy 9 (some .int) false (rmD 4) P M [some (.ref (ad 2200 0)), d1, d2, d3, d4, d5, d6, d7, some (.int (x8))] 0 0 98 []) (hkx112 : ∀ {V : St} {M : MH} {x1 : Int32} {x4 : Int32} {x5 : Int32} {x6 : Int32} {d2 : Option Value} {d3 : Option Value} {d7 : Option Value} {d8 : Option Value}, Rep E ad V M → kx112 V x1 x4 x5 x6 = some out → G E X RX12 cX12_numberBy 9 (some .int) false (rmD 4) P M [some (.ref (ad 2200 0)), some (.int (x1)), d2, d3, some (.int (x4)), some (.int (x5)), some (.int (x6)), d7, d8] 0 0 112 []) (hp : ∀ M, Rep E ad out.2 M → P (some (.int out.1)) M) {V : St} {M : MH} {x1 : Int32} {x4 : Int32} {x5 : Int32} {x6 : Int32} {x7 : Int32} {d2 : Option Value} {d3 : Option Value} {d8 : Option Value} (hR : Rep E ad V M) (h : F_X12_numberBy_106 kh kx98 kx112 fu V x1 x4 x5 x6 x7 = some out) : G E X RX12 cX12_numberBy 9 (some .int) false (rmD 4) P M [some (.ref (ad 2200 0)), some (.int (x1)), d2, d3, some (.int (x4)), some (.int (x5)), some (.int (x6)), some (.int (x7)), d8] 0 0 106 [] := by
  unfold F_X12_numberBy_106 at h
  refine t_iinc (v := -1) (L' := [some (.ref (ad 2200 0)), some (.int (x1)), d2, d3, some (.int (x4)), some (.int (x5)), some (.int (x6)), some (.int (x7 + (-1))), d8]) DX12_numberBy_106 rfl ki_m1 (by decide) rfl ?_
  refine r_goto DX12_numberBy_109 ?_
  exact hkh hR h
theorem S_X12_numberBy_98 {E : EN} {X : CX} {P : Option Value → MH → Prop} {ad : AD} {fu : Nat} {out : Int32 × St} (hp : ∀ M, Rep E ad out.2 M → P (some (.int out.1)) M) {V : St} {M : MH} {x8 : Int32} {d1 : Option Value} {d2 : Option Value} {d3 : Option Value} {d4 : Option Value} {d5 : Option Value} {d6 : Option Value} {d7 : Option Value} (hR : Rep E ad V M) (h : F_X12_numberBy_98 fu V x8 = some out) : G E X RX12 cX12_numberBy 9 (some .int) false (rmD 4) P M [some (.ref (ad 2200 0)), d1, d2, d3, d4, d5, d6, d7, some (.int (x8))] 0 0 98 [] := by
  unfold F_X12_numberBy_98 at h
  refine r_aload_n DX12_numberBy_98 rfl ?_
  refine s_geta DX12_numberBy_99 fl_X12_169 hR ct_2200 (one_cnt _) rfl ?_
  refine r_iload DX12_numberBy_102 rfl ?_
  obtain ⟨hg1, h⟩ := gd_inv h
  refine s_iald DX12_numberBy_104 hR ct_2268 (one_cnt _) hg1 ?_
  cases h
  exact r_iret DX12_numberBy_105 rfl ⟨Nat.le_refl 0, Nat.le_refl 0⟩ (hp M hR)
theorem S_X12_numberBy_40 {E : EN} {X : CX} {P : Option Value → MH → Prop} {ad : AD} {fu : Nat} {out : Int32 × St} {kh : St → Int32 → Int32 → Int32 → Int32 → Int32 → RR} {kx98 : St → Int32 → RR} {kx112 : St → Int32 → Int32 → Int32 → Int32 → RR} (hkh : ∀ {V : St} {M : MH} {x1 : Int32} {x4 : Int32} {x5 : Int32} {x6 : Int32} {x7 : Int32} {d2 : Option Value} {d3 : Option Value} {d8 : Option Value}, Rep E ad V M → kh V x1 x4 x5 x6 x7 = some out → G E X RX12 cX12_numberBy 9 (some .int) false (rmD 4) P M [some (.ref (ad 2200 0)), some (.int (x1)), d2, d3, some (.int (x4)), some (.int (x5)), some (.int (x6)), some (.int (x7)), d8] 0 0 40 []) (hkx98 : ∀ {V : St} {M : MH} {x8 : Int32} {d1 : Option Value} {d2 : Option Value} {d3 : Option Value} {d4 : Option Value} {d5 : Option Value} {d6 : Option Value} {d7 : Option Value}, Rep E ad V M → kx98 V x8 = some out → G E X RX12 cX12_numberBy 9 (some .int) false (rmD 4) P M [some (.ref (ad 2200 0)), d1, d2, d3, d4, d5, d6, d7, some (.int (x8))] 0 0 98 []) (hkx112 : ∀ {V : St} {M : MH} {x1 : Int32} {x4 : Int32} {x5 : Int32} {x6 : Int32} {d2 : Option Value} {d3 : Option Value} {d7 : Option Value} {d8 : Option Value}, Rep E ad V M → kx112 V x1 x4 x5 x6 = some out → G E X RX12 cX12_numberBy 9 (some .int) false (rmD 4) P M [some (.ref (ad 2200 0)), some (.int (x1)), d2, d3, some (.int (x4)), some (.int (x5)), some (.int (x6)), d7, d8] 0 0 112 []) (hp : ∀ M, Rep E ad out.2 M → P (some (.int out.1)) M) {V : St} {M : MH} {x1 : Int32} {x4 : Int32} {x5 : Int32} {x6 : Int32} {x7 : Int32} {d2 : Option Value} {d3 : Option Value} {d8 : Option Value} (hR : Rep E ad V M) (h : F_X12_numberBy_40 kh kx98 kx112 fu V x1 x4 x5 x6 x7 = some out) : G E X RX12 cX12_numberBy 9 (some .int) false (rmD 4) P M [some (.ref (ad 2200 0)), some (.int (x1)), d2, d3, some (.int (x4)), some (.int (x5)), some (.int (x6)), some (.int (x7)), d8] 0 0 40 [] := by
  unfold F_X12_numberBy_40 at h
  refine r_iload DX12_numberBy_40 rfl ?_
  refine r_if_lt DX12_numberBy_42 (fun c1 => ?_) (fun c1 => ?_)
  · have h := if_t c1 h
    exact hkx112 hR h
  · have h := if_f c1 h
    refine r_aload_n DX12_numberBy_45 rfl ?_
    refine r_iload DX12_numberBy_46 rfl ?_
    refine r_iload DX12_numberBy_48 rfl ?_
    refine r_iload DX12_numberBy_50 rfl ?_
    obtain ⟨r2, V3, hc4, h⟩ := bd_inv h
    refine k_callV (As := [.int (x6), .int (x4), .int (x5)]) (rest := []) (st1 := [.int (r2)]) (w := some (.int r2)) DX12_numberBy_52 cv_X12_403 hR ct_2200 (one_cnt _) rfl (C_X12_isForce (out := (r2, V3)) (cxL X) hR hc4) rfl (by decide) (by decide) rfl (Nat.le_of_ble_eq_true rfl) rfl (fun M hR => ?_)
    refine r_if_eq DX12_numberBy_55 (fun c5 => ?_) (fun c5 => ?_)
    · have h := if_t c5 h
      exact hkx112 hR h
    · have h := if_f c5 h
      refine r_bipush (v := 12) DX12_numberBy_58 kb_12 ?_
      refine r_iload DX12_numberBy_60 rfl ?_
      refine r_imul DX12_numberBy_62 ?_
      refine r_iload DX12_numberBy_63 rfl ?_
      refine r_iadd DX12_numberBy_65 ?_
      refine t_istore (L' := [some (.ref (ad 2200 0)), some (.int (x1)), d2, d3, some (.int (x4)), some (.int (x5)), some (.int (x6)), some (.int (x7)), some (.int (((12 : Int32) * x6) + x7))]) DX12_numberBy_66 (by decide) rfl ?_
      refine r_aload_n DX12_numberBy_68 rfl ?_
      refine s_geta DX12_numberBy_69 fl_X12_160 hR ct_2200 (one_cnt _) rfl ?_
      refine r_iload DX12_numberBy_72 rfl ?_
      obtain ⟨hg6, h⟩ := gd_inv h
      refine s_iald DX12_numberBy_74 hR ct_2265 (one_cnt _) hg6 ?_
      refine r_iload_n DX12_numberBy_75 rfl ?_
      refine r_icmp_ne DX12_numberBy_76 (fun c7 => ?_) (fun c7 => ?_)
      · have h := if_f c7 h
        exact S_X12_numberBy_106 (fun hR h => hkh hR h) (fun hR h => hkx98 hR h) (fun hR h => hkx112 hR h) hp hR h
      · have h := if_t c7 h
        refine r_aload_n DX12_numberBy_79 rfl ?_
        refine s_geta DX12_numberBy_80 fl_X12_175 hR ct_2200 (one_cnt _) rfl ?_
        refine r_iload DX12_numberBy_83 rfl ?_
        obtain ⟨hg8, h⟩ := gd_inv h
        refine s_zald DX12_numberBy_85 hR ct_2270 (one_cnt _) hg8 ?_
        refine r_if_ne DX12_numberBy_86 (fun c9 => ?_) (fun c9 => ?_)
        · have h := if_f c9 h
          exact S_X12_numberBy_106 (fun hR h => hkh hR h) (fun hR h => hkx98 hR h) (fun hR h => hkx112 hR h) hp hR h
        · have h := if_t c9 h
          refine r_aload_n DX12_numberBy_89 rfl ?_
          refine r_iload DX12_numberBy_90 rfl ?_
          obtain ⟨r10, V11, hc12, h⟩ := bd_inv h
          refine k_callV (As := [.int (((12 : Int32) * x6) + x7)]) (rest := []) (st1 := [.int (r10)]) (w := some (.int r10)) DX12_numberBy_92 cv_X12_417 hR ct_2200 (one_cnt _) rfl (C_X12_holds (out := (r10, V11)) (cxL X) hR hc12) rfl (by decide) (by decide) rfl (Nat.le_of_ble_eq_true rfl) rfl (fun M hR => ?_)
          refine r_if_eq DX12_numberBy_95 (fun c13 => ?_) (fun c13 => ?_)
          · have h := if_t c13 h
            exact S_X12_numberBy_106 (fun hR h => hkh hR h) (fun hR h => hkx98 hR h) (fun hR h => hkx112 hR h) hp hR h
          · have h := if_f c13 h
            exact hkx98 hR h
theorem SL_X12_numberBy_40 {E : EN} {X : CX} {P : Option Value → MH → Prop} {ad : AD} {fu : Nat} {out : Int32 × St} {kx98 : St → Int32 → RR} {kx112 : St → Int32 → Int32 → Int32 → Int32 → RR} (hkx98 : ∀ {V : St} {M : MH} {x8 : Int32} {d1 : Option Value} {d2 : Option Value} {d3 : Option Value} {d4 : Option Value} {d5 : Option Value} {d6 : Option Value} {d7 : Option Value}, Rep E ad V M → kx98 V x8 = some out → G E X RX12 cX12_numberBy 9 (some .int) false (rmD 4) P M [some (.ref (ad 2200 0)), d1, d2, d3, d4, d5, d6, d7, some (.int (x8))] 0 0 98 []) (hkx112 : ∀ {V : St} {M : MH} {x1 : Int32} {x4 : Int32} {x5 : Int32} {x6 : Int32} {d2 : Option Value} {d3 : Option Value} {d7 : Option Value} {d8 : Option Value}, Rep E ad V M → kx112 V x1 x4 x5 x6 = some out → G E X RX12 cX12_numberBy 9 (some .int) false (rmD 4) P M [some (.ref (ad 2200 0)), some (.int (x1)), d2, d3, some (.int (x4)), some (.int (x5)), some (.int (x6)), d7, d8] 0 0 112 []) (hp : ∀ M, Rep E ad out.2 M → P (some (.int out.1)) M) : ∀ (n : Nat) {V : St} {M : MH} {x1 : Int32} {x4 : Int32} {x5 : Int32} {x6 : Int32} {x7 : Int32} {d2 : Option Value} {d3 : Option Value} {d8 : Option Value}, Rep E ad V M → Lp_X12_numberBy_40 kx98 kx112 fu n V x1 x4 x5 x6 x7 = some out → G E X RX12 cX12_numberBy 9 (some .int) false (rmD 4) P M [some (.ref (ad 2200 0)), some (.int (x1)), d2, d3, some (.int (x4)), some (.int (x5)), some (.int (x6)), some (.int (x7)), d8] 0 0 40 [] := by
  intro n
  induction n with
  | zero => intros; rename_i h; cases h
  | succ n ih => exact fun hR h => S_X12_numberBy_40 (fun hR h => ih hR h) (fun hR h => hkx98 hR h) (fun hR h => hkx112 hR h) hp hR h
theorem S_X12_numberBy_24 {E : EN} {X : CX} {P : Option Value → MH → Prop} {ad : AD} {fu : Nat} {out : Int32 × St} {kh : St → Int32 → Int32 → Int32 → Int32 → RR} {kx98 : St → Int32 → RR} {kx118 : St → RR} (hkh : ∀ {V : St} {M : MH} {x1 : Int32} {x4 : Int32} {x5 : Int32} {x6 : Int32} {d2 : Option Value} {d3 : Option Value} {d7 : Option Value} {d8 : Option Value}, Rep E ad V M → kh V x1 x4 x5 x6 = some out → G E X RX12 cX12_numberBy 9 (some .int) false (rmD 4) P M [some (.ref (ad 2200 0)), some (.int (x1)), d2, d3, some (.int (x4)), some (.int (x5)), some (.int (x6)), d7, d8] 0 0 24 []) (hkx98 : ∀ {V : St} {M : MH} {x8 : Int32} {d1 : Option Value} {d2 : Option Value} {d3 : Option Value} {d4 : Option Value} {d5 : Option Value} {d6 : Option Value} {d7 : Option Value}, Rep E ad V M → kx98 V x8 = some out → G E X RX12 cX12_numberBy 9 (some .int) false (rmD 4) P M [some (.ref (ad 2200 0)), d1, d2, d3, d4, d5, d6, d7, some (.int (x8))] 0 0 98 []) (hkx118 : ∀ {V : St} {M : MH} {d0 : Option Value} {d1 : Option Value} {d2 : Option Value} {d3 : Option Value} {d4 : Option Value} {d5 : Option Value} {d6 : Option Value} {d7 : Option Value} {d8 : Option Value}, Rep E ad V M → kx118 V  = some out → G E X RX12 cX12_numberBy 9 (some .int) false (rmD 4) P M [d0, d1, d2, d3, d4, d5, d6, d7, d8] 0 0 118 []) (hp : ∀ M, Rep E ad out.2 M → P (some (.int out.1)) M) {V : St} {M : MH} {x1 : Int32} {x4 : Int32} {x5 : Int32} {x6 : Int32} {d2 : Option Value} {d3 : Option Value} {d7 : Option Value} {d8 : Option Value} (hR : Rep E ad V M) (h : F_X12_numberBy_24 kh kx98 kx118 fu V x1 x4 x5 x6 = some out) : G E X RX12 cX12_numberBy 9 (some .int) false (rmD 4) P M [some (.ref (ad 2200 0)), some (.int (x1)), d2, d3, some (.int (x4)), some (.int (x5)), some (.int (x6)), d7, d8] 0 0 24 [] := by
  unfold F_X12_numberBy_24 at h
  refine r_iload DX12_numberBy_24 rfl ?_
  refine r_if_lt DX12_numberBy_26 (fun c1 => ?_) (fun c1 => ?_)
  · have h := if_t c1 h
    exact hkx118 hR h
  · have h := if_f c1 h
    refine r_aload_n DX12_numberBy_29 rfl ?_
    refine s_geta DX12_numberBy_30 fl_X12_157 hR ct_2200 (one_cnt _) rfl ?_
    refine r_iload DX12_numberBy_33 rfl ?_
    obtain ⟨hg2, h⟩ := gd_inv h
    refine s_iald DX12_numberBy_35 hR ct_2264 (one_cnt _) hg2 ?_
    refine r_iconst (v := 1) DX12_numberBy_36 ki_1 ?_
    refine r_isub DX12_numberBy_37 ?_
    refine t_istore (L' := [some (.ref (ad 2200 0)), some (.int (x1)), d2, d3, some (.int (x4)), some (.int (x5)), some (.int (x6)), some (.int ((V 2264 (0) (x6).toNatClampNeg) - (1 : Int32))), d8]) DX12_numberBy_38 (by decide) rfl ?_
    exact SL_X12_numberBy_40 (fun hR h => hkx98 hR h) (fun hR h => S_X12_numberBy_112 (fun hR h => hkh hR h) (fun hR h => hkx98 hR h) (fun hR h => hkx118 hR h) hp hR h) hp fu hR h
theorem SL_X12_numberBy_24 {E : EN} {X : CX} {P : Option Value → MH → Prop} {ad : AD} {fu : Nat} {out : Int32 × St} {kx98 : St → Int32 → RR} {kx118 : St → RR} (hkx98 : ∀ {V : St} {M : MH} {x8 : Int32} {d1 : Option Value} {d2 : Option Value} {d3 : Option Value} {d4 : Option Value} {d5 : Option Value} {d6 : Option Value} {d7 : Option Value}, Rep E ad V M → kx98 V x8 = some out → G E X RX12 cX12_numberBy 9 (some .int) false (rmD 4) P M [some (.ref (ad 2200 0)), d1, d2, d3, d4, d5, d6, d7, some (.int (x8))] 0 0 98 []) (hkx118 : ∀ {V : St} {M : MH} {d0 : Option Value} {d1 : Option Value} {d2 : Option Value} {d3 : Option Value} {d4 : Option Value} {d5 : Option Value} {d6 : Option Value} {d7 : Option Value} {d8 : Option Value}, Rep E ad V M → kx118 V  = some out → G E X RX12 cX12_numberBy 9 (some .int) false (rmD 4) P M [d0, d1, d2, d3, d4, d5, d6, d7, d8] 0 0 118 []) (hp : ∀ M, Rep E ad out.2 M → P (some (.int out.1)) M) : ∀ (n : Nat) {V : St} {M : MH} {x1 : Int32} {x4 : Int32} {x5 : Int32} {x6 : Int32} {d2 : Option Value} {d3 : Option Value} {d7 : Option Value} {d8 : Option Value}, Rep E ad V M → Lp_X12_numberBy_24 kx98 kx118 fu n V x1 x4 x5 x6 = some out → G E X RX12 cX12_numberBy 9 (some .int) false (rmD 4) P M [some (.ref (ad 2200 0)), some (.int (x1)), d2, d3, some (.int (x4)), some (.int (x5)), some (.int (x6)), d7, d8] 0 0 24 [] := by
  intro n
  induction n with
  | zero => intros; rename_i h; cases h
  | succ n ih => exact fun hR h => S_X12_numberBy_24 (fun hR h => ih hR h) (fun hR h => hkx98 hR h) (fun hR h => hkx118 hR h) hp hR h
theorem S_X12_numberBy_0 {E : EN} {X : CX} {P : Option Value → MH → Prop} {ad : AD} {fu : Nat} {out : Int32 × St} (hp : ∀ M, Rep E ad out.2 M → P (some (.int out.1)) M) {V : St} {M : MH} {x1 : Int32} {x2 : Int32} {x3 : Int32} {x4 : Int32} {x5 : Int32} (hR : Rep E ad V M) (h : f_X12_numberBy fu V x1 x2 x3 x4 x5 = some out) : G E X RX12 cX12_numberBy 9 (some .int) false (rmD 4) P M [some (.ref (ad 2200 0)), some (.int (x1)), some (.int (x2)), some (.int (x3)), some (.int (x4)), some (.int (x5)), none, none, none] 0 0 0 [] := by
  unfold f_X12_numberBy at h
  refine r_aload_n DX12_numberBy_0 rfl ?_
  refine r_iload DX12_numberBy_1 rfl ?_
  refine r_iload DX12_numberBy_3 rfl ?_
  obtain ⟨r1, V2, hc3, h⟩ := bd_inv h
  refine k_callV (As := [.int (x4), .int (x5)]) (rest := []) (st1 := []) (w := none) DX12_numberBy_5 cv_X12_410 hR ct_2200 (one_cnt _) rfl (C_X12_strikes (out := (r1, V2)) (cxL X) hR hc3) rfl (by decide) (by decide) rfl (Nat.le_of_ble_eq_true rfl) rfl (fun M hR => ?_)
  refine r_aload_n DX12_numberBy_8 rfl ?_
  refine r_iload_n DX12_numberBy_9 rfl ?_
  refine r_iload_n DX12_numberBy_10 rfl ?_
  refine r_iload DX12_numberBy_11 rfl ?_
  obtain ⟨r4, V5, hc6, h⟩ := bd_inv h
  refine k_callV (As := [.int (x2), .int (x3), .int (x4)]) (rest := []) (st1 := []) (w := none) DX12_numberBy_13 cv_X12_413 hR ct_2200 (one_cnt _) rfl (C_X12_setsFacts (out := (r4, V5)) (cxL X) hR hc6) rfl (by decide) (by decide) rfl (Nat.le_of_ble_eq_true rfl) rfl (fun M hR => ?_)
  refine r_aload_n DX12_numberBy_16 rfl ?_
  refine s_geti DX12_numberBy_17 fl_X12_394 hR ct_2200 (one_cnt _) rfl ?_
  refine r_iconst (v := 1) DX12_numberBy_20 ki_1 ?_
  refine r_isub DX12_numberBy_21 ?_
  refine t_istore (L' := [some (.ref (ad 2200 0)), some (.int (x1)), some (.int (x2)), some (.int (x3)), some (.int (x4)), some (.int (x5)), some (.int ((V5 2258 0 0) - (1 : Int32))), none, none]) DX12_numberBy_22 (by decide) rfl ?_
  exact SL_X12_numberBy_24 (fun hR h => S_X12_numberBy_98 hp hR h) (fun hR h => S_X12_numberBy_118 hp hR h) hp fu hR h
theorem C_X12_numberBy {E : EN} {ad : AD} {fu : Nat} {out : Int32 × St} {V : St} {M : MH} {x1 : Int32} {x2 : Int32} {x3 : Int32} {x4 : Int32} {x5 : Int32} (l : Launch) (hR : Rep E ad V M) (h : f_X12_numberBy fu V x1 x2 x3 x4 x5 = some out) : Ct E l yX12_numberBy cX12_numberBy 9 (some .int) (rmD 4) [.ref (ad 2200 0), .int (x1), .int (x2), .int (x3), .int (x4), .int (x5)] M (fun v M => v = (some (.int out.1)) ∧ Rep E ad out.2 M) :=
  Ct.of (own := RX12) (ini := false) (L := [some (.ref (ad 2200 0)), some (.int (x1)), some (.int (x2)), some (.int (x3)), some (.int (x4)), some (.int (x5)), none, none, none]) rfl rfl (fun h => by cases h) rfl (Nat.le_of_ble_eq_true rfl) rfl (fun X _ => S_X12_numberBy_0 (fun M hR => ⟨rfl, hR⟩) hR h)
theorem S_X12_orNothing_25 {E : EN} {X : CX} {P : Option Value → MH → Prop} {ad : AD} {fu : Nat} {out : Int32 × St} (hp : ∀ M, Rep E ad out.2 M → P (some (.int out.1)) M) {V : St} {M : MH} {s0 : Int32} {d0 : Option Value} {d1 : Option Value} {d2 : Option Value} {d3 : Option Value} {d4 : Option Value} {d5 : Option Value} {d6 : Option Value} (hR : Rep E ad V M) (h : F_X12_orNothing_25 fu V s0 = some out) : G E X RX12 cX12_orNothing 7 (some .int) false (rmD 5) P M [d0, d1, d2, d3, d4, d5, d6] 0 0 25 [.int (s0)] := by
  unfold F_X12_orNothing_25 at h
  cases h
  exact r_iret DX12_orNothing_25 rfl ⟨Nat.le_refl 0, Nat.le_refl 0⟩ (hp M hR)
theorem S_X12_orNothing_0 {E : EN} {X : CX} {P : Option Value → MH → Prop} {ad : AD} {fu : Nat} {out : Int32 × St} (hp : ∀ M, Rep E ad out.2 M → P (some (.int out.1)) M) {V : St} {M : MH} {x1 : Int32} {x2 : Int32} {x3 : Int32} {x4 : Int32} {x5 : Int32} (hR : Rep E ad V M) (h : f_X12_orNothing fu V x1 x2 x3 x4 x5 = some out) : G E X RX12 cX12_orNothing 7 (some .int) false (rmD 5) P M [some (.ref (ad 2200 0)), some (.int (x1)), some (.int (x2)), some (.int (x3)), some (.int (x4)), some (.int (x5)), none] 0 0 0 [] := by
  unfold f_X12_orNothing at h
  refine r_aload_n DX12_orNothing_0 rfl ?_
  refine r_iload_n DX12_orNothing_1 rfl ?_
  refine r_iload_n DX12_orNothing_2 rfl ?_
  refine r_iload_n DX12_orNothing_3 rfl ?_
  refine r_iload DX12_orNothing_4 rfl ?_
  refine r_iload DX12_orNothing_6 rfl ?_
  obtain ⟨r1, V2, hc3, h⟩ := bd_inv h
  refine k_callV (As := [.int (x1), .int (x2), .int (x3), .int (x4), .int (x5)]) (rest := []) (st1 := [.int (r1)]) (w := some (.int r1)) DX12_orNothing_8 cv_X12_420 hR ct_2200 (one_cnt _) rfl (C_X12_numberBy (out := (r1, V2)) (cxL X) hR hc3) rfl (by decide) (by decide) rfl (Nat.le_of_ble_eq_true rfl) rfl (fun M hR => ?_)
  refine t_istore (L' := [some (.ref (ad 2200 0)), some (.int (x1)), some (.int (x2)), some (.int (x3)), some (.int (x4)), some (.int (x5)), some (.int (r1))]) DX12_orNothing_11 (by decide) rfl ?_
  refine r_iload DX12_orNothing_13 rfl ?_
  refine r_iconst (v := -1) DX12_orNothing_15 ki_m1 ?_
  refine r_icmp_ne DX12_orNothing_16 (fun c4 => ?_) (fun c4 => ?_)
  · have h := if_f c4 h
    refine r_iload DX12_orNothing_23 rfl ?_
    exact S_X12_orNothing_25 hp hR h
  · have h := if_t c4 h
    refine r_iconst (v := 0) DX12_orNothing_19 ki_0 ?_
    refine r_goto DX12_orNothing_20 ?_
    exact S_X12_orNothing_25 hp hR h
theorem C_X12_orNothing {E : EN} {ad : AD} {fu : Nat} {out : Int32 × St} {V : St} {M : MH} {x1 : Int32} {x2 : Int32} {x3 : Int32} {x4 : Int32} {x5 : Int32} (l : Launch) (hR : Rep E ad V M) (h : f_X12_orNothing fu V x1 x2 x3 x4 x5 = some out) : Ct E l yX12_orNothing cX12_orNothing 7 (some .int) (rmD 5) [.ref (ad 2200 0), .int (x1), .int (x2), .int (x3), .int (x4), .int (x5)] M (fun v M => v = (some (.int out.1)) ∧ Rep E ad out.2 M) :=
  Ct.of (own := RX12) (ini := false) (L := [some (.ref (ad 2200 0)), some (.int (x1)), some (.int (x2)), some (.int (x3)), some (.int (x4)), some (.int (x5)), none]) rfl rfl (fun h => by cases h) rfl (Nat.le_of_ble_eq_true rfl) rfl (fun X _ => S_X12_orNothing_0 (fun M hR => ⟨rfl, hR⟩) hR h)
theorem S_X12_paidFor_42 {E : EN} {X : CX} {P : Option Value → MH → Prop} {ad : AD} {fu : Nat} {out : Int32 × St} (hp : ∀ M, Rep E ad out.2 M → P (some (.int out.1)) M) {V : St} {M : MH} {s0 : Int32} {d0 : Option Value} {d1 : Option Value} {d2 : Option Value} (hR : Rep E ad V M) (h : F_X12_paidFor_42 fu V s0 = some out) : G E X RX12 cX12_paidFor 3 (some .int) false (rmD 5) P M [d0, d1, d2] 0 0 42 [.int (s0)] := by
  unfold F_X12_paidFor_42 at h
  cases h
  exact r_iret DX12_paidFor_42 rfl ⟨Nat.le_refl 0, Nat.le_refl 0⟩ (hp M hR)
theorem S_X12_paidFor_36 {E : EN} {X : CX} {P : Option Value → MH → Prop} {ad : AD} {fu : Nat} {out : Int32 × St} (hp : ∀ M, Rep E ad out.2 M → P (some (.int out.1)) M) {V : St} {M : MH} {x1 : Int32} {d2 : Option Value} (hR : Rep E ad V M) (h : F_X12_paidFor_36 fu V x1 = some out) : G E X RX12 cX12_paidFor 3 (some .int) false (rmD 5) P M [some (.ref (ad 2200 0)), some (.int (x1)), d2] 0 0 36 [] := by
  unfold F_X12_paidFor_36 at h
  refine r_aload_n DX12_paidFor_36 rfl ?_
  refine s_geta DX12_paidFor_37 fl_X12_55 hR ct_2200 (one_cnt _) rfl ?_
  refine r_iload_n DX12_paidFor_40 rfl ?_
  obtain ⟨hg1, h⟩ := gd_inv h
  refine s_iald DX12_paidFor_41 hR ct_2220 (one_cnt _) hg1 ?_
  exact S_X12_paidFor_42 hp hR h
theorem S_X12_paidFor_0 {E : EN} {X : CX} {P : Option Value → MH → Prop} {ad : AD} {fu : Nat} {out : Int32 × St} (hp : ∀ M, Rep E ad out.2 M → P (some (.int out.1)) M) {V : St} {M : MH} {x1 : Int32} (hR : Rep E ad V M) (h : f_X12_paidFor fu V x1 = some out) : G E X RX12 cX12_paidFor 3 (some .int) false (rmD 5) P M [some (.ref (ad 2200 0)), some (.int (x1)), none] 0 0 0 [] := by
  unfold f_X12_paidFor at h
  refine r_aload_n DX12_paidFor_0 rfl ?_
  refine r_bipush (v := 99) DX12_paidFor_1 kb_99 ?_
  refine r_iload_n DX12_paidFor_3 rfl ?_
  refine r_iconst (v := -1) DX12_paidFor_4 ki_m1 ?_
  refine r_aload_n DX12_paidFor_5 rfl ?_
  refine s_geti DX12_paidFor_6 fl_X12_400 hR ct_2200 (one_cnt _) rfl ?_
  refine r_aload_n DX12_paidFor_9 rfl ?_
  refine s_geti DX12_paidFor_10 fl_X12_400 hR ct_2200 (one_cnt _) rfl ?_
  obtain ⟨r1, V2, hc3, h⟩ := bd_inv h
  refine k_callV (As := [.int ((99 : Int32)), .int (x1), .int ((-1 : Int32)), .int ((V 2201 0 0)), .int ((V 2201 0 0))]) (rest := []) (st1 := [.int (r1)]) (w := some (.int r1)) DX12_paidFor_13 cv_X12_420 hR ct_2200 (one_cnt _) rfl (C_X12_numberBy (out := (r1, V2)) (cxL X) hR hc3) rfl (by decide) (by decide) rfl (Nat.le_of_ble_eq_true rfl) rfl (fun M hR => ?_)
  refine t_istore_n (L' := [some (.ref (ad 2200 0)), some (.int (x1)), some (.int (r1))]) DX12_paidFor_16 (by decide) rfl ?_
  refine r_iload_n DX12_paidFor_17 rfl ?_
  refine r_iconst (v := -1) DX12_paidFor_18 ki_m1 ?_
  refine r_icmp_eq DX12_paidFor_19 (fun c4 => ?_) (fun c4 => ?_)
  · have h := if_t c4 h
    exact S_X12_paidFor_36 hp hR h
  · have h := if_f c4 h
    refine r_iload_n DX12_paidFor_22 rfl ?_
    refine r_aload_n DX12_paidFor_23 rfl ?_
    refine s_geta DX12_paidFor_24 fl_X12_55 hR ct_2200 (one_cnt _) rfl ?_
    refine r_iload_n DX12_paidFor_27 rfl ?_
    obtain ⟨hg5, h⟩ := gd_inv h
    refine s_iald DX12_paidFor_28 hR ct_2220 (one_cnt _) hg5 ?_
    refine r_icmp_ge DX12_paidFor_29 (fun c6 => ?_) (fun c6 => ?_)
    · have h := if_t c6 h
      exact S_X12_paidFor_36 hp hR h
    · have h := if_f c6 h
      refine r_iload_n DX12_paidFor_32 rfl ?_
      refine r_goto DX12_paidFor_33 ?_
      exact S_X12_paidFor_42 hp hR h
theorem C_X12_paidFor {E : EN} {ad : AD} {fu : Nat} {out : Int32 × St} {V : St} {M : MH} {x1 : Int32} (l : Launch) (hR : Rep E ad V M) (h : f_X12_paidFor fu V x1 = some out) : Ct E l yX12_paidFor cX12_paidFor 3 (some .int) (rmD 5) [.ref (ad 2200 0), .int (x1)] M (fun v M => v = (some (.int out.1)) ∧ Rep E ad out.2 M) :=
  Ct.of (own := RX12) (ini := false) (L := [some (.ref (ad 2200 0)), some (.int (x1)), none]) rfl rfl (fun h => by cases h) rfl (Nat.le_of_ble_eq_true rfl) rfl (fun X _ => S_X12_paidFor_0 (fun M hR => ⟨rfl, hR⟩) hR h)
theorem S_X12_buys_241 {E : EN} {X : CX} {P : Option Value → MH → Prop} {ad : AD} {fu : Nat} {out : Int32 × St} (hp : ∀ M, Rep E ad out.2 M → P (some (.int out.1)) M) {V : St} {M : MH} {x5 : Int32} {d0 : Option Value} {d1 : Option Value} {d2 : Option Value} {d3 : Option Value} {d4 : Option Value} {d6 : Option Value} (hR : Rep E ad V M) (h : F_X12_buys_241 fu V x5 = some out) : G E X RX12 cX12_buys 7 (some .int) false (rmD 6) P M [d0, d1, d2, d3, d4, some (.int (x5)), d6] 0 0 241 [] := by
  unfold F_X12_buys_241 at h
  refine r_iload DX12_buys_241 rfl ?_
  cases h
  exact r_iret DX12_buys_243 rfl ⟨Nat.le_refl 0, Nat.le_refl 0⟩ (hp M hR)
theorem S_X12_buys_235 {E : EN} {X : CX} {P : Option Value → MH → Prop} {ad : AD} {fu : Nat} {out : Int32 × St} {kh : St → Int32 → Int32 → Int32 → Int32 → RR} {kx241 : St → Int32 → RR} (hkh : ∀ {V : St} {M : MH} {x1 : Int32} {x2 : Int32} {x5 : Int32} {x6 : Int32} {d3 : Option Value} {d4 : Option Value}, Rep E ad V M → kh V x1 x2 x5 x6 = some out → G E X RX12 cX12_buys 7 (some .int) false (rmD 6) P M [some (.ref (ad 2200 0)), some (.int (x1)), some (.int (x2)), d3, d4, some (.int (x5)), some (.int (x6))] 0 0 196 []) (hkx241 : ∀ {V : St} {M : MH} {x5 : Int32} {d0 : Option Value} {d1 : Option Value} {d2 : Option Value} {d3 : Option Value} {d4 : Option Value} {d6 : Option Value}, Rep E ad V M → kx241 V x5 = some out → G E X RX12 cX12_buys 7 (some .int) false (rmD 6) P M [d0, d1, d2, d3, d4, some (.int (x5)), d6] 0 0 241 []) (hp : ∀ M, Rep E ad out.2 M → P (some (.int out.1)) M) {V : St} {M : MH} {x1 : Int32} {x2 : Int32} {x5 : Int32} {x6 : Int32} {d3 : Option Value} {d4 : Option Value} (hR : Rep E ad V M) (h : F_X12_buys_235 kh kx241 fu V x1 x2 x5 x6 = some out) : G E X RX12 cX12_buys 7 (some .int) false (rmD 6) P M [some (.ref (ad 2200 0)), some (.int (x1)), some (.int (x2)), d3, d4, some (.int (x5)), some (.int (x6))] 0 0 235 [] := by
  unfold F_X12_buys_235 at h
  refine t_iinc (v := 1) (L' := [some (.ref (ad 2200 0)), some (.int (x1)), some (.int (x2)), d3, d4, some (.int (x5)), some (.int (x6 + 1))]) DX12_buys_235 rfl ki_1 (by decide) rfl ?_
  refine r_goto DX12_buys_238 ?_
  exact hkh hR h
theorem S_X12_buys_196 {E : EN} {X : CX} {P : Option Value → MH → Prop} {ad : AD} {fu : Nat} {out : Int32 × St} {kh : St → Int32 → Int32 → Int32 → Int32 → RR} {kx241 : St → Int32 → RR} (hkh : ∀ {V : St} {M : MH} {x1 : Int32} {x2 : Int32} {x5 : Int32} {x6 : Int32} {d3 : Option Value} {d4 : Option Value}, Rep E ad V M → kh V x1 x2 x5 x6 = some out → G E X RX12 cX12_buys 7 (some .int) false (rmD 6) P M [some (.ref (ad 2200 0)), some (.int (x1)), some (.int (x2)), d3, d4, some (.int (x5)), some (.int (x6))] 0 0 196 []) (hkx241 : ∀ {V : St} {M : MH} {x5 : Int32} {d0 : Option Value} {d1 : Option Value} {d2 : Option Value} {d3 : Option Value} {d4 : Option Value} {d6 : Option Value}, Rep E ad V M → kx241 V x5 = some out → G E X RX12 cX12_buys 7 (some .int) false (rmD 6) P M [d0, d1, d2, d3, d4, some (.int (x5)), d6] 0 0 241 []) (hp : ∀ M, Rep E ad out.2 M → P (some (.int out.1)) M) {V : St} {M : MH} {x1 : Int32} {x2 : Int32} {x5 : Int32} {x6 : Int32} {d3 : Option Value} {d4 : Option Value} (hR : Rep E ad V M) (h : F_X12_buys_196 kh kx241 fu V x1 x2 x5 x6 = some out) : G E X RX12 cX12_buys 7 (some .int) false (rmD 6) P M [some (.ref (ad 2200 0)), some (.int (x1)), some (.int (x2)), d3, d4, some (.int (x5)), some (.int (x6))] 0 0 196 [] := by
  unfold F_X12_buys_196 at h
  refine r_iload DX12_buys_196 rfl ?_
  refine r_aload_n DX12_buys_198 rfl ?_
  refine s_geti DX12_buys_199 fl_X12_449 hR ct_2200 (one_cnt _) rfl ?_
  refine r_icmp_ge DX12_buys_202 (fun c1 => ?_) (fun c1 => ?_)
  · have h := if_t c1 h
    exact hkx241 hR h
  · have h := if_f c1 h
    refine r_aload_n DX12_buys_205 rfl ?_
    refine s_geta DX12_buys_206 fl_X12_197 hR ct_2200 (one_cnt _) rfl ?_
    refine r_iload DX12_buys_209 rfl ?_
    obtain ⟨hg2, h⟩ := gd_inv h
    refine s_iald DX12_buys_211 hR ct_2281 (one_cnt _) hg2 ?_
    refine r_iload_n DX12_buys_212 rfl ?_
    refine r_icmp_ne DX12_buys_213 (fun c3 => ?_) (fun c3 => ?_)
    · have h := if_f c3 h
      exact S_X12_buys_235 (fun hR h => hkh hR h) (fun hR h => hkx241 hR h) hp hR h
    · have h := if_t c3 h
      refine r_aload_n DX12_buys_216 rfl ?_
      refine s_geta DX12_buys_217 fl_X12_200 hR ct_2200 (one_cnt _) rfl ?_
      refine r_iload DX12_buys_220 rfl ?_
      obtain ⟨hg4, h⟩ := gd_inv h
      refine s_iald DX12_buys_222 hR ct_2282 (one_cnt _) hg4 ?_
      refine r_iload_n DX12_buys_223 rfl ?_
      refine r_icmp_ne DX12_buys_224 (fun c5 => ?_) (fun c5 => ?_)
      · have h := if_f c5 h
        exact S_X12_buys_235 (fun hR h => hkh hR h) (fun hR h => hkx241 hR h) hp hR h
      · have h := if_t c5 h
        refine r_aload_n DX12_buys_227 rfl ?_
        refine s_geta DX12_buys_228 fl_X12_209 hR ct_2200 (one_cnt _) rfl ?_
        refine r_iload DX12_buys_231 rfl ?_
        refine r_iconst (v := 0) DX12_buys_233 ki_0 ?_
        obtain ⟨hg6, h⟩ := gd_inv h
        obtain ⟨V7, hv8, h⟩ := bv_inv h
        refine t_zast (by decide) DX12_buys_234 hR oka_2285 ct_2285 (one_cnt _) hg6 (fun M hR => ?_)
        have hR := hR.cg hv8
        exact S_X12_buys_235 (fun hR h => hkh hR h) (fun hR h => hkx241 hR h) hp hR h
theorem SL_X12_buys_196 {E : EN} {X : CX} {P : Option Value → MH → Prop} {ad : AD} {fu : Nat} {out : Int32 × St} {kx241 : St → Int32 → RR} (hkx241 : ∀ {V : St} {M : MH} {x5 : Int32} {d0 : Option Value} {d1 : Option Value} {d2 : Option Value} {d3 : Option Value} {d4 : Option Value} {d6 : Option Value}, Rep E ad V M → kx241 V x5 = some out → G E X RX12 cX12_buys 7 (some .int) false (rmD 6) P M [d0, d1, d2, d3, d4, some (.int (x5)), d6] 0 0 241 []) (hp : ∀ M, Rep E ad out.2 M → P (some (.int out.1)) M) : ∀ (n : Nat) {V : St} {M : MH} {x1 : Int32} {x2 : Int32} {x5 : Int32} {x6 : Int32} {d3 : Option Value} {d4 : Option Value}, Rep E ad V M → Lp_X12_buys_196 kx241 fu n V x1 x2 x5 x6 = some out → G E X RX12 cX12_buys 7 (some .int) false (rmD 6) P M [some (.ref (ad 2200 0)), some (.int (x1)), some (.int (x2)), d3, d4, some (.int (x5)), some (.int (x6))] 0 0 196 [] := by
  intro n
  induction n with
  | zero => intros; rename_i h; cases h
  | succ n ih => exact fun hR h => S_X12_buys_196 (fun hR h => ih hR h) (fun hR h => hkx241 hR h) hp hR h
theorem S_X12_buys_193 {E : EN} {X : CX} {P : Option Value → MH → Prop} {ad : AD} {fu : Nat} {out : Int32 × St} (hp : ∀ M, Rep E ad out.2 M → P (some (.int out.1)) M) {V : St} {M : MH} {x1 : Int32} {x2 : Int32} {x5 : Int32} {d3 : Option Value} {d4 : Option Value} {d6 : Option Value} (hR : Rep E ad V M) (h : F_X12_buys_193 fu V x1 x2 x5 = some out) : G E X RX12 cX12_buys 7 (some .int) false (rmD 6) P M [some (.ref (ad 2200 0)), some (.int (x1)), some (.int (x2)), d3, d4, some (.int (x5)), d6] 0 0 193 [] := by
  unfold F_X12_buys_193 at h
  refine r_iconst (v := 0) DX12_buys_193 ki_0 ?_
  refine t_istore (L' := [some (.ref (ad 2200 0)), some (.int (x1)), some (.int (x2)), d3, d4, some (.int (x5)), some (.int ((0 : Int32)))]) DX12_buys_194 (by decide) rfl ?_
  exact SL_X12_buys_196 (fun hR h => S_X12_buys_241 hp hR h) hp fu hR h
theorem S_X12_buys_37 {E : EN} {X : CX} {P : Option Value → MH → Prop} {ad : AD} {fu : Nat} {out : Int32 × St} (hp : ∀ M, Rep E ad out.2 M → P (some (.int out.1)) M) {V : St} {M : MH} {x1 : Int32} {x2 : Int32} {x3 : Int32} {s0 : Int32} {d4 : Option Value} {d5 : Option Value} {d6 : Option Value} (hR : Rep E ad V M) (h : F_X12_buys_37 fu V x1 x2 x3 s0 = some out) : G E X RX12 cX12_buys 7 (some .int) false (rmD 6) P M [some (.ref (ad 2200 0)), some (.int (x1)), some (.int (x2)), some (.int (x3)), d4, d5, d6] 0 0 37 [.int (s0)] := by
  unfold F_X12_buys_37 at h
  refine r_if_ne DX12_buys_37 (fun c1 => ?_) (fun c1 => ?_)
  · have h := if_f c1 h
    refine r_aload_n DX12_buys_43 rfl ?_
    refine r_bipush (v := 112) DX12_buys_44 kb_112 ?_
    refine r_iload_n DX12_buys_46 rfl ?_
    refine r_iconst (v := -1) DX12_buys_47 ki_m1 ?_
    refine r_aload_n DX12_buys_48 rfl ?_
    refine s_geti DX12_buys_49 fl_X12_400 hR ct_2200 (one_cnt _) rfl ?_
    refine r_aload_n DX12_buys_52 rfl ?_
    refine s_geti DX12_buys_53 fl_X12_400 hR ct_2200 (one_cnt _) rfl ?_
    obtain ⟨r2, V3, hc4, h⟩ := bd_inv h
    refine k_callV (As := [.int ((112 : Int32)), .int (x2), .int ((-1 : Int32)), .int ((V 2201 0 0)), .int ((V 2201 0 0))]) (rest := []) (st1 := [.int (r2)]) (w := some (.int r2)) DX12_buys_56 cv_X12_430 hR ct_2200 (one_cnt _) rfl (C_X12_orNothing (out := (r2, V3)) (cxL X) hR hc4) rfl (by decide) (by decide) rfl (Nat.le_of_ble_eq_true rfl) rfl (fun M hR => ?_)
    refine t_istore (L' := [some (.ref (ad 2200 0)), some (.int (x1)), some (.int (x2)), some (.int (x3)), some (.int (r2)), d5, d6]) DX12_buys_59 (by decide) rfl ?_
    refine r_iload DX12_buys_61 rfl ?_
    refine r_aload_n DX12_buys_63 rfl ?_
    refine s_geta DX12_buys_64 fl_X12_191 hR ct_2200 (one_cnt _) rfl ?_
    refine r_iload_n DX12_buys_67 rfl ?_
    obtain ⟨hg5, h⟩ := gd_inv h
    refine s_iald DX12_buys_68 hR ct_2278 (one_cnt _) hg5 ?_
    refine r_icmp_le DX12_buys_69 (fun c6 => ?_) (fun c6 => ?_)
    · have h := if_t c6 h
      refine r_aload_n DX12_buys_75 rfl ?_
      refine r_iload_n DX12_buys_76 rfl ?_
      obtain ⟨r7, V8, hc9, h⟩ := bd_inv h
      refine k_callV (As := [.int (x2)]) (rest := []) (st1 := [.int (r7)]) (w := some (.int r7)) DX12_buys_77 cv_X12_446 hR ct_2200 (one_cnt _) rfl (C_X12_paidFor (out := (r7, V8)) (cxL X) hR hc9) rfl (by decide) (by decide) rfl (Nat.le_of_ble_eq_true rfl) rfl (fun M hR => ?_)
      refine t_istore (L' := [some (.ref (ad 2200 0)), some (.int (x1)), some (.int (x2)), some (.int (x3)), some (.int (r2)), some (.int (r7)), d6]) DX12_buys_80 (by decide) rfl ?_
      refine r_iload DX12_buys_82 rfl ?_
      refine r_aload_n DX12_buys_84 rfl ?_
      refine s_geta DX12_buys_85 fl_X12_194 hR ct_2200 (one_cnt _) rfl ?_
      refine r_iload_n DX12_buys_88 rfl ?_
      obtain ⟨hg10, h⟩ := gd_inv h
      refine s_iald DX12_buys_89 hR ct_2279 (one_cnt _) hg10 ?_
      refine r_icmp_le DX12_buys_90 (fun c11 => ?_) (fun c11 => ?_)
      · have h := if_t c11 h
        refine r_aload_n DX12_buys_96 rfl ?_
        refine s_geta DX12_buys_97 fl_X12_191 hR ct_2200 (one_cnt _) rfl ?_
        refine r_iload_n DX12_buys_100 rfl ?_
        refine r_aload_n DX12_buys_101 rfl ?_
        refine s_geta DX12_buys_102 fl_X12_191 hR ct_2200 (one_cnt _) rfl ?_
        refine r_iload_n DX12_buys_105 rfl ?_
        obtain ⟨hg12, h⟩ := gd_inv h
        refine s_iald DX12_buys_106 hR ct_2278 (one_cnt _) hg12 ?_
        refine r_iload DX12_buys_107 rfl ?_
        refine r_isub DX12_buys_109 ?_
        obtain ⟨hg13, h⟩ := gd_inv h
        obtain ⟨V14, hv15, h⟩ := bv_inv h
        refine s_iast DX12_buys_110 hR oka_2278 ct_2278 (one_cnt _) hg13 (fun M hR => ?_)
        have hR := hR.cg hv15
        refine r_aload_n DX12_buys_111 rfl ?_
        refine s_geta DX12_buys_112 fl_X12_194 hR ct_2200 (one_cnt _) rfl ?_
        refine r_iload_n DX12_buys_115 rfl ?_
        refine r_aload_n DX12_buys_116 rfl ?_
        refine s_geta DX12_buys_117 fl_X12_194 hR ct_2200 (one_cnt _) rfl ?_
        refine r_iload_n DX12_buys_120 rfl ?_
        obtain ⟨hg16, h⟩ := gd_inv h
        refine s_iald DX12_buys_121 hR ct_2279 (one_cnt _) hg16 ?_
        refine r_iload DX12_buys_122 rfl ?_
        refine r_isub DX12_buys_124 ?_
        obtain ⟨hg17, h⟩ := gd_inv h
        obtain ⟨V18, hv19, h⟩ := bv_inv h
        refine s_iast DX12_buys_125 hR oka_2279 ct_2279 (one_cnt _) hg17 (fun M hR => ?_)
        have hR := hR.cg hv19
        refine r_iload_n DX12_buys_126 rfl ?_
        refine r_if_eq DX12_buys_127 (fun c20 => ?_) (fun c20 => ?_)
        · have h := if_t c20 h
          refine r_aload_n DX12_buys_179 rfl ?_
          refine s_geta DX12_buys_180 fl_X12_58 hR ct_2200 (one_cnt _) rfl ?_
          refine r_iload_n DX12_buys_183 rfl ?_
          refine r_aload_n DX12_buys_184 rfl ?_
          refine s_geta DX12_buys_185 fl_X12_58 hR ct_2200 (one_cnt _) rfl ?_
          refine r_iload_n DX12_buys_188 rfl ?_
          obtain ⟨hg21, h⟩ := gd_inv h
          refine s_iald DX12_buys_189 hR ct_2221 (one_cnt _) hg21 ?_
          refine r_iconst (v := 1) DX12_buys_190 ki_1 ?_
          refine r_isub DX12_buys_191 ?_
          obtain ⟨hg22, h⟩ := gd_inv h
          obtain ⟨V23, hv24, h⟩ := bv_inv h
          refine s_iast DX12_buys_192 hR oka_2221 ct_2221 (one_cnt _) hg22 (fun M hR => ?_)
          have hR := hR.cg hv24
          exact S_X12_buys_193 hp hR h
        · have h := if_f c20 h
          refine r_aload_n DX12_buys_130 rfl ?_
          refine s_geta DX12_buys_131 fl_X12_61 hR ct_2200 (one_cnt _) rfl ?_
          refine r_iload_n DX12_buys_134 rfl ?_
          refine r_aload_n DX12_buys_135 rfl ?_
          refine s_geta DX12_buys_136 fl_X12_61 hR ct_2200 (one_cnt _) rfl ?_
          refine r_iload_n DX12_buys_139 rfl ?_
          obtain ⟨hg25, h⟩ := gd_inv h
          refine s_iald DX12_buys_140 hR ct_2222 (one_cnt _) hg25 ?_
          refine r_iconst (v := 1) DX12_buys_141 ki_1 ?_
          refine r_isub DX12_buys_142 ?_
          obtain ⟨hg26, h⟩ := gd_inv h
          obtain ⟨V27, hv28, h⟩ := bv_inv h
          refine s_iast DX12_buys_143 hR oka_2222 ct_2222 (one_cnt _) hg26 (fun M hR => ?_)
          have hR := hR.cg hv28
          refine r_aload_n DX12_buys_144 rfl ?_
          refine s_geta DX12_buys_145 fl_X12_188 hR ct_2200 (one_cnt _) rfl ?_
          refine r_sipush (v := 500) DX12_buys_148 ks_500 ?_
          refine r_iload_n DX12_buys_151 rfl ?_
          refine r_imul DX12_buys_152 ?_
          refine r_aload_n DX12_buys_153 rfl ?_
          refine s_geti DX12_buys_154 fl_X12_400 hR ct_2200 (one_cnt _) rfl ?_
          refine r_iadd DX12_buys_157 ?_
          refine r_aload_n DX12_buys_158 rfl ?_
          refine s_geta DX12_buys_159 fl_X12_188 hR ct_2200 (one_cnt _) rfl ?_
          refine r_sipush (v := 500) DX12_buys_162 ks_500 ?_
          refine r_iload_n DX12_buys_165 rfl ?_
          refine r_imul DX12_buys_166 ?_
          refine r_aload_n DX12_buys_167 rfl ?_
          refine s_geti DX12_buys_168 fl_X12_400 hR ct_2200 (one_cnt _) rfl ?_
          refine r_iadd DX12_buys_171 ?_
          obtain ⟨hg29, h⟩ := gd_inv h
          refine s_iald DX12_buys_172 hR ct_2276 (one_cnt _) hg29 ?_
          refine r_iconst (v := 1) DX12_buys_173 ki_1 ?_
          refine r_iadd DX12_buys_174 ?_
          obtain ⟨hg30, h⟩ := gd_inv h
          obtain ⟨V31, hv32, h⟩ := bv_inv h
          refine s_iast DX12_buys_175 hR oka_2276 ct_2276 (one_cnt _) hg30 (fun M hR => ?_)
          have hR := hR.cg hv32
          refine r_goto DX12_buys_176 ?_
          exact S_X12_buys_193 hp hR h
      · have h := if_f c11 h
        refine r_bipush (v := -4) DX12_buys_93 kb_m4 ?_
        cases h
        exact r_iret DX12_buys_95 rfl ⟨Nat.le_refl 0, Nat.le_refl 0⟩ (hp M hR)
    · have h := if_f c6 h
      refine r_bipush (v := -3) DX12_buys_72 kb_m3 ?_
      cases h
      exact r_iret DX12_buys_74 rfl ⟨Nat.le_refl 0, Nat.le_refl 0⟩ (hp M hR)
  · have h := if_t c1 h
    refine r_bipush (v := -2) DX12_buys_40 kb_m2 ?_
    cases h
    exact r_iret DX12_buys_42 rfl ⟨Nat.le_refl 0, Nat.le_refl 0⟩ (hp M hR)
theorem S_X12_buys_16 {E : EN} {X : CX} {P : Option Value → MH → Prop} {ad : AD} {fu : Nat} {out : Int32 × St} (hp : ∀ M, Rep E ad out.2 M → P (some (.int out.1)) M) {V : St} {M : MH} {d0 : Option Value} {d1 : Option Value} {d2 : Option Value} {d3 : Option Value} {d4 : Option Value} {d5 : Option Value} {d6 : Option Value} (hR : Rep E ad V M) (h : F_X12_buys_16 fu V = some out) : G E X RX12 cX12_buys 7 (some .int) false (rmD 6) P M [d0, d1, d2, d3, d4, d5, d6] 0 0 16 [] := by
  unfold F_X12_buys_16 at h
  refine r_iconst (v := -1) DX12_buys_16 ki_m1 ?_
  cases h
  exact r_iret DX12_buys_17 rfl ⟨Nat.le_refl 0, Nat.le_refl 0⟩ (hp M hR)
theorem S_X12_buys_0 {E : EN} {X : CX} {P : Option Value → MH → Prop} {ad : AD} {fu : Nat} {out : Int32 × St} (hp : ∀ M, Rep E ad out.2 M → P (some (.int out.1)) M) {V : St} {M : MH} {x1 : Int32} {x2 : Int32} {x3 : Int32} (hR : Rep E ad V M) (h : f_X12_buys fu V x1 x2 x3 = some out) : G E X RX12 cX12_buys 7 (some .int) false (rmD 6) P M [some (.ref (ad 2200 0)), some (.int (x1)), some (.int (x2)), some (.int (x3)), none, none, none] 0 0 0 [] := by
  unfold f_X12_buys at h
  refine r_aload_n DX12_buys_0 rfl ?_
  refine r_iload_n DX12_buys_1 rfl ?_
  obtain ⟨r1, V2, hc3, h⟩ := bd_inv h
  refine k_callV (As := [.int (x1)]) (rest := []) (st1 := [.int (r1)]) (w := some (.int r1)) DX12_buys_2 cv_X12_443 hR ct_2200 (one_cnt _) rfl (C_X12_isPerson (out := (r1, V2)) (cxL X) hR hc3) rfl (by decide) (by decide) rfl (Nat.le_of_ble_eq_true rfl) rfl (fun M hR => ?_)
  refine r_if_eq DX12_buys_5 (fun c4 => ?_) (fun c4 => ?_)
  · have h := if_t c4 h
    exact S_X12_buys_16 hp hR h
  · have h := if_f c4 h
    refine r_aload_n DX12_buys_8 rfl ?_
    refine r_iload_n DX12_buys_9 rfl ?_
    obtain ⟨r5, V6, hc7, h⟩ := bd_inv h
    refine k_callV (As := [.int (x2)]) (rest := []) (st1 := [.int (r5)]) (w := some (.int r5)) DX12_buys_10 cv_X12_271 hR ct_2200 (one_cnt _) rfl (C_X12_isThing (out := (r5, V6)) (cxL X) hR hc7) rfl (by decide) (by decide) rfl (Nat.le_of_ble_eq_true rfl) rfl (fun M hR => ?_)
    refine r_if_ne DX12_buys_13 (fun c8 => ?_) (fun c8 => ?_)
    · have h := if_f c8 h
      refine r_iload_n DX12_buys_18 rfl ?_
      refine r_if_eq DX12_buys_19 (fun c9 => ?_) (fun c9 => ?_)
      · have h := if_t c9 h
        refine r_aload_n DX12_buys_31 rfl ?_
        refine s_geta DX12_buys_32 fl_X12_58 hR ct_2200 (one_cnt _) rfl ?_
        refine r_iload_n DX12_buys_35 rfl ?_
        obtain ⟨hg10, h⟩ := gd_inv h
        refine s_iald DX12_buys_36 hR ct_2221 (one_cnt _) hg10 ?_
        exact S_X12_buys_37 hp hR h
      · have h := if_f c9 h
        refine r_aload_n DX12_buys_22 rfl ?_
        refine s_geta DX12_buys_23 fl_X12_61 hR ct_2200 (one_cnt _) rfl ?_
        refine r_iload_n DX12_buys_26 rfl ?_
        obtain ⟨hg11, h⟩ := gd_inv h
        refine s_iald DX12_buys_27 hR ct_2222 (one_cnt _) hg11 ?_
        refine r_goto DX12_buys_28 ?_
        exact S_X12_buys_37 hp hR h
    · have h := if_t c8 h
      exact S_X12_buys_16 hp hR h
theorem C_X12_buys {E : EN} {ad : AD} {fu : Nat} {out : Int32 × St} {V : St} {M : MH} {x1 : Int32} {x2 : Int32} {x3 : Int32} (l : Launch) (hR : Rep E ad V M) (h : f_X12_buys fu V x1 x2 x3 = some out) : Ct E l yX12_buys cX12_buys 7 (some .int) (rmD 6) [.ref (ad 2200 0), .int (x1), .int (x2), .int (x3)] M (fun v M => v = (some (.int out.1)) ∧ Rep E ad out.2 M) :=
  Ct.of (own := RX12) (ini := false) (L := [some (.ref (ad 2200 0)), some (.int (x1)), some (.int (x2)), some (.int (x3)), none, none, none]) rfl rfl (fun h => by cases h) rfl (Nat.le_of_ble_eq_true rfl) rfl (fun X _ => S_X12_buys_0 (fun M hR => ⟨rfl, hR⟩) hR h)
theorem S_X12_usesOf_19 {E : EN} {X : CX} {P : Option Value → MH → Prop} {ad : AD} {fu : Nat} {out : Int32 × St} (hp : ∀ M, Rep E ad out.2 M → P (some (.int out.1)) M) {V : St} {M : MH} {s0 : Int32} {d0 : Option Value} (hR : Rep E ad V M) (h : F_X12_usesOf_19 fu V s0 = some out) : G E X RX12 cX12_usesOf 1 (some .int) false (rmD 1) P M [d0] 0 0 19 [.int (s0)] := by
  unfold F_X12_usesOf_19 at h
  cases h
  exact r_iret DX12_usesOf_19 rfl ⟨Nat.le_refl 0, Nat.le_refl 0⟩ (hp M hR)
theorem S_X12_usesOf_0 {E : EN} {X : CX} {P : Option Value → MH → Prop} {ad : AD} {fu : Nat} {out : Int32 × St} (hp : ∀ M, Rep E ad out.2 M → P (some (.int out.1)) M) {V : St} {M : MH} {x0 : Int32} (hR : Rep E ad V M) (h : f_X12_usesOf fu V x0 = some out) : G E X RX12 cX12_usesOf 1 (some .int) false (rmD 1) P M [some (.int (x0))] 0 0 0 [] := by
  unfold f_X12_usesOf at h
  refine r_iload_n DX12_usesOf_0 rfl ?_
  refine r_if_ne DX12_usesOf_1 (fun c1 => ?_) (fun c1 => ?_)
  · have h := if_f c1 h
    refine r_iload_n DX12_usesOf_8 rfl ?_
    refine r_iconst (v := 1) DX12_usesOf_9 ki_1 ?_
    refine r_icmp_ne DX12_usesOf_10 (fun c2 => ?_) (fun c2 => ?_)
    · have h := if_f c2 h
      refine r_bipush (v := 9) DX12_usesOf_17 kb_9 ?_
      exact S_X12_usesOf_19 hp hR h
    · have h := if_t c2 h
      refine r_iconst (v := 4) DX12_usesOf_13 ki_4 ?_
      refine r_goto DX12_usesOf_14 ?_
      exact S_X12_usesOf_19 hp hR h
  · have h := if_t c1 h
    refine r_iconst (v := 2) DX12_usesOf_4 ki_2 ?_
    refine r_goto DX12_usesOf_5 ?_
    exact S_X12_usesOf_19 hp hR h
theorem C_X12_usesOf {E : EN} {ad : AD} {fu : Nat} {out : Int32 × St} {V : St} {M : MH} {x0 : Int32} (l : Launch) (hR : Rep E ad V M) (h : f_X12_usesOf fu V x0 = some out) : Ct E l yX12_usesOf cX12_usesOf 1 (some .int) (rmD 1) [.int (x0)] M (fun v M => v = (some (.int out.1)) ∧ Rep E ad out.2 M) :=
  Ct.of (own := RX12) (ini := false) (L := [some (.int (x0))]) rfl rfl (fun h => by cases h) rfl (Nat.le_of_ble_eq_true rfl) rfl (fun X _ => S_X12_usesOf_0 (fun M hR => ⟨rfl, hR⟩) hR h)
