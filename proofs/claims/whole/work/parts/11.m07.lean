def f_X12_wrong (fu : Nat) (V : St) (x1 : Int32) (x2 : Int32) : RR :=
  bv (setV V 2245 0 0 (((-1000 : Int32) * x1) - x2)) fun V1 => some ((0 : Int32), V1)
theorem S_X12_wrong_0 {E : EN} {X : CX} {P : Option Value → MH → Prop} {ad : AD} {fu : Nat} {out : Int32 × St} (hp : ∀ M, Rep E ad out.2 M → P (some (.int out.1)) M) {V : St} {M : MH} {x1 : Int32} {x2 : Int32} (hR : Rep E ad V M) (h : f_X12_wrong fu V x1 x2 = some out) : G E X RX12 cX12_wrong 3 (some .boolean) false (rmD 1) P M [some (.ref (ad 2200 0)), some (.int (x1)), some (.int (x2))] 0 0 0 [] := by
  unfold f_X12_wrong at h
  refine r_aload_n DX12_wrong_0 rfl ?_
  refine r_sipush (v := -1000) DX12_wrong_1 ks_m1000 ?_
  refine r_iload_n DX12_wrong_4 rfl ?_
  refine r_imul DX12_wrong_5 ?_
  refine r_iload_n DX12_wrong_6 rfl ?_
  refine r_isub DX12_wrong_7 ?_
  obtain ⟨V1, hv2, h⟩ := bv_inv h
  refine s_puti DX12_wrong_8 fp_X12_312 hR oks_2245 ct_2200 (one_cnt _) rfl rfl rfl (fun M hR => ?_)
  have hR := hR.cg hv2
  refine r_iconst (v := 0) DX12_wrong_11 ki_0 ?_
  cases h
  exact r_zret DX12_wrong_12 rfl rfl ⟨Nat.le_refl 0, Nat.le_refl 0⟩ (hp M hR)
theorem C_X12_wrong {E : EN} {ad : AD} {fu : Nat} {out : Int32 × St} {V : St} {M : MH} {x1 : Int32} {x2 : Int32} (l : Launch) (hR : Rep E ad V M) (h : f_X12_wrong fu V x1 x2 = some out) : Ct E l yX12_wrong cX12_wrong 3 (some .boolean) (rmD 1) [.ref (ad 2200 0), .int (x1), .int (x2)] M (fun v M => v = (some (.int out.1)) ∧ Rep E ad out.2 M) :=
  Ct.of (own := RX12) (ini := false) (L := [some (.ref (ad 2200 0)), some (.int (x1)), some (.int (x2))]) rfl rfl (fun h => by cases h) rfl (Nat.le_of_ble_eq_true rfl) rfl (fun X _ => S_X12_wrong_0 (fun M hR => ⟨rfl, hR⟩) hR h)
def f_X12_opens (fu : Nat) (V : St) (x1 : Int32) : RR :=
  if (V 2247 0 0) = (6 : Int32) then
    (bd (f_X12_wrong fu V ((5 : Int32)) ((V 2243 0 0))) fun r11 V12 => gd (r11 = 0 ∨ r11 = 1) <| some (r11, V12))
    else
    (bv (setV V 2247 0 0 ((V 2247 0 0) + (1 : Int32))) fun V2 => gd (¬ ((V2 2249 0 0) < 0 ∨ 180 ≤ ((V2 2249 0 0)).toNatClampNeg)) <| bv (setV V2 2252 (0) ((V2 2249 0 0)).toNatClampNeg ((1048576 : Int32) * x1)) fun V5 => bv (setV V5 2249 0 0 ((V5 2249 0 0) + (1 : Int32))) fun V7 => bv (setV V7 2243 0 0 ((V7 2243 0 0) + (1 : Int32))) fun V9 => some ((1 : Int32), V9))
theorem S_X12_opens_0 {E : EN} {X : CX} {P : Option Value → MH → Prop} {ad : AD} {fu : Nat} {out : Int32 × St} (hp : ∀ M, Rep E ad out.2 M → P (some (.int out.1)) M) {V : St} {M : MH} {x1 : Int32} (hR : Rep E ad V M) (h : f_X12_opens fu V x1 = some out) : G E X RX12 cX12_opens 2 (some .boolean) false (rmD 2) P M [some (.ref (ad 2200 0)), some (.int (x1))] 0 0 0 [] := by
  unfold f_X12_opens at h
  refine r_aload_n DX12_opens_0 rfl ?_
  refine s_geti DX12_opens_1 fl_X12_329 hR ct_2200 (one_cnt _) rfl ?_
  refine r_bipush (v := 6) DX12_opens_4 kb_6 ?_
  refine r_icmp_ne DX12_opens_6 (fun c1 => ?_) (fun c1 => ?_)
  · have h := if_f c1 h
    refine r_aload_n DX12_opens_19 rfl ?_
    refine r_aload_n DX12_opens_20 rfl ?_
    refine s_geti DX12_opens_21 fl_X12_329 hR ct_2200 (one_cnt _) rfl ?_
    refine r_iconst (v := 1) DX12_opens_24 ki_1 ?_
    refine r_iadd DX12_opens_25 ?_
    obtain ⟨V2, hv3, h⟩ := bv_inv h
    refine s_puti DX12_opens_26 fp_X12_329 hR oks_2247 ct_2200 (one_cnt _) rfl rfl rfl (fun M hR => ?_)
    have hR := hR.cg hv3
    refine r_aload_n DX12_opens_29 rfl ?_
    refine s_geta DX12_opens_30 fl_X12_123 hR ct_2200 (one_cnt _) rfl ?_
    refine r_aload_n DX12_opens_33 rfl ?_
    refine s_geti DX12_opens_34 fl_X12_332 hR ct_2200 (one_cnt _) rfl ?_
    refine r_ldcw (v := 1048576) DX12_opens_37 ck_X12_328 ?_
    refine r_iload_n DX12_opens_40 rfl ?_
    refine r_imul DX12_opens_41 ?_
    obtain ⟨hg4, h⟩ := gd_inv h
    obtain ⟨V5, hv6, h⟩ := bv_inv h
    refine s_iast DX12_opens_42 hR oka_2252 ct_2252 (one_cnt _) hg4 (fun M hR => ?_)
    have hR := hR.cg hv6
    refine r_aload_n DX12_opens_43 rfl ?_
    refine r_aload_n DX12_opens_44 rfl ?_
    refine s_geti DX12_opens_45 fl_X12_332 hR ct_2200 (one_cnt _) rfl ?_
    refine r_iconst (v := 1) DX12_opens_48 ki_1 ?_
    refine r_iadd DX12_opens_49 ?_
    obtain ⟨V7, hv8, h⟩ := bv_inv h
    refine s_puti DX12_opens_50 fp_X12_332 hR oks_2249 ct_2200 (one_cnt _) rfl rfl rfl (fun M hR => ?_)
    have hR := hR.cg hv8
    refine r_aload_n DX12_opens_53 rfl ?_
    refine r_aload_n DX12_opens_54 rfl ?_
    refine s_geti DX12_opens_55 fl_X12_302 hR ct_2200 (one_cnt _) rfl ?_
    refine r_iconst (v := 1) DX12_opens_58 ki_1 ?_
    refine r_iadd DX12_opens_59 ?_
    obtain ⟨V9, hv10, h⟩ := bv_inv h
    refine s_puti DX12_opens_60 fp_X12_302 hR oks_2243 ct_2200 (one_cnt _) rfl rfl rfl (fun M hR => ?_)
    have hR := hR.cg hv10
    refine r_iconst (v := 1) DX12_opens_63 ki_1 ?_
    cases h
    exact r_zret DX12_opens_64 rfl rfl ⟨Nat.le_refl 0, Nat.le_refl 0⟩ (hp M hR)
  · have h := if_t c1 h
    refine r_aload_n DX12_opens_9 rfl ?_
    refine r_iconst (v := 5) DX12_opens_10 ki_5 ?_
    refine r_aload_n DX12_opens_11 rfl ?_
    refine s_geti DX12_opens_12 fl_X12_302 hR ct_2200 (one_cnt _) rfl ?_
    obtain ⟨r11, V12, hc13, h⟩ := bd_inv h
    refine k_callV (As := [.int ((5 : Int32)), .int ((V 2243 0 0))]) (rest := []) (st1 := [.int (r11)]) (w := some (.int r11)) DX12_opens_15 cv_X12_315 hR ct_2200 (one_cnt _) rfl (C_X12_wrong (cxL X) hR hc13) rfl (by decide) (by decide) rfl (Nat.le_of_ble_eq_true rfl) rfl (fun M hR => ?_)
    obtain ⟨hz14, h⟩ := gd_inv h
    cases h
    exact r_zret DX12_opens_18 rfl (nz_nar hz14) ⟨Nat.le_refl 0, Nat.le_refl 0⟩ (hp M hR)
theorem C_X12_opens {E : EN} {ad : AD} {fu : Nat} {out : Int32 × St} {V : St} {M : MH} {x1 : Int32} (l : Launch) (hR : Rep E ad V M) (h : f_X12_opens fu V x1 = some out) : Ct E l yX12_opens cX12_opens 2 (some .boolean) (rmD 2) [.ref (ad 2200 0), .int (x1)] M (fun v M => v = (some (.int out.1)) ∧ Rep E ad out.2 M) :=
  Ct.of (own := RX12) (ini := false) (L := [some (.ref (ad 2200 0)), some (.int (x1))]) rfl rfl (fun h => by cases h) rfl (Nat.le_of_ble_eq_true rfl) rfl (fun X _ => S_X12_opens_0 (fun M hR => ⟨rfl, hR⟩) hR h)
def F_X12_readsNumber_108 (fu : Nat) (V : St) (s0 : Int32) : RR :=
  gd (s0 = 0 ∨ s0 = 1) <| some (s0, V)
theorem S_X12_readsNumber_108 {E : EN} {X : CX} {P : Option Value → MH → Prop} {ad : AD} {fu : Nat} {out : Int32 × St} (hp : ∀ M, Rep E ad out.2 M → P (some (.int out.1)) M) {V : St} {M : MH} {s0 : Int32} {d0 : Option Value} {d1 : Option Value} {d2 : Option Value} (hR : Rep E ad V M) (h : F_X12_readsNumber_108 fu V s0 = some out) : G E X RX12 cX12_readsNumber 3 (some .boolean) false (rmD 3) P M [d0, d1, d2] 0 0 108 [.int (s0)] := by
  unfold F_X12_readsNumber_108 at h
  obtain ⟨hz1, h⟩ := gd_inv h
  cases h
  exact r_zret DX12_readsNumber_108 rfl (nz_nar hz1) ⟨Nat.le_refl 0, Nat.le_refl 0⟩ (hp M hR)
def F_X12_readsNumber_103 (fu : Nat) (V : St) : RR :=
  F_X12_readsNumber_108 fu V ((1 : Int32))
theorem S_X12_readsNumber_103 {E : EN} {X : CX} {P : Option Value → MH → Prop} {ad : AD} {fu : Nat} {out : Int32 × St} (hp : ∀ M, Rep E ad out.2 M → P (some (.int out.1)) M) {V : St} {M : MH} {d0 : Option Value} {d1 : Option Value} {d2 : Option Value} (hR : Rep E ad V M) (h : F_X12_readsNumber_103 fu V = some out) : G E X RX12 cX12_readsNumber 3 (some .boolean) false (rmD 3) P M [d0, d1, d2] 0 0 103 [] := by
  unfold F_X12_readsNumber_103 at h
  refine r_iconst (v := 1) DX12_readsNumber_103 ki_1 ?_
  refine r_goto DX12_readsNumber_104 ?_
  exact S_X12_readsNumber_108 hp hR h
def F_X12_readsNumber_86 (fu : Nat) (V : St) (x1 : Int32) (x2 : Int32) : RR :=
  if (V 2246 0 0) ≤ x1 then
    (F_X12_readsNumber_103 fu V)
    else
    (bd (f_X12_wrong fu V ((3 : Int32)) (x2)) fun r2 V3 => if r2 = 0 then
      (F_X12_readsNumber_108 fu V3 ((0 : Int32)))
      else
      (F_X12_readsNumber_103 fu V3))
theorem S_X12_readsNumber_86 {E : EN} {X : CX} {P : Option Value → MH → Prop} {ad : AD} {fu : Nat} {out : Int32 × St} (hp : ∀ M, Rep E ad out.2 M → P (some (.int out.1)) M) {V : St} {M : MH} {x1 : Int32} {x2 : Int32} (hR : Rep E ad V M) (h : F_X12_readsNumber_86 fu V x1 x2 = some out) : G E X RX12 cX12_readsNumber 3 (some .boolean) false (rmD 3) P M [some (.ref (ad 2200 0)), some (.int (x1)), some (.int (x2))] 0 0 86 [] := by
  unfold F_X12_readsNumber_86 at h
  refine r_aload_n DX12_readsNumber_86 rfl ?_
  refine s_geti DX12_readsNumber_87 fl_X12_318 hR ct_2200 (one_cnt _) rfl ?_
  refine r_iload_n DX12_readsNumber_90 rfl ?_
  refine r_icmp_le DX12_readsNumber_91 (fun c1 => ?_) (fun c1 => ?_)
  · have h := if_t c1 h
    exact S_X12_readsNumber_103 hp hR h
  · have h := if_f c1 h
    refine r_aload_n DX12_readsNumber_94 rfl ?_
    refine r_iconst (v := 3) DX12_readsNumber_95 ki_3 ?_
    refine r_iload_n DX12_readsNumber_96 rfl ?_
    obtain ⟨r2, V3, hc4, h⟩ := bd_inv h
    refine k_callV (As := [.int ((3 : Int32)), .int (x2)]) (rest := []) (st1 := [.int (r2)]) (w := some (.int r2)) DX12_readsNumber_97 cv_X12_315 hR ct_2200 (one_cnt _) rfl (C_X12_wrong (cxL X) hR hc4) rfl (by decide) (by decide) rfl (Nat.le_of_ble_eq_true rfl) rfl (fun M hR => ?_)
    refine r_if_eq DX12_readsNumber_100 (fun c5 => ?_) (fun c5 => ?_)
    · have h := if_t c5 h
      refine r_iconst (v := 0) DX12_readsNumber_107 ki_0 ?_
      exact S_X12_readsNumber_108 hp hR h
    · have h := if_f c5 h
      exact S_X12_readsNumber_103 hp hR h
def F_X12_readsNumber_44 (fu : Nat) (V : St) : RR :=
  bd (f_X12_wrong fu V ((2 : Int32)) ((V 2243 0 0))) fun r1 V2 => gd (r1 = 0 ∨ r1 = 1) <| some (r1, V2)
theorem S_X12_readsNumber_44 {E : EN} {X : CX} {P : Option Value → MH → Prop} {ad : AD} {fu : Nat} {out : Int32 × St} (hp : ∀ M, Rep E ad out.2 M → P (some (.int out.1)) M) {V : St} {M : MH} {d1 : Option Value} {d2 : Option Value} (hR : Rep E ad V M) (h : F_X12_readsNumber_44 fu V = some out) : G E X RX12 cX12_readsNumber 3 (some .boolean) false (rmD 3) P M [some (.ref (ad 2200 0)), d1, d2] 0 0 44 [] := by
  unfold F_X12_readsNumber_44 at h
  refine r_aload_n DX12_readsNumber_44 rfl ?_
  refine r_iconst (v := 2) DX12_readsNumber_45 ki_2 ?_
  refine r_aload_n DX12_readsNumber_46 rfl ?_
  refine s_geti DX12_readsNumber_47 fl_X12_302 hR ct_2200 (one_cnt _) rfl ?_
  obtain ⟨r1, V2, hc3, h⟩ := bd_inv h
  refine k_callV (As := [.int ((2 : Int32)), .int ((V 2243 0 0))]) (rest := []) (st1 := [.int (r1)]) (w := some (.int r1)) DX12_readsNumber_50 cv_X12_315 hR ct_2200 (one_cnt _) rfl (C_X12_wrong (cxL X) hR hc3) rfl (by decide) (by decide) rfl (Nat.le_of_ble_eq_true rfl) rfl (fun M hR => ?_)
  obtain ⟨hz4, h⟩ := gd_inv h
  cases h
  exact r_zret DX12_readsNumber_53 rfl (nz_nar hz4) ⟨Nat.le_refl 0, Nat.le_refl 0⟩ (hp M hR)
def F_X12_readsNumber_27 (kh : St → Int32 → Int32 → RR) (kx44 : St → RR) (kx86 : St → Int32 → Int32 → RR) (fu : Nat) (V : St) (x1 : Int32) (x2 : Int32) : RR :=
  bd (f_X12_isDigit fu V) fun r1 V2 => if r1 = 0 then
    (kx86 V2 (x1) (x2))
    else
    (if (V2 2243 0 0) = x2 + (5 : Int32) then
      (kx44 V2)
      else
      (bd (f_X12_here fu V2) fun r6 V7 => bv (setV V7 2246 0 0 ((((10 : Int32) * (V2 2246 0 0)) + r6) - (48 : Int32))) fun V9 => bv (setV V9 2243 0 0 ((V9 2243 0 0) + (1 : Int32))) fun V11 => kh V11 (x1) (x2)))
theorem S_X12_readsNumber_27 {E : EN} {X : CX} {P : Option Value → MH → Prop} {ad : AD} {fu : Nat} {out : Int32 × St} {kh : St → Int32 → Int32 → RR} {kx44 : St → RR} {kx86 : St → Int32 → Int32 → RR} (hkh : ∀ {V : St} {M : MH} {x1 : Int32} {x2 : Int32}, Rep E ad V M → kh V x1 x2 = some out → G E X RX12 cX12_readsNumber 3 (some .boolean) false (rmD 3) P M [some (.ref (ad 2200 0)), some (.int (x1)), some (.int (x2))] 0 0 27 []) (hkx44 : ∀ {V : St} {M : MH} {d1 : Option Value} {d2 : Option Value}, Rep E ad V M → kx44 V  = some out → G E X RX12 cX12_readsNumber 3 (some .boolean) false (rmD 3) P M [some (.ref (ad 2200 0)), d1, d2] 0 0 44 []) (hkx86 : ∀ {V : St} {M : MH} {x1 : Int32} {x2 : Int32}, Rep E ad V M → kx86 V x1 x2 = some out → G E X RX12 cX12_readsNumber 3 (some .boolean) false (rmD 3) P M [some (.ref (ad 2200 0)), some (.int (x1)), some (.int (x2))] 0 0 86 []) (hp : ∀ M, Rep E ad out.2 M → P (some (.int out.1)) M) {V : St} {M : MH} {x1 : Int32} {x2 : Int32} (hR : Rep E ad V M) (h : F_X12_readsNumber_27 kh kx44 kx86 fu V x1 x2 = some out) : G E X RX12 cX12_readsNumber 3 (some .boolean) false (rmD 3) P M [some (.ref (ad 2200 0)), some (.int (x1)), some (.int (x2))] 0 0 27 [] := by
  unfold F_X12_readsNumber_27 at h
  refine r_aload_n DX12_readsNumber_27 rfl ?_
  obtain ⟨r1, V2, hc3, h⟩ := bd_inv h
  refine k_callV (As := []) (rest := []) (st1 := [.int (r1)]) (w := some (.int r1)) DX12_readsNumber_28 cv_X12_321 hR ct_2200 (one_cnt _) rfl (C_X12_isDigit (cxL X) hR hc3) rfl (by decide) (by decide) rfl (Nat.le_of_ble_eq_true rfl) rfl (fun M hR => ?_)
  refine r_if_eq DX12_readsNumber_31 (fun c4 => ?_) (fun c4 => ?_)
  · have h := if_t c4 h
    exact hkx86 hR h
  · have h := if_f c4 h
    refine r_aload_n DX12_readsNumber_34 rfl ?_
    refine s_geti DX12_readsNumber_35 fl_X12_302 hR ct_2200 (one_cnt _) rfl ?_
    refine r_iload_n DX12_readsNumber_38 rfl ?_
    refine r_iconst (v := 5) DX12_readsNumber_39 ki_5 ?_
    refine r_iadd DX12_readsNumber_40 ?_
    refine r_icmp_ne DX12_readsNumber_41 (fun c5 => ?_) (fun c5 => ?_)
    · have h := if_f c5 h
      refine r_aload_n DX12_readsNumber_54 rfl ?_
      refine r_bipush (v := 10) DX12_readsNumber_55 kb_10 ?_
      refine r_aload_n DX12_readsNumber_57 rfl ?_
      refine s_geti DX12_readsNumber_58 fl_X12_318 hR ct_2200 (one_cnt _) rfl ?_
      refine r_imul DX12_readsNumber_61 ?_
      refine r_aload_n DX12_readsNumber_62 rfl ?_
      obtain ⟨r6, V7, hc8, h⟩ := bd_inv h
      refine k_callV (As := []) (rest := [.int ((10 : Int32) * (V2 2246 0 0)), .ref (ad 2200 0)]) (st1 := [.int (r6), .int ((10 : Int32) * (V2 2246 0 0)), .ref (ad 2200 0)]) (w := some (.int r6)) DX12_readsNumber_63 cv_X12_308 hR ct_2200 (one_cnt _) rfl (C_X12_here (cxL X) hR hc8) rfl (by decide) (by decide) rfl (Nat.le_of_ble_eq_true rfl) rfl (fun M hR => ?_)
      refine r_iadd DX12_readsNumber_66 ?_
      refine r_bipush (v := 48) DX12_readsNumber_67 kb_48 ?_
      refine r_isub DX12_readsNumber_69 ?_
      obtain ⟨V9, hv10, h⟩ := bv_inv h
      refine s_puti DX12_readsNumber_70 fp_X12_318 hR oks_2246 ct_2200 (one_cnt _) rfl rfl rfl (fun M hR => ?_)
      have hR := hR.cg hv10
      refine r_aload_n DX12_readsNumber_73 rfl ?_
      refine r_aload_n DX12_readsNumber_74 rfl ?_
      refine s_geti DX12_readsNumber_75 fl_X12_302 hR ct_2200 (one_cnt _) rfl ?_
      refine r_iconst (v := 1) DX12_readsNumber_78 ki_1 ?_
      refine r_iadd DX12_readsNumber_79 ?_
      obtain ⟨V11, hv12, h⟩ := bv_inv h
      refine s_puti DX12_readsNumber_80 fp_X12_302 hR oks_2243 ct_2200 (one_cnt _) rfl rfl rfl (fun M hR => ?_)
      have hR := hR.cg hv12
      refine r_goto DX12_readsNumber_83 ?_
      exact hkh hR h
    · have h := if_t c5 h
      exact hkx44 hR h
def Lp_X12_readsNumber_27 (kx44 : St → RR) (kx86 : St → Int32 → Int32 → RR) (fu : Nat) : Nat → St → Int32 → Int32 → RR
  | 0, _, _, _ => none
  | n + 1, V, x1, x2 => F_X12_readsNumber_27 (Lp_X12_readsNumber_27 kx44 kx86 fu n) kx44 kx86 fu V x1 x2
theorem SL_X12_readsNumber_27 {E : EN} {X : CX} {P : Option Value → MH → Prop} {ad : AD} {fu : Nat} {out : Int32 × St} {kx44 : St → RR} {kx86 : St → Int32 → Int32 → RR} (hkx44 : ∀ {V : St} {M : MH} {d1 : Option Value} {d2 : Option Value}, Rep E ad V M → kx44 V  = some out → G E X RX12 cX12_readsNumber 3 (some .boolean) false (rmD 3) P M [some (.ref (ad 2200 0)), d1, d2] 0 0 44 []) (hkx86 : ∀ {V : St} {M : MH} {x1 : Int32} {x2 : Int32}, Rep E ad V M → kx86 V x1 x2 = some out → G E X RX12 cX12_readsNumber 3 (some .boolean) false (rmD 3) P M [some (.ref (ad 2200 0)), some (.int (x1)), some (.int (x2))] 0 0 86 []) (hp : ∀ M, Rep E ad out.2 M → P (some (.int out.1)) M) : ∀ (n : Nat) {V : St} {M : MH} {x1 : Int32} {x2 : Int32}, Rep E ad V M → Lp_X12_readsNumber_27 kx44 kx86 fu n V x1 x2 = some out → G E X RX12 cX12_readsNumber 3 (some .boolean) false (rmD 3) P M [some (.ref (ad 2200 0)), some (.int (x1)), some (.int (x2))] 0 0 27 [] := by
  intro n
  induction n with
  | zero => intros; rename_i h; cases h
  | succ n ih => exact fun hR h => S_X12_readsNumber_27 (fun hR h => ih hR h) (fun hR h => hkx44 hR h) (fun hR h => hkx86 hR h) hp hR h
def f_X12_readsNumber (fu : Nat) (V : St) (x1 : Int32) : RR :=
  bv (setV V 2246 0 0 ((0 : Int32))) fun V1 => bd (f_X12_isDigit fu V1) fun r3 V4 => if r3 = 0 then
    (bd (f_X12_wrong fu V4 ((1 : Int32)) ((V4 2243 0 0))) fun r7 V8 => gd (r7 = 0 ∨ r7 = 1) <| some (r7, V8))
    else
    (Lp_X12_readsNumber_27 (F_X12_readsNumber_44 fu) (F_X12_readsNumber_86 fu) fu fu V4 (x1) ((V 2243 0 0)))
theorem S_X12_readsNumber_0 {E : EN} {X : CX} {P : Option Value → MH → Prop} {ad : AD} {fu : Nat} {out : Int32 × St} (hp : ∀ M, Rep E ad out.2 M → P (some (.int out.1)) M) {V : St} {M : MH} {x1 : Int32} (hR : Rep E ad V M) (h : f_X12_readsNumber fu V x1 = some out) : G E X RX12 cX12_readsNumber 3 (some .boolean) false (rmD 3) P M [some (.ref (ad 2200 0)), some (.int (x1)), none] 0 0 0 [] := by
  unfold f_X12_readsNumber at h
  refine r_aload_n DX12_readsNumber_0 rfl ?_
  refine s_geti DX12_readsNumber_1 fl_X12_302 hR ct_2200 (one_cnt _) rfl ?_
  refine t_istore_n (L' := [some (.ref (ad 2200 0)), some (.int (x1)), some (.int ((V 2243 0 0)))]) DX12_readsNumber_4 (by decide) rfl ?_
  refine r_aload_n DX12_readsNumber_5 rfl ?_
  refine r_iconst (v := 0) DX12_readsNumber_6 ki_0 ?_
  obtain ⟨V1, hv2, h⟩ := bv_inv h
  refine s_puti DX12_readsNumber_7 fp_X12_318 hR oks_2246 ct_2200 (one_cnt _) rfl rfl rfl (fun M hR => ?_)
  have hR := hR.cg hv2
  refine r_aload_n DX12_readsNumber_10 rfl ?_
  obtain ⟨r3, V4, hc5, h⟩ := bd_inv h
  refine k_callV (As := []) (rest := []) (st1 := [.int (r3)]) (w := some (.int r3)) DX12_readsNumber_11 cv_X12_321 hR ct_2200 (one_cnt _) rfl (C_X12_isDigit (cxL X) hR hc5) rfl (by decide) (by decide) rfl (Nat.le_of_ble_eq_true rfl) rfl (fun M hR => ?_)
  refine r_if_ne DX12_readsNumber_14 (fun c6 => ?_) (fun c6 => ?_)
  · have h := if_f c6 h
    exact SL_X12_readsNumber_27 (fun hR h => S_X12_readsNumber_44 hp hR h) (fun hR h => S_X12_readsNumber_86 hp hR h) hp fu hR h
  · have h := if_t c6 h
    refine r_aload_n DX12_readsNumber_17 rfl ?_
    refine r_iconst (v := 1) DX12_readsNumber_18 ki_1 ?_
    refine r_aload_n DX12_readsNumber_19 rfl ?_
    refine s_geti DX12_readsNumber_20 fl_X12_302 hR ct_2200 (one_cnt _) rfl ?_
    obtain ⟨r7, V8, hc9, h⟩ := bd_inv h
    refine k_callV (As := [.int ((1 : Int32)), .int ((V4 2243 0 0))]) (rest := []) (st1 := [.int (r7)]) (w := some (.int r7)) DX12_readsNumber_23 cv_X12_315 hR ct_2200 (one_cnt _) rfl (C_X12_wrong (cxL X) hR hc9) rfl (by decide) (by decide) rfl (Nat.le_of_ble_eq_true rfl) rfl (fun M hR => ?_)
    obtain ⟨hz10, h⟩ := gd_inv h
    cases h
    exact r_zret DX12_readsNumber_26 rfl (nz_nar hz10) ⟨Nat.le_refl 0, Nat.le_refl 0⟩ (hp M hR)
theorem C_X12_readsNumber {E : EN} {ad : AD} {fu : Nat} {out : Int32 × St} {V : St} {M : MH} {x1 : Int32} (l : Launch) (hR : Rep E ad V M) (h : f_X12_readsNumber fu V x1 = some out) : Ct E l yX12_readsNumber cX12_readsNumber 3 (some .boolean) (rmD 3) [.ref (ad 2200 0), .int (x1)] M (fun v M => v = (some (.int out.1)) ∧ Rep E ad out.2 M) :=
  Ct.of (own := RX12) (ini := false) (L := [some (.ref (ad 2200 0)), some (.int (x1)), none]) rfl rfl (fun h => by cases h) rfl (Nat.le_of_ble_eq_true rfl) rfl (fun X _ => S_X12_readsNumber_0 (fun M hR => ⟨rfl, hR⟩) hR h)
def F_X12_sumSign_52 (fu : Nat) (V : St) (s0 : Int32) : RR :=
  some (s0, V)
theorem S_X12_sumSign_52 {E : EN} {X : CX} {P : Option Value → MH → Prop} {ad : AD} {fu : Nat} {out : Int32 × St} (hp : ∀ M, Rep E ad out.2 M → P (some (.int out.1)) M) {V : St} {M : MH} {s0 : Int32} {d0 : Option Value} (hR : Rep E ad V M) (h : F_X12_sumSign_52 fu V s0 = some out) : G E X RX12 cX12_sumSign 1 (some .int) false (rmD 1) P M [d0] 0 0 52 [.int (s0)] := by
  unfold F_X12_sumSign_52 at h
  cases h
  exact r_iret DX12_sumSign_52 rfl ⟨Nat.le_refl 0, Nat.le_refl 0⟩ (hp M hR)
def f_X12_sumSign (fu : Nat) (V : St) (x0 : Int32) : RR :=
  if x0 = (43 : Int32) then
    (F_X12_sumSign_52 fu V ((2 : Int32)))
    else
    (if x0 = (45 : Int32) then
      (F_X12_sumSign_52 fu V ((3 : Int32)))
      else
      (if x0 = (42 : Int32) then
        (F_X12_sumSign_52 fu V ((4 : Int32)))
        else
        (if x0 = (47 : Int32) then
          (F_X12_sumSign_52 fu V ((5 : Int32)))
          else
          (if x0 = (37 : Int32) then
            (F_X12_sumSign_52 fu V ((6 : Int32)))
            else
            (F_X12_sumSign_52 fu V ((-1 : Int32)))))))
theorem S_X12_sumSign_0 {E : EN} {X : CX} {P : Option Value → MH → Prop} {ad : AD} {fu : Nat} {out : Int32 × St} (hp : ∀ M, Rep E ad out.2 M → P (some (.int out.1)) M) {V : St} {M : MH} {x0 : Int32} (hR : Rep E ad V M) (h : f_X12_sumSign fu V x0 = some out) : G E X RX12 cX12_sumSign 1 (some .int) false (rmD 1) P M [some (.int (x0))] 0 0 0 [] := by
  unfold f_X12_sumSign at h
  refine r_iload_n DX12_sumSign_0 rfl ?_
  refine r_bipush (v := 43) DX12_sumSign_1 kb_43 ?_
  refine r_icmp_ne DX12_sumSign_3 (fun c1 => ?_) (fun c1 => ?_)
  · have h := if_f c1 h
    refine r_iload_n DX12_sumSign_10 rfl ?_
    refine r_bipush (v := 45) DX12_sumSign_11 kb_45 ?_
    refine r_icmp_ne DX12_sumSign_13 (fun c2 => ?_) (fun c2 => ?_)
    · have h := if_f c2 h
      refine r_iload_n DX12_sumSign_20 rfl ?_
      refine r_bipush (v := 42) DX12_sumSign_21 kb_42 ?_
      refine r_icmp_ne DX12_sumSign_23 (fun c3 => ?_) (fun c3 => ?_)
      · have h := if_f c3 h
        refine r_iload_n DX12_sumSign_30 rfl ?_
        refine r_bipush (v := 47) DX12_sumSign_31 kb_47 ?_
        refine r_icmp_ne DX12_sumSign_33 (fun c4 => ?_) (fun c4 => ?_)
        · have h := if_f c4 h
          refine r_iload_n DX12_sumSign_40 rfl ?_
          refine r_bipush (v := 37) DX12_sumSign_41 kb_37 ?_
          refine r_icmp_ne DX12_sumSign_43 (fun c5 => ?_) (fun c5 => ?_)
          · have h := if_f c5 h
            refine r_iconst (v := -1) DX12_sumSign_51 ki_m1 ?_
            exact S_X12_sumSign_52 hp hR h
          · have h := if_t c5 h
            refine r_bipush (v := 6) DX12_sumSign_46 kb_6 ?_
            refine r_goto DX12_sumSign_48 ?_
            exact S_X12_sumSign_52 hp hR h
        · have h := if_t c4 h
          refine r_iconst (v := 5) DX12_sumSign_36 ki_5 ?_
          refine r_goto DX12_sumSign_37 ?_
          exact S_X12_sumSign_52 hp hR h
      · have h := if_t c3 h
        refine r_iconst (v := 4) DX12_sumSign_26 ki_4 ?_
        refine r_goto DX12_sumSign_27 ?_
        exact S_X12_sumSign_52 hp hR h
    · have h := if_t c2 h
      refine r_iconst (v := 3) DX12_sumSign_16 ki_3 ?_
      refine r_goto DX12_sumSign_17 ?_
      exact S_X12_sumSign_52 hp hR h
  · have h := if_t c1 h
    refine r_iconst (v := 2) DX12_sumSign_6 ki_2 ?_
    refine r_goto DX12_sumSign_7 ?_
    exact S_X12_sumSign_52 hp hR h
theorem C_X12_sumSign {E : EN} {ad : AD} {fu : Nat} {out : Int32 × St} {V : St} {M : MH} {x0 : Int32} (l : Launch) (hR : Rep E ad V M) (h : f_X12_sumSign fu V x0 = some out) : Ct E l yX12_sumSign cX12_sumSign 1 (some .int) (rmD 1) [.int (x0)] M (fun v M => v = (some (.int out.1)) ∧ Rep E ad out.2 M) :=
  Ct.of (own := RX12) (ini := false) (L := [some (.int (x0))]) rfl rfl (fun h => by cases h) rfl (Nat.le_of_ble_eq_true rfl) rfl (fun X _ => S_X12_sumSign_0 (fun M hR => ⟨rfl, hR⟩) hR h)
def F_X12_readsFactor_20 (fu : Nat) (V : St) : RR :=
  bd (f_X12_isDigit fu V) fun r1 V2 => if r1 = 0 then
    (bd (f_X12_here fu V2) fun r5 V6 => bd (f_X12_factOf fu V6 (r5)) fun r8 V9 => if r8 = (-1 : Int32) then
      (bd (f_X12_wrong fu V9 ((1 : Int32)) ((V9 2243 0 0))) fun r17 V18 => gd (r17 = 0 ∨ r17 = 1) <| some (r17, V18))
      else
      (bd (f_X12_says fu V9 ((1 : Int32)) (r8)) fun r12 V13 => bv (setV V13 2243 0 0 ((V13 2243 0 0) + (1 : Int32))) fun V15 => some ((1 : Int32), V15)))
    else
    (bd (f_X12_readsNumber fu V2 ((99999 : Int32))) fun r11 V12 => if r11 = 0 then
      (some ((0 : Int32), V12))
      else
      (bd (f_X12_says fu V12 ((0 : Int32)) ((V12 2246 0 0))) fun r15 V16 => some ((1 : Int32), V16)))
theorem S_X12_readsFactor_20 {E : EN} {X : CX} {P : Option Value → MH → Prop} {ad : AD} {fu : Nat} {out : Int32 × St} (hp : ∀ M, Rep E ad out.2 M → P (some (.int out.1)) M) {V : St} {M : MH} {d1 : Option Value} (hR : Rep E ad V M) (h : F_X12_readsFactor_20 fu V = some out) : G E X RX12 cX12_readsFactor 2 (some .boolean) false (rmD 4) P M [some (.ref (ad 2200 0)), d1] 0 0 20 [] := by
  unfold F_X12_readsFactor_20 at h
  refine r_aload_n DX12_readsFactor_20 rfl ?_
  obtain ⟨r1, V2, hc3, h⟩ := bd_inv h
  refine k_callV (As := []) (rest := []) (st1 := [.int (r1)]) (w := some (.int r1)) DX12_readsFactor_21 cv_X12_321 hR ct_2200 (one_cnt _) rfl (C_X12_isDigit (cxL X) hR hc3) rfl (by decide) (by decide) rfl (Nat.le_of_ble_eq_true rfl) rfl (fun M hR => ?_)
  refine r_if_eq DX12_readsFactor_24 (fun c4 => ?_) (fun c4 => ?_)
  · have h := if_t c4 h
    refine r_aload_n DX12_readsFactor_50 rfl ?_
    obtain ⟨r5, V6, hc7, h⟩ := bd_inv h
    refine k_callV (As := []) (rest := []) (st1 := [.int (r5)]) (w := some (.int r5)) DX12_readsFactor_51 cv_X12_308 hR ct_2200 (one_cnt _) rfl (C_X12_here (cxL X) hR hc7) rfl (by decide) (by decide) rfl (Nat.le_of_ble_eq_true rfl) rfl (fun M hR => ?_)
    obtain ⟨r8, V9, hc10, h⟩ := bd_inv h
    refine k_callS (As := [.int (r5)]) (rest := []) (st1 := [.int (r8)]) (w := some (.int r8)) DX12_readsFactor_54 cs_X12_348 (C_X12_factOf (cxL X) hR hc10) rfl (by decide) (by decide) rfl (Nat.le_of_ble_eq_true rfl) rfl (fun M hR => ?_)
    refine t_istore_n (L' := [some (.ref (ad 2200 0)), some (.int (r8))]) DX12_readsFactor_57 (by decide) rfl ?_
    refine r_iload_n DX12_readsFactor_58 rfl ?_
    refine r_iconst (v := -1) DX12_readsFactor_59 ki_m1 ?_
    refine r_icmp_ne DX12_readsFactor_60 (fun c11 => ?_) (fun c11 => ?_)
    · have h := if_f c11 h
      refine r_aload_n DX12_readsFactor_73 rfl ?_
      refine r_iconst (v := 1) DX12_readsFactor_74 ki_1 ?_
      refine r_iload_n DX12_readsFactor_75 rfl ?_
      obtain ⟨r12, V13, hc14, h⟩ := bd_inv h
      refine k_callV (As := [.int ((1 : Int32)), .int (r8)]) (rest := []) (st1 := []) (w := none) DX12_readsFactor_76 cv_X12_338 hR ct_2200 (one_cnt _) rfl (C_X12_says (cxL X) hR hc14) rfl (by decide) (by decide) rfl (Nat.le_of_ble_eq_true rfl) rfl (fun M hR => ?_)
      refine r_aload_n DX12_readsFactor_79 rfl ?_
      refine r_aload_n DX12_readsFactor_80 rfl ?_
      refine s_geti DX12_readsFactor_81 fl_X12_302 hR ct_2200 (one_cnt _) rfl ?_
      refine r_iconst (v := 1) DX12_readsFactor_84 ki_1 ?_
      refine r_iadd DX12_readsFactor_85 ?_
      obtain ⟨V15, hv16, h⟩ := bv_inv h
      refine s_puti DX12_readsFactor_86 fp_X12_302 hR oks_2243 ct_2200 (one_cnt _) rfl rfl rfl (fun M hR => ?_)
      have hR := hR.cg hv16
      refine r_iconst (v := 1) DX12_readsFactor_89 ki_1 ?_
      cases h
      exact r_zret DX12_readsFactor_90 rfl rfl ⟨Nat.le_refl 0, Nat.le_refl 0⟩ (hp M hR)
    · have h := if_t c11 h
      refine r_aload_n DX12_readsFactor_63 rfl ?_
      refine r_iconst (v := 1) DX12_readsFactor_64 ki_1 ?_
      refine r_aload_n DX12_readsFactor_65 rfl ?_
      refine s_geti DX12_readsFactor_66 fl_X12_302 hR ct_2200 (one_cnt _) rfl ?_
      obtain ⟨r17, V18, hc19, h⟩ := bd_inv h
      refine k_callV (As := [.int ((1 : Int32)), .int ((V9 2243 0 0))]) (rest := []) (st1 := [.int (r17)]) (w := some (.int r17)) DX12_readsFactor_69 cv_X12_315 hR ct_2200 (one_cnt _) rfl (C_X12_wrong (cxL X) hR hc19) rfl (by decide) (by decide) rfl (Nat.le_of_ble_eq_true rfl) rfl (fun M hR => ?_)
      obtain ⟨hz20, h⟩ := gd_inv h
      cases h
      exact r_zret DX12_readsFactor_72 rfl (nz_nar hz20) ⟨Nat.le_refl 0, Nat.le_refl 0⟩ (hp M hR)
  · have h := if_f c4 h
    refine r_aload_n DX12_readsFactor_27 rfl ?_
    refine r_ldcw (v := 99999) DX12_readsFactor_28 ck_X12_344 ?_
    obtain ⟨r11, V12, hc13, h⟩ := bd_inv h
    refine k_callV (As := [.int ((99999 : Int32))]) (rest := []) (st1 := [.int (r11)]) (w := some (.int r11)) DX12_readsFactor_31 cv_X12_345 hR ct_2200 (one_cnt _) rfl (C_X12_readsNumber (cxL X) hR hc13) rfl (by decide) (by decide) rfl (Nat.le_of_ble_eq_true rfl) rfl (fun M hR => ?_)
    refine r_if_ne DX12_readsFactor_34 (fun c14 => ?_) (fun c14 => ?_)
    · have h := if_f c14 h
      refine r_aload_n DX12_readsFactor_39 rfl ?_
      refine r_iconst (v := 0) DX12_readsFactor_40 ki_0 ?_
      refine r_aload_n DX12_readsFactor_41 rfl ?_
      refine s_geti DX12_readsFactor_42 fl_X12_318 hR ct_2200 (one_cnt _) rfl ?_
      obtain ⟨r15, V16, hc17, h⟩ := bd_inv h
      refine k_callV (As := [.int ((0 : Int32)), .int ((V12 2246 0 0))]) (rest := []) (st1 := []) (w := none) DX12_readsFactor_45 cv_X12_338 hR ct_2200 (one_cnt _) rfl (C_X12_says (cxL X) hR hc17) rfl (by decide) (by decide) rfl (Nat.le_of_ble_eq_true rfl) rfl (fun M hR => ?_)
      refine r_iconst (v := 1) DX12_readsFactor_48 ki_1 ?_
      cases h
      exact r_zret DX12_readsFactor_49 rfl rfl ⟨Nat.le_refl 0, Nat.le_refl 0⟩ (hp M hR)
    · have h := if_t c14 h
      refine r_iconst (v := 0) DX12_readsFactor_37 ki_0 ?_
      cases h
      exact r_zret DX12_readsFactor_38 rfl rfl ⟨Nat.le_refl 0, Nat.le_refl 0⟩ (hp M hR)
def F_X12_readsFactor_18 (fu : Nat) (V : St) : RR :=
  some ((0 : Int32), V)
theorem S_X12_readsFactor_18 {E : EN} {X : CX} {P : Option Value → MH → Prop} {ad : AD} {fu : Nat} {out : Int32 × St} (hp : ∀ M, Rep E ad out.2 M → P (some (.int out.1)) M) {V : St} {M : MH} {d0 : Option Value} {d1 : Option Value} (hR : Rep E ad V M) (h : F_X12_readsFactor_18 fu V = some out) : G E X RX12 cX12_readsFactor 2 (some .boolean) false (rmD 4) P M [d0, d1] 0 0 18 [] := by
  unfold F_X12_readsFactor_18 at h
  refine r_iconst (v := 0) DX12_readsFactor_18 ki_0 ?_
  cases h
  exact r_zret DX12_readsFactor_19 rfl rfl ⟨Nat.le_refl 0, Nat.le_refl 0⟩ (hp M hR)
def F_X12_readsFactor_0 (kh : St → RR) (kx18 : St → RR) (kx20 : St → RR) (fu : Nat) (V : St) : RR :=
  bd (f_X12_here fu V) fun r1 V2 => if r1 = (91 : Int32) then
    (bd (f_X12_opens fu V2 ((14 : Int32))) fun r5 V6 => if r5 = 0 then
      (kx18 V6)
      else
      (kh V6))
    else
    (kx20 V2)
theorem S_X12_readsFactor_0 {E : EN} {X : CX} {P : Option Value → MH → Prop} {ad : AD} {fu : Nat} {out : Int32 × St} {kh : St → RR} {kx18 : St → RR} {kx20 : St → RR} (hkh : ∀ {V : St} {M : MH} {d1 : Option Value}, Rep E ad V M → kh V  = some out → G E X RX12 cX12_readsFactor 2 (some .boolean) false (rmD 4) P M [some (.ref (ad 2200 0)), d1] 0 0 0 []) (hkx18 : ∀ {V : St} {M : MH} {d0 : Option Value} {d1 : Option Value}, Rep E ad V M → kx18 V  = some out → G E X RX12 cX12_readsFactor 2 (some .boolean) false (rmD 4) P M [d0, d1] 0 0 18 []) (hkx20 : ∀ {V : St} {M : MH} {d1 : Option Value}, Rep E ad V M → kx20 V  = some out → G E X RX12 cX12_readsFactor 2 (some .boolean) false (rmD 4) P M [some (.ref (ad 2200 0)), d1] 0 0 20 []) (hp : ∀ M, Rep E ad out.2 M → P (some (.int out.1)) M) {V : St} {M : MH} {d1 : Option Value} (hR : Rep E ad V M) (h : F_X12_readsFactor_0 kh kx18 kx20 fu V = some out) : G E X RX12 cX12_readsFactor 2 (some .boolean) false (rmD 4) P M [some (.ref (ad 2200 0)), d1] 0 0 0 [] := by
  unfold F_X12_readsFactor_0 at h
  refine r_aload_n DX12_readsFactor_0 rfl ?_
  obtain ⟨r1, V2, hc3, h⟩ := bd_inv h
  refine k_callV (As := []) (rest := []) (st1 := [.int (r1)]) (w := some (.int r1)) DX12_readsFactor_1 cv_X12_308 hR ct_2200 (one_cnt _) rfl (C_X12_here (cxL X) hR hc3) rfl (by decide) (by decide) rfl (Nat.le_of_ble_eq_true rfl) rfl (fun M hR => ?_)
  refine r_bipush (v := 91) DX12_readsFactor_4 kb_91 ?_
  refine r_icmp_ne DX12_readsFactor_6 (fun c4 => ?_) (fun c4 => ?_)
  · have h := if_f c4 h
    exact hkx20 hR h
  · have h := if_t c4 h
    refine r_aload_n DX12_readsFactor_9 rfl ?_
    refine r_bipush (v := 14) DX12_readsFactor_10 kb_14 ?_
    obtain ⟨r5, V6, hc7, h⟩ := bd_inv h
    refine k_callV (As := [.int ((14 : Int32))]) (rest := []) (st1 := [.int (r5)]) (w := some (.int r5)) DX12_readsFactor_12 cv_X12_341 hR ct_2200 (one_cnt _) rfl (C_X12_opens (cxL X) hR hc7) rfl (by decide) (by decide) rfl (Nat.le_of_ble_eq_true rfl) rfl (fun M hR => ?_)
    refine r_if_ne DX12_readsFactor_15 (fun c8 => ?_) (fun c8 => ?_)
    · have h := if_f c8 h
      exact hkh hR h
    · have h := if_t c8 h
      exact hkx18 hR h
def Lp_X12_readsFactor_0 (kx18 : St → RR) (kx20 : St → RR) (fu : Nat) : Nat → St → RR
  | 0, _ => none
  | n + 1, V => F_X12_readsFactor_0 (Lp_X12_readsFactor_0 kx18 kx20 fu n) kx18 kx20 fu V
theorem SL_X12_readsFactor_0 {E : EN} {X : CX} {P : Option Value → MH → Prop} {ad : AD} {fu : Nat} {out : Int32 × St} {kx18 : St → RR} {kx20 : St → RR} (hkx18 : ∀ {V : St} {M : MH} {d0 : Option Value} {d1 : Option Value}, Rep E ad V M → kx18 V  = some out → G E X RX12 cX12_readsFactor 2 (some .boolean) false (rmD 4) P M [d0, d1] 0 0 18 []) (hkx20 : ∀ {V : St} {M : MH} {d1 : Option Value}, Rep E ad V M → kx20 V  = some out → G E X RX12 cX12_readsFactor 2 (some .boolean) false (rmD 4) P M [some (.ref (ad 2200 0)), d1] 0 0 20 []) (hp : ∀ M, Rep E ad out.2 M → P (some (.int out.1)) M) : ∀ (n : Nat) {V : St} {M : MH} {d1 : Option Value}, Rep E ad V M → Lp_X12_readsFactor_0 kx18 kx20 fu n V = some out → G E X RX12 cX12_readsFactor 2 (some .boolean) false (rmD 4) P M [some (.ref (ad 2200 0)), d1] 0 0 0 [] := by
  intro n
  induction n with
  | zero => intros; rename_i h; cases h
  | succ n ih => exact fun hR h => S_X12_readsFactor_0 (fun hR h => ih hR h) (fun hR h => hkx18 hR h) (fun hR h => hkx20 hR h) hp hR h
def f_X12_readsFactor (fu : Nat) (V : St) : RR :=
  Lp_X12_readsFactor_0 (F_X12_readsFactor_18 fu) (F_X12_readsFactor_20 fu) fu fu V
theorem S_X12_readsFactor_E {E : EN} {X : CX} {P : Option Value → MH → Prop} {ad : AD} {fu : Nat} {out : Int32 × St} (hp : ∀ M, Rep E ad out.2 M → P (some (.int out.1)) M) {V : St} {M : MH} (hR : Rep E ad V M) (h : f_X12_readsFactor fu V = some out) : G E X RX12 cX12_readsFactor 2 (some .boolean) false (rmD 4) P M [some (.ref (ad 2200 0)), none] 0 0 0 [] := by
  unfold f_X12_readsFactor at h
  exact SL_X12_readsFactor_0 (fun hR h => S_X12_readsFactor_18 hp hR h) (fun hR h => S_X12_readsFactor_20 hp hR h) hp fu hR h
theorem C_X12_readsFactor {E : EN} {ad : AD} {fu : Nat} {out : Int32 × St} {V : St} {M : MH} (l : Launch) (hR : Rep E ad V M) (h : f_X12_readsFactor fu V = some out) : Ct E l yX12_readsFactor cX12_readsFactor 2 (some .boolean) (rmD 4) [.ref (ad 2200 0)] M (fun v M => v = (some (.int out.1)) ∧ Rep E ad out.2 M) :=
  Ct.of (own := RX12) (ini := false) (L := [some (.ref (ad 2200 0)), d1]) rfl rfl (fun h => by cases h) rfl (Nat.le_of_ble_eq_true rfl) rfl (fun X _ => S_X12_readsFactor_E (fun M hR => ⟨rfl, hR⟩) hR h)
def F_X12_readsSum_164 (kh : St → Int32 → RR) (kx82 : St → RR) (kx139 : St → Int32 → RR) (fu : Nat) (V : St) (x1 : Int32) : RR :=
  kh V (x1)
theorem S_X12_readsSum_164 {E : EN} {X : CX} {P : Option Value → MH → Prop} {ad : AD} {fu : Nat} {out : Int32 × St} {kh : St → Int32 → RR} {kx82 : St → RR} {kx139 : St → Int32 → RR} (hkh : ∀ {V : St} {M : MH} {x1 : Int32} {d2 : Option Value}, Rep E ad V M → kh V x1 = some out → G E X RX12 cX12_readsSum 3 (some .boolean) false (rmD 5) P M [some (.ref (ad 2200 0)), some (.int (x1)), d2] 0 0 14 []) (hkx82 : ∀ {V : St} {M : MH} {d0 : Option Value} {d1 : Option Value} {d2 : Option Value}, Rep E ad V M → kx82 V  = some out → G E X RX12 cX12_readsSum 3 (some .boolean) false (rmD 5) P M [d0, d1, d2] 0 0 82 []) (hkx139 : ∀ {V : St} {M : MH} {x1 : Int32} {d2 : Option Value}, Rep E ad V M → kx139 V x1 = some out → G E X RX12 cX12_readsSum 3 (some .boolean) false (rmD 5) P M [some (.ref (ad 2200 0)), some (.int (x1)), d2] 0 0 139 []) (hp : ∀ M, Rep E ad out.2 M → P (some (.int out.1)) M) {V : St} {M : MH} {x1 : Int32} {d2 : Option Value} (hR : Rep E ad V M) (h : F_X12_readsSum_164 kh kx82 kx139 fu V x1 = some out) : G E X RX12 cX12_readsSum 3 (some .boolean) false (rmD 5) P M [some (.ref (ad 2200 0)), some (.int (x1)), d2] 0 0 164 [] := by
  unfold F_X12_readsSum_164 at h
  refine r_goto DX12_readsSum_164 ?_
  exact hkh hR h
def F_X12_readsSum_139 (fu : Nat) (V : St) (x1 : Int32) : RR :=
  bd (f_X12_hasOpenSum fu V (x1)) fun r1 V2 => if r1 = 0 then
    (bd (f_X12_closesSums fu V2 ((1 : Int32))) fun r5 V6 => some ((1 : Int32), V6))
    else
    (bd (f_X12_wrong fu V2 ((1 : Int32)) ((V2 2243 0 0))) fun r8 V9 => gd (r8 = 0 ∨ r8 = 1) <| some (r8, V9))
theorem S_X12_readsSum_139 {E : EN} {X : CX} {P : Option Value → MH → Prop} {ad : AD} {fu : Nat} {out : Int32 × St} (hp : ∀ M, Rep E ad out.2 M → P (some (.int out.1)) M) {V : St} {M : MH} {x1 : Int32} {d2 : Option Value} (hR : Rep E ad V M) (h : F_X12_readsSum_139 fu V x1 = some out) : G E X RX12 cX12_readsSum 3 (some .boolean) false (rmD 5) P M [some (.ref (ad 2200 0)), some (.int (x1)), d2] 0 0 139 [] := by
  unfold F_X12_readsSum_139 at h
  refine r_aload_n DX12_readsSum_139 rfl ?_
  refine r_iload_n DX12_readsSum_140 rfl ?_
  obtain ⟨r1, V2, hc3, h⟩ := bd_inv h
  refine k_callV (As := [.int (x1)]) (rest := []) (st1 := [.int (r1)]) (w := some (.int r1)) DX12_readsSum_141 cv_X12_361 hR ct_2200 (one_cnt _) rfl (C_X12_hasOpenSum (cxL X) hR hc3) rfl (by decide) (by decide) rfl (Nat.le_of_ble_eq_true rfl) rfl (fun M hR => ?_)
  refine r_if_eq DX12_readsSum_144 (fun c4 => ?_) (fun c4 => ?_)
  · have h := if_t c4 h
    refine r_aload_n DX12_readsSum_157 rfl ?_
    refine r_iconst (v := 1) DX12_readsSum_158 ki_1 ?_
    obtain ⟨r5, V6, hc7, h⟩ := bd_inv h
    refine k_callV (As := [.int ((1 : Int32))]) (rest := []) (st1 := []) (w := none) DX12_readsSum_159 cv_X12_357 hR ct_2200 (one_cnt _) rfl (C_X12_closesSums (cxL X) hR hc7) rfl (by decide) (by decide) rfl (Nat.le_of_ble_eq_true rfl) rfl (fun M hR => ?_)
    refine r_iconst (v := 1) DX12_readsSum_162 ki_1 ?_
    cases h
    exact r_zret DX12_readsSum_163 rfl rfl ⟨Nat.le_refl 0, Nat.le_refl 0⟩ (hp M hR)
  · have h := if_f c4 h
    refine r_aload_n DX12_readsSum_147 rfl ?_
    refine r_iconst (v := 1) DX12_readsSum_148 ki_1 ?_
    refine r_aload_n DX12_readsSum_149 rfl ?_
    refine s_geti DX12_readsSum_150 fl_X12_302 hR ct_2200 (one_cnt _) rfl ?_
    obtain ⟨r8, V9, hc10, h⟩ := bd_inv h
    refine k_callV (As := [.int ((1 : Int32)), .int ((V2 2243 0 0))]) (rest := []) (st1 := [.int (r8)]) (w := some (.int r8)) DX12_readsSum_153 cv_X12_315 hR ct_2200 (one_cnt _) rfl (C_X12_wrong (cxL X) hR hc10) rfl (by decide) (by decide) rfl (Nat.le_of_ble_eq_true rfl) rfl (fun M hR => ?_)
    obtain ⟨hz11, h⟩ := gd_inv h
    cases h
    exact r_zret DX12_readsSum_156 rfl (nz_nar hz11) ⟨Nat.le_refl 0, Nat.le_refl 0⟩ (hp M hR)
def F_X12_readsSum_82 (fu : Nat) (V : St) : RR :=
  some ((0 : Int32), V)
theorem S_X12_readsSum_82 {E : EN} {X : CX} {P : Option Value → MH → Prop} {ad : AD} {fu : Nat} {out : Int32 × St} (hp : ∀ M, Rep E ad out.2 M → P (some (.int out.1)) M) {V : St} {M : MH} {d0 : Option Value} {d1 : Option Value} {d2 : Option Value} (hR : Rep E ad V M) (h : F_X12_readsSum_82 fu V = some out) : G E X RX12 cX12_readsSum 3 (some .boolean) false (rmD 5) P M [d0, d1, d2] 0 0 82 [] := by
  unfold F_X12_readsSum_82 at h
  refine r_iconst (v := 0) DX12_readsSum_82 ki_0 ?_
  cases h
  exact r_zret DX12_readsSum_83 rfl rfl ⟨Nat.le_refl 0, Nat.le_refl 0⟩ (hp M hR)
def F_X12_readsSum_38 (kh : St → Int32 → RR) (kx82 : St → RR) (kx139 : St → Int32 → RR) (fu : Nat) (V : St) (x1 : Int32) (x2 : Int32) (s0 : Int32) : RR :=
  bd (f_X12_closesSums fu V (s0)) fun r1 V2 => gd (¬ ((V2 2249 0 0) < 0 ∨ 180 ≤ ((V2 2249 0 0)).toNatClampNeg)) <| bv (setV V2 2252 (0) ((V2 2249 0 0)).toNatClampNeg ((1048576 : Int32) * x2)) fun V5 => bv (setV V5 2249 0 0 ((V5 2249 0 0) + (1 : Int32))) fun V7 => bv (setV V7 2243 0 0 ((V7 2243 0 0) + (1 : Int32))) fun V9 => bd (f_X12_readsFactor fu V9) fun r11 V12 => if r11 = 0 then
    (kx82 V12)
    else
    (F_X12_readsSum_164 kh kx82 kx139 fu V12 (x1))
theorem S_X12_readsSum_38 {E : EN} {X : CX} {P : Option Value → MH → Prop} {ad : AD} {fu : Nat} {out : Int32 × St} {kh : St → Int32 → RR} {kx82 : St → RR} {kx139 : St → Int32 → RR} (hkh : ∀ {V : St} {M : MH} {x1 : Int32} {d2 : Option Value}, Rep E ad V M → kh V x1 = some out → G E X RX12 cX12_readsSum 3 (some .boolean) false (rmD 5) P M [some (.ref (ad 2200 0)), some (.int (x1)), d2] 0 0 14 []) (hkx82 : ∀ {V : St} {M : MH} {d0 : Option Value} {d1 : Option Value} {d2 : Option Value}, Rep E ad V M → kx82 V  = some out → G E X RX12 cX12_readsSum 3 (some .boolean) false (rmD 5) P M [d0, d1, d2] 0 0 82 []) (hkx139 : ∀ {V : St} {M : MH} {x1 : Int32} {d2 : Option Value}, Rep E ad V M → kx139 V x1 = some out → G E X RX12 cX12_readsSum 3 (some .boolean) false (rmD 5) P M [some (.ref (ad 2200 0)), some (.int (x1)), d2] 0 0 139 []) (hp : ∀ M, Rep E ad out.2 M → P (some (.int out.1)) M) {V : St} {M : MH} {x1 : Int32} {x2 : Int32} {s0 : Int32} (hR : Rep E ad V M) (h : F_X12_readsSum_38 kh kx82 kx139 fu V x1 x2 s0 = some out) : G E X RX12 cX12_readsSum 3 (some .boolean) false (rmD 5) P M [some (.ref (ad 2200 0)), some (.int (x1)), some (.int (x2))] 0 0 38 [.int (s0), .ref (ad 2200 0)] := by
  unfold F_X12_readsSum_38 at h
  obtain ⟨r1, V2, hc3, h⟩ := bd_inv h
  refine k_callV (As := [.int (s0)]) (rest := []) (st1 := []) (w := none) DX12_readsSum_38 cv_X12_357 hR ct_2200 (one_cnt _) rfl (C_X12_closesSums (cxL X) hR hc3) rfl (by decide) (by decide) rfl (Nat.le_of_ble_eq_true rfl) rfl (fun M hR => ?_)
  refine r_aload_n DX12_readsSum_41 rfl ?_
  refine s_geta DX12_readsSum_42 fl_X12_123 hR ct_2200 (one_cnt _) rfl ?_
  refine r_aload_n DX12_readsSum_45 rfl ?_
  refine s_geti DX12_readsSum_46 fl_X12_332 hR ct_2200 (one_cnt _) rfl ?_
  refine r_ldcw (v := 1048576) DX12_readsSum_49 ck_X12_328 ?_
  refine r_iload_n DX12_readsSum_52 rfl ?_
  refine r_imul DX12_readsSum_53 ?_
  obtain ⟨hg4, h⟩ := gd_inv h
  obtain ⟨V5, hv6, h⟩ := bv_inv h
  refine s_iast DX12_readsSum_54 hR oka_2252 ct_2252 (one_cnt _) hg4 (fun M hR => ?_)
  have hR := hR.cg hv6
  refine r_aload_n DX12_readsSum_55 rfl ?_
  refine r_aload_n DX12_readsSum_56 rfl ?_
  refine s_geti DX12_readsSum_57 fl_X12_332 hR ct_2200 (one_cnt _) rfl ?_
  refine r_iconst (v := 1) DX12_readsSum_60 ki_1 ?_
  refine r_iadd DX12_readsSum_61 ?_
  obtain ⟨V7, hv8, h⟩ := bv_inv h
  refine s_puti DX12_readsSum_62 fp_X12_332 hR oks_2249 ct_2200 (one_cnt _) rfl rfl rfl (fun M hR => ?_)
  have hR := hR.cg hv8
  refine r_aload_n DX12_readsSum_65 rfl ?_
  refine r_aload_n DX12_readsSum_66 rfl ?_
  refine s_geti DX12_readsSum_67 fl_X12_302 hR ct_2200 (one_cnt _) rfl ?_
  refine r_iconst (v := 1) DX12_readsSum_70 ki_1 ?_
  refine r_iadd DX12_readsSum_71 ?_
  obtain ⟨V9, hv10, h⟩ := bv_inv h
  refine s_puti DX12_readsSum_72 fp_X12_302 hR oks_2243 ct_2200 (one_cnt _) rfl rfl rfl (fun M hR => ?_)
  have hR := hR.cg hv10
  refine r_aload_n DX12_readsSum_75 rfl ?_
  obtain ⟨r11, V12, hc13, h⟩ := bd_inv h
  refine k_callV (As := []) (rest := []) (st1 := [.int (r11)]) (w := some (.int r11)) DX12_readsSum_76 cv_X12_351 hR ct_2200 (one_cnt _) rfl (C_X12_readsFactor (cxL X) hR hc13) rfl (by decide) (by decide) rfl (Nat.le_of_ble_eq_true rfl) rfl (fun M hR => ?_)
  refine r_if_ne DX12_readsSum_79 (fun c14 => ?_) (fun c14 => ?_)
  · have h := if_f c14 h
    exact S_X12_readsSum_164 (fun hR h => hkh hR h) (fun hR h => hkx82 hR h) (fun hR h => hkx139 hR h) hp hR h
  · have h := if_t c14 h
    exact hkx82 hR h
def F_X12_readsSum_14 (kh : St → Int32 → RR) (kx82 : St → RR) (kx139 : St → Int32 → RR) (fu : Nat) (V : St) (x1 : Int32) : RR :=
  bd (f_X12_here fu V) fun r1 V2 => bd (f_X12_sumSign fu V2 (r1)) fun r4 V5 => if r4 = (-1 : Int32) then
    (bd (f_X12_here fu V5) fun r8 V9 => if r8 = (93 : Int32) then
      (bd (f_X12_hasOpenSum fu V9 (x1)) fun r12 V13 => if r12 = 0 then
        (kx139 V13 (x1))
        else
        (bd (f_X12_closesSums fu V13 ((1 : Int32))) fun r16 V17 => bv (setV V17 2249 0 0 ((V17 2249 0 0) - (1 : Int32))) fun V19 => bv (setV V19 2247 0 0 ((V19 2247 0 0) - (1 : Int32))) fun V21 => bv (setV V21 2243 0 0 ((V21 2243 0 0) + (1 : Int32))) fun V23 => F_X12_readsSum_164 kh kx82 kx139 fu V23 (x1)))
      else
      (kx139 V9 (x1)))
    else
    (if (4 : Int32) ≤ r4 then
      (F_X12_readsSum_38 kh kx82 kx139 fu V5 (x1) (r4) ((0 : Int32)))
      else
      (F_X12_readsSum_38 kh kx82 kx139 fu V5 (x1) (r4) ((1 : Int32))))
theorem S_X12_readsSum_14 {E : EN} {X : CX} {P : Option Value → MH → Prop} {ad : AD} {fu : Nat} {out : Int32 × St} {kh : St → Int32 → RR} {kx82 : St → RR} {kx139 : St → Int32 → RR} (hkh : ∀ {V : St} {M : MH} {x1 : Int32} {d2 : Option Value}, Rep E ad V M → kh V x1 = some out → G E X RX12 cX12_readsSum 3 (some .boolean) false (rmD 5) P M [some (.ref (ad 2200 0)), some (.int (x1)), d2] 0 0 14 []) (hkx82 : ∀ {V : St} {M : MH} {d0 : Option Value} {d1 : Option Value} {d2 : Option Value}, Rep E ad V M → kx82 V  = some out → G E X RX12 cX12_readsSum 3 (some .boolean) false (rmD 5) P M [d0, d1, d2] 0 0 82 []) (hkx139 : ∀ {V : St} {M : MH} {x1 : Int32} {d2 : Option Value}, Rep E ad V M → kx139 V x1 = some out → G E X RX12 cX12_readsSum 3 (some .boolean) false (rmD 5) P M [some (.ref (ad 2200 0)), some (.int (x1)), d2] 0 0 139 []) (hp : ∀ M, Rep E ad out.2 M → P (some (.int out.1)) M) {V : St} {M : MH} {x1 : Int32} {d2 : Option Value} (hR : Rep E ad V M) (h : F_X12_readsSum_14 kh kx82 kx139 fu V x1 = some out) : G E X RX12 cX12_readsSum 3 (some .boolean) false (rmD 5) P M [some (.ref (ad 2200 0)), some (.int (x1)), d2] 0 0 14 [] := by
  unfold F_X12_readsSum_14 at h
  refine r_aload_n DX12_readsSum_14 rfl ?_
  obtain ⟨r1, V2, hc3, h⟩ := bd_inv h
  refine k_callV (As := []) (rest := []) (st1 := [.int (r1)]) (w := some (.int r1)) DX12_readsSum_15 cv_X12_308 hR ct_2200 (one_cnt _) rfl (C_X12_here (cxL X) hR hc3) rfl (by decide) (by decide) rfl (Nat.le_of_ble_eq_true rfl) rfl (fun M hR => ?_)
  obtain ⟨r4, V5, hc6, h⟩ := bd_inv h
  refine k_callS (As := [.int (r1)]) (rest := []) (st1 := [.int (r4)]) (w := some (.int r4)) DX12_readsSum_18 cs_X12_354 (C_X12_sumSign (cxL X) hR hc6) rfl (by decide) (by decide) rfl (Nat.le_of_ble_eq_true rfl) rfl (fun M hR => ?_)
  refine t_istore_n (L' := [some (.ref (ad 2200 0)), some (.int (x1)), some (.int (r4))]) DX12_readsSum_21 (by decide) rfl ?_
  refine r_iload_n DX12_readsSum_22 rfl ?_
  refine r_iconst (v := -1) DX12_readsSum_23 ki_m1 ?_
  refine r_icmp_eq DX12_readsSum_24 (fun c7 => ?_) (fun c7 => ?_)
  · have h := if_t c7 h
    refine r_aload_n DX12_readsSum_84 rfl ?_
    obtain ⟨r8, V9, hc10, h⟩ := bd_inv h
    refine k_callV (As := []) (rest := []) (st1 := [.int (r8)]) (w := some (.int r8)) DX12_readsSum_85 cv_X12_308 hR ct_2200 (one_cnt _) rfl (C_X12_here (cxL X) hR hc10) rfl (by decide) (by decide) rfl (Nat.le_of_ble_eq_true rfl) rfl (fun M hR => ?_)
    refine r_bipush (v := 93) DX12_readsSum_88 kb_93 ?_
    refine r_icmp_ne DX12_readsSum_90 (fun c11 => ?_) (fun c11 => ?_)
    · have h := if_f c11 h
      exact hkx139 hR h
    · have h := if_t c11 h
      refine r_aload_n DX12_readsSum_93 rfl ?_
      refine r_iload_n DX12_readsSum_94 rfl ?_
      obtain ⟨r12, V13, hc14, h⟩ := bd_inv h
      refine k_callV (As := [.int (x1)]) (rest := []) (st1 := [.int (r12)]) (w := some (.int r12)) DX12_readsSum_95 cv_X12_361 hR ct_2200 (one_cnt _) rfl (C_X12_hasOpenSum (cxL X) hR hc14) rfl (by decide) (by decide) rfl (Nat.le_of_ble_eq_true rfl) rfl (fun M hR => ?_)
      refine r_if_eq DX12_readsSum_98 (fun c15 => ?_) (fun c15 => ?_)
      · have h := if_t c15 h
        exact hkx139 hR h
      · have h := if_f c15 h
        refine r_aload_n DX12_readsSum_101 rfl ?_
        refine r_iconst (v := 1) DX12_readsSum_102 ki_1 ?_
        obtain ⟨r16, V17, hc18, h⟩ := bd_inv h
        refine k_callV (As := [.int ((1 : Int32))]) (rest := []) (st1 := []) (w := none) DX12_readsSum_103 cv_X12_357 hR ct_2200 (one_cnt _) rfl (C_X12_closesSums (cxL X) hR hc18) rfl (by decide) (by decide) rfl (Nat.le_of_ble_eq_true rfl) rfl (fun M hR => ?_)
        refine r_aload_n DX12_readsSum_106 rfl ?_
        refine r_aload_n DX12_readsSum_107 rfl ?_
        refine s_geti DX12_readsSum_108 fl_X12_332 hR ct_2200 (one_cnt _) rfl ?_
        refine r_iconst (v := 1) DX12_readsSum_111 ki_1 ?_
        refine r_isub DX12_readsSum_112 ?_
        obtain ⟨V19, hv20, h⟩ := bv_inv h
        refine s_puti DX12_readsSum_113 fp_X12_332 hR oks_2249 ct_2200 (one_cnt _) rfl rfl rfl (fun M hR => ?_)
        have hR := hR.cg hv20
        refine r_aload_n DX12_readsSum_116 rfl ?_
        refine r_aload_n DX12_readsSum_117 rfl ?_
        refine s_geti DX12_readsSum_118 fl_X12_329 hR ct_2200 (one_cnt _) rfl ?_
        refine r_iconst (v := 1) DX12_readsSum_121 ki_1 ?_
        refine r_isub DX12_readsSum_122 ?_
        obtain ⟨V21, hv22, h⟩ := bv_inv h
        refine s_puti DX12_readsSum_123 fp_X12_329 hR oks_2247 ct_2200 (one_cnt _) rfl rfl rfl (fun M hR => ?_)
        have hR := hR.cg hv22
        refine r_aload_n DX12_readsSum_126 rfl ?_
        refine r_aload_n DX12_readsSum_127 rfl ?_
        refine s_geti DX12_readsSum_128 fl_X12_302 hR ct_2200 (one_cnt _) rfl ?_
        refine r_iconst (v := 1) DX12_readsSum_131 ki_1 ?_
        refine r_iadd DX12_readsSum_132 ?_
        obtain ⟨V23, hv24, h⟩ := bv_inv h
        refine s_puti DX12_readsSum_133 fp_X12_302 hR oks_2243 ct_2200 (one_cnt _) rfl rfl rfl (fun M hR => ?_)
        have hR := hR.cg hv24
        refine r_goto DX12_readsSum_136 ?_
        exact S_X12_readsSum_164 (fun hR h => hkh hR h) (fun hR h => hkx82 hR h) (fun hR h => hkx139 hR h) hp hR h
  · have h := if_f c7 h
    refine r_aload_n DX12_readsSum_27 rfl ?_
    refine r_iload_n DX12_readsSum_28 rfl ?_
    refine r_iconst (v := 4) DX12_readsSum_29 ki_4 ?_
    refine r_icmp_ge DX12_readsSum_30 (fun c11 => ?_) (fun c11 => ?_)
    · have h := if_t c11 h
      refine r_iconst (v := 0) DX12_readsSum_37 ki_0 ?_
      exact S_X12_readsSum_38 (fun hR h => hkh hR h) (fun hR h => hkx82 hR h) (fun hR h => hkx139 hR h) hp hR h
    · have h := if_f c11 h
      refine r_iconst (v := 1) DX12_readsSum_33 ki_1 ?_
      refine r_goto DX12_readsSum_34 ?_
      exact S_X12_readsSum_38 (fun hR h => hkh hR h) (fun hR h => hkx82 hR h) (fun hR h => hkx139 hR h) hp hR h
def Lp_X12_readsSum_14 (kx82 : St → RR) (kx139 : St → Int32 → RR) (fu : Nat) : Nat → St → Int32 → RR
  | 0, _, _ => none
  | n + 1, V, x1 => F_X12_readsSum_14 (Lp_X12_readsSum_14 kx82 kx139 fu n) kx82 kx139 fu V x1
theorem SL_X12_readsSum_14 {E : EN} {X : CX} {P : Option Value → MH → Prop} {ad : AD} {fu : Nat} {out : Int32 × St} {kx82 : St → RR} {kx139 : St → Int32 → RR} (hkx82 : ∀ {V : St} {M : MH} {d0 : Option Value} {d1 : Option Value} {d2 : Option Value}, Rep E ad V M → kx82 V  = some out → G E X RX12 cX12_readsSum 3 (some .boolean) false (rmD 5) P M [d0, d1, d2] 0 0 82 []) (hkx139 : ∀ {V : St} {M : MH} {x1 : Int32} {d2 : Option Value}, Rep E ad V M → kx139 V x1 = some out → G E X RX12 cX12_readsSum 3 (some .boolean) false (rmD 5) P M [some (.ref (ad 2200 0)), some (.int (x1)), d2] 0 0 139 []) (hp : ∀ M, Rep E ad out.2 M → P (some (.int out.1)) M) : ∀ (n : Nat) {V : St} {M : MH} {x1 : Int32} {d2 : Option Value}, Rep E ad V M → Lp_X12_readsSum_14 kx82 kx139 fu n V x1 = some out → G E X RX12 cX12_readsSum 3 (some .boolean) false (rmD 5) P M [some (.ref (ad 2200 0)), some (.int (x1)), d2] 0 0 14 [] := by
  intro n
  induction n with
  | zero => intros; rename_i h; cases h
  | succ n ih => exact fun hR h => S_X12_readsSum_14 (fun hR h => ih hR h) (fun hR h => hkx82 hR h) (fun hR h => hkx139 hR h) hp hR h
def f_X12_readsSum (fu : Nat) (V : St) : RR :=
  bd (f_X12_readsFactor fu V) fun r1 V2 => if r1 = 0 then
    (some ((0 : Int32), V2))
    else
    (Lp_X12_readsSum_14 (F_X12_readsSum_82 fu) (F_X12_readsSum_139 fu) fu fu V2 ((V 2249 0 0)))
theorem S_X12_readsSum_0 {E : EN} {X : CX} {P : Option Value → MH → Prop} {ad : AD} {fu : Nat} {out : Int32 × St} (hp : ∀ M, Rep E ad out.2 M → P (some (.int out.1)) M) {V : St} {M : MH} (hR : Rep E ad V M) (h : f_X12_readsSum fu V = some out) : G E X RX12 cX12_readsSum 3 (some .boolean) false (rmD 5) P M [some (.ref (ad 2200 0)), none, none] 0 0 0 [] := by
  unfold f_X12_readsSum at h
  refine r_aload_n DX12_readsSum_0 rfl ?_
  refine s_geti DX12_readsSum_1 fl_X12_332 hR ct_2200 (one_cnt _) rfl ?_
  refine t_istore_n (L' := [some (.ref (ad 2200 0)), some (.int ((V 2249 0 0))), none]) DX12_readsSum_4 (by decide) rfl ?_
  refine r_aload_n DX12_readsSum_5 rfl ?_
  obtain ⟨r1, V2, hc3, h⟩ := bd_inv h
  refine k_callV (As := []) (rest := []) (st1 := [.int (r1)]) (w := some (.int r1)) DX12_readsSum_6 cv_X12_351 hR ct_2200 (one_cnt _) rfl (C_X12_readsFactor (cxL X) hR hc3) rfl (by decide) (by decide) rfl (Nat.le_of_ble_eq_true rfl) rfl (fun M hR => ?_)
  refine r_if_ne DX12_readsSum_9 (fun c4 => ?_) (fun c4 => ?_)
  · have h := if_f c4 h
    exact SL_X12_readsSum_14 (fun hR h => S_X12_readsSum_82 hp hR h) (fun hR h => S_X12_readsSum_139 hp hR h) hp fu hR h
  · have h := if_t c4 h
    refine r_iconst (v := 0) DX12_readsSum_12 ki_0 ?_
    cases h
    exact r_zret DX12_readsSum_13 rfl rfl ⟨Nat.le_refl 0, Nat.le_refl 0⟩ (hp M hR)
theorem C_X12_readsSum {E : EN} {ad : AD} {fu : Nat} {out : Int32 × St} {V : St} {M : MH} (l : Launch) (hR : Rep E ad V M) (h : f_X12_readsSum fu V = some out) : Ct E l yX12_readsSum cX12_readsSum 3 (some .boolean) (rmD 5) [.ref (ad 2200 0)] M (fun v M => v = (some (.int out.1)) ∧ Rep E ad out.2 M) :=
  Ct.of (own := RX12) (ini := false) (L := [some (.ref (ad 2200 0)), none, none]) rfl rfl (fun h => by cases h) rfl (Nat.le_of_ble_eq_true rfl) rfl (fun X _ => S_X12_readsSum_0 (fun M hR => ⟨rfl, hR⟩) hR h)
def F_X12_readsCompared_52 (fu : Nat) (V : St) (s0 : Int32) : RR :=
  if s0 = (-1 : Int32) then
    (bd (f_X12_wrong fu V ((1 : Int32)) ((V 2243 0 0))) fun r7 V8 => gd (r7 = 0 ∨ r7 = 1) <| some (r7, V8))
    else
    (bv (setV V 2243 0 0 ((V 2243 0 0) + (1 : Int32))) fun V2 => bd (f_X12_readsSum fu V2) fun r4 V5 => if r4 = 0 then
      (some ((0 : Int32), V5))
      else
      (bd (f_X12_says fu V5 (s0) ((0 : Int32))) fun r8 V9 => bd (f_X12_endsPiece fu V9) fun r11 V12 => some ((1 : Int32), V12)))
theorem S_X12_readsCompared_52 {E : EN} {X : CX} {P : Option Value → MH → Prop} {ad : AD} {fu : Nat} {out : Int32 × St} (hp : ∀ M, Rep E ad out.2 M → P (some (.int out.1)) M) {V : St} {M : MH} {s0 : Int32} {d1 : Option Value} (hR : Rep E ad V M) (h : F_X12_readsCompared_52 fu V s0 = some out) : G E X RX12 cX12_readsCompared 2 (some .boolean) false (rmD 6) P M [some (.ref (ad 2200 0)), d1] 0 0 52 [.int (s0)] := by
  unfold F_X12_readsCompared_52 at h
  refine t_istore_n (L' := [some (.ref (ad 2200 0)), some (.int (s0))]) DX12_readsCompared_52 (by decide) rfl ?_
  refine r_iload_n DX12_readsCompared_53 rfl ?_
  refine r_iconst (v := -1) DX12_readsCompared_54 ki_m1 ?_
  refine r_icmp_ne DX12_readsCompared_55 (fun c1 => ?_) (fun c1 => ?_)
  · have h := if_f c1 h
    refine r_aload_n DX12_readsCompared_68 rfl ?_
    refine r_aload_n DX12_readsCompared_69 rfl ?_
    refine s_geti DX12_readsCompared_70 fl_X12_302 hR ct_2200 (one_cnt _) rfl ?_
    refine r_iconst (v := 1) DX12_readsCompared_73 ki_1 ?_
    refine r_iadd DX12_readsCompared_74 ?_
    obtain ⟨V2, hv3, h⟩ := bv_inv h
    refine s_puti DX12_readsCompared_75 fp_X12_302 hR oks_2243 ct_2200 (one_cnt _) rfl rfl rfl (fun M hR => ?_)
    have hR := hR.cg hv3
    refine r_aload_n DX12_readsCompared_78 rfl ?_
    obtain ⟨r4, V5, hc6, h⟩ := bd_inv h
    refine k_callV (As := []) (rest := []) (st1 := [.int (r4)]) (w := some (.int r4)) DX12_readsCompared_79 cv_X12_364 hR ct_2200 (one_cnt _) rfl (C_X12_readsSum (cxL X) hR hc6) rfl (by decide) (by decide) rfl (Nat.le_of_ble_eq_true rfl) rfl (fun M hR => ?_)
    refine r_if_ne DX12_readsCompared_82 (fun c7 => ?_) (fun c7 => ?_)
    · have h := if_f c7 h
      refine r_aload_n DX12_readsCompared_87 rfl ?_
      refine r_iload_n DX12_readsCompared_88 rfl ?_
      refine r_iconst (v := 0) DX12_readsCompared_89 ki_0 ?_
      obtain ⟨r8, V9, hc10, h⟩ := bd_inv h
      refine k_callV (As := [.int (s0), .int ((0 : Int32))]) (rest := []) (st1 := []) (w := none) DX12_readsCompared_90 cv_X12_338 hR ct_2200 (one_cnt _) rfl (C_X12_says (cxL X) hR hc10) rfl (by decide) (by decide) rfl (Nat.le_of_ble_eq_true rfl) rfl (fun M hR => ?_)
      refine r_aload_n DX12_readsCompared_93 rfl ?_
      obtain ⟨r11, V12, hc13, h⟩ := bd_inv h
      refine k_callV (As := []) (rest := []) (st1 := []) (w := none) DX12_readsCompared_94 cv_X12_367 hR ct_2200 (one_cnt _) rfl (C_X12_endsPiece (cxL X) hR hc13) rfl (by decide) (by decide) rfl (Nat.le_of_ble_eq_true rfl) rfl (fun M hR => ?_)
      refine r_iconst (v := 1) DX12_readsCompared_97 ki_1 ?_
      cases h
      exact r_zret DX12_readsCompared_98 rfl rfl ⟨Nat.le_refl 0, Nat.le_refl 0⟩ (hp M hR)
    · have h := if_t c7 h
      refine r_iconst (v := 0) DX12_readsCompared_85 ki_0 ?_
      cases h
      exact r_zret DX12_readsCompared_86 rfl rfl ⟨Nat.le_refl 0, Nat.le_refl 0⟩ (hp M hR)
  · have h := if_t c1 h
    refine r_aload_n DX12_readsCompared_58 rfl ?_
    refine r_iconst (v := 1) DX12_readsCompared_59 ki_1 ?_
    refine r_aload_n DX12_readsCompared_60 rfl ?_
    refine s_geti DX12_readsCompared_61 fl_X12_302 hR ct_2200 (one_cnt _) rfl ?_
    obtain ⟨r7, V8, hc9, h⟩ := bd_inv h
    refine k_callV (As := [.int ((1 : Int32)), .int ((V 2243 0 0))]) (rest := []) (st1 := [.int (r7)]) (w := some (.int r7)) DX12_readsCompared_64 cv_X12_315 hR ct_2200 (one_cnt _) rfl (C_X12_wrong (cxL X) hR hc9) rfl (by decide) (by decide) rfl (Nat.le_of_ble_eq_true rfl) rfl (fun M hR => ?_)
    obtain ⟨hz10, h⟩ := gd_inv h
    cases h
    exact r_zret DX12_readsCompared_67 rfl (nz_nar hz10) ⟨Nat.le_refl 0, Nat.le_refl 0⟩ (hp M hR)
def f_X12_readsCompared (fu : Nat) (V : St) : RR :=
  bd (f_X12_readsSum fu V) fun r1 V2 => if r1 = 0 then
    (some ((0 : Int32), V2))
    else
    (bd (f_X12_here fu V2) fun r5 V6 => if r5 = (60 : Int32) then
      (F_X12_readsCompared_52 fu V6 ((7 : Int32)))
      else
      (bd (f_X12_here fu V6) fun r9 V10 => if r9 = (62 : Int32) then
        (F_X12_readsCompared_52 fu V10 ((8 : Int32)))
        else
        (bd (f_X12_here fu V10) fun r13 V14 => if r13 = (61 : Int32) then
          (F_X12_readsCompared_52 fu V14 ((9 : Int32)))
          else
          (F_X12_readsCompared_52 fu V14 ((-1 : Int32))))))
theorem S_X12_readsCompared_0 {E : EN} {X : CX} {P : Option Value → MH → Prop} {ad : AD} {fu : Nat} {out : Int32 × St} (hp : ∀ M, Rep E ad out.2 M → P (some (.int out.1)) M) {V : St} {M : MH} (hR : Rep E ad V M) (h : f_X12_readsCompared fu V = some out) : G E X RX12 cX12_readsCompared 2 (some .boolean) false (rmD 6) P M [some (.ref (ad 2200 0)), none] 0 0 0 [] := by
  unfold f_X12_readsCompared at h
  refine r_aload_n DX12_readsCompared_0 rfl ?_
  obtain ⟨r1, V2, hc3, h⟩ := bd_inv h
  refine k_callV (As := []) (rest := []) (st1 := [.int (r1)]) (w := some (.int r1)) DX12_readsCompared_1 cv_X12_364 hR ct_2200 (one_cnt _) rfl (C_X12_readsSum (cxL X) hR hc3) rfl (by decide) (by decide) rfl (Nat.le_of_ble_eq_true rfl) rfl (fun M hR => ?_)
  refine r_if_ne DX12_readsCompared_4 (fun c4 => ?_) (fun c4 => ?_)
  · have h := if_f c4 h
    refine r_aload_n DX12_readsCompared_9 rfl ?_
    obtain ⟨r5, V6, hc7, h⟩ := bd_inv h
    refine k_callV (As := []) (rest := []) (st1 := [.int (r5)]) (w := some (.int r5)) DX12_readsCompared_10 cv_X12_308 hR ct_2200 (one_cnt _) rfl (C_X12_here (cxL X) hR hc7) rfl (by decide) (by decide) rfl (Nat.le_of_ble_eq_true rfl) rfl (fun M hR => ?_)
    refine r_bipush (v := 60) DX12_readsCompared_13 kb_60 ?_
    refine r_icmp_ne DX12_readsCompared_15 (fun c8 => ?_) (fun c8 => ?_)
    · have h := if_f c8 h
      refine r_aload_n DX12_readsCompared_23 rfl ?_
      obtain ⟨r9, V10, hc11, h⟩ := bd_inv h
      refine k_callV (As := []) (rest := []) (st1 := [.int (r9)]) (w := some (.int r9)) DX12_readsCompared_24 cv_X12_308 hR ct_2200 (one_cnt _) rfl (C_X12_here (cxL X) hR hc11) rfl (by decide) (by decide) rfl (Nat.le_of_ble_eq_true rfl) rfl (fun M hR => ?_)
      refine r_bipush (v := 62) DX12_readsCompared_27 kb_62 ?_
      refine r_icmp_ne DX12_readsCompared_29 (fun c12 => ?_) (fun c12 => ?_)
      · have h := if_f c12 h
        refine r_aload_n DX12_readsCompared_37 rfl ?_
        obtain ⟨r13, V14, hc15, h⟩ := bd_inv h
        refine k_callV (As := []) (rest := []) (st1 := [.int (r13)]) (w := some (.int r13)) DX12_readsCompared_38 cv_X12_308 hR ct_2200 (one_cnt _) rfl (C_X12_here (cxL X) hR hc15) rfl (by decide) (by decide) rfl (Nat.le_of_ble_eq_true rfl) rfl (fun M hR => ?_)
        refine r_bipush (v := 61) DX12_readsCompared_41 kb_61 ?_
        refine r_icmp_ne DX12_readsCompared_43 (fun c16 => ?_) (fun c16 => ?_)
        · have h := if_f c16 h
          refine r_iconst (v := -1) DX12_readsCompared_51 ki_m1 ?_
          exact S_X12_readsCompared_52 hp hR h
        · have h := if_t c16 h
          refine r_bipush (v := 9) DX12_readsCompared_46 kb_9 ?_
          refine r_goto DX12_readsCompared_48 ?_
          exact S_X12_readsCompared_52 hp hR h
      · have h := if_t c12 h
        refine r_bipush (v := 8) DX12_readsCompared_32 kb_8 ?_
        refine r_goto DX12_readsCompared_34 ?_
        exact S_X12_readsCompared_52 hp hR h
    · have h := if_t c8 h
      refine r_bipush (v := 7) DX12_readsCompared_18 kb_7 ?_
      refine r_goto DX12_readsCompared_20 ?_
      exact S_X12_readsCompared_52 hp hR h
  · have h := if_t c4 h
    refine r_iconst (v := 0) DX12_readsCompared_7 ki_0 ?_
    cases h
    exact r_zret DX12_readsCompared_8 rfl rfl ⟨Nat.le_refl 0, Nat.le_refl 0⟩ (hp M hR)
theorem C_X12_readsCompared {E : EN} {ad : AD} {fu : Nat} {out : Int32 × St} {V : St} {M : MH} (l : Launch) (hR : Rep E ad V M) (h : f_X12_readsCompared fu V = some out) : Ct E l yX12_readsCompared cX12_readsCompared 2 (some .boolean) (rmD 6) [.ref (ad 2200 0)] M (fun v M => v = (some (.int out.1)) ∧ Rep E ad out.2 M) :=
  Ct.of (own := RX12) (ini := false) (L := [some (.ref (ad 2200 0)), none]) rfl rfl (fun h => by cases h) rfl (Nat.le_of_ble_eq_true rfl) rfl (fun X _ => S_X12_readsCompared_0 (fun M hR => ⟨rfl, hR⟩) hR h)
def F_X12_readsCondition_215 (kh : St → RR) (kx81 : St → RR) (kx90 : St → RR) (kx143 : St → RR) (kx170 : St → RR) (fu : Nat) (V : St) (s0 : Int32) : RR :=
  bd (f_X12_jumps fu V (s0)) fun r1 V2 => kh V2
theorem S_X12_readsCondition_215 {E : EN} {X : CX} {P : Option Value → MH → Prop} {ad : AD} {fu : Nat} {out : Int32 × St} {kh : St → RR} {kx81 : St → RR} {kx90 : St → RR} {kx143 : St → RR} {kx170 : St → RR} (hkh : ∀ {V : St} {M : MH}, Rep E ad V M → kh V  = some out → G E X RX12 cX12_readsCondition 1 (some .boolean) false (rmD 7) P M [some (.ref (ad 2200 0))] 0 0 40 []) (hkx81 : ∀ {V : St} {M : MH} {d0 : Option Value}, Rep E ad V M → kx81 V  = some out → G E X RX12 cX12_readsCondition 1 (some .boolean) false (rmD 7) P M [d0] 0 0 81 []) (hkx90 : ∀ {V : St} {M : MH} {d0 : Option Value}, Rep E ad V M → kx90 V  = some out → G E X RX12 cX12_readsCondition 1 (some .boolean) false (rmD 7) P M [d0] 0 0 90 []) (hkx143 : ∀ {V : St} {M : MH} {d0 : Option Value}, Rep E ad V M → kx143 V  = some out → G E X RX12 cX12_readsCondition 1 (some .boolean) false (rmD 7) P M [d0] 0 0 143 []) (hkx170 : ∀ {V : St} {M : MH}, Rep E ad V M → kx170 V  = some out → G E X RX12 cX12_readsCondition 1 (some .boolean) false (rmD 7) P M [some (.ref (ad 2200 0))] 0 0 170 []) (hp : ∀ M, Rep E ad out.2 M → P (some (.int out.1)) M) {V : St} {M : MH} {s0 : Int32} (hR : Rep E ad V M) (h : F_X12_readsCondition_215 kh kx81 kx90 kx143 kx170 fu V s0 = some out) : G E X RX12 cX12_readsCondition 1 (some .boolean) false (rmD 7) P M [some (.ref (ad 2200 0))] 0 0 215 [.int (s0), .ref (ad 2200 0)] := by
  unfold F_X12_readsCondition_215 at h
  obtain ⟨r1, V2, hc3, h⟩ := bd_inv h
  refine k_callV (As := [.int (s0)]) (rest := []) (st1 := []) (w := none) DX12_readsCondition_215 cv_X12_376 hR ct_2200 (one_cnt _) rfl (C_X12_jumps (cxL X) hR hc3) rfl (by decide) (by decide) rfl (Nat.le_of_ble_eq_true rfl) rfl (fun M hR => ?_)
  refine r_goto DX12_readsCondition_218 ?_
  exact hkh hR h
def F_X12_readsCondition_195 (kh : St → RR) (kx81 : St → RR) (kx90 : St → RR) (kx143 : St → RR) (kx170 : St → RR) (fu : Nat) (V : St) (s0 : Int32) : RR :=
  bd (f_X12_lands fu V (s0)) fun r1 V2 => bd (f_X12_here fu V2) fun r4 V5 => if r4 = (38 : Int32) then
    (F_X12_readsCondition_215 kh kx81 kx90 kx143 kx170 fu V5 ((11 : Int32)))
    else
    (F_X12_readsCondition_215 kh kx81 kx90 kx143 kx170 fu V5 ((12 : Int32)))
theorem S_X12_readsCondition_195 {E : EN} {X : CX} {P : Option Value → MH → Prop} {ad : AD} {fu : Nat} {out : Int32 × St} {kh : St → RR} {kx81 : St → RR} {kx90 : St → RR} {kx143 : St → RR} {kx170 : St → RR} (hkh : ∀ {V : St} {M : MH}, Rep E ad V M → kh V  = some out → G E X RX12 cX12_readsCondition 1 (some .boolean) false (rmD 7) P M [some (.ref (ad 2200 0))] 0 0 40 []) (hkx81 : ∀ {V : St} {M : MH} {d0 : Option Value}, Rep E ad V M → kx81 V  = some out → G E X RX12 cX12_readsCondition 1 (some .boolean) false (rmD 7) P M [d0] 0 0 81 []) (hkx90 : ∀ {V : St} {M : MH} {d0 : Option Value}, Rep E ad V M → kx90 V  = some out → G E X RX12 cX12_readsCondition 1 (some .boolean) false (rmD 7) P M [d0] 0 0 90 []) (hkx143 : ∀ {V : St} {M : MH} {d0 : Option Value}, Rep E ad V M → kx143 V  = some out → G E X RX12 cX12_readsCondition 1 (some .boolean) false (rmD 7) P M [d0] 0 0 143 []) (hkx170 : ∀ {V : St} {M : MH}, Rep E ad V M → kx170 V  = some out → G E X RX12 cX12_readsCondition 1 (some .boolean) false (rmD 7) P M [some (.ref (ad 2200 0))] 0 0 170 []) (hp : ∀ M, Rep E ad out.2 M → P (some (.int out.1)) M) {V : St} {M : MH} {s0 : Int32} (hR : Rep E ad V M) (h : F_X12_readsCondition_195 kh kx81 kx90 kx143 kx170 fu V s0 = some out) : G E X RX12 cX12_readsCondition 1 (some .boolean) false (rmD 7) P M [some (.ref (ad 2200 0))] 0 0 195 [.int (s0), .ref (ad 2200 0)] := by
  unfold F_X12_readsCondition_195 at h
  obtain ⟨r1, V2, hc3, h⟩ := bd_inv h
  refine k_callV (As := [.int (s0)]) (rest := []) (st1 := []) (w := none) DX12_readsCondition_195 cv_X12_373 hR ct_2200 (one_cnt _) rfl (C_X12_lands (cxL X) hR hc3) rfl (by decide) (by decide) rfl (Nat.le_of_ble_eq_true rfl) rfl (fun M hR => ?_)
  refine r_aload_n DX12_readsCondition_198 rfl ?_
  refine r_aload_n DX12_readsCondition_199 rfl ?_
  obtain ⟨r4, V5, hc6, h⟩ := bd_inv h
  refine k_callV (As := []) (rest := [.ref (ad 2200 0)]) (st1 := [.int (r4), .ref (ad 2200 0)]) (w := some (.int r4)) DX12_readsCondition_200 cv_X12_308 hR ct_2200 (one_cnt _) rfl (C_X12_here (cxL X) hR hc6) rfl (by decide) (by decide) rfl (Nat.le_of_ble_eq_true rfl) rfl (fun M hR => ?_)
  refine r_bipush (v := 38) DX12_readsCondition_203 kb_38 ?_
  refine r_icmp_ne DX12_readsCondition_205 (fun c7 => ?_) (fun c7 => ?_)
  · have h := if_f c7 h
    refine r_bipush (v := 12) DX12_readsCondition_213 kb_12 ?_
    exact S_X12_readsCondition_215 (fun hR h => hkh hR h) (fun hR h => hkx81 hR h) (fun hR h => hkx90 hR h) (fun hR h => hkx143 hR h) (fun hR h => hkx170 hR h) hp hR h
  · have h := if_t c7 h
    refine r_bipush (v := 11) DX12_readsCondition_208 kb_11 ?_
    refine r_goto DX12_readsCondition_210 ?_
    exact S_X12_readsCondition_215 (fun hR h => hkh hR h) (fun hR h => hkx81 hR h) (fun hR h => hkx90 hR h) (fun hR h => hkx143 hR h) (fun hR h => hkx170 hR h) hp hR h
def F_X12_readsCondition_180 (kh : St → RR) (kx81 : St → RR) (kx90 : St → RR) (kx143 : St → RR) (kx170 : St → RR) (fu : Nat) (V : St) : RR :=
  bd (f_X12_here fu V) fun r1 V2 => if r1 = (124 : Int32) then
    (F_X12_readsCondition_195 kh kx81 kx90 kx143 kx170 fu V2 ((1 : Int32)))
    else
    (F_X12_readsCondition_195 kh kx81 kx90 kx143 kx170 fu V2 ((0 : Int32)))
theorem S_X12_readsCondition_180 {E : EN} {X : CX} {P : Option Value → MH → Prop} {ad : AD} {fu : Nat} {out : Int32 × St} {kh : St → RR} {kx81 : St → RR} {kx90 : St → RR} {kx143 : St → RR} {kx170 : St → RR} (hkh : ∀ {V : St} {M : MH}, Rep E ad V M → kh V  = some out → G E X RX12 cX12_readsCondition 1 (some .boolean) false (rmD 7) P M [some (.ref (ad 2200 0))] 0 0 40 []) (hkx81 : ∀ {V : St} {M : MH} {d0 : Option Value}, Rep E ad V M → kx81 V  = some out → G E X RX12 cX12_readsCondition 1 (some .boolean) false (rmD 7) P M [d0] 0 0 81 []) (hkx90 : ∀ {V : St} {M : MH} {d0 : Option Value}, Rep E ad V M → kx90 V  = some out → G E X RX12 cX12_readsCondition 1 (some .boolean) false (rmD 7) P M [d0] 0 0 90 []) (hkx143 : ∀ {V : St} {M : MH} {d0 : Option Value}, Rep E ad V M → kx143 V  = some out → G E X RX12 cX12_readsCondition 1 (some .boolean) false (rmD 7) P M [d0] 0 0 143 []) (hkx170 : ∀ {V : St} {M : MH}, Rep E ad V M → kx170 V  = some out → G E X RX12 cX12_readsCondition 1 (some .boolean) false (rmD 7) P M [some (.ref (ad 2200 0))] 0 0 170 []) (hp : ∀ M, Rep E ad out.2 M → P (some (.int out.1)) M) {V : St} {M : MH} (hR : Rep E ad V M) (h : F_X12_readsCondition_180 kh kx81 kx90 kx143 kx170 fu V = some out) : G E X RX12 cX12_readsCondition 1 (some .boolean) false (rmD 7) P M [some (.ref (ad 2200 0))] 0 0 180 [] := by
  unfold F_X12_readsCondition_180 at h
  refine r_aload_n DX12_readsCondition_180 rfl ?_
  refine r_aload_n DX12_readsCondition_181 rfl ?_
  obtain ⟨r1, V2, hc3, h⟩ := bd_inv h
  refine k_callV (As := []) (rest := [.ref (ad 2200 0)]) (st1 := [.int (r1), .ref (ad 2200 0)]) (w := some (.int r1)) DX12_readsCondition_182 cv_X12_308 hR ct_2200 (one_cnt _) rfl (C_X12_here (cxL X) hR hc3) rfl (by decide) (by decide) rfl (Nat.le_of_ble_eq_true rfl) rfl (fun M hR => ?_)
  refine r_bipush (v := 124) DX12_readsCondition_185 kb_124 ?_
  refine r_icmp_ne DX12_readsCondition_187 (fun c4 => ?_) (fun c4 => ?_)
  · have h := if_f c4 h
    refine r_iconst (v := 0) DX12_readsCondition_194 ki_0 ?_
    exact S_X12_readsCondition_195 (fun hR h => hkh hR h) (fun hR h => hkx81 hR h) (fun hR h => hkx90 hR h) (fun hR h => hkx143 hR h) (fun hR h => hkx170 hR h) hp hR h
  · have h := if_t c4 h
    refine r_iconst (v := 1) DX12_readsCondition_190 ki_1 ?_
    refine r_goto DX12_readsCondition_191 ?_
    exact S_X12_readsCondition_195 (fun hR h => hkh hR h) (fun hR h => hkx81 hR h) (fun hR h => hkx90 hR h) (fun hR h => hkx143 hR h) (fun hR h => hkx170 hR h) hp hR h
def F_X12_readsCondition_170 (fu : Nat) (V : St) : RR :=
  bd (f_X12_wrong fu V ((1 : Int32)) ((V 2243 0 0))) fun r1 V2 => gd (r1 = 0 ∨ r1 = 1) <| some (r1, V2)
theorem S_X12_readsCondition_170 {E : EN} {X : CX} {P : Option Value → MH → Prop} {ad : AD} {fu : Nat} {out : Int32 × St} (hp : ∀ M, Rep E ad out.2 M → P (some (.int out.1)) M) {V : St} {M : MH} (hR : Rep E ad V M) (h : F_X12_readsCondition_170 fu V = some out) : G E X RX12 cX12_readsCondition 1 (some .boolean) false (rmD 7) P M [some (.ref (ad 2200 0))] 0 0 170 [] := by
  unfold F_X12_readsCondition_170 at h
  refine r_aload_n DX12_readsCondition_170 rfl ?_
  refine r_iconst (v := 1) DX12_readsCondition_171 ki_1 ?_
  refine r_aload_n DX12_readsCondition_172 rfl ?_
  refine s_geti DX12_readsCondition_173 fl_X12_302 hR ct_2200 (one_cnt _) rfl ?_
  obtain ⟨r1, V2, hc3, h⟩ := bd_inv h
  refine k_callV (As := [.int ((1 : Int32)), .int ((V 2243 0 0))]) (rest := []) (st1 := [.int (r1)]) (w := some (.int r1)) DX12_readsCondition_176 cv_X12_315 hR ct_2200 (one_cnt _) rfl (C_X12_wrong (cxL X) hR hc3) rfl (by decide) (by decide) rfl (Nat.le_of_ble_eq_true rfl) rfl (fun M hR => ?_)
  obtain ⟨hz4, h⟩ := gd_inv h
  cases h
  exact r_zret DX12_readsCondition_179 rfl (nz_nar hz4) ⟨Nat.le_refl 0, Nat.le_refl 0⟩ (hp M hR)
def F_X12_readsCondition_152 (kh : St → RR) (kx81 : St → RR) (kx90 : St → RR) (kx143 : St → RR) (kx170 : St → RR) (fu : Nat) (V : St) : RR :=
  bd (f_X12_here fu V) fun r1 V2 => if r1 = (38 : Int32) then
    (F_X12_readsCondition_180 kh kx81 kx90 kx143 kx170 fu V2)
    else
    (bd (f_X12_here fu V2) fun r5 V6 => if r5 = (124 : Int32) then
      (F_X12_readsCondition_180 kh kx81 kx90 kx143 kx170 fu V6)
      else
      (kx170 V6))
theorem S_X12_readsCondition_152 {E : EN} {X : CX} {P : Option Value → MH → Prop} {ad : AD} {fu : Nat} {out : Int32 × St} {kh : St → RR} {kx81 : St → RR} {kx90 : St → RR} {kx143 : St → RR} {kx170 : St → RR} (hkh : ∀ {V : St} {M : MH}, Rep E ad V M → kh V  = some out → G E X RX12 cX12_readsCondition 1 (some .boolean) false (rmD 7) P M [some (.ref (ad 2200 0))] 0 0 40 []) (hkx81 : ∀ {V : St} {M : MH} {d0 : Option Value}, Rep E ad V M → kx81 V  = some out → G E X RX12 cX12_readsCondition 1 (some .boolean) false (rmD 7) P M [d0] 0 0 81 []) (hkx90 : ∀ {V : St} {M : MH} {d0 : Option Value}, Rep E ad V M → kx90 V  = some out → G E X RX12 cX12_readsCondition 1 (some .boolean) false (rmD 7) P M [d0] 0 0 90 []) (hkx143 : ∀ {V : St} {M : MH} {d0 : Option Value}, Rep E ad V M → kx143 V  = some out → G E X RX12 cX12_readsCondition 1 (some .boolean) false (rmD 7) P M [d0] 0 0 143 []) (hkx170 : ∀ {V : St} {M : MH}, Rep E ad V M → kx170 V  = some out → G E X RX12 cX12_readsCondition 1 (some .boolean) false (rmD 7) P M [some (.ref (ad 2200 0))] 0 0 170 []) (hp : ∀ M, Rep E ad out.2 M → P (some (.int out.1)) M) {V : St} {M : MH} (hR : Rep E ad V M) (h : F_X12_readsCondition_152 kh kx81 kx90 kx143 kx170 fu V = some out) : G E X RX12 cX12_readsCondition 1 (some .boolean) false (rmD 7) P M [some (.ref (ad 2200 0))] 0 0 152 [] := by
  unfold F_X12_readsCondition_152 at h
  refine r_aload_n DX12_readsCondition_152 rfl ?_
  obtain ⟨r1, V2, hc3, h⟩ := bd_inv h
  refine k_callV (As := []) (rest := []) (st1 := [.int (r1)]) (w := some (.int r1)) DX12_readsCondition_153 cv_X12_308 hR ct_2200 (one_cnt _) rfl (C_X12_here (cxL X) hR hc3) rfl (by decide) (by decide) rfl (Nat.le_of_ble_eq_true rfl) rfl (fun M hR => ?_)
  refine r_bipush (v := 38) DX12_readsCondition_156 kb_38 ?_
  refine r_icmp_eq DX12_readsCondition_158 (fun c4 => ?_) (fun c4 => ?_)
  · have h := if_t c4 h
    exact S_X12_readsCondition_180 (fun hR h => hkh hR h) (fun hR h => hkx81 hR h) (fun hR h => hkx90 hR h) (fun hR h => hkx143 hR h) (fun hR h => hkx170 hR h) hp hR h
  · have h := if_f c4 h
    refine r_aload_n DX12_readsCondition_161 rfl ?_
    obtain ⟨r5, V6, hc7, h⟩ := bd_inv h
    refine k_callV (As := []) (rest := []) (st1 := [.int (r5)]) (w := some (.int r5)) DX12_readsCondition_162 cv_X12_308 hR ct_2200 (one_cnt _) rfl (C_X12_here (cxL X) hR hc7) rfl (by decide) (by decide) rfl (Nat.le_of_ble_eq_true rfl) rfl (fun M hR => ?_)
    refine r_bipush (v := 124) DX12_readsCondition_165 kb_124 ?_
    refine r_icmp_eq DX12_readsCondition_167 (fun c8 => ?_) (fun c8 => ?_)
    · have h := if_t c8 h
      exact S_X12_readsCondition_180 (fun hR h => hkh hR h) (fun hR h => hkx81 hR h) (fun hR h => hkx90 hR h) (fun hR h => hkx143 hR h) (fun hR h => hkx170 hR h) hp hR h
    · have h := if_f c8 h
      exact hkx170 hR h
def F_X12_readsCondition_143 (fu : Nat) (V : St) : RR :=
  some ((1 : Int32), V)
theorem S_X12_readsCondition_143 {E : EN} {X : CX} {P : Option Value → MH → Prop} {ad : AD} {fu : Nat} {out : Int32 × St} (hp : ∀ M, Rep E ad out.2 M → P (some (.int out.1)) M) {V : St} {M : MH} {d0 : Option Value} (hR : Rep E ad V M) (h : F_X12_readsCondition_143 fu V = some out) : G E X RX12 cX12_readsCondition 1 (some .boolean) false (rmD 7) P M [d0] 0 0 143 [] := by
  unfold F_X12_readsCondition_143 at h
  refine r_iconst (v := 1) DX12_readsCondition_143 ki_1 ?_
  cases h
  exact r_zret DX12_readsCondition_144 rfl rfl ⟨Nat.le_refl 0, Nat.le_refl 0⟩ (hp M hR)
def F_X12_readsCondition_92 (kh : St → RR) (kx143 : St → RR) (kx152 : St → RR) (fu : Nat) (V : St) : RR :=
  bd (f_X12_here fu V) fun r1 V2 => if r1 = (41 : Int32) then
    (bd (f_X12_lands fu V2 ((1 : Int32))) fun r5 V6 => bv (setV V6 2249 0 0 ((V6 2249 0 0) - (1 : Int32))) fun V8 => bv (setV V8 2247 0 0 ((V8 2247 0 0) - (1 : Int32))) fun V10 => bv (setV V10 2243 0 0 ((V10 2243 0 0) + (1 : Int32))) fun V12 => if (V12 2249 0 0) = 0 then
      (kx143 V12)
      else
      (bd (f_X12_endsPiece fu V12) fun r15 V16 => kh V16))
    else
    (kx152 V2)
theorem S_X12_readsCondition_92 {E : EN} {X : CX} {P : Option Value → MH → Prop} {ad : AD} {fu : Nat} {out : Int32 × St} {kh : St → RR} {kx143 : St → RR} {kx152 : St → RR} (hkh : ∀ {V : St} {M : MH}, Rep E ad V M → kh V  = some out → G E X RX12 cX12_readsCondition 1 (some .boolean) false (rmD 7) P M [some (.ref (ad 2200 0))] 0 0 92 []) (hkx143 : ∀ {V : St} {M : MH} {d0 : Option Value}, Rep E ad V M → kx143 V  = some out → G E X RX12 cX12_readsCondition 1 (some .boolean) false (rmD 7) P M [d0] 0 0 143 []) (hkx152 : ∀ {V : St} {M : MH}, Rep E ad V M → kx152 V  = some out → G E X RX12 cX12_readsCondition 1 (some .boolean) false (rmD 7) P M [some (.ref (ad 2200 0))] 0 0 152 []) (hp : ∀ M, Rep E ad out.2 M → P (some (.int out.1)) M) {V : St} {M : MH} (hR : Rep E ad V M) (h : F_X12_readsCondition_92 kh kx143 kx152 fu V = some out) : G E X RX12 cX12_readsCondition 1 (some .boolean) false (rmD 7) P M [some (.ref (ad 2200 0))] 0 0 92 [] := by
  unfold F_X12_readsCondition_92 at h
  refine r_aload_n DX12_readsCondition_92 rfl ?_
  obtain ⟨r1, V2, hc3, h⟩ := bd_inv h
  refine k_callV (As := []) (rest := []) (st1 := [.int (r1)]) (w := some (.int r1)) DX12_readsCondition_93 cv_X12_308 hR ct_2200 (one_cnt _) rfl (C_X12_here (cxL X) hR hc3) rfl (by decide) (by decide) rfl (Nat.le_of_ble_eq_true rfl) rfl (fun M hR => ?_)
  refine r_bipush (v := 41) DX12_readsCondition_96 kb_41 ?_
  refine r_icmp_ne DX12_readsCondition_98 (fun c4 => ?_) (fun c4 => ?_)
  · have h := if_f c4 h
    exact hkx152 hR h
  · have h := if_t c4 h
    refine r_aload_n DX12_readsCondition_101 rfl ?_
    refine r_iconst (v := 1) DX12_readsCondition_102 ki_1 ?_
    obtain ⟨r5, V6, hc7, h⟩ := bd_inv h
    refine k_callV (As := [.int ((1 : Int32))]) (rest := []) (st1 := []) (w := none) DX12_readsCondition_103 cv_X12_373 hR ct_2200 (one_cnt _) rfl (C_X12_lands (cxL X) hR hc7) rfl (by decide) (by decide) rfl (Nat.le_of_ble_eq_true rfl) rfl (fun M hR => ?_)
    refine r_aload_n DX12_readsCondition_106 rfl ?_
    refine r_aload_n DX12_readsCondition_107 rfl ?_
    refine s_geti DX12_readsCondition_108 fl_X12_332 hR ct_2200 (one_cnt _) rfl ?_
    refine r_iconst (v := 1) DX12_readsCondition_111 ki_1 ?_
    refine r_isub DX12_readsCondition_112 ?_
    obtain ⟨V8, hv9, h⟩ := bv_inv h
    refine s_puti DX12_readsCondition_113 fp_X12_332 hR oks_2249 ct_2200 (one_cnt _) rfl rfl rfl (fun M hR => ?_)
    have hR := hR.cg hv9
    refine r_aload_n DX12_readsCondition_116 rfl ?_
    refine r_aload_n DX12_readsCondition_117 rfl ?_
    refine s_geti DX12_readsCondition_118 fl_X12_329 hR ct_2200 (one_cnt _) rfl ?_
    refine r_iconst (v := 1) DX12_readsCondition_121 ki_1 ?_
    refine r_isub DX12_readsCondition_122 ?_
    obtain ⟨V10, hv11, h⟩ := bv_inv h
    refine s_puti DX12_readsCondition_123 fp_X12_329 hR oks_2247 ct_2200 (one_cnt _) rfl rfl rfl (fun M hR => ?_)
    have hR := hR.cg hv11
    refine r_aload_n DX12_readsCondition_126 rfl ?_
    refine r_aload_n DX12_readsCondition_127 rfl ?_
    refine s_geti DX12_readsCondition_128 fl_X12_302 hR ct_2200 (one_cnt _) rfl ?_
    refine r_iconst (v := 1) DX12_readsCondition_131 ki_1 ?_
    refine r_iadd DX12_readsCondition_132 ?_
    obtain ⟨V12, hv13, h⟩ := bv_inv h
    refine s_puti DX12_readsCondition_133 fp_X12_302 hR oks_2243 ct_2200 (one_cnt _) rfl rfl rfl (fun M hR => ?_)
    have hR := hR.cg hv13
    refine r_aload_n DX12_readsCondition_136 rfl ?_
    refine s_geti DX12_readsCondition_137 fl_X12_332 hR ct_2200 (one_cnt _) rfl ?_
    refine r_if_ne DX12_readsCondition_140 (fun c14 => ?_) (fun c14 => ?_)
    · have h := if_f c14 h
      refine r_aload_n DX12_readsCondition_145 rfl ?_
      obtain ⟨r15, V16, hc17, h⟩ := bd_inv h
      refine k_callV (As := []) (rest := []) (st1 := []) (w := none) DX12_readsCondition_146 cv_X12_367 hR ct_2200 (one_cnt _) rfl (C_X12_endsPiece (cxL X) hR hc17) rfl (by decide) (by decide) rfl (Nat.le_of_ble_eq_true rfl) rfl (fun M hR => ?_)
      refine r_goto DX12_readsCondition_149 ?_
      exact hkh hR h
    · have h := if_t c14 h
      exact hkx143 hR h
def Lp_X12_readsCondition_92 (kx143 : St → RR) (kx152 : St → RR) (fu : Nat) : Nat → St → RR
  | 0, _ => none
  | n + 1, V => F_X12_readsCondition_92 (Lp_X12_readsCondition_92 kx143 kx152 fu n) kx143 kx152 fu V
theorem SL_X12_readsCondition_92 {E : EN} {X : CX} {P : Option Value → MH → Prop} {ad : AD} {fu : Nat} {out : Int32 × St} {kx143 : St → RR} {kx152 : St → RR} (hkx143 : ∀ {V : St} {M : MH} {d0 : Option Value}, Rep E ad V M → kx143 V  = some out → G E X RX12 cX12_readsCondition 1 (some .boolean) false (rmD 7) P M [d0] 0 0 143 []) (hkx152 : ∀ {V : St} {M : MH}, Rep E ad V M → kx152 V  = some out → G E X RX12 cX12_readsCondition 1 (some .boolean) false (rmD 7) P M [some (.ref (ad 2200 0))] 0 0 152 []) (hp : ∀ M, Rep E ad out.2 M → P (some (.int out.1)) M) : ∀ (n : Nat) {V : St} {M : MH}, Rep E ad V M → Lp_X12_readsCondition_92 kx143 kx152 fu n V = some out → G E X RX12 cX12_readsCondition 1 (some .boolean) false (rmD 7) P M [some (.ref (ad 2200 0))] 0 0 92 [] := by
  intro n
  induction n with
  | zero => intros; rename_i h; cases h
  | succ n ih => exact fun hR h => S_X12_readsCondition_92 (fun hR h => ih hR h) (fun hR h => hkx143 hR h) (fun hR h => hkx152 hR h) hp hR h
def F_X12_readsCondition_90 (fu : Nat) (V : St) : RR :=
  some ((0 : Int32), V)
theorem S_X12_readsCondition_90 {E : EN} {X : CX} {P : Option Value → MH → Prop} {ad : AD} {fu : Nat} {out : Int32 × St} (hp : ∀ M, Rep E ad out.2 M → P (some (.int out.1)) M) {V : St} {M : MH} {d0 : Option Value} (hR : Rep E ad V M) (h : F_X12_readsCondition_90 fu V = some out) : G E X RX12 cX12_readsCondition 1 (some .boolean) false (rmD 7) P M [d0] 0 0 90 [] := by
  unfold F_X12_readsCondition_90 at h
  refine r_iconst (v := 0) DX12_readsCondition_90 ki_0 ?_
  cases h
  exact r_zret DX12_readsCondition_91 rfl rfl ⟨Nat.le_refl 0, Nat.le_refl 0⟩ (hp M hR)
def F_X12_readsCondition_81 (fu : Nat) (V : St) : RR :=
  some ((0 : Int32), V)
theorem S_X12_readsCondition_81 {E : EN} {X : CX} {P : Option Value → MH → Prop} {ad : AD} {fu : Nat} {out : Int32 × St} (hp : ∀ M, Rep E ad out.2 M → P (some (.int out.1)) M) {V : St} {M : MH} {d0 : Option Value} (hR : Rep E ad V M) (h : F_X12_readsCondition_81 fu V = some out) : G E X RX12 cX12_readsCondition 1 (some .boolean) false (rmD 7) P M [d0] 0 0 81 [] := by
  unfold F_X12_readsCondition_81 at h
  refine r_iconst (v := 0) DX12_readsCondition_81 ki_0 ?_
  cases h
  exact r_zret DX12_readsCondition_82 rfl rfl ⟨Nat.le_refl 0, Nat.le_refl 0⟩ (hp M hR)
def F_X12_readsCondition_75 (kh : St → RR) (kx81 : St → RR) (kx90 : St → RR) (kx143 : St → RR) (kx170 : St → RR) (fu : Nat) (V : St) (s0 : Int32) : RR :=
  bd (f_X12_opens fu V (s0)) fun r1 V2 => if r1 = 0 then
    (kx81 V2)
    else
    (kh V2)
theorem S_X12_readsCondition_75 {E : EN} {X : CX} {P : Option Value → MH → Prop} {ad : AD} {fu : Nat} {out : Int32 × St} {kh : St → RR} {kx81 : St → RR} {kx90 : St → RR} {kx143 : St → RR} {kx170 : St → RR} (hkh : ∀ {V : St} {M : MH}, Rep E ad V M → kh V  = some out → G E X RX12 cX12_readsCondition 1 (some .boolean) false (rmD 7) P M [some (.ref (ad 2200 0))] 0 0 40 []) (hkx81 : ∀ {V : St} {M : MH} {d0 : Option Value}, Rep E ad V M → kx81 V  = some out → G E X RX12 cX12_readsCondition 1 (some .boolean) false (rmD 7) P M [d0] 0 0 81 []) (hkx90 : ∀ {V : St} {M : MH} {d0 : Option Value}, Rep E ad V M → kx90 V  = some out → G E X RX12 cX12_readsCondition 1 (some .boolean) false (rmD 7) P M [d0] 0 0 90 []) (hkx143 : ∀ {V : St} {M : MH} {d0 : Option Value}, Rep E ad V M → kx143 V  = some out → G E X RX12 cX12_readsCondition 1 (some .boolean) false (rmD 7) P M [d0] 0 0 143 []) (hkx170 : ∀ {V : St} {M : MH}, Rep E ad V M → kx170 V  = some out → G E X RX12 cX12_readsCondition 1 (some .boolean) false (rmD 7) P M [some (.ref (ad 2200 0))] 0 0 170 []) (hp : ∀ M, Rep E ad out.2 M → P (some (.int out.1)) M) {V : St} {M : MH} {s0 : Int32} (hR : Rep E ad V M) (h : F_X12_readsCondition_75 kh kx81 kx90 kx143 kx170 fu V s0 = some out) : G E X RX12 cX12_readsCondition 1 (some .boolean) false (rmD 7) P M [some (.ref (ad 2200 0))] 0 0 75 [.int (s0), .ref (ad 2200 0)] := by
  unfold F_X12_readsCondition_75 at h
  obtain ⟨r1, V2, hc3, h⟩ := bd_inv h
  refine k_callV (As := [.int (s0)]) (rest := []) (st1 := [.int (r1)]) (w := some (.int r1)) DX12_readsCondition_75 cv_X12_341 hR ct_2200 (one_cnt _) rfl (C_X12_opens (cxL X) hR hc3) rfl (by decide) (by decide) rfl (Nat.le_of_ble_eq_true rfl) rfl (fun M hR => ?_)
  refine r_if_ne DX12_readsCondition_78 (fun c4 => ?_) (fun c4 => ?_)
  · have h := if_f c4 h
    exact hkh hR h
  · have h := if_t c4 h
    exact hkx81 hR h
def F_X12_readsCondition_58 (kh : St → RR) (kx81 : St → RR) (kx90 : St → RR) (kx143 : St → RR) (kx170 : St → RR) (fu : Nat) (V : St) : RR :=
  bd (f_X12_here fu V) fun r1 V2 => if r1 = (33 : Int32) then
    (F_X12_readsCondition_75 kh kx81 kx90 kx143 kx170 fu V2 ((10 : Int32)))
    else
    (F_X12_readsCondition_75 kh kx81 kx90 kx143 kx170 fu V2 ((13 : Int32)))
theorem S_X12_readsCondition_58 {E : EN} {X : CX} {P : Option Value → MH → Prop} {ad : AD} {fu : Nat} {out : Int32 × St} {kh : St → RR} {kx81 : St → RR} {kx90 : St → RR} {kx143 : St → RR} {kx170 : St → RR} (hkh : ∀ {V : St} {M : MH}, Rep E ad V M → kh V  = some out → G E X RX12 cX12_readsCondition 1 (some .boolean) false (rmD 7) P M [some (.ref (ad 2200 0))] 0 0 40 []) (hkx81 : ∀ {V : St} {M : MH} {d0 : Option Value}, Rep E ad V M → kx81 V  = some out → G E X RX12 cX12_readsCondition 1 (some .boolean) false (rmD 7) P M [d0] 0 0 81 []) (hkx90 : ∀ {V : St} {M : MH} {d0 : Option Value}, Rep E ad V M → kx90 V  = some out → G E X RX12 cX12_readsCondition 1 (some .boolean) false (rmD 7) P M [d0] 0 0 90 []) (hkx143 : ∀ {V : St} {M : MH} {d0 : Option Value}, Rep E ad V M → kx143 V  = some out → G E X RX12 cX12_readsCondition 1 (some .boolean) false (rmD 7) P M [d0] 0 0 143 []) (hkx170 : ∀ {V : St} {M : MH}, Rep E ad V M → kx170 V  = some out → G E X RX12 cX12_readsCondition 1 (some .boolean) false (rmD 7) P M [some (.ref (ad 2200 0))] 0 0 170 []) (hp : ∀ M, Rep E ad out.2 M → P (some (.int out.1)) M) {V : St} {M : MH} (hR : Rep E ad V M) (h : F_X12_readsCondition_58 kh kx81 kx90 kx143 kx170 fu V = some out) : G E X RX12 cX12_readsCondition 1 (some .boolean) false (rmD 7) P M [some (.ref (ad 2200 0))] 0 0 58 [] := by
  unfold F_X12_readsCondition_58 at h
  refine r_aload_n DX12_readsCondition_58 rfl ?_
  refine r_aload_n DX12_readsCondition_59 rfl ?_
  obtain ⟨r1, V2, hc3, h⟩ := bd_inv h
  refine k_callV (As := []) (rest := [.ref (ad 2200 0)]) (st1 := [.int (r1), .ref (ad 2200 0)]) (w := some (.int r1)) DX12_readsCondition_60 cv_X12_308 hR ct_2200 (one_cnt _) rfl (C_X12_here (cxL X) hR hc3) rfl (by decide) (by decide) rfl (Nat.le_of_ble_eq_true rfl) rfl (fun M hR => ?_)
  refine r_bipush (v := 33) DX12_readsCondition_63 kb_33 ?_
  refine r_icmp_ne DX12_readsCondition_65 (fun c4 => ?_) (fun c4 => ?_)
  · have h := if_f c4 h
    refine r_bipush (v := 13) DX12_readsCondition_73 kb_13 ?_
    exact S_X12_readsCondition_75 (fun hR h => hkh hR h) (fun hR h => hkx81 hR h) (fun hR h => hkx90 hR h) (fun hR h => hkx143 hR h) (fun hR h => hkx170 hR h) hp hR h
  · have h := if_t c4 h
    refine r_bipush (v := 10) DX12_readsCondition_68 kb_10 ?_
    refine r_goto DX12_readsCondition_70 ?_
    exact S_X12_readsCondition_75 (fun hR h => hkh hR h) (fun hR h => hkx81 hR h) (fun hR h => hkx90 hR h) (fun hR h => hkx143 hR h) (fun hR h => hkx170 hR h) hp hR h
def F_X12_readsCondition_40 (kh : St → RR) (kx81 : St → RR) (kx90 : St → RR) (kx143 : St → RR) (kx170 : St → RR) (fu : Nat) (V : St) : RR :=
  bd (f_X12_here fu V) fun r1 V2 => if r1 = (33 : Int32) then
    (F_X12_readsCondition_58 kh kx81 kx90 kx143 kx170 fu V2)
    else
    (bd (f_X12_here fu V2) fun r5 V6 => if r5 = (40 : Int32) then
      (F_X12_readsCondition_58 kh kx81 kx90 kx143 kx170 fu V6)
      else
      (bd (f_X12_readsCompared fu V6) fun r9 V10 => if r9 = 0 then
        (kx90 V10)
        else
        (Lp_X12_readsCondition_92 kx143 (F_X12_readsCondition_152 kh kx81 kx90 kx143 kx170 fu) fu fu V10)))
theorem S_X12_readsCondition_40 {E : EN} {X : CX} {P : Option Value → MH → Prop} {ad : AD} {fu : Nat} {out : Int32 × St} {kh : St → RR} {kx81 : St → RR} {kx90 : St → RR} {kx143 : St → RR} {kx170 : St → RR} (hkh : ∀ {V : St} {M : MH}, Rep E ad V M → kh V  = some out → G E X RX12 cX12_readsCondition 1 (some .boolean) false (rmD 7) P M [some (.ref (ad 2200 0))] 0 0 40 []) (hkx81 : ∀ {V : St} {M : MH} {d0 : Option Value}, Rep E ad V M → kx81 V  = some out → G E X RX12 cX12_readsCondition 1 (some .boolean) false (rmD 7) P M [d0] 0 0 81 []) (hkx90 : ∀ {V : St} {M : MH} {d0 : Option Value}, Rep E ad V M → kx90 V  = some out → G E X RX12 cX12_readsCondition 1 (some .boolean) false (rmD 7) P M [d0] 0 0 90 []) (hkx143 : ∀ {V : St} {M : MH} {d0 : Option Value}, Rep E ad V M → kx143 V  = some out → G E X RX12 cX12_readsCondition 1 (some .boolean) false (rmD 7) P M [d0] 0 0 143 []) (hkx170 : ∀ {V : St} {M : MH}, Rep E ad V M → kx170 V  = some out → G E X RX12 cX12_readsCondition 1 (some .boolean) false (rmD 7) P M [some (.ref (ad 2200 0))] 0 0 170 []) (hp : ∀ M, Rep E ad out.2 M → P (some (.int out.1)) M) {V : St} {M : MH} (hR : Rep E ad V M) (h : F_X12_readsCondition_40 kh kx81 kx90 kx143 kx170 fu V = some out) : G E X RX12 cX12_readsCondition 1 (some .boolean) false (rmD 7) P M [some (.ref (ad 2200 0))] 0 0 40 [] := by
  unfold F_X12_readsCondition_40 at h
  refine r_aload_n DX12_readsCondition_40 rfl ?_
  obtain ⟨r1, V2, hc3, h⟩ := bd_inv h
  refine k_callV (As := []) (rest := []) (st1 := [.int (r1)]) (w := some (.int r1)) DX12_readsCondition_41 cv_X12_308 hR ct_2200 (one_cnt _) rfl (C_X12_here (cxL X) hR hc3) rfl (by decide) (by decide) rfl (Nat.le_of_ble_eq_true rfl) rfl (fun M hR => ?_)
  refine r_bipush (v := 33) DX12_readsCondition_44 kb_33 ?_
  refine r_icmp_eq DX12_readsCondition_46 (fun c4 => ?_) (fun c4 => ?_)
  · have h := if_t c4 h
    exact S_X12_readsCondition_58 (fun hR h => hkh hR h) (fun hR h => hkx81 hR h) (fun hR h => hkx90 hR h) (fun hR h => hkx143 hR h) (fun hR h => hkx170 hR h) hp hR h
  · have h := if_f c4 h
    refine r_aload_n DX12_readsCondition_49 rfl ?_
    obtain ⟨r5, V6, hc7, h⟩ := bd_inv h
    refine k_callV (As := []) (rest := []) (st1 := [.int (r5)]) (w := some (.int r5)) DX12_readsCondition_50 cv_X12_308 hR ct_2200 (one_cnt _) rfl (C_X12_here (cxL X) hR hc7) rfl (by decide) (by decide) rfl (Nat.le_of_ble_eq_true rfl) rfl (fun M hR => ?_)
    refine r_bipush (v := 40) DX12_readsCondition_53 kb_40 ?_
    refine r_icmp_ne DX12_readsCondition_55 (fun c8 => ?_) (fun c8 => ?_)
    · have h := if_f c8 h
      refine r_aload_n DX12_readsCondition_83 rfl ?_
      obtain ⟨r9, V10, hc11, h⟩ := bd_inv h
      refine k_callV (As := []) (rest := []) (st1 := [.int (r9)]) (w := some (.int r9)) DX12_readsCondition_84 cv_X12_370 hR ct_2200 (one_cnt _) rfl (C_X12_readsCompared (cxL X) hR hc11) rfl (by decide) (by decide) rfl (Nat.le_of_ble_eq_true rfl) rfl (fun M hR => ?_)
      refine r_if_ne DX12_readsCondition_87 (fun c12 => ?_) (fun c12 => ?_)
      · have h := if_f c12 h
        exact SL_X12_readsCondition_92 (fun hR h => hkx143 hR h) (fun hR h => S_X12_readsCondition_152 (fun hR h => hkh hR h) (fun hR h => hkx81 hR h) (fun hR h => hkx90 hR h) (fun hR h => hkx143 hR h) (fun hR h => hkx170 hR h) hp hR h) hp fu hR h
      · have h := if_t c12 h
        exact hkx90 hR h
    · have h := if_t c8 h
      exact S_X12_readsCondition_58 (fun hR h => hkh hR h) (fun hR h => hkx81 hR h) (fun hR h => hkx90 hR h) (fun hR h => hkx143 hR h) (fun hR h => hkx170 hR h) hp hR h
def Lp_X12_readsCondition_40 (kx81 : St → RR) (kx90 : St → RR) (kx143 : St → RR) (kx170 : St → RR) (fu : Nat) : Nat → St → RR
  | 0, _ => none
  | n + 1, V => F_X12_readsCondition_40 (Lp_X12_readsCondition_40 kx81 kx90 kx143 kx170 fu n) kx81 kx90 kx143 kx170 fu V
theorem SL_X12_readsCondition_40 {E : EN} {X : CX} {P : Option Value → MH → Prop} {ad : AD} {fu : Nat} {out : Int32 × St} {kx81 : St → RR} {kx90 : St → RR} {kx143 : St → RR} {kx170 : St → RR} (hkx81 : ∀ {V : St} {M : MH} {d0 : Option Value}, Rep E ad V M → kx81 V  = some out → G E X RX12 cX12_readsCondition 1 (some .boolean) false (rmD 7) P M [d0] 0 0 81 []) (hkx90 : ∀ {V : St} {M : MH} {d0 : Option Value}, Rep E ad V M → kx90 V  = some out → G E X RX12 cX12_readsCondition 1 (some .boolean) false (rmD 7) P M [d0] 0 0 90 []) (hkx143 : ∀ {V : St} {M : MH} {d0 : Option Value}, Rep E ad V M → kx143 V  = some out → G E X RX12 cX12_readsCondition 1 (some .boolean) false (rmD 7) P M [d0] 0 0 143 []) (hkx170 : ∀ {V : St} {M : MH}, Rep E ad V M → kx170 V  = some out → G E X RX12 cX12_readsCondition 1 (some .boolean) false (rmD 7) P M [some (.ref (ad 2200 0))] 0 0 170 []) (hp : ∀ M, Rep E ad out.2 M → P (some (.int out.1)) M) : ∀ (n : Nat) {V : St} {M : MH}, Rep E ad V M → Lp_X12_readsCondition_40 kx81 kx90 kx143 kx170 fu n V = some out → G E X RX12 cX12_readsCondition 1 (some .boolean) false (rmD 7) P M [some (.ref (ad 2200 0))] 0 0 40 [] := by
  intro n
  induction n with
  | zero => intros; rename_i h; cases h
  | succ n ih => exact fun hR h => S_X12_readsCondition_40 (fun hR h => ih hR h) (fun hR h => hkx81 hR h) (fun hR h => hkx90 hR h) (fun hR h => hkx143 hR h) (fun hR h => hkx170 hR h) hp hR h
def f_X12_readsCondition (fu : Nat) (V : St) : RR :=
  bd (f_X12_here fu V) fun r1 V2 => if r1 = (40 : Int32) then
    (bv (setV V2 2247 0 0 ((0 : Int32))) fun V5 => bv (setV V5 2249 0 0 ((0 : Int32))) fun V7 => bd (f_X12_opens fu V7 ((13 : Int32))) fun r9 V10 => if r9 = 0 then
      (some ((0 : Int32), V10))
      else
      (Lp_X12_readsCondition_40 (F_X12_readsCondition_81 fu) (F_X12_readsCondition_90 fu) (F_X12_readsCondition_143 fu) (F_X12_readsCondition_170 fu) fu fu V10))
    else
    (bd (f_X12_wrong fu V2 ((1 : Int32)) ((V2 2243 0 0))) fun r12 V13 => gd (r12 = 0 ∨ r12 = 1) <| some (r12, V13))
theorem S_X12_readsCondition_0 {E : EN} {X : CX} {P : Option Value → MH → Prop} {ad : AD} {fu : Nat} {out : Int32 × St} (hp : ∀ M, Rep E ad out.2 M → P (some (.int out.1)) M) {V : St} {M : MH} (hR : Rep E ad V M) (h : f_X12_readsCondition fu V = some out) : G E X RX12 cX12_readsCondition 1 (some .boolean) false (rmD 7) P M [some (.ref (ad 2200 0))] 0 0 0 [] := by
  unfold f_X12_readsCondition at h
  refine r_aload_n DX12_readsCondition_0 rfl ?_
  obtain ⟨r1, V2, hc3, h⟩ := bd_inv h
  refine k_callV (As := []) (rest := []) (st1 := [.int (r1)]) (w := some (.int r1)) DX12_readsCondition_1 cv_X12_308 hR ct_2200 (one_cnt _) rfl (C_X12_here (cxL X) hR hc3) rfl (by decide) (by decide) rfl (Nat.le_of_ble_eq_true rfl) rfl (fun M hR => ?_)
  refine r_bipush (v := 40) DX12_readsCondition_4 kb_40 ?_
  refine r_icmp_eq DX12_readsCondition_6 (fun c4 => ?_) (fun c4 => ?_)
  · have h := if_t c4 h
    refine r_aload_n DX12_readsCondition_19 rfl ?_
    refine r_iconst (v := 0) DX12_readsCondition_20 ki_0 ?_
    obtain ⟨V5, hv6, h⟩ := bv_inv h
    refine s_puti DX12_readsCondition_21 fp_X12_329 hR oks_2247 ct_2200 (one_cnt _) rfl rfl rfl (fun M hR => ?_)
    have hR := hR.cg hv6
    refine r_aload_n DX12_readsCondition_24 rfl ?_
    refine r_iconst (v := 0) DX12_readsCondition_25 ki_0 ?_
    obtain ⟨V7, hv8, h⟩ := bv_inv h
    refine s_puti DX12_readsCondition_26 fp_X12_332 hR oks_2249 ct_2200 (one_cnt _) rfl rfl rfl (fun M hR => ?_)
    have hR := hR.cg hv8
    refine r_aload_n DX12_readsCondition_29 rfl ?_
    refine r_bipush (v := 13) DX12_readsCondition_30 kb_13 ?_
    obtain ⟨r9, V10, hc11, h⟩ := bd_inv h
    refine k_callV (As := [.int ((13 : Int32))]) (rest := []) (st1 := [.int (r9)]) (w := some (.int r9)) DX12_readsCondition_32 cv_X12_341 hR ct_2200 (one_cnt _) rfl (C_X12_opens (cxL X) hR hc11) rfl (by decide) (by decide) rfl (Nat.le_of_ble_eq_true rfl) rfl (fun M hR => ?_)
    refine r_if_ne DX12_readsCondition_35 (fun c12 => ?_) (fun c12 => ?_)
    · have h := if_f c12 h
      exact SL_X12_readsCondition_40 (fun hR h => S_X12_readsCondition_81 hp hR h) (fun hR h => S_X12_readsCondition_90 hp hR h) (fun hR h => S_X12_readsCondition_143 hp hR h) (fun hR h => S_X12_readsCondition_170 hp hR h) hp fu hR h
    · have h := if_t c12 h
      refine r_iconst (v := 0) DX12_readsCondition_38 ki_0 ?_
      cases h
      exact r_zret DX12_readsCondition_39 rfl rfl ⟨Nat.le_refl 0, Nat.le_refl 0⟩ (hp M hR)
  · have h := if_f c4 h
    refine r_aload_n DX12_readsCondition_9 rfl ?_
    refine r_iconst (v := 1) DX12_readsCondition_10 ki_1 ?_
    refine r_aload_n DX12_readsCondition_11 rfl ?_
    refine s_geti DX12_readsCondition_12 fl_X12_302 hR ct_2200 (one_cnt _) rfl ?_
    obtain ⟨r12, V13, hc14, h⟩ := bd_inv h
    refine k_callV (As := [.int ((1 : Int32)), .int ((V2 2243 0 0))]) (rest := []) (st1 := [.int (r12)]) (w := some (.int r12)) DX12_readsCondition_15 cv_X12_315 hR ct_2200 (one_cnt _) rfl (C_X12_wrong (cxL X) hR hc14) rfl (by decide) (by decide) rfl (Nat.le_of_ble_eq_true rfl) rfl (fun M hR => ?_)
    obtain ⟨hz15, h⟩ := gd_inv h
    cases h
    exact r_zret DX12_readsCondition_18 rfl (nz_nar hz15) ⟨Nat.le_refl 0, Nat.le_refl 0⟩ (hp M hR)
theorem C_X12_readsCondition {E : EN} {ad : AD} {fu : Nat} {out : Int32 × St} {V : St} {M : MH} (l : Launch) (hR : Rep E ad V M) (h : f_X12_readsCondition fu V = some out) : Ct E l yX12_readsCondition cX12_readsCondition 1 (some .boolean) (rmD 7) [.ref (ad 2200 0)] M (fun v M => v = (some (.int out.1)) ∧ Rep E ad out.2 M) :=
  Ct.of (own := RX12) (ini := false) (L := [some (.ref (ad 2200 0))]) rfl rfl (fun h => by cases h) rfl (Nat.le_of_ble_eq_true rfl) rfl (fun X _ => S_X12_readsCondition_0 (fun M hR => ⟨rfl, hR⟩) hR h)
def f_X12_takes (fu : Nat) (V : St) (x1 : Int32) : RR :=
  bd (f_X12_here fu V) fun r1 V2 => if r1 = x1 then
    (bv (setV V2 2243 0 0 ((V2 2243 0 0) + (1 : Int32))) fun V5 => some ((1 : Int32), V5))
    else
    (bd (f_X12_wrong fu V2 ((1 : Int32)) ((V2 2243 0 0))) fun r7 V8 => gd (r7 = 0 ∨ r7 = 1) <| some (r7, V8))
theorem S_X12_takes_0 {E : EN} {X : CX} {P : Option Value → MH → Prop} {ad : AD} {fu : Nat} {out : Int32 × St} (hp : ∀ M, Rep E ad out.2 M → P (some (.int out.1)) M) {V : St} {M : MH} {x1 : Int32} (hR : Rep E ad V M) (h : f_X12_takes fu V x1 = some out) : G E X RX12 cX12_takes 2 (some .boolean) false (rmD 2) P M [some (.ref (ad 2200 0)), some (.int (x1))] 0 0 0 [] := by
  unfold f_X12_takes at h
  refine r_aload_n DX12_takes_0 rfl ?_
  obtain ⟨r1, V2, hc3, h⟩ := bd_inv h
  refine k_callV (As := []) (rest := []) (st1 := [.int (r1)]) (w := some (.int r1)) DX12_takes_1 cv_X12_308 hR ct_2200 (one_cnt _) rfl (C_X12_here (cxL X) hR hc3) rfl (by decide) (by decide) rfl (Nat.le_of_ble_eq_true rfl) rfl (fun M hR => ?_)
  refine r_iload_n DX12_takes_4 rfl ?_
  refine r_icmp_eq DX12_takes_5 (fun c4 => ?_) (fun c4 => ?_)
  · have h := if_t c4 h
    refine r_aload_n DX12_takes_18 rfl ?_
    refine r_aload_n DX12_takes_19 rfl ?_
    refine s_geti DX12_takes_20 fl_X12_302 hR ct_2200 (one_cnt _) rfl ?_
    refine r_iconst (v := 1) DX12_takes_23 ki_1 ?_
    refine r_iadd DX12_takes_24 ?_
    obtain ⟨V5, hv6, h⟩ := bv_inv h
    refine s_puti DX12_takes_25 fp_X12_302 hR oks_2243 ct_2200 (one_cnt _) rfl rfl rfl (fun M hR => ?_)
    have hR := hR.cg hv6
    refine r_iconst (v := 1) DX12_takes_28 ki_1 ?_
    cases h
    exact r_zret DX12_takes_29 rfl rfl ⟨Nat.le_refl 0, Nat.le_refl 0⟩ (hp M hR)
  · have h := if_f c4 h
    refine r_aload_n DX12_takes_8 rfl ?_
    refine r_iconst (v := 1) DX12_takes_9 ki_1 ?_
    refine r_aload_n DX12_takes_10 rfl ?_
    refine s_geti DX12_takes_11 fl_X12_302 hR ct_2200 (one_cnt _) rfl ?_
    obtain ⟨r7, V8, hc9, h⟩ := bd_inv h
    refine k_callV (As := [.int ((1 : Int32)), .int ((V2 2243 0 0))]) (rest := []) (st1 := [.int (r7)]) (w := some (.int r7)) DX12_takes_14 cv_X12_315 hR ct_2200 (one_cnt _) rfl (C_X12_wrong (cxL X) hR hc9) rfl (by decide) (by decide) rfl (Nat.le_of_ble_eq_true rfl) rfl (fun M hR => ?_)
    obtain ⟨hz10, h⟩ := gd_inv h
    cases h
    exact r_zret DX12_takes_17 rfl (nz_nar hz10) ⟨Nat.le_refl 0, Nat.le_refl 0⟩ (hp M hR)
theorem C_X12_takes {E : EN} {ad : AD} {fu : Nat} {out : Int32 × St} {V : St} {M : MH} {x1 : Int32} (l : Launch) (hR : Rep E ad V M) (h : f_X12_takes fu V x1 = some out) : Ct E l yX12_takes cX12_takes 2 (some .boolean) (rmD 2) [.ref (ad 2200 0), .int (x1)] M (fun v M => v = (some (.int out.1)) ∧ Rep E ad out.2 M) :=
  Ct.of (own := RX12) (ini := false) (L := [some (.ref (ad 2200 0)), some (.int (x1))]) rfl rfl (fun h => by cases h) rfl (Nat.le_of_ble_eq_true rfl) rfl (fun X _ => S_X12_takes_0 (fun M hR => ⟨rfl, hR⟩) hR h)
def F_X12_readsClause_189 (fu : Nat) (V : St) (x2 : Int32) : RR :=
  gd (¬ (x2 < 0 ∨ 12 ≤ (x2).toNatClampNeg)) <| bv (setV V 2255 (0) (x2).toNatClampNeg ((V 2248 0 0))) fun V2 => bv (setV V2 2250 0 0 ((V2 2250 0 0) + (1 : Int32))) fun V4 => some ((1 : Int32), V4)
theorem S_X12_readsClause_189 {E : EN} {X : CX} {P : Option Value → MH → Prop} {ad : AD} {fu : Nat} {out : Int32 × St} (hp : ∀ M, Rep E ad out.2 M → P (some (.int out.1)) M) {V : St} {M : MH} {x2 : Int32} {d1 : Option Value} (hR : Rep E ad V M) (h : F_X12_readsClause_189 fu V x2 = some out) : G E X RX12 cX12_readsClause 3 (some .boolean) false (rmD 8) P M [some (.ref (ad 2200 0)), d1, some (.int (x2))] 0 0 189 [] := by
  unfold F_X12_readsClause_189 at h
  refine r_aload_n DX12_readsClause_189 rfl ?_
  refine s_geta DX12_readsClause_190 fl_X12_132 hR ct_2200 (one_cnt _) rfl ?_
  refine r_iload_n DX12_readsClause_193 rfl ?_
  refine r_aload_n DX12_readsClause_194 rfl ?_
  refine s_geti DX12_readsClause_195 fl_X12_325 hR ct_2200 (one_cnt _) rfl ?_
  obtain ⟨hg1, h⟩ := gd_inv h
  obtain ⟨V2, hv3, h⟩ := bv_inv h
  refine s_iast DX12_readsClause_198 hR oka_2255 ct_2255 (one_cnt _) hg1 (fun M hR => ?_)
  have hR := hR.cg hv3
  refine r_aload_n DX12_readsClause_199 rfl ?_
  refine r_aload_n DX12_readsClause_200 rfl ?_
  refine s_geti DX12_readsClause_201 fl_X12_382 hR ct_2200 (one_cnt _) rfl ?_
  refine r_iconst (v := 1) DX12_readsClause_204 ki_1 ?_
  refine r_iadd DX12_readsClause_205 ?_
  obtain ⟨V4, hv5, h⟩ := bv_inv h
  refine s_puti DX12_readsClause_206 fp_X12_382 hR oks_2250 ct_2200 (one_cnt _) rfl rfl rfl (fun M hR => ?_)
  have hR := hR.cg hv5
  refine r_iconst (v := 1) DX12_readsClause_209 ki_1 ?_
  cases h
  exact r_zret DX12_readsClause_210 rfl rfl ⟨Nat.le_refl 0, Nat.le_refl 0⟩ (hp M hR)
def F_X12_readsClause_165 (fu : Nat) (V : St) : RR :=
  some ((0 : Int32), V)
theorem S_X12_readsClause_165 {E : EN} {X : CX} {P : Option Value → MH → Prop} {ad : AD} {fu : Nat} {out : Int32 × St} (hp : ∀ M, Rep E ad out.2 M → P (some (.int out.1)) M) {V : St} {M : MH} {d0 : Option Value} {d1 : Option Value} {d2 : Option Value} (hR : Rep E ad V M) (h : F_X12_readsClause_165 fu V = some out) : G E X RX12 cX12_readsClause 3 (some .boolean) false (rmD 8) P M [d0, d1, d2] 0 0 165 [] := by
  unfold F_X12_readsClause_165 at h
  refine r_iconst (v := 0) DX12_readsClause_165 ki_0 ?_
  cases h
  exact r_zret DX12_readsClause_166 rfl rfl ⟨Nat.le_refl 0, Nat.le_refl 0⟩ (hp M hR)
def F_X12_readsClause_102 (fu : Nat) (V : St) (x1 : Int32) : RR :=
  gd (¬ ((V 2250 0 0) < 0 ∨ 12 ≤ ((V 2250 0 0)).toNatClampNeg)) <| bv (setV V 2253 (0) ((V 2250 0 0)).toNatClampNeg (x1)) fun V2 => gd (¬ ((V 2250 0 0) < 0 ∨ 12 ≤ ((V 2250 0 0)).toNatClampNeg)) <| bv (setV V2 2256 (0) ((V 2250 0 0)).toNatClampNeg ((V2 2246 0 0))) fun V5 => gd (¬ ((V 2250 0 0) < 0 ∨ 12 ≤ ((V 2250 0 0)).toNatClampNeg)) <| bv (setV V5 2257 (0) ((V 2250 0 0)).toNatClampNeg ((0 : Int32))) fun V8 => gd (¬ ((V 2250 0 0) < 0 ∨ 12 ≤ ((V 2250 0 0)).toNatClampNeg)) <| bv (setV V8 2254 (0) ((V 2250 0 0)).toNatClampNeg ((V8 2248 0 0))) fun V11 => if x1 = (120 : Int32) then
    (bd (f_X12_takes fu V11 ((46 : Int32))) fun r17 V18 => if r17 = 0 then
      (F_X12_readsClause_165 fu V18)
      else
      (bd (f_X12_readsNumber fu V18 ((11 : Int32))) fun r21 V22 => if r21 = 0 then
        (F_X12_readsClause_165 fu V22)
        else
        (gd (¬ ((V 2250 0 0) < 0 ∨ 12 ≤ ((V 2250 0 0)).toNatClampNeg)) <| bv (setV V22 2257 (0) ((V 2250 0 0)).toNatClampNeg ((V22 2246 0 0))) fun V26 => F_X12_readsClause_189 fu V26 ((V 2250 0 0)))))
    else
    (bd (f_X12_readsCondition fu V11) fun r14 V15 => if r14 = 0 then
      (some ((0 : Int32), V15))
      else
      (F_X12_readsClause_189 fu V15 ((V 2250 0 0))))
theorem S_X12_readsClause_102 {E : EN} {X : CX} {P : Option Value → MH → Prop} {ad : AD} {fu : Nat} {out : Int32 × St} (hp : ∀ M, Rep E ad out.2 M → P (some (.int out.1)) M) {V : St} {M : MH} {x1 : Int32} {d2 : Option Value} (hR : Rep E ad V M) (h : F_X12_readsClause_102 fu V x1 = some out) : G E X RX12 cX12_readsClause 3 (some .boolean) false (rmD 8) P M [some (.ref (ad 2200 0)), some (.int (x1)), d2] 0 0 102 [] := by
  unfold F_X12_readsClause_102 at h
  refine r_aload_n DX12_readsClause_102 rfl ?_
  refine s_geti DX12_readsClause_103 fl_X12_382 hR ct_2200 (one_cnt _) rfl ?_
  refine t_istore_n (L' := [some (.ref (ad 2200 0)), some (.int (x1)), some (.int ((V 2250 0 0)))]) DX12_readsClause_106 (by decide) rfl ?_
  refine r_aload_n DX12_readsClause_107 rfl ?_
  refine s_geta DX12_readsClause_108 fl_X12_126 hR ct_2200 (one_cnt _) rfl ?_
  refine r_iload_n DX12_readsClause_111 rfl ?_
  refine r_iload_n DX12_readsClause_112 rfl ?_
  obtain ⟨hg1, h⟩ := gd_inv h
  obtain ⟨V2, hv3, h⟩ := bv_inv h
  refine s_iast DX12_readsClause_113 hR oka_2253 ct_2253 (one_cnt _) hg1 (fun M hR => ?_)
  have hR := hR.cg hv3
  refine r_aload_n DX12_readsClause_114 rfl ?_
  refine s_geta DX12_readsClause_115 fl_X12_135 hR ct_2200 (one_cnt _) rfl ?_
  refine r_iload_n DX12_readsClause_118 rfl ?_
  refine r_aload_n DX12_readsClause_119 rfl ?_
  refine s_geti DX12_readsClause_120 fl_X12_318 hR ct_2200 (one_cnt _) rfl ?_
  obtain ⟨hg4, h⟩ := gd_inv h
  obtain ⟨V5, hv6, h⟩ := bv_inv h
  refine s_iast DX12_readsClause_123 hR oka_2256 ct_2256 (one_cnt _) hg4 (fun M hR => ?_)
  have hR := hR.cg hv6
  refine r_aload_n DX12_readsClause_124 rfl ?_
  refine s_geta DX12_readsClause_125 fl_X12_138 hR ct_2200 (one_cnt _) rfl ?_
  refine r_iload_n DX12_readsClause_128 rfl ?_
  refine r_iconst (v := 0) DX12_readsClause_129 ki_0 ?_
  obtain ⟨hg7, h⟩ := gd_inv h
  obtain ⟨V8, hv9, h⟩ := bv_inv h
  refine s_iast DX12_readsClause_130 hR oka_2257 ct_2257 (one_cnt _) hg7 (fun M hR => ?_)
  have hR := hR.cg hv9
  refine r_aload_n DX12_readsClause_131 rfl ?_
  refine s_geta DX12_readsClause_132 fl_X12_129 hR ct_2200 (one_cnt _) rfl ?_
  refine r_iload_n DX12_readsClause_135 rfl ?_
  refine r_aload_n DX12_readsClause_136 rfl ?_
  refine s_geti DX12_readsClause_137 fl_X12_325 hR ct_2200 (one_cnt _) rfl ?_
  obtain ⟨hg10, h⟩ := gd_inv h
  obtain ⟨V11, hv12, h⟩ := bv_inv h
  refine s_iast DX12_readsClause_140 hR oka_2254 ct_2254 (one_cnt _) hg10 (fun M hR => ?_)
  have hR := hR.cg hv12
  refine r_iload_n DX12_readsClause_141 rfl ?_
  refine r_bipush (v := 120) DX12_readsClause_142 kb_120 ?_
  refine r_icmp_ne DX12_readsClause_144 (fun c13 => ?_) (fun c13 => ?_)
  · have h := if_f c13 h
    refine r_aload_n DX12_readsClause_180 rfl ?_
    obtain ⟨r14, V15, hc16, h⟩ := bd_inv h
    refine k_callV (As := []) (rest := []) (st1 := [.int (r14)]) (w := some (.int r14)) DX12_readsClause_181 cv_X12_388 hR ct_2200 (one_cnt _) rfl (C_X12_readsCondition (cxL X) hR hc16) rfl (by decide) (by decide) rfl (Nat.le_of_ble_eq_true rfl) rfl (fun M hR => ?_)
    refine r_if_ne DX12_readsClause_184 (fun c17 => ?_) (fun c17 => ?_)
    · have h := if_f c17 h
      exact S_X12_readsClause_189 hp hR h
    · have h := if_t c17 h
      refine r_iconst (v := 0) DX12_readsClause_187 ki_0 ?_
      cases h
      exact r_zret DX12_readsClause_188 rfl rfl ⟨Nat.le_refl 0, Nat.le_refl 0⟩ (hp M hR)
  · have h := if_t c13 h
    refine r_aload_n DX12_readsClause_147 rfl ?_
    refine r_bipush (v := 46) DX12_readsClause_148 kb_46 ?_
    obtain ⟨r17, V18, hc19, h⟩ := bd_inv h
    refine k_callV (As := [.int ((46 : Int32))]) (rest := []) (st1 := [.int (r17)]) (w := some (.int r17)) DX12_readsClause_150 cv_X12_385 hR ct_2200 (one_cnt _) rfl (C_X12_takes (cxL X) hR hc19) rfl (by decide) (by decide) rfl (Nat.le_of_ble_eq_true rfl) rfl (fun M hR => ?_)
    refine r_if_eq DX12_readsClause_153 (fun c20 => ?_) (fun c20 => ?_)
    · have h := if_t c20 h
      exact S_X12_readsClause_165 hp hR h
    · have h := if_f c20 h
      refine r_aload_n DX12_readsClause_156 rfl ?_
      refine r_bipush (v := 11) DX12_readsClause_157 kb_11 ?_
      obtain ⟨r21, V22, hc23, h⟩ := bd_inv h
      refine k_callV (As := [.int ((11 : Int32))]) (rest := []) (st1 := [.int (r21)]) (w := some (.int r21)) DX12_readsClause_159 cv_X12_345 hR ct_2200 (one_cnt _) rfl (C_X12_readsNumber (cxL X) hR hc23) rfl (by decide) (by decide) rfl (Nat.le_of_ble_eq_true rfl) rfl (fun M hR => ?_)
      refine r_if_ne DX12_readsClause_162 (fun c24 => ?_) (fun c24 => ?_)
      · have h := if_f c24 h
        refine r_aload_n DX12_readsClause_167 rfl ?_
        refine s_geta DX12_readsClause_168 fl_X12_138 hR ct_2200 (one_cnt _) rfl ?_
        refine r_iload_n DX12_readsClause_171 rfl ?_
        refine r_aload_n DX12_readsClause_172 rfl ?_
        refine s_geti DX12_readsClause_173 fl_X12_318 hR ct_2200 (one_cnt _) rfl ?_
        obtain ⟨hg25, h⟩ := gd_inv h
        obtain ⟨V26, hv27, h⟩ := bv_inv h
        refine s_iast DX12_readsClause_176 hR oka_2257 ct_2257 (one_cnt _) hg25 (fun M hR => ?_)
        have hR := hR.cg hv27
        refine r_goto DX12_readsClause_177 ?_
        exact S_X12_readsClause_189 hp hR h
      · have h := if_t c24 h
        exact S_X12_readsClause_165 hp hR h
def F_X12_readsClause_94 (fu : Nat) (V : St) (x1 : Int32) (s0 : Int32) : RR :=
  bd (f_X12_readsNumber fu V (s0)) fun r1 V2 => if r1 = 0 then
    (some ((0 : Int32), V2))
    else
    (F_X12_readsClause_102 fu V2 (x1))
theorem S_X12_readsClause_94 {E : EN} {X : CX} {P : Option Value → MH → Prop} {ad : AD} {fu : Nat} {out : Int32 × St} (hp : ∀ M, Rep E ad out.2 M → P (some (.int out.1)) M) {V : St} {M : MH} {x1 : Int32} {s0 : Int32} {d2 : Option Value} (hR : Rep E ad V M) (h : F_X12_readsClause_94 fu V x1 s0 = some out) : G E X RX12 cX12_readsClause 3 (some .boolean) false (rmD 8) P M [some (.ref (ad 2200 0)), some (.int (x1)), d2] 0 0 94 [.int (s0), .ref (ad 2200 0)] := by
  unfold F_X12_readsClause_94 at h
  obtain ⟨r1, V2, hc3, h⟩ := bd_inv h
  refine k_callV (As := [.int (s0)]) (rest := []) (st1 := [.int (r1)]) (w := some (.int r1)) DX12_readsClause_94 cv_X12_345 hR ct_2200 (one_cnt _) rfl (C_X12_readsNumber (cxL X) hR hc3) rfl (by decide) (by decide) rfl (Nat.le_of_ble_eq_true rfl) rfl (fun M hR => ?_)
  refine r_if_ne DX12_readsClause_97 (fun c4 => ?_) (fun c4 => ?_)
  · have h := if_f c4 h
    exact S_X12_readsClause_102 hp hR h
  · have h := if_t c4 h
    refine r_iconst (v := 0) DX12_readsClause_100 ki_0 ?_
    cases h
    exact r_zret DX12_readsClause_101 rfl rfl ⟨Nat.le_refl 0, Nat.le_refl 0⟩ (hp M hR)
def f_X12_readsClause (fu : Nat) (V : St) : RR :=
  bd (f_X12_here fu V) fun r1 V2 => bd (f_X12_isLetter fu V2 (r1)) fun r4 V5 => if r4 = 0 then
    (bd (f_X12_wrong fu V5 ((1 : Int32)) ((V5 2243 0 0))) fun r8 V9 => gd (r8 = 0 ∨ r8 = 1) <| some (r8, V9))
    else
    (if (V5 2250 0 0) = (12 : Int32) then
      (bd (f_X12_wrong fu V5 ((4 : Int32)) ((V5 2243 0 0))) fun r13 V14 => gd (r13 = 0 ∨ r13 = 1) <| some (r13, V14))
      else
      (bv (setV V5 2243 0 0 ((V5 2243 0 0) + (1 : Int32))) fun V9 => bv (setV V9 2246 0 0 ((0 : Int32))) fun V11 => if r1 = (98 : Int32) then
        (F_X12_readsClause_102 fu V11 (r1))
        else
        (if r1 = (109 : Int32) then
          (F_X12_readsClause_102 fu V11 (r1))
          else
          (if r1 = (100 : Int32) then
            (F_X12_readsClause_94 fu V11 (r1) ((100 : Int32)))
            else
            (if r1 = (120 : Int32) then
              (F_X12_readsClause_94 fu V11 (r1) ((29 : Int32)))
              else
              (F_X12_readsClause_94 fu V11 (r1) ((99999 : Int32))))))))
theorem S_X12_readsClause_0 {E : EN} {X : CX} {P : Option Value → MH → Prop} {ad : AD} {fu : Nat} {out : Int32 × St} (hp : ∀ M, Rep E ad out.2 M → P (some (.int out.1)) M) {V : St} {M : MH} (hR : Rep E ad V M) (h : f_X12_readsClause fu V = some out) : G E X RX12 cX12_readsClause 3 (some .boolean) false (rmD 8) P M [some (.ref (ad 2200 0)), none, none] 0 0 0 [] := by
  unfold f_X12_readsClause at h
  refine r_aload_n DX12_readsClause_0 rfl ?_
  obtain ⟨r1, V2, hc3, h⟩ := bd_inv h
  refine k_callV (As := []) (rest := []) (st1 := [.int (r1)]) (w := some (.int r1)) DX12_readsClause_1 cv_X12_308 hR ct_2200 (one_cnt _) rfl (C_X12_here (cxL X) hR hc3) rfl (by decide) (by decide) rfl (Nat.le_of_ble_eq_true rfl) rfl (fun M hR => ?_)
  refine t_istore_n (L' := [some (.ref (ad 2200 0)), some (.int (r1)), none]) DX12_readsClause_4 (by decide) rfl ?_
  refine r_iload_n DX12_readsClause_5 rfl ?_
  obtain ⟨r4, V5, hc6, h⟩ := bd_inv h
  refine k_callS (As := [.int (r1)]) (rest := []) (st1 := [.int (r4)]) (w := some (.int r4)) DX12_readsClause_6 cs_X12_379 (C_X12_isLetter (cxL X) hR hc6) rfl (by decide) (by decide) rfl (Nat.le_of_ble_eq_true rfl) rfl (fun M hR => ?_)
  refine r_if_ne DX12_readsClause_9 (fun c7 => ?_) (fun c7 => ?_)
  · have h := if_f c7 h
    refine r_aload_n DX12_readsClause_22 rfl ?_
    refine s_geti DX12_readsClause_23 fl_X12_382 hR ct_2200 (one_cnt _) rfl ?_
    refine r_bipush (v := 12) DX12_readsClause_26 kb_12 ?_
    refine r_icmp_ne DX12_readsClause_28 (fun c8 => ?_) (fun c8 => ?_)
    · have h := if_f c8 h
      refine r_aload_n DX12_readsClause_41 rfl ?_
      refine r_aload_n DX12_readsClause_42 rfl ?_
      refine s_geti DX12_readsClause_43 fl_X12_302 hR ct_2200 (one_cnt _) rfl ?_
      refine r_iconst (v := 1) DX12_readsClause_46 ki_1 ?_
      refine r_iadd DX12_readsClause_47 ?_
      obtain ⟨V9, hv10, h⟩ := bv_inv h
      refine s_puti DX12_readsClause_48 fp_X12_302 hR oks_2243 ct_2200 (one_cnt _) rfl rfl rfl (fun M hR => ?_)
      have hR := hR.cg hv10
      refine r_aload_n DX12_readsClause_51 rfl ?_
      refine r_iconst (v := 0) DX12_readsClause_52 ki_0 ?_
      obtain ⟨V11, hv12, h⟩ := bv_inv h
      refine s_puti DX12_readsClause_53 fp_X12_318 hR oks_2246 ct_2200 (one_cnt _) rfl rfl rfl (fun M hR => ?_)
      have hR := hR.cg hv12
      refine r_iload_n DX12_readsClause_56 rfl ?_
      refine r_bipush (v := 98) DX12_readsClause_57 kb_98 ?_
      refine r_icmp_eq DX12_readsClause_59 (fun c13 => ?_) (fun c13 => ?_)
      · have h := if_t c13 h
        exact S_X12_readsClause_102 hp hR h
      · have h := if_f c13 h
        refine r_iload_n DX12_readsClause_62 rfl ?_
        refine r_bipush (v := 109) DX12_readsClause_63 kb_109 ?_
        refine r_icmp_eq DX12_readsClause_65 (fun c14 => ?_) (fun c14 => ?_)
        · have h := if_t c14 h
          exact S_X12_readsClause_102 hp hR h
        · have h := if_f c14 h
          refine r_aload_n DX12_readsClause_68 rfl ?_
          refine r_iload_n DX12_readsClause_69 rfl ?_
          refine r_bipush (v := 100) DX12_readsClause_70 kb_100 ?_
          refine r_icmp_ne DX12_readsClause_72 (fun c15 => ?_) (fun c15 => ?_)
          · have h := if_f c15 h
            refine r_iload_n DX12_readsClause_80 rfl ?_
            refine r_bipush (v := 120) DX12_readsClause_81 kb_120 ?_
            refine r_icmp_ne DX12_readsClause_83 (fun c16 => ?_) (fun c16 => ?_)
            · have h := if_f c16 h
              refine r_ldcw (v := 99999) DX12_readsClause_91 ck_X12_344 ?_
              exact S_X12_readsClause_94 hp hR h
            · have h := if_t c16 h
              refine r_bipush (v := 29) DX12_readsClause_86 kb_29 ?_
              refine r_goto DX12_readsClause_88 ?_
              exact S_X12_readsClause_94 hp hR h
          · have h := if_t c15 h
            refine r_bipush (v := 100) DX12_readsClause_75 kb_100 ?_
            refine r_goto DX12_readsClause_77 ?_
            exact S_X12_readsClause_94 hp hR h
    · have h := if_t c8 h
      refine r_aload_n DX12_readsClause_31 rfl ?_
      refine r_iconst (v := 4) DX12_readsClause_32 ki_4 ?_
      refine r_aload_n DX12_readsClause_33 rfl ?_
      refine s_geti DX12_readsClause_34 fl_X12_302 hR ct_2200 (one_cnt _) rfl ?_
      obtain ⟨r13, V14, hc15, h⟩ := bd_inv h
      refine k_callV (As := [.int ((4 : Int32)), .int ((V5 2243 0 0))]) (rest := []) (st1 := [.int (r13)]) (w := some (.int r13)) DX12_readsClause_37 cv_X12_315 hR ct_2200 (one_cnt _) rfl (C_X12_wrong (cxL X) hR hc15) rfl (by decide) (by decide) rfl (Nat.le_of_ble_eq_true rfl) rfl (fun M hR => ?_)
      obtain ⟨hz16, h⟩ := gd_inv h
      cases h
      exact r_zret DX12_readsClause_40 rfl (nz_nar hz16) ⟨Nat.le_refl 0, Nat.le_refl 0⟩ (hp M hR)
  · have h := if_t c7 h
    refine r_aload_n DX12_readsClause_12 rfl ?_
    refine r_iconst (v := 1) DX12_readsClause_13 ki_1 ?_
    refine r_aload_n DX12_readsClause_14 rfl ?_
    refine s_geti DX12_readsClause_15 fl_X12_302 hR ct_2200 (one_cnt _) rfl ?_
    obtain ⟨r8, V9, hc10, h⟩ := bd_inv h
    refine k_callV (As := [.int ((1 : Int32)), .int ((V5 2243 0 0))]) (rest := []) (st1 := [.int (r8)]) (w := some (.int r8)) DX12_readsClause_18 cv_X12_315 hR ct_2200 (one_cnt _) rfl (C_X12_wrong (cxL X) hR hc10) rfl (by decide) (by decide) rfl (Nat.le_of_ble_eq_true rfl) rfl (fun M hR => ?_)
    obtain ⟨hz11, h⟩ := gd_inv h
    cases h
    exact r_zret DX12_readsClause_21 rfl (nz_nar hz11) ⟨Nat.le_refl 0, Nat.le_refl 0⟩ (hp M hR)
theorem C_X12_readsClause {E : EN} {ad : AD} {fu : Nat} {out : Int32 × St} {V : St} {M : MH} (l : Launch) (hR : Rep E ad V M) (h : f_X12_readsClause fu V = some out) : Ct E l yX12_readsClause cX12_readsClause 3 (some .boolean) (rmD 8) [.ref (ad 2200 0)] M (fun v M => v = (some (.int out.1)) ∧ Rep E ad out.2 M) :=
  Ct.of (own := RX12) (ini := false) (L := [some (.ref (ad 2200 0)), none, none]) rfl rfl (fun h => by cases h) rfl (Nat.le_of_ble_eq_true rfl) rfl (fun X _ => S_X12_readsClause_0 (fun M hR => ⟨rfl, hR⟩) hR h)
