theorem S_X12_readsCompared_52 {E : EN} {X : CX} {P : Option Value → MH → Prop} {ad : AD} {fu : Nat} {out : Int32 × St} (hp : ∀ M, Rep E ad out.2 M → P (some (.int out.1)) M) {V : St} {M : MH} {s0 : Int32} {d1 : Option Value} (hR : Rep E ad V M) (h : F_X12_readsCompared_52 fu V s0 = some out) : G E X RX12 cX12_readsCompared 2 (some .boolean) false (rmD 6) P M [some (.ref (ad 2200 0)), d1] 0 0 52 [.int (s0)] := by
  unfold F_X12_readsCompared_52 at h
  refine t_istore_n (L' := [some (.ref (ad 2200 0)), some (.int (s0))]) DX12_readsCompared_52 (by decide) rfl ?_
  refine r_iload_n DX12_readsCompared_53 rfl ?_
  refine r_iconst (v := -1) DX12_readsCompared_54 ki_m1 ?_
  refine r_icmp_ne DX12_readsCompared_55 (fun c1 => ?_) (fun c1 => ?_)
  · have h := if_f c1 h
    refine r_aload_n DX12_readsCompared_68 rfl ?_
    refine r_aload_n DX12_readsCompared_69 rfl ?_
    refine s_geti DX12_readsCompared_70 fl_X12_302 hR ct_2200 (one_cnt _) rfl ?_
    refine r_iconst (v := 1) DX12_readsCompared_73 ki_1 ?_
    refine r_iadd DX12_readsCompared_74 ?_
    obtain ⟨V2, hv3, h⟩ := bv_inv h
    refine s_puti DX12_readsCompared_75 fp_X12_302 hR oks_2243 ct_2200 (one_cnt _) rfl rfl rfl (fun M hR => ?_)
    have hR := hR.cg hv3
    refine r_aload_n DX12_readsCompared_78 rfl ?_
    obtain ⟨r4, V5, hc6, h⟩ := bd_inv h
    refine k_callV (As := []) (rest := []) (st1 := [.int (r4)]) (w := some (.int r4)) DX12_readsCompared_79 cv_X12_364 hR ct_2200 (one_cnt _) rfl (C_X12_readsSum (out := (r4, V5)) (cxL X) hR hc6) rfl (by decide) (by decide) rfl (Nat.le_of_ble_eq_true rfl) rfl (fun M hR => ?_)
    refine r_if_ne DX12_readsCompared_82 (fun c7 => ?_) (fun c7 => ?_)
    · have h := if_f c7 h
      refine r_aload_n DX12_readsCompared_87 rfl ?_
      refine r_iload_n DX12_readsCompared_88 rfl ?_
      refine r_iconst (v := 0) DX12_readsCompared_89 ki_0 ?_
      obtain ⟨r8, V9, hc10, h⟩ := bd_inv h
      refine k_callV (As := [.int (s0), .int ((0 : Int32))]) (rest := []) (st1 := []) (w := none) DX12_readsCompared_90 cv_X12_338 hR ct_2200 (one_cnt _) rfl (C_X12_says (out := (r8, V9)) (cxL X) hR hc10) rfl (by decide) (by decide) rfl (Nat.le_of_ble_eq_true rfl) rfl (fun M hR => ?_)
      refine r_aload_n DX12_readsCompared_93 rfl ?_
      obtain ⟨r11, V12, hc13, h⟩ := bd_inv h
      refine k_callV (As := []) (rest := []) (st1 := []) (w := none) DX12_readsCompared_94 cv_X12_367 hR ct_2200 (one_cnt _) rfl (C_X12_endsPiece (out := (r11, V12)) (cxL X) hR hc13) rfl (by decide) (by decide) rfl (Nat.le_of_ble_eq_true rfl) rfl (fun M hR => ?_)
      refine r_iconst (v := 1) DX12_readsCompared_97 ki_1 ?_
      cases h
      exact r_zret DX12_readsCompared_98 rfl rfl ⟨Nat.le_refl 0, Nat.le_refl 0⟩ (hp M hR)
    · have h := if_t c7 h
      refine r_iconst (v := 0) DX12_readsCompared_85 ki_0 ?_
      cases h
      exact r_zret DX12_readsCompared_86 rfl rfl ⟨Nat.le_refl 0, Nat.le_refl 0⟩ (hp M hR)
  · have h := if_t c1 h
    refine r_aload_n DX12_readsCompared_58 rfl ?_
    refine r_iconst (v := 1) DX12_readsCompared_59 ki_1 ?_
    refine r_aload_n DX12_readsCompared_60 rfl ?_
    refine s_geti DX12_readsCompared_61 fl_X12_302 hR ct_2200 (one_cnt _) rfl ?_
    obtain ⟨r7, V8, hc9, h⟩ := bd_inv h
    refine k_callV (As := [.int ((1 : Int32)), .int ((V 2243 0 0))]) (rest := []) (st1 := [.int (r7)]) (w := some (.int r7)) DX12_readsCompared_64 cv_X12_315 hR ct_2200 (one_cnt _) rfl (C_X12_wrong (out := (r7, V8)) (cxL X) hR hc9) rfl (by decide) (by decide) rfl (Nat.le_of_ble_eq_true rfl) rfl (fun M hR => ?_)
    obtain ⟨hz10, h⟩ := gd_inv h
    cases h
    exact r_zret DX12_readsCompared_67 rfl (nz_nar hz10) ⟨Nat.le_refl 0, Nat.le_refl 0⟩ (hp M hR)
theorem S_X12_readsCompared_0 {E : EN} {X : CX} {P : Option Value → MH → Prop} {ad : AD} {fu : Nat} {out : Int32 × St} (hp : ∀ M, Rep E ad out.2 M → P (some (.int out.1)) M) {V : St} {M : MH} (hR : Rep E ad V M) (h : f_X12_readsCompared fu V = some out) : G E X RX12 cX12_readsCompared 2 (some .boolean) false (rmD 6) P M [some (.ref (ad 2200 0)), none] 0 0 0 [] := by
  unfold f_X12_readsCompared at h
  refine r_aload_n DX12_readsCompared_0 rfl ?_
  obtain ⟨r1, V2, hc3, h⟩ := bd_inv h
  refine k_callV (As := []) (rest := []) (st1 := [.int (r1)]) (w := some (.int r1)) DX12_readsCompared_1 cv_X12_364 hR ct_2200 (one_cnt _) rfl (C_X12_readsSum (out := (r1, V2)) (cxL X) hR hc3) rfl (by decide) (by decide) rfl (Nat.le_of_ble_eq_true rfl) rfl (fun M hR => ?_)
  refine r_if_ne DX12_readsCompared_4 (fun c4 => ?_) (fun c4 => ?_)
  · have h := if_f c4 h
    refine r_aload_n DX12_readsCompared_9 rfl ?_
    obtain ⟨r5, V6, hc7, h⟩ := bd_inv h
    refine k_callV (As := []) (rest := []) (st1 := [.int (r5)]) (w := some (.int r5)) DX12_readsCompared_10 cv_X12_308 hR ct_2200 (one_cnt _) rfl (C_X12_here (out := (r5, V6)) (cxL X) hR hc7) rfl (by decide) (by decide) rfl (Nat.le_of_ble_eq_true rfl) rfl (fun M hR => ?_)
    refine r_bipush (v := 60) DX12_readsCompared_13 kb_60 ?_
    refine r_icmp_ne DX12_readsCompared_15 (fun c8 => ?_) (fun c8 => ?_)
    · have h := if_f c8 h
      refine r_aload_n DX12_readsCompared_23 rfl ?_
      obtain ⟨r9, V10, hc11, h⟩ := bd_inv h
      refine k_callV (As := []) (rest := []) (st1 := [.int (r9)]) (w := some (.int r9)) DX12_readsCompared_24 cv_X12_308 hR ct_2200 (one_cnt _) rfl (C_X12_here (out := (r9, V10)) (cxL X) hR hc11) rfl (by decide) (by decide) rfl (Nat.le_of_ble_eq_true rfl) rfl (fun M hR => ?_)
      refine r_bipush (v := 62) DX12_readsCompared_27 kb_62 ?_
      refine r_icmp_ne DX12_readsCompared_29 (fun c12 => ?_) (fun c12 => ?_)
      · have h := if_f c12 h
        refine r_aload_n DX12_readsCompared_37 rfl ?_
        obtain ⟨r13, V14, hc15, h⟩ := bd_inv h
        refine k_callV (As := []) (rest := []) (st1 := [.int (r13)]) (w := some (.int r13)) DX12_readsCompared_38 cv_X12_308 hR ct_2200 (one_cnt _) rfl (C_X12_here (out := (r13, V14)) (cxL X) hR hc15) rfl (by decide) (by decide) rfl (Nat.le_of_ble_eq_true rfl) rfl (fun M hR => ?_)
        refine r_bipush (v := 61) DX12_readsCompared_41 kb_61 ?_
        refine r_icmp_ne DX12_readsCompared_43 (fun c16 => ?_) (fun c16 => ?_)
        · have h := if_f c16 h
          refine r_iconst (v := -1) DX12_readsCompared_51 ki_m1 ?_
          exact S_X12_readsCompared_52 hp hR h
        · have h := if_t c16 h
          refine r_bipush (v := 9) DX12_readsCompared_46 kb_9 ?_
          refine r_goto DX12_readsCompared_48 ?_
          exact S_X12_readsCompared_52 hp hR h
      · have h := if_t c12 h
        refine r_bipush (v := 8) DX12_readsCompared_32 kb_8 ?_
        refine r_goto DX12_readsCompared_34 ?_
        exact S_X12_readsCompared_52 hp hR h
    · have h := if_t c8 h
      refine r_bipush (v := 7) DX12_readsCompared_18 kb_7 ?_
      refine r_goto DX12_readsCompared_20 ?_
      exact S_X12_readsCompared_52 hp hR h
  · have h := if_t c4 h
    refine r_iconst (v := 0) DX12_readsCompared_7 ki_0 ?_
    cases h
    exact r_zret DX12_readsCompared_8 rfl rfl ⟨Nat.le_refl 0, Nat.le_refl 0⟩ (hp M hR)
theorem C_X12_readsCompared {E : EN} {ad : AD} {fu : Nat} {out : Int32 × St} {V : St} {M : MH} (l : Launch) (hR : Rep E ad V M) (h : f_X12_readsCompared fu V = some out) : Ct E l yX12_readsCompared cX12_readsCompared 2 (some .boolean) (rmD 6) [.ref (ad 2200 0)] M (fun v M => v = (some (.int out.1)) ∧ Rep E ad out.2 M) :=
  Ct.of (own := RX12) (ini := false) (L := [some (.ref (ad 2200 0)), none]) rfl rfl (fun h => by cases h) rfl (Nat.le_of_ble_eq_true rfl) rfl (fun X _ => S_X12_readsCompared_0 (fun M hR => ⟨rfl, hR⟩) hR h)
theorem S_X12_readsCondition_215 {E : EN} {X : CX} {P : Option Value → MH → Prop} {ad : AD} {fu : Nat} {out : Int32 × St} {kh : St → RR} {kx81 : St → RR} {kx90 : St → RR} {kx143 : St → RR} {kx170 : St → RR} (hkh : ∀ {V : St} {M : MH}, Rep E ad V M → kh V  = some out → G E X RX12 cX12_readsCondition 1 (some .boolean) false (rmD 7) P M [some (.ref (ad 2200 0))] 0 0 40 []) (hkx81 : ∀ {V : St} {M : MH} {d0 : Option Value}, Rep E ad V M → kx81 V  = some out → G E X RX12 cX12_readsCondition 1 (some .boolean) false (rmD 7) P M [d0] 0 0 81 []) (hkx90 : ∀ {V : St} {M : MH} {d0 : Option Value}, Rep E ad V M → kx90 V  = some out → G E X RX12 cX12_readsCondition 1 (some .boolean) false (rmD 7) P M [d0] 0 0 90 []) (hkx143 : ∀ {V : St} {M : MH} {d0 : Option Value}, Rep E ad V M → kx143 V  = some out → G E X RX12 cX12_readsCondition 1 (some .boolean) false (rmD 7) P M [d0] 0 0 143 []) (hkx170 : ∀ {V : St} {M : MH}, Rep E ad V M → kx170 V  = some out → G E X RX12 cX12_readsCondition 1 (some .boolean) false (rmD 7) P M [some (.ref (ad 2200 0))] 0 0 170 []) (hp : ∀ M, Rep E ad out.2 M → P (some (.int out.1)) M) {V : St} {M : MH} {s0 : Int32} (hR : Rep E ad V M) (h : F_X12_readsCondition_215 kh kx81 kx90 kx143 kx170 fu V s0 = some out) : G E X RX12 cX12_readsCondition 1 (some .boolean) false (rmD 7) P M [some (.ref (ad 2200 0))] 0 0 215 [.int (s0), .ref (ad 2200 0)] := by
  unfold F_X12_readsCondition_215 at h
  obtain ⟨r1, V2, hc3, h⟩ := bd_inv h
  refine k_callV (As := [.int (s0)]) (rest := []) (st1 := []) (w := none) DX12_readsCondition_215 cv_X12_376 hR ct_2200 (one_cnt _) rfl (C_X12_jumps (out := (r1, V2)) (cxL X) hR hc3) rfl (by decide) (by decide) rfl (Nat.le_of_ble_eq_true rfl) rfl (fun M hR => ?_)
  refine r_goto DX12_readsCondition_218 ?_
  exact hkh hR h
theorem S_X12_readsCondition_195 {E : EN} {X : CX} {P : Option Value → MH → Prop} {ad : AD} {fu : Nat} {out : Int32 × St} {kh : St → RR} {kx81 : St → RR} {kx90 : St → RR} {kx143 : St → RR} {kx170 : St → RR} (hkh : ∀ {V : St} {M : MH}, Rep E ad V M → kh V  = some out → G E X RX12 cX12_readsCondition 1 (some .boolean) false (rmD 7) P M [some (.ref (ad 2200 0))] 0 0 40 []) (hkx81 : ∀ {V : St} {M : MH} {d0 : Option Value}, Rep E ad V M → kx81 V  = some out → G E X RX12 cX12_readsCondition 1 (some .boolean) false (rmD 7) P M [d0] 0 0 81 []) (hkx90 : ∀ {V : St} {M : MH} {d0 : Option Value}, Rep E ad V M → kx90 V  = some out → G E X RX12 cX12_readsCondition 1 (some .boolean) false (rmD 7) P M [d0] 0 0 90 []) (hkx143 : ∀ {V : St} {M : MH} {d0 : Option Value}, Rep E ad V M → kx143 V  = some out → G E X RX12 cX12_readsCondition 1 (some .boolean) false (rmD 7) P M [d0] 0 0 143 []) (hkx170 : ∀ {V : St} {M : MH}, Rep E ad V M → kx170 V  = some out → G E X RX12 cX12_readsCondition 1 (some .boolean) false (rmD 7) P M [some (.ref (ad 2200 0))] 0 0 170 []) (hp : ∀ M, Rep E ad out.2 M → P (some (.int out.1)) M) {V : St} {M : MH} {s0 : Int32} (hR : Rep E ad V M) (h : F_X12_readsCondition_195 kh kx81 kx90 kx143 kx170 fu V s0 = some out) : G E X RX12 cX12_readsCondition 1 (some .boolean) false (rmD 7) P M [some (.ref (ad 2200 0))] 0 0 195 [.int (s0), .ref (ad 2200 0)] := by
  unfold F_X12_readsCondition_195 at h
  obtain ⟨r1, V2, hc3, h⟩ := bd_inv h
  refine k_callV (As := [.int (s0)]) (rest := []) (st1 := []) (w := none) DX12_readsCondition_195 cv_X12_373 hR ct_2200 (one_cnt _) rfl (C_X12_lands (out := (r1, V2)) (cxL X) hR hc3) rfl (by decide) (by decide) rfl (Nat.le_of_ble_eq_true rfl) rfl (fun M hR => ?_)
  refine r_aload_n DX12_readsCondition_198 rfl ?_
  refine r_aload_n DX12_readsCondition_199 rfl ?_
  obtain ⟨r4, V5, hc6, h⟩ := bd_inv h
  refine k_callV (As := []) (rest := [.ref (ad 2200 0)]) (st1 := [.int (r4), .ref (ad 2200 0)]) (w := some (.int r4)) DX12_readsCondition_200 cv_X12_308 hR ct_2200 (one_cnt _) rfl (C_X12_here (out := (r4, V5)) (cxL X) hR hc6) rfl (by decide) (by decide) rfl (Nat.le_of_ble_eq_true rfl) rfl (fun M hR => ?_)
  refine r_bipush (v := 38) DX12_readsCondition_203 kb_38 ?_
  refine r_icmp_ne DX12_readsCondition_205 (fun c7 => ?_) (fun c7 => ?_)
  · have h := if_f c7 h
    refine r_bipush (v := 12) DX12_readsCondition_213 kb_12 ?_
    exact S_X12_readsCondition_215 (fun hR h => hkh hR h) (fun hR h => hkx81 hR h) (fun hR h => hkx90 hR h) (fun hR h => hkx143 hR h) (fun hR h => hkx170 hR h) hp hR h
  · have h := if_t c7 h
    refine r_bipush (v := 11) DX12_readsCondition_208 kb_11 ?_
    refine r_goto DX12_readsCondition_210 ?_
    exact S_X12_readsCondition_215 (fun hR h => hkh hR h) (fun hR h => hkx81 hR h) (fun hR h => hkx90 hR h) (fun hR h => hkx143 hR h) (fun hR h => hkx170 hR h) hp hR h
theorem S_X12_readsCondition_180 {E : EN} {X : CX} {P : Option Value → MH → Prop} {ad : AD} {fu : Nat} {out : Int32 × St} {kh : St → RR} {kx81 : St → RR} {kx90 : St → RR} {kx143 : St → RR} {kx170 : St → RR} (hkh : ∀ {V : St} {M : MH}, Rep E ad V M → kh V  = some out → G E X RX12 cX12_readsCondition 1 (some .boolean) false (rmD 7) P M [some (.ref (ad 2200 0))] 0 0 40 []) (hkx81 : ∀ {V : St} {M : MH} {d0 : Option Value}, Rep E ad V M → kx81 V  = some out → G E X RX12 cX12_readsCondition 1 (some .boolean) false (rmD 7) P M [d0] 0 0 81 []) (hkx90 : ∀ {V : St} {M : MH} {d0 : Option Value}, Rep E ad V M → kx90 V  = some out → G E X RX12 cX12_readsCondition 1 (some .boolean) false (rmD 7) P M [d0] 0 0 90 []) (hkx143 : ∀ {V : St} {M : MH} {d0 : Option Value}, Rep E ad V M → kx143 V  = some out → G E X RX12 cX12_readsCondition 1 (some .boolean) false (rmD 7) P M [d0] 0 0 143 []) (hkx170 : ∀ {V : St} {M : MH}, Rep E ad V M → kx170 V  = some out → G E X RX12 cX12_readsCondition 1 (some .boolean) false (rmD 7) P M [some (.ref (ad 2200 0))] 0 0 170 []) (hp : ∀ M, Rep E ad out.2 M → P (some (.int out.1)) M) {V : St} {M : MH} (hR : Rep E ad V M) (h : F_X12_readsCondition_180 kh kx81 kx90 kx143 kx170 fu V = some out) : G E X RX12 cX12_readsCondition 1 (some .boolean) false (rmD 7) P M [some (.ref (ad 2200 0))] 0 0 180 [] := by
  unfold F_X12_readsCondition_180 at h
  refine r_aload_n DX12_readsCondition_180 rfl ?_
  refine r_aload_n DX12_readsCondition_181 rfl ?_
  obtain ⟨r1, V2, hc3, h⟩ := bd_inv h
  refine k_callV (As := []) (rest := [.ref (ad 2200 0)]) (st1 := [.int (r1), .ref (ad 2200 0)]) (w := some (.int r1)) DX12_readsCondition_182 cv_X12_308 hR ct_2200 (one_cnt _) rfl (C_X12_here (out := (r1, V2)) (cxL X) hR hc3) rfl (by decide) (by decide) rfl (Nat.le_of_ble_eq_true rfl) rfl (fun M hR => ?_)
  refine r_bipush (v := 124) DX12_readsCondition_185 kb_124 ?_
  refine r_icmp_ne DX12_readsCondition_187 (fun c4 => ?_) (fun c4 => ?_)
  · have h := if_f c4 h
    refine r_iconst (v := 0) DX12_readsCondition_194 ki_0 ?_
    exact S_X12_readsCondition_195 (fun hR h => hkh hR h) (fun hR h => hkx81 hR h) (fun hR h => hkx90 hR h) (fun hR h => hkx143 hR h) (fun hR h => hkx170 hR h) hp hR h
  · have h := if_t c4 h
    refine r_iconst (v := 1) DX12_readsCondition_190 ki_1 ?_
    refine r_goto DX12_readsCondition_191 ?_
    exact S_X12_readsCondition_195 (fun hR h => hkh hR h) (fun hR h => hkx81 hR h) (fun hR h => hkx90 hR h) (fun hR h => hkx143 hR h) (fun hR h => hkx170 hR h) hp hR h
theorem S_X12_readsCondition_170 {E : EN} {X : CX} {P : Option Value → MH → Prop} {ad : AD} {fu : Nat} {out : Int32 × St} (hp : ∀ M, Rep E ad out.2 M → P (some (.int out.1)) M) {V : St} {M : MH} (hR : Rep E ad V M) (h : F_X12_readsCondition_170 fu V = some out) : G E X RX12 cX12_readsCondition 1 (some .boolean) false (rmD 7) P M [some (.ref (ad 2200 0))] 0 0 170 [] := by
  unfold F_X12_readsCondition_170 at h
  refine r_aload_n DX12_readsCondition_170 rfl ?_
  refine r_iconst (v := 1) DX12_readsCondition_171 ki_1 ?_
  refine r_aload_n DX12_readsCondition_172 rfl ?_
  refine s_geti DX12_readsCondition_173 fl_X12_302 hR ct_2200 (one_cnt _) rfl ?_
  obtain ⟨r1, V2, hc3, h⟩ := bd_inv h
  refine k_callV (As := [.int ((1 : Int32)), .int ((V 2243 0 0))]) (rest := []) (st1 := [.int (r1)]) (w := some (.int r1)) DX12_readsCondition_176 cv_X12_315 hR ct_2200 (one_cnt _) rfl (C_X12_wrong (out := (r1, V2)) (cxL X) hR hc3) rfl (by decide) (by decide) rfl (Nat.le_of_ble_eq_true rfl) rfl (fun M hR => ?_)
  obtain ⟨hz4, h⟩ := gd_inv h
  cases h
  exact r_zret DX12_readsCondition_179 rfl (nz_nar hz4) ⟨Nat.le_refl 0, Nat.le_refl 0⟩ (hp M hR)
theorem S_X12_readsCondition_152 {E : EN} {X : CX} {P : Option Value → MH → Prop} {ad : AD} {fu : Nat} {out : Int32 × St} {kh : St → RR} {kx81 : St → RR} {kx90 : St → RR} {kx143 : St → RR} {kx170 : St → RR} (hkh : ∀ {V : St} {M : MH}, Rep E ad V M → kh V  = some out → G E X RX12 cX12_readsCondition 1 (some .boolean) false (rmD 7) P M [some (.ref (ad 2200 0))] 0 0 40 []) (hkx81 : ∀ {V : St} {M : MH} {d0 : Option Value}, Rep E ad V M → kx81 V  = some out → G E X RX12 cX12_readsCondition 1 (some .boolean) false (rmD 7) P M [d0] 0 0 81 []) (hkx90 : ∀ {V : St} {M : MH} {d0 : Option Value}, Rep E ad V M → kx90 V  = some out → G E X RX12 cX12_readsCondition 1 (some .boolean) false (rmD 7) P M [d0] 0 0 90 []) (hkx143 : ∀ {V : St} {M : MH} {d0 : Option Value}, Rep E ad V M → kx143 V  = some out → G E X RX12 cX12_readsCondition 1 (some .boolean) false (rmD 7) P M [d0] 0 0 143 []) (hkx170 : ∀ {V : St} {M : MH}, Rep E ad V M → kx170 V  = some out → G E X RX12 cX12_readsCondition 1 (some .boolean) false (rmD 7) P M [some (.ref (ad 2200 0))] 0 0 170 []) (hp : ∀ M, Rep E ad out.2 M → P (some (.int out.1)) M) {V : St} {M : MH} (hR : Rep E ad V M) (h : F_X12_readsCondition_152 kh kx81 kx90 kx143 kx170 fu V = some out) : G E X RX12 cX12_readsCondition 1 (some .boolean) false (rmD 7) P M [some (.ref (ad 2200 0))] 0 0 152 [] := by
  unfold F_X12_readsCondition_152 at h
  refine r_aload_n DX12_readsCondition_152 rfl ?_
  obtain ⟨r1, V2, hc3, h⟩ := bd_inv h
  refine k_callV (As := []) (rest := []) (st1 := [.int (r1)]) (w := some (.int r1)) DX12_readsCondition_153 cv_X12_308 hR ct_2200 (one_cnt _) rfl (C_X12_here (out := (r1, V2)) (cxL X) hR hc3) rfl (by decide) (by decide) rfl (Nat.le_of_ble_eq_true rfl) rfl (fun M hR => ?_)
  refine r_bipush (v := 38) DX12_readsCondition_156 kb_38 ?_
  refine r_icmp_eq DX12_readsCondition_158 (fun c4 => ?_) (fun c4 => ?_)
  · have h := if_t c4 h
    exact S_X12_readsCondition_180 (fun hR h => hkh hR h) (fun hR h => hkx81 hR h) (fun hR h => hkx90 hR h) (fun hR h => hkx143 hR h) (fun hR h => hkx170 hR h) hp hR h
  · have h := if_f c4 h
    refine r_aload_n DX12_readsCondition_161 rfl ?_
    obtain ⟨r5, V6, hc7, h⟩ := bd_inv h
    refine k_callV (As := []) (rest := []) (st1 := [.int (r5)]) (w := some (.int r5)) DX12_readsCondition_162 cv_X12_308 hR ct_2200 (one_cnt _) rfl (C_X12_here (out := (r5, V6)) (cxL X) hR hc7) rfl (by decide) (by decide) rfl (Nat.le_of_ble_eq_true rfl) rfl (fun M hR => ?_)
    refine r_bipush (v := 124) DX12_readsCondition_165 kb_124 ?_
    refine r_icmp_eq DX12_readsCondition_167 (fun c8 => ?_) (fun c8 => ?_)
    · have h := if_t c8 h
      exact S_X12_readsCondition_180 (fun hR h => hkh hR h) (fun hR h => hkx81 hR h) (fun hR h => hkx90 hR h) (fun hR h => hkx143 hR h) (fun hR h => hkx170 hR h) hp hR h
    · have h := if_f c8 h
      exact hkx170 hR h
theorem S_X12_readsCondition_143 {E : EN} {X : CX} {P : Option Value → MH → Prop} {ad : AD} {fu : Nat} {out : Int32 × St} (hp : ∀ M, Rep E ad out.2 M → P (some (.int out.1)) M) {V : St} {M : MH} {d0 : Option Value} (hR : Rep E ad V M) (h : F_X12_readsCondition_143 fu V = some out) : G E X RX12 cX12_readsCondition 1 (some .boolean) false (rmD 7) P M [d0] 0 0 143 [] := by
  unfold F_X12_readsCondition_143 at h
  refine r_iconst (v := 1) DX12_readsCondition_143 ki_1 ?_
  cases h
  exact r_zret DX12_readsCondition_144 rfl rfl ⟨Nat.le_refl 0, Nat.le_refl 0⟩ (hp M hR)
theorem S_X12_readsCondition_92 {E : EN} {X : CX} {P : Option Value → MH → Prop} {ad : AD} {fu : Nat} {out : Int32 × St} {kh : St → RR} {kx143 : St → RR} {kx152 : St → RR} (hkh : ∀ {V : St} {M : MH}, Rep E ad V M → kh V  = some out → G E X RX12 cX12_readsCondition 1 (some .boolean) false (rmD 7) P M [some (.ref (ad 2200 0))] 0 0 92 []) (hkx143 : ∀ {V : St} {M : MH} {d0 : Option Value}, Rep E ad V M → kx143 V  = some out → G E X RX12 cX12_readsCondition 1 (some .boolean) false (rmD 7) P M [d0] 0 0 143 []) (hkx152 : ∀ {V : St} {M : MH}, Rep E ad V M → kx152 V  = some out → G E X RX12 cX12_readsCondition 1 (some .boolean) false (rmD 7) P M [some (.ref (ad 2200 0))] 0 0 152 []) (hp : ∀ M, Rep E ad out.2 M → P (some (.int out.1)) M) {V : St} {M : MH} (hR : Rep E ad V M) (h : F_X12_readsCondition_92 kh kx143 kx152 fu V = some out) : G E X RX12 cX12_readsCondition 1 (some .boolean) false (rmD 7) P M [some (.ref (ad 2200 0))] 0 0 92 [] := by
  unfold F_X12_readsCondition_92 at h
  refine r_aload_n DX12_readsCondition_92 rfl ?_
  obtain ⟨r1, V2, hc3, h⟩ := bd_inv h
  refine k_callV (As := []) (rest := []) (st1 := [.int (r1)]) (w := some (.int r1)) DX12_readsCondition_93 cv_X12_308 hR ct_2200 (one_cnt _) rfl (C_X12_here (out := (r1, V2)) (cxL X) hR hc3) rfl (by decide) (by decide) rfl (Nat.le_of_ble_eq_true rfl) rfl (fun M hR => ?_)
  refine r_bipush (v := 41) DX12_readsCondition_96 kb_41 ?_
  refine r_icmp_ne DX12_readsCondition_98 (fun c4 => ?_) (fun c4 => ?_)
  · have h := if_f c4 h
    exact hkx152 hR h
  · have h := if_t c4 h
    refine r_aload_n DX12_readsCondition_101 rfl ?_
    refine r_iconst (v := 1) DX12_readsCondition_102 ki_1 ?_
    obtain ⟨r5, V6, hc7, h⟩ := bd_inv h
    refine k_callV (As := [.int ((1 : Int32))]) (rest := []) (st1 := []) (w := none) DX12_readsCondition_103 cv_X12_373 hR ct_2200 (one_cnt _) rfl (C_X12_lands (out := (r5, V6)) (cxL X) hR hc7) rfl (by decide) (by decide) rfl (Nat.le_of_ble_eq_true rfl) rfl (fun M hR => ?_)
    refine r_aload_n DX12_readsCondition_106 rfl ?_
    refine r_aload_n DX12_readsCondition_107 rfl ?_
    refine s_geti DX12_readsCondition_108 fl_X12_332 hR ct_2200 (one_cnt _) rfl ?_
    refine r_iconst (v := 1) DX12_readsCondition_111 ki_1 ?_
    refine r_isub DX12_readsCondition_112 ?_
    obtain ⟨V8, hv9, h⟩ := bv_inv h
    refine s_puti DX12_readsCondition_113 fp_X12_332 hR oks_2249 ct_2200 (one_cnt _) rfl rfl rfl (fun M hR => ?_)
    have hR := hR.cg hv9
    refine r_aload_n DX12_readsCondition_116 rfl ?_
    refine r_aload_n DX12_readsCondition_117 rfl ?_
    refine s_geti DX12_readsCondition_118 fl_X12_329 hR ct_2200 (one_cnt _) rfl ?_
    refine r_iconst (v := 1) DX12_readsCondition_121 ki_1 ?_
    refine r_isub DX12_readsCondition_122 ?_
    obtain ⟨V10, hv11, h⟩ := bv_inv h
    refine s_puti DX12_readsCondition_123 fp_X12_329 hR oks_2247 ct_2200 (one_cnt _) rfl rfl rfl (fun M hR => ?_)
    have hR := hR.cg hv11
    refine r_aload_n DX12_readsCondition_126 rfl ?_
    refine r_aload_n DX12_readsCondition_127 rfl ?_
    refine s_geti DX12_readsCondition_128 fl_X12_302 hR ct_2200 (one_cnt _) rfl ?_
    refine r_iconst (v := 1) DX12_readsCondition_131 ki_1 ?_
    refine r_iadd DX12_readsCondition_132 ?_
    obtain ⟨V12, hv13, h⟩ := bv_inv h
    refine s_puti DX12_readsCondition_133 fp_X12_302 hR oks_2243 ct_2200 (one_cnt _) rfl rfl rfl (fun M hR => ?_)
    have hR := hR.cg hv13
    refine r_aload_n DX12_readsCondition_136 rfl ?_
    refine s_geti DX12_readsCondition_137 fl_X12_332 hR ct_2200 (one_cnt _) rfl ?_
    refine r_if_ne DX12_readsCondition_140 (fun c14 => ?_) (fun c14 => ?_)
    · have h := if_f c14 h
      refine r_aload_n DX12_readsCondition_145 rfl ?_
      obtain ⟨r15, V16, hc17, h⟩ := bd_inv h
      refine k_callV (As := []) (rest := []) (st1 := []) (w := none) DX12_readsCondition_146 cv_X12_367 hR ct_2200 (one_cnt _) rfl (C_X12_endsPiece (out := (r15, V16)) (cxL X) hR hc17) rfl (by decide) (by decide) rfl (Nat.le_of_ble_eq_true rfl) rfl (fun M hR => ?_)
      refine r_goto DX12_readsCondition_149 ?_
      exact hkh hR h
    · have h := if_t c14 h
      exact hkx143 hR h
theorem SL_X12_readsCondition_92 {E : EN} {X : CX} {P : Option Value → MH → Prop} {ad : AD} {fu : Nat} {out : Int32 × St} {kx143 : St → RR} {kx152 : St → RR} (hkx143 : ∀ {V : St} {M : MH} {d0 : Option Value}, Rep E ad V M → kx143 V  = some out → G E X RX12 cX12_readsCondition 1 (some .boolean) false (rmD 7) P M [d0] 0 0 143 []) (hkx152 : ∀ {V : St} {M : MH}, Rep E ad V M → kx152 V  = some out → G E X RX12 cX12_readsCondition 1 (some .boolean) false (rmD 7) P M [some (.ref (ad 2200 0))] 0 0 152 []) (hp : ∀ M, Rep E ad out.2 M → P (some (.int out.1)) M) : ∀ (n : Nat) {V : St} {M : MH}, Rep E ad V M → Lp_X12_readsCondition_92 kx143 kx152 fu n V = some out → G E X RX12 cX12_readsCondition 1 (some .boolean) false (rmD 7) P M [some (.ref (ad 2200 0))] 0 0 92 [] := by
  intro n
  induction n with
  | zero => intros; rename_i h; cases h
  | succ n ih => exact fun hR h => S_X12_readsCondition_92 (fun hR h => ih hR h) (fun hR h => hkx143 hR h) (fun hR h => hkx152 hR h) hp hR h
theorem S_X12_readsCondition_90 {E : EN} {X : CX} {P : Option Value → MH → Prop} {ad : AD} {fu : Nat} {out : Int32 × St} (hp : ∀ M, Rep E ad out.2 M → P (some (.int out.1)) M) {V : St} {M : MH} {d0 : Option Value} (hR : Rep E ad V M) (h : F_X12_readsCondition_90 fu V = some out) : G E X RX12 cX12_readsCondition 1 (some .boolean) false (rmD 7) P M [d0] 0 0 90 [] := by
  unfold F_X12_readsCondition_90 at h
  refine r_iconst (v := 0) DX12_readsCondition_90 ki_0 ?_
  cases h
  exact r_zret DX12_readsCondition_91 rfl rfl ⟨Nat.le_refl 0, Nat.le_refl 0⟩ (hp M hR)
theorem S_X12_readsCondition_81 {E : EN} {X : CX} {P : Option Value → MH → Prop} {ad : AD} {fu : Nat} {out : Int32 × St} (hp : ∀ M, Rep E ad out.2 M → P (some (.int out.1)) M) {V : St} {M : MH} {d0 : Option Value} (hR : Rep E ad V M) (h : F_X12_readsCondition_81 fu V = some out) : G E X RX12 cX12_readsCondition 1 (some .boolean) false (rmD 7) P M [d0] 0 0 81 [] := by
  unfold F_X12_readsCondition_81 at h
  refine r_iconst (v := 0) DX12_readsCondition_81 ki_0 ?_
  cases h
  exact r_zret DX12_readsCondition_82 rfl rfl ⟨Nat.le_refl 0, Nat.le_refl 0⟩ (hp M hR)
theorem S_X12_readsCondition_75 {E : EN} {X : CX} {P : Option Value → MH → Prop} {ad : AD} {fu : Nat} {out : Int32 × St} {kh : St → RR} {kx81 : St → RR} {kx90 : St → RR} {kx143 : St → RR} {kx170 : St → RR} (hkh : ∀ {V : St} {M : MH}, Rep E ad V M → kh V  = some out → G E X RX12 cX12_readsCondition 1 (some .boolean) false (rmD 7) P M [some (.ref (ad 2200 0))] 0 0 40 []) (hkx81 : ∀ {V : St} {M : MH} {d0 : Option Value}, Rep E ad V M → kx81 V  = some out → G E X RX12 cX12_readsCondition 1 (some .boolean) false (rmD 7) P M [d0] 0 0 81 []) (hkx90 : ∀ {V : St} {M : MH} {d0 : Option Value}, Rep E ad V M → kx90 V  = some out → G E X RX12 cX12_readsCondition 1 (some .boolean) false (rmD 7) P M [d0] 0 0 90 []) (hkx143 : ∀ {V : St} {M : MH} {d0 : Option Value}, Rep E ad V M → kx143 V  = some out → G E X RX12 cX12_readsCondition 1 (some .boolean) false (rmD 7) P M [d0] 0 0 143 []) (hkx170 : ∀ {V : St} {M : MH}, Rep E ad V M → kx170 V  = some out → G E X RX12 cX12_readsCondition 1 (some .boolean) false (rmD 7) P M [some (.ref (ad 2200 0))] 0 0 170 []) (hp : ∀ M, Rep E ad out.2 M → P (some (.int out.1)) M) {V : St} {M : MH} {s0 : Int32} (hR : Rep E ad V M) (h : F_X12_readsCondition_75 kh kx81 kx90 kx143 kx170 fu V s0 = some out) : G E X RX12 cX12_readsCondition 1 (some .boolean) false (rmD 7) P M [some (.ref (ad 2200 0))] 0 0 75 [.int (s0), .ref (ad 2200 0)] := by
  unfold F_X12_readsCondition_75 at h
  obtain ⟨r1, V2, hc3, h⟩ := bd_inv h
  refine k_callV (As := [.int (s0)]) (rest := []) (st1 := [.int (r1)]) (w := some (.int r1)) DX12_readsCondition_75 cv_X12_341 hR ct_2200 (one_cnt _) rfl (C_X12_opens (out := (r1, V2)) (cxL X) hR hc3) rfl (by decide) (by decide) rfl (Nat.le_of_ble_eq_true rfl) rfl (fun M hR => ?_)
  refine r_if_ne DX12_readsCondition_78 (fun c4 => ?_) (fun c4 => ?_)
  · have h := if_f c4 h
    exact hkh hR h
  · have h := if_t c4 h
    exact hkx81 hR h
theorem S_X12_readsCondition_58 {E : EN} {X : CX} {P : Option Value → MH → Prop} {ad : AD} {fu : Nat} {out : Int32 × St} {kh : St → RR} {kx81 : St → RR} {kx90 : St → RR} {kx143 : St → RR} {kx170 : St → RR} (hkh : ∀ {V : St} {M : MH}, Rep E ad V M → kh V  = some out → G E X RX12 cX12_readsCondition 1 (some .boolean) false (rmD 7) P M [some (.ref (ad 2200 0))] 0 0 40 []) (hkx81 : ∀ {V : St} {M : MH} {d0 : Option Value}, Rep E ad V M → kx81 V  = some out → G E X RX12 cX12_readsCondition 1 (some .boolean) false (rmD 7) P M [d0] 0 0 81 []) (hkx90 : ∀ {V : St} {M : MH} {d0 : Option Value}, Rep E ad V M → kx90 V  = some out → G E X RX12 cX12_readsCondition 1 (some .boolean) false (rmD 7) P M [d0] 0 0 90 []) (hkx143 : ∀ {V : St} {M : MH} {d0 : Option Value}, Rep E ad V M → kx143 V  = some out → G E X RX12 cX12_readsCondition 1 (some .boolean) false (rmD 7) P M [d0] 0 0 143 []) (hkx170 : ∀ {V : St} {M : MH}, Rep E ad V M → kx170 V  = some out → G E X RX12 cX12_readsCondition 1 (some .boolean) false (rmD 7) P M [some (.ref (ad 2200 0))] 0 0 170 []) (hp : ∀ M, Rep E ad out.2 M → P (some (.int out.1)) M) {V : St} {M : MH} (hR : Rep E ad V M) (h : F_X12_readsCondition_58 kh kx81 kx90 kx143 kx170 fu V = some out) : G E X RX12 cX12_readsCondition 1 (some .boolean) false (rmD 7) P M [some (.ref (ad 2200 0))] 0 0 58 [] := by
  unfold F_X12_readsCondition_58 at h
  refine r_aload_n DX12_readsCondition_58 rfl ?_
  refine r_aload_n DX12_readsCondition_59 rfl ?_
  obtain ⟨r1, V2, hc3, h⟩ := bd_inv h
  refine k_callV (As := []) (rest := [.ref (ad 2200 0)]) (st1 := [.int (r1), .ref (ad 2200 0)]) (w := some (.int r1)) DX12_readsCondition_60 cv_X12_308 hR ct_2200 (one_cnt _) rfl (C_X12_here (out := (r1, V2)) (cxL X) hR hc3) rfl (by decide) (by decide) rfl (Nat.le_of_ble_eq_true rfl) rfl (fun M hR => ?_)
  refine r_bipush (v := 33) DX12_readsCondition_63 kb_33 ?_
  refine r_icmp_ne DX12_readsCondition_65 (fun c4 => ?_) (fun c4 => ?_)
  · have h := if_f c4 h
    refine r_bipush (v := 13) DX12_readsCondition_73 kb_13 ?_
    exact S_X12_readsCondition_75 (fun hR h => hkh hR h) (fun hR h => hkx81 hR h) (fun hR h => hkx90 hR h) (fun hR h => hkx143 hR h) (fun hR h => hkx170 hR h) hp hR h
  · have h := if_t c4 h
    refine r_bipush (v := 10) DX12_readsCondition_68 kb_10 ?_
    refine r_goto DX12_readsCondition_70 ?_
    exact S_X12_readsCondition_75 (fun hR h => hkh hR h) (fun hR h => hkx81 hR h) (fun hR h => hkx90 hR h) (fun hR h => hkx143 hR h) (fun hR h => hkx170 hR h) hp hR h
theorem S_X12_readsCondition_40 {E : EN} {X : CX} {P : Option Value → MH → Prop} {ad : AD} {fu : Nat} {out : Int32 × St} {kh : St → RR} {kx81 : St → RR} {kx90 : St → RR} {kx143 : St → RR} {kx170 : St → RR} (hkh : ∀ {V : St} {M : MH}, Rep E ad V M → kh V  = some out → G E X RX12 cX12_readsCondition 1 (some .boolean) false (rmD 7) P M [some (.ref (ad 2200 0))] 0 0 40 []) (hkx81 : ∀ {V : St} {M : MH} {d0 : Option Value}, Rep E ad V M → kx81 V  = some out → G E X RX12 cX12_readsCondition 1 (some .boolean) false (rmD 7) P M [d0] 0 0 81 []) (hkx90 : ∀ {V : St} {M : MH} {d0 : Option Value}, Rep E ad V M → kx90 V  = some out → G E X RX12 cX12_readsCondition 1 (some .boolean) false (rmD 7) P M [d0] 0 0 90 []) (hkx143 : ∀ {V : St} {M : MH} {d0 : Option Value}, Rep E ad V M → kx143 V  = some out → G E X RX12 cX12_readsCondition 1 (some .boolean) false (rmD 7) P M [d0] 0 0 143 []) (hkx170 : ∀ {V : St} {M : MH}, Rep E ad V M → kx170 V  = some out → G E X RX12 cX12_readsCondition 1 (some .boolean) false (rmD 7) P M [some (.ref (ad 2200 0))] 0 0 170 []) (hp : ∀ M, Rep E ad out.2 M → P (some (.int out.1)) M) {V : St} {M : MH} (hR : Rep E ad V M) (h : F_X12_readsCondition_40 kh kx81 kx90 kx143 kx170 fu V = some out) : G E X RX12 cX12_readsCondition 1 (some .boolean) false (rmD 7) P M [some (.ref (ad 2200 0))] 0 0 40 [] := by
  unfold F_X12_readsCondition_40 at h
  refine r_aload_n DX12_readsCondition_40 rfl ?_
  obtain ⟨r1, V2, hc3, h⟩ := bd_inv h
  refine k_callV (As := []) (rest := []) (st1 := [.int (r1)]) (w := some (.int r1)) DX12_readsCondition_41 cv_X12_308 hR ct_2200 (one_cnt _) rfl (C_X12_here (out := (r1, V2)) (cxL X) hR hc3) rfl (by decide) (by decide) rfl (Nat.le_of_ble_eq_true rfl) rfl (fun M hR => ?_)
  refine r_bipush (v := 33) DX12_readsCondition_44 kb_33 ?_
  refine r_icmp_eq DX12_readsCondition_46 (fun c4 => ?_) (fun c4 => ?_)
  · have h := if_t c4 h
    exact S_X12_readsCondition_58 (fun hR h => hkh hR h) (fun hR h => hkx81 hR h) (fun hR h => hkx90 hR h) (fun hR h => hkx143 hR h) (fun hR h => hkx170 hR h) hp hR h
  · have h := if_f c4 h
    refine r_aload_n DX12_readsCondition_49 rfl ?_
    obtain ⟨r5, V6, hc7, h⟩ := bd_inv h
    refine k_callV (As := []) (rest := []) (st1 := [.int (r5)]) (w := some (.int r5)) DX12_readsCondition_50 cv_X12_308 hR ct_2200 (one_cnt _) rfl (C_X12_here (out := (r5, V6)) (cxL X) hR hc7) rfl (by decide) (by decide) rfl (Nat.le_of_ble_eq_true rfl) rfl (fun M hR => ?_)
    refine r_bipush (v := 40) DX12_readsCondition_53 kb_40 ?_
    refine r_icmp_ne DX12_readsCondition_55 (fun c8 => ?_) (fun c8 => ?_)
    · have h := if_f c8 h
      refine r_aload_n DX12_readsCondition_83 rfl ?_
      obtain ⟨r9, V10, hc11, h⟩ := bd_inv h
      refine k_callV (As := []) (rest := []) (st1 := [.int (r9)]) (w := some (.int r9)) DX12_readsCondition_84 cv_X12_370 hR ct_2200 (one_cnt _) rfl (C_X12_readsCompared (out := (r9, V10)) (cxL X) hR hc11) rfl (by decide) (by decide) rfl (Nat.le_of_ble_eq_true rfl) rfl (fun M hR => ?_)
      refine r_if_ne DX12_readsCondition_87 (fun c12 => ?_) (fun c12 => ?_)
      · have h := if_f c12 h
        exact SL_X12_readsCondition_92 (fun hR h => hkx143 hR h) (fun hR h => S_X12_readsCondition_152 (fun hR h => hkh hR h) (fun hR h => hkx81 hR h) (fun hR h => hkx90 hR h) (fun hR h => hkx143 hR h) (fun hR h => hkx170 hR h) hp hR h) hp fu hR h
      · have h := if_t c12 h
        exact hkx90 hR h
    · have h := if_t c8 h
      exact S_X12_readsCondition_58 (fun hR h => hkh hR h) (fun hR h => hkx81 hR h) (fun hR h => hkx90 hR h) (fun hR h => hkx143 hR h) (fun hR h => hkx170 hR h) hp hR h
theorem SL_X12_readsCondition_40 {E : EN} {X : CX} {P : Option Value → MH → Prop} {ad : AD} {fu : Nat} {out : Int32 × St} {kx81 : St → RR} {kx90 : St → RR} {kx143 : St → RR} {kx170 : St → RR} (hkx81 : ∀ {V : St} {M : MH} {d0 : Option Value}, Rep E ad V M → kx81 V  = some out → G E X RX12 cX12_readsCondition 1 (some .boolean) false (rmD 7) P M [d0] 0 0 81 []) (hkx90 : ∀ {V : St} {M : MH} {d0 : Option Value}, Rep E ad V M → kx90 V  = some out → G E X RX12 cX12_readsCondition 1 (some .boolean) false (rmD 7) P M [d0] 0 0 90 []) (hkx143 : ∀ {V : St} {M : MH} {d0 : Option Value}, Rep E ad V M → kx143 V  = some out → G E X RX12 cX12_readsCondition 1 (some .boolean) false (rmD 7) P M [d0] 0 0 143 []) (hkx170 : ∀ {V : St} {M : MH}, Rep E ad V M → kx170 V  = some out → G E X RX12 cX12_readsCondition 1 (some .boolean) false (rmD 7) P M [some (.ref (ad 2200 0))] 0 0 170 []) (hp : ∀ M, Rep E ad out.2 M → P (some (.int out.1)) M) : ∀ (n : Nat) {V : St} {M : MH}, Rep E ad V M → Lp_X12_readsCondition_40 kx81 kx90 kx143 kx170 fu n V = some out → G E X RX12 cX12_readsCondition 1 (some .boolean) false (rmD 7) P M [some (.ref (ad 2200 0))] 0 0 40 [] := by
  intro n
  induction n with
  | zero => intros; rename_i h; cases h
  | succ n ih => exact fun hR h => S_X12_readsCondition_40 (fun hR h => ih hR h) (fun hR h => hkx81 hR h) (fun hR h => hkx90 hR h) (fun hR h => hkx143 hR h) (fun hR h => hkx170 hR h) hp hR h
theorem S_X12_readsCondition_0 {E : EN} {X : CX} {P : Option Value → MH → Prop} {ad : AD} {fu : Nat} {out : Int32 × St} (hp : ∀ M, Rep E ad out.2 M → P (some (.int out.1)) M) {V : St} {M : MH} (hR : Rep E ad V M) (h : f_X12_readsCondition fu V = some out) : G E X RX12 cX12_readsCondition 1 (some .boolean) false (rmD 7) P M [some (.ref (ad 2200 0))] 0 0 0 [] := by
  unfold f_X12_readsCondition at h
  refine r_aload_n DX12_readsCondition_0 rfl ?_
  obtain ⟨r1, V2, hc3, h⟩ := bd_inv h
  refine k_callV (As := []) (rest := []) (st1 := [.int (r1)]) (w := some (.int r1)) DX12_readsCondition_1 cv_X12_308 hR ct_2200 (one_cnt _) rfl (C_X12_here (out := (r1, V2)) (cxL X) hR hc3) rfl (by decide) (by decide) rfl (Nat.le_of_ble_eq_true rfl) rfl (fun M hR => ?_)
  refine r_bipush (v := 40) DX12_readsCondition_4 kb_40 ?_
  refine r_icmp_eq DX12_readsCondition_6 (fun c4 => ?_) (fun c4 => ?_)
  · have h := if_t c4 h
    refine r_aload_n DX12_readsCondition_19 rfl ?_
    refine r_iconst (v := 0) DX12_readsCondition_20 ki_0 ?_
    obtain ⟨V5, hv6, h⟩ := bv_inv h
    refine s_puti DX12_readsCondition_21 fp_X12_329 hR oks_2247 ct_2200 (one_cnt _) rfl rfl rfl (fun M hR => ?_)
    have hR := hR.cg hv6
    refine r_aload_n DX12_readsCondition_24 rfl ?_
    refine r_iconst (v := 0) DX12_readsCondition_25 ki_0 ?_
    obtain ⟨V7, hv8, h⟩ := bv_inv h
    refine s_puti DX12_readsCondition_26 fp_X12_332 hR oks_2249 ct_2200 (one_cnt _) rfl rfl rfl (fun M hR => ?_)
    have hR := hR.cg hv8
    refine r_aload_n DX12_readsCondition_29 rfl ?_
    refine r_bipush (v := 13) DX12_readsCondition_30 kb_13 ?_
    obtain ⟨r9, V10, hc11, h⟩ := bd_inv h
    refine k_callV (As := [.int ((13 : Int32))]) (rest := []) (st1 := [.int (r9)]) (w := some (.int r9)) DX12_readsCondition_32 cv_X12_341 hR ct_2200 (one_cnt _) rfl (C_X12_opens (out := (r9, V10)) (cxL X) hR hc11) rfl (by decide) (by decide) rfl (Nat.le_of_ble_eq_true rfl) rfl (fun M hR => ?_)
    refine r_if_ne DX12_readsCondition_35 (fun c12 => ?_) (fun c12 => ?_)
    · have h := if_f c12 h
      exact SL_X12_readsCondition_40 (fun hR h => S_X12_readsCondition_81 hp hR h) (fun hR h => S_X12_readsCondition_90 hp hR h) (fun hR h => S_X12_readsCondition_143 hp hR h) (fun hR h => S_X12_readsCondition_170 hp hR h) hp fu hR h
    · have h := if_t c12 h
      refine r_iconst (v := 0) DX12_readsCondition_38 ki_0 ?_
      cases h
      exact r_zret DX12_readsCondition_39 rfl rfl ⟨Nat.le_refl 0, Nat.le_refl 0⟩ (hp M hR)
  · have h := if_f c4 h
    refine r_aload_n DX12_readsCondition_9 rfl ?_
    refine r_iconst (v := 1) DX12_readsCondition_10 ki_1 ?_
    refine r_aload_n DX12_readsCondition_11 rfl ?_
    refine s_geti DX12_readsCondition_12 fl_X12_302 hR ct_2200 (one_cnt _) rfl ?_
    obtain ⟨r12, V13, hc14, h⟩ := bd_inv h
    refine k_callV (As := [.int ((1 : Int32)), .int ((V2 2243 0 0))]) (rest := []) (st1 := [.int (r12)]) (w := some (.int r12)) DX12_readsCondition_15 cv_X12_315 hR ct_2200 (one_cnt _) rfl (C_X12_wrong (out := (r12, V13)) (cxL X) hR hc14) rfl (by decide) (by decide) rfl (Nat.le_of_ble_eq_true rfl) rfl (fun M hR => ?_)
    obtain ⟨hz15, h⟩ := gd_inv h
    cases h
    exact r_zret DX12_readsCondition_18 rfl (nz_nar hz15) ⟨Nat.le_refl 0, Nat.le_refl 0⟩ (hp M hR)
theorem C_X12_readsCondition {E : EN} {ad : AD} {fu : Nat} {out : Int32 × St} {V : St} {M : MH} (l : Launch) (hR : Rep E ad V M) (h : f_X12_readsCondition fu V = some out) : Ct E l yX12_readsCondition cX12_readsCondition 1 (some .boolean) (rmD 7) [.ref (ad 2200 0)] M (fun v M => v = (some (.int out.1)) ∧ Rep E ad out.2 M) :=
  Ct.of (own := RX12) (ini := false) (L := [some (.ref (ad 2200 0))]) rfl rfl (fun h => by cases h) rfl (Nat.le_of_ble_eq_true rfl) rfl (fun X _ => S_X12_readsCondition_0 (fun M hR => ⟨rfl, hR⟩) hR h)
theorem S_X12_takes_0 {E : EN} {X : CX} {P : Option Value → MH → Prop} {ad : AD} {fu : Nat} {out : Int32 × St} (hp : ∀ M, Rep E ad out.2 M → P (some (.int out.1)) M) {V : St} {M : MH} {x1 : Int32} (hR : Rep E ad V M) (h : f_X12_takes fu V x1 = some out) : G E X RX12 cX12_takes 2 (some .boolean) false (rmD 2) P M [some (.ref (ad 2200 0)), some (.int (x1))] 0 0 0 [] := by
  unfold f_X12_takes at h
  refine r_aload_n DX12_takes_0 rfl ?_
  obtain ⟨r1, V2, hc3, h⟩ := bd_inv h
  refine k_callV (As := []) (rest := []) (st1 := [.int (r1)]) (w := some (.int r1)) DX12_takes_1 cv_X12_308 hR ct_2200 (one_cnt _) rfl (C_X12_here (out := (r1, V2)) (cxL X) hR hc3) rfl (by decide) (by decide) rfl (Nat.le_of_ble_eq_true rfl) rfl (fun M hR => ?_)
  refine r_iload_n DX12_takes_4 rfl ?_
  refine r_icmp_eq DX12_takes_5 (fun c4 => ?_) (fun c4 => ?_)
  · have h := if_t c4 h
    refine r_aload_n DX12_takes_18 rfl ?_
    refine r_aload_n DX12_takes_19 rfl ?_
    refine s_geti DX12_takes_20 fl_X12_302 hR ct_2200 (one_cnt _) rfl ?_
    refine r_iconst (v := 1) DX12_takes_23 ki_1 ?_
    refine r_iadd DX12_takes_24 ?_
    obtain ⟨V5, hv6, h⟩ := bv_inv h
    refine s_puti DX12_takes_25 fp_X12_302 hR oks_2243 ct_2200 (one_cnt _) rfl rfl rfl (fun M hR => ?_)
    have hR := hR.cg hv6
    refine r_iconst (v := 1) DX12_takes_28 ki_1 ?_
    cases h
    exact r_zret DX12_takes_29 rfl rfl ⟨Nat.le_refl 0, Nat.le_refl 0⟩ (hp M hR)
  · have h := if_f c4 h
    refine r_aload_n DX12_takes_8 rfl ?_
    refine r_iconst (v := 1) DX12_takes_9 ki_1 ?_
    refine r_aload_n DX12_takes_10 rfl ?_
    refine s_geti DX12_takes_11 fl_X12_302 hR ct_2200 (one_cnt _) rfl ?_
    obtain ⟨r7, V8, hc9, h⟩ := bd_inv h
    refine k_callV (As := [.int ((1 : Int32)), .int ((V2 2243 0 0))]) (rest := []) (st1 := [.int (r7)]) (w := some (.int r7)) DX12_takes_14 cv_X12_315 hR ct_2200 (one_cnt _) rfl (C_X12_wrong (out := (r7, V8)) (cxL X) hR hc9) rfl (by decide) (by decide) rfl (Nat.le_of_ble_eq_true rfl) rfl (fun M hR => ?_)
    obtain ⟨hz10, h⟩ := gd_inv h
    cases h
    exact r_zret DX12_takes_17 rfl (nz_nar hz10) ⟨Nat.le_refl 0, Nat.le_refl 0⟩ (hp M hR)
theorem C_X12_takes {E : EN} {ad : AD} {fu : Nat} {out : Int32 × St} {V : St} {M : MH} {x1 : Int32} (l : Launch) (hR : Rep E ad V M) (h : f_X12_takes fu V x1 = some out) : Ct E l yX12_takes cX12_takes 2 (some .boolean) (rmD 2) [.ref (ad 2200 0), .int (x1)] M (fun v M => v = (some (.int out.1)) ∧ Rep E ad out.2 M) :=
  Ct.of (own := RX12) (ini := false) (L := [some (.ref (ad 2200 0)), some (.int (x1))]) rfl rfl (fun h => by cases h) rfl (Nat.le_of_ble_eq_true rfl) rfl (fun X _ => S_X12_takes_0 (fun M hR => ⟨rfl, hR⟩) hR h)
theorem S_X12_readsClause_189 {E : EN} {X : CX} {P : Option Value → MH → Prop} {ad : AD} {fu : Nat} {out : Int32 × St} (hp : ∀ M, Rep E ad out.2 M → P (some (.int out.1)) M) {V : St} {M : MH} {x2 : Int32} {d1 : Option Value} (hR : Rep E ad V M) (h : F_X12_readsClause_189 fu V x2 = some out) : G E X RX12 cX12_readsClause 3 (some .boolean) false (rmD 8) P M [some (.ref (ad 2200 0)), d1, some (.int (x2))] 0 0 189 [] := by
  unfold F_X12_readsClause_189 at h
  refine r_aload_n DX12_readsClause_189 rfl ?_
  refine s_geta DX12_readsClause_190 fl_X12_132 hR ct_2200 (one_cnt _) rfl ?_
  refine r_iload_n DX12_readsClause_193 rfl ?_
  refine r_aload_n DX12_readsClause_194 rfl ?_
  refine s_geti DX12_readsClause_195 fl_X12_325 hR ct_2200 (one_cnt _) rfl ?_
  obtain ⟨hg1, h⟩ := gd_inv h
  obtain ⟨V2, hv3, h⟩ := bv_inv h
  refine s_iast DX12_readsClause_198 hR oka_2255 ct_2255 (one_cnt _) hg1 (fun M hR => ?_)
  have hR := hR.cg hv3
  refine r_aload_n DX12_readsClause_199 rfl ?_
  refine r_aload_n DX12_readsClause_200 rfl ?_
  refine s_geti DX12_readsClause_201 fl_X12_382 hR ct_2200 (one_cnt _) rfl ?_
  refine r_iconst (v := 1) DX12_readsClause_204 ki_1 ?_
  refine r_iadd DX12_readsClause_205 ?_
  obtain ⟨V4, hv5, h⟩ := bv_inv h
  refine s_puti DX12_readsClause_206 fp_X12_382 hR oks_2250 ct_2200 (one_cnt _) rfl rfl rfl (fun M hR => ?_)
  have hR := hR.cg hv5
  refine r_iconst (v := 1) DX12_readsClause_209 ki_1 ?_
  cases h
  exact r_zret DX12_readsClause_210 rfl rfl ⟨Nat.le_refl 0, Nat.le_refl 0⟩ (hp M hR)
theorem S_X12_readsClause_165 {E : EN} {X : CX} {P : Option Value → MH → Prop} {ad : AD} {fu : Nat} {out : Int32 × St} (hp : ∀ M, Rep E ad out.2 M → P (some (.int out.1)) M) {V : St} {M : MH} {d0 : Option Value} {d1 : Option Value} {d2 : Option Value} (hR : Rep E ad V M) (h : F_X12_readsClause_165 fu V = some out) : G E X RX12 cX12_readsClause 3 (some .boolean) false (rmD 8) P M [d0, d1, d2] 0 0 165 [] := by
  unfold F_X12_readsClause_165 at h
  refine r_iconst (v := 0) DX12_readsClause_165 ki_0 ?_
  cases h
  exact r_zret DX12_readsClause_166 rfl rfl ⟨Nat.le_refl 0, Nat.le_refl 0⟩ (hp M hR)
theorem S_X12_readsClause_102 {E : EN} {X : CX} {P : Option Value → MH → Prop} {ad : AD} {fu : Nat} {out : Int32 × St} (hp : ∀ M, Rep E ad out.2 M → P (some (.int out.1)) M) {V : St} {M : MH} {x1 : Int32} {d2 : Option Value} (hR : Rep E ad V M) (h : F_X12_readsClause_102 fu V x1 = some out) : G E X RX12 cX12_readsClause 3 (some .boolean) false (rmD 8) P M [some (.ref (ad 2200 0)), some (.int (x1)), d2] 0 0 102 [] := by
  unfold F_X12_readsClause_102 at h
  refine r_aload_n DX12_readsClause_102 rfl ?_
  refine s_geti DX12_readsClause_103 fl_X12_382 hR ct_2200 (one_cnt _) rfl ?_
  refine t_istore_n (L' := [some (.ref (ad 2200 0)), some (.int (x1)), some (.int ((V 2250 0 0)))]) DX12_readsClause_106 (by decide) rfl ?_
  refine r_aload_n DX12_readsClause_107 rfl ?_
  refine s_geta DX12_readsClause_108 fl_X12_126 hR ct_2200 (one_cnt _) rfl ?_
  refine r_iload_n DX12_readsClause_111 rfl ?_
  refine r_iload_n DX12_readsClause_112 rfl ?_
  obtain ⟨hg1, h⟩ := gd_inv h
  obtain ⟨V2, hv3, h⟩ := bv_inv h
  refine s_iast DX12_readsClause_113 hR oka_2253 ct_2253 (one_cnt _) hg1 (fun M hR => ?_)
  have hR := hR.cg hv3
  refine r_aload_n DX12_readsClause_114 rfl ?_
  refine s_geta DX12_readsClause_115 fl_X12_135 hR ct_2200 (one_cnt _) rfl ?_
  refine r_iload_n DX12_readsClause_118 rfl ?_
  refine r_aload_n DX12_readsClause_119 rfl ?_
  refine s_geti DX12_readsClause_120 fl_X12_318 hR ct_2200 (one_cnt _) rfl ?_
  obtain ⟨hg4, h⟩ := gd_inv h
  obtain ⟨V5, hv6, h⟩ := bv_inv h
  refine s_iast DX12_readsClause_123 hR oka_2256 ct_2256 (one_cnt _) hg4 (fun M hR => ?_)
  have hR := hR.cg hv6
  refine r_aload_n DX12_readsClause_124 rfl ?_
  refine s_geta DX12_readsClause_125 fl_X12_138 hR ct_2200 (one_cnt _) rfl ?_
  refine r_iload_n DX12_readsClause_128 rfl ?_
  refine r_iconst (v := 0) DX12_readsClause_129 ki_0 ?_
  obtain ⟨hg7, h⟩ := gd_inv h
  obtain ⟨V8, hv9, h⟩ := bv_inv h
  refine s_iast DX12_readsClause_130 hR oka_2257 ct_2257 (one_cnt _) hg7 (fun M hR => ?_)
  have hR := hR.cg hv9
  refine r_aload_n DX12_readsClause_131 rfl ?_
  refine s_geta DX12_readsClause_132 fl_X12_129 hR ct_2200 (one_cnt _) rfl ?_
  refine r_iload_n DX12_readsClause_135 rfl ?_
  refine r_aload_n DX12_readsClause_136 rfl ?_
  refine s_geti DX12_readsClause_137 fl_X12_325 hR ct_2200 (one_cnt _) rfl ?_
  obtain ⟨hg10, h⟩ := gd_inv h
  obtain ⟨V11, hv12, h⟩ := bv_inv h
  refine s_iast DX12_readsClause_140 hR oka_2254 ct_2254 (one_cnt _) hg10 (fun M hR => ?_)
  have hR := hR.cg hv12
  refine r_iload_n DX12_readsClause_141 rfl ?_
  refine r_bipush (v := 120) DX12_readsClause_142 kb_120 ?_
  refine r_icmp_ne DX12_readsClause_144 (fun c13 => ?_) (fun c13 => ?_)
  · have h := if_f c13 h
    refine r_aload_n DX12_readsClause_180 rfl ?_
    obtain ⟨r14, V15, hc16, h⟩ := bd_inv h
    refine k_callV (As := []) (rest := []) (st1 := [.int (r14)]) (w := some (.int r14)) DX12_readsClause_181 cv_X12_388 hR ct_2200 (one_cnt _) rfl (C_X12_readsCondition (out := (r14, V15)) (cxL X) hR hc16) rfl (by decide) (by decide) rfl (Nat.le_of_ble_eq_true rfl) rfl (fun M hR => ?_)
    refine r_if_ne DX12_readsClause_184 (fun c17 => ?_) (fun c17 => ?_)
    · have h := if_f c17 h
      exact S_X12_readsClause_189 hp hR h
    · have h := if_t c17 h
      refine r_iconst (v := 0) DX12_readsClause_187 ki_0 ?_
      cases h
      exact r_zret DX12_readsClause_188 rfl rfl ⟨Nat.le_refl 0, Nat.le_refl 0⟩ (hp M hR)
  · have h := if_t c13 h
    refine r_aload_n DX12_readsClause_147 rfl ?_
    refine r_bipush (v := 46) DX12_readsClause_148 kb_46 ?_
    obtain ⟨r17, V18, hc19, h⟩ := bd_inv h
    refine k_callV (As := [.int ((46 : Int32))]) (rest := []) (st1 := [.int (r17)]) (w := some (.int r17)) DX12_readsClause_150 cv_X12_385 hR ct_2200 (one_cnt _) rfl (C_X12_takes (out := (r17, V18)) (cxL X) hR hc19) rfl (by decide) (by decide) rfl (Nat.le_of_ble_eq_true rfl) rfl (fun M hR => ?_)
    refine r_if_eq DX12_readsClause_153 (fun c20 => ?_) (fun c20 => ?_)
    · have h := if_t c20 h
      exact S_X12_readsClause_165 hp hR h
    · have h := if_f c20 h
      refine r_aload_n DX12_readsClause_156 rfl ?_
      refine r_bipush (v := 11) DX12_readsClause_157 kb_11 ?_
      obtain ⟨r21, V22, hc23, h⟩ := bd_inv h
      refine k_callV (As := [.int ((11 : Int32))]) (rest := []) (st1 := [.int (r21)]) (w := some (.int r21)) DX12_readsClause_159 cv_X12_345 hR ct_2200 (one_cnt _) rfl (C_X12_readsNumber (out := (r21, V22)) (cxL X) hR hc23) rfl (by decide) (by decide) rfl (Nat.le_of_ble_eq_true rfl) rfl (fun M hR => ?_)
      refine r_if_ne DX12_readsClause_162 (fun c24 => ?_) (fun c24 => ?_)
      · have h := if_f c24 h
        refine r_aload_n DX12_readsClause_167 rfl ?_
        refine s_geta DX12_readsClause_168 fl_X12_138 hR ct_2200 (one_cnt _) rfl ?_
        refine r_iload_n DX12_readsClause_171 rfl ?_
        refine r_aload_n DX12_readsClause_172 rfl ?_
        refine s_geti DX12_readsClause_173 fl_X12_318 hR ct_2200 (one_cnt _) rfl ?_
        obtain ⟨hg25, h⟩ := gd_inv h
        obtain ⟨V26, hv27, h⟩ := bv_inv h
        refine s_iast DX12_readsClause_176 hR oka_2257 ct_2257 (one_cnt _) hg25 (fun M hR => ?_)
        have hR := hR.cg hv27
        refine r_goto DX12_readsClause_177 ?_
        exact S_X12_readsClause_189 hp hR h
      · have h := if_t c24 h
        exact S_X12_readsClause_165 hp hR h
theorem S_X12_readsClause_94 {E : EN} {X : CX} {P : Option Value → MH → Prop} {ad : AD} {fu : Nat} {out : Int32 × St} (hp : ∀ M, Rep E ad out.2 M → P (some (.int out.1)) M) {V : St} {M : MH} {x1 : Int32} {s0 : Int32} {d2 : Option Value} (hR : Rep E ad V M) (h : F_X12_readsClause_94 fu V x1 s0 = some out) : G E X RX12 cX12_readsClause 3 (some .boolean) false (rmD 8) P M [some (.ref (ad 2200 0)), some (.int (x1)), d2] 0 0 94 [.int (s0), .ref (ad 2200 0)] := by
  unfold F_X12_readsClause_94 at h
  obtain ⟨r1, V2, hc3, h⟩ := bd_inv h
  refine k_callV (As := [.int (s0)]) (rest := []) (st1 := [.int (r1)]) (w := some (.int r1)) DX12_readsClause_94 cv_X12_345 hR ct_2200 (one_cnt _) rfl (C_X12_readsNumber (out := (r1, V2)) (cxL X) hR hc3) rfl (by decide) (by decide) rfl (Nat.le_of_ble_eq_true rfl) rfl (fun M hR => ?_)
  refine r_if_ne DX12_readsClause_97 (fun c4 => ?_) (fun c4 => ?_)
  · have h := if_f c4 h
    exact S_X12_readsClause_102 hp hR h
  · have h := if_t c4 h
    refine r_iconst (v := 0) DX12_readsClause_100 ki_0 ?_
    cases h
    exact r_zret DX12_readsClause_101 rfl rfl ⟨Nat.le_refl 0, Nat.le_refl 0⟩ (hp M hR)
theorem S_X12_readsClause_0 {E : EN} {X : CX} {P : Option Value → MH → Prop} {ad : AD} {fu : Nat} {out : Int32 × St} (hp : ∀ M, Rep E ad out.2 M → P (some (.int out.1)) M) {V : St} {M : MH} (hR : Rep E ad V M) (h : f_X12_readsClause fu V = some out) : G E X RX12 cX12_readsClause 3 (some .boolean) false (rmD 8) P M [some (.ref (ad 2200 0)), none, none] 0 0 0 [] := by
  unfold f_X12_readsClause at h
  refine r_aload_n DX12_readsClause_0 rfl ?_
  obtain ⟨r1, V2, hc3, h⟩ := bd_inv h
  refine k_callV (As := []) (rest := []) (st1 := [.int (r1)]) (w := some (.int r1)) DX12_readsClause_1 cv_X12_308 hR ct_2200 (one_cnt _) rfl (C_X12_here (out := (r1, V2)) (cxL X) hR hc3) rfl (by decide) (by decide) rfl (Nat.le_of_ble_eq_true rfl) rfl (fun M hR => ?_)
  refine t_istore_n (L' := [some (.ref (ad 2200 0)), some (.int (r1)), none]) DX12_readsClause_4 (by decide) rfl ?_
  refine r_iload_n DX12_readsClause_5 rfl ?_
  obtain ⟨r4, V5, hc6, h⟩ := bd_inv h
  refine k_callS (As := [.int (r1)]) (rest := []) (st1 := [.int (r4)]) (w := some (.int r4)) DX12_readsClause_6 cs_X12_379 (C_X12_isLetter (out := (r4, V5)) (cxL X) hR hc6) rfl (by decide) (by decide) rfl (Nat.le_of_ble_eq_true rfl) rfl (fun M hR => ?_)
  refine r_if_ne DX12_readsClause_9 (fun c7 => ?_) (fun c7 => ?_)
  · have h := if_f c7 h
    refine r_aload_n DX12_readsClause_22 rfl ?_
    refine s_geti DX12_readsClause_23 fl_X12_382 hR ct_2200 (one_cnt _) rfl ?_
    refine r_bipush (v := 12) DX12_readsClause_26 kb_12 ?_
    refine r_icmp_ne DX12_readsClause_28 (fun c8 => ?_) (fun c8 => ?_)
    · have h := if_f c8 h
      refine r_aload_n DX12_readsClause_41 rfl ?_
      refine r_aload_n DX12_readsClause_42 rfl ?_
      refine s_geti DX12_readsClause_43 fl_X12_302 hR ct_2200 (one_cnt _) rfl ?_
      refine r_iconst (v := 1) DX12_readsClause_46 ki_1 ?_
      refine r_iadd DX12_readsClause_47 ?_
      obtain ⟨V9, hv10, h⟩ := bv_inv h
      refine s_puti DX12_readsClause_48 fp_X12_302 hR oks_2243 ct_2200 (one_cnt _) rfl rfl rfl (fun M hR => ?_)
      have hR := hR.cg hv10
      refine r_aload_n DX12_readsClause_51 rfl ?_
      refine r_iconst (v := 0) DX12_readsClause_52 ki_0 ?_
      obtain ⟨V11, hv12, h⟩ := bv_inv h
      refine s_puti DX12_readsClause_53 fp_X12_318 hR oks_2246 ct_2200 (one_cnt _) rfl rfl rfl (fun M hR => ?_)
      have hR := hR.cg hv12
      refine r_iload_n DX12_readsClause_56 rfl ?_
      refine r_bipush (v := 98) DX12_readsClause_57 kb_98 ?_
      refine r_icmp_eq DX12_readsClause_59 (fun c13 => ?_) (fun c13 => ?_)
      · have h := if_t c13 h
        exact S_X12_readsClause_102 hp hR h
      · have h := if_f c13 h
        refine r_iload_n DX12_readsClause_62 rfl ?_
        refine r_bipush (v := 109) DX12_readsClause_63 kb_109 ?_
        refine r_icmp_eq DX12_readsClause_65 (fun c14 => ?_) (fun c14 => ?_)
        · have h := if_t c14 h
          exact S_X12_readsClause_102 hp hR h
        · have h := if_f c14 h
          refine r_aload_n DX12_readsClause_68 rfl ?_
          refine r_iload_n DX12_readsClause_69 rfl ?_
          refine r_bipush (v := 100) DX12_readsClause_70 kb_100 ?_
          refine r_icmp_ne DX12_readsClause_72 (fun c15 => ?_) (fun c15 => ?_)
          · have h := if_f c15 h
            refine r_iload_n DX12_readsClause_80 rfl ?_
            refine r_bipush (v := 120) DX12_readsClause_81 kb_120 ?_
            refine r_icmp_ne DX12_readsClause_83 (fun c16 => ?_) (fun c16 => ?_)
            · have h := if_f c16 h
              refine r_ldcw (v := 99999) DX12_readsClause_91 ck_X12_344 ?_
              exact S_X12_readsClause_94 hp hR h
            · have h := if_t c16 h
              refine r_bipush (v := 29) DX12_readsClause_86 kb_29 ?_
              refine r_goto DX12_readsClause_88 ?_
              exact S_X12_readsClause_94 hp hR h
          · have h := if_t c15 h
            refine r_bipush (v := 100) DX12_readsClause_75 kb_100 ?_
            refine r_goto DX12_readsClause_77 ?_
            exact S_X12_readsClause_94 hp hR h
    · have h := if_t c8 h
      refine r_aload_n DX12_readsClause_31 rfl ?_
      refine r_iconst (v := 4) DX12_readsClause_32 ki_4 ?_
      refine r_aload_n DX12_readsClause_33 rfl ?_
      refine s_geti DX12_readsClause_34 fl_X12_302 hR ct_2200 (one_cnt _) rfl ?_
      obtain ⟨r13, V14, hc15, h⟩ := bd_inv h
      refine k_callV (As := [.int ((4 : Int32)), .int ((V5 2243 0 0))]) (rest := []) (st1 := [.int (r13)]) (w := some (.int r13)) DX12_readsClause_37 cv_X12_315 hR ct_2200 (one_cnt _) rfl (C_X12_wrong (out := (r13, V14)) (cxL X) hR hc15) rfl (by decide) (by decide) rfl (Nat.le_of_ble_eq_true rfl) rfl (fun M hR => ?_)
      obtain ⟨hz16, h⟩ := gd_inv h
      cases h
      exact r_zret DX12_readsClause_40 rfl (nz_nar hz16) ⟨Nat.le_refl 0, Nat.le_refl 0⟩ (hp M hR)
  · have h := if_t c7 h
    refine r_aload_n DX12_readsClause_12 rfl ?_
    refine r_iconst (v := 1) DX12_readsClause_13 ki_1 ?_
    refine r_aload_n DX12_readsClause_14 rfl ?_
    refine s_geti DX12_readsClause_15 fl_X12_302 hR ct_2200 (one_cnt _) rfl ?_
    obtain ⟨r8, V9, hc10, h⟩ := bd_inv h
    refine k_callV (As := [.int ((1 : Int32)), .int ((V5 2243 0 0))]) (rest := []) (st1 := [.int (r8)]) (w := some (.int r8)) DX12_readsClause_18 cv_X12_315 hR ct_2200 (one_cnt _) rfl (C_X12_wrong (out := (r8, V9)) (cxL X) hR hc10) rfl (by decide) (by decide) rfl (Nat.le_of_ble_eq_true rfl) rfl (fun M hR => ?_)
    obtain ⟨hz11, h⟩ := gd_inv h
    cases h
    exact r_zret DX12_readsClause_21 rfl (nz_nar hz11) ⟨Nat.le_refl 0, Nat.le_refl 0⟩ (hp M hR)
theorem C_X12_readsClause {E : EN} {ad : AD} {fu : Nat} {out : Int32 × St} {V : St} {M : MH} (l : Launch) (hR : Rep E ad V M) (h : f_X12_readsClause fu V = some out) : Ct E l yX12_readsClause cX12_readsClause 3 (some .boolean) (rmD 8) [.ref (ad 2200 0)] M (fun v M => v = (some (.int out.1)) ∧ Rep E ad out.2 M) :=
  Ct.of (own := RX12) (ini := false) (L := [some (.ref (ad 2200 0)), none, none]) rfl rfl (fun h => by cases h) rfl (Nat.le_of_ble_eq_true rfl) rfl (fun X _ => S_X12_readsClause_0 (fun M hR => ⟨rfl, hR⟩) hR h)
theorem S_X12_order_336 {E : EN} {X : CX} {P : Option Value → MH → Prop} {ad : AD} {fu : Nat} {out : Int32 × St} (hp : ∀ M, Rep E ad out.2 M → P (some (.int out.1)) M) {V : St} {M : MH} {d1 : Option Value} {d2 : Option Value} {d3 : Option Value} {d4 : Option Value} {d5 : Option Value} {d6 : Option Value} (hR : Rep E ad V M) (h : F_X12_order_336 fu V = some out) : G E X RX12 cX12_order 7 (some .int) false (rmD 9) P M [some (.ref (ad 2200 0)), d1, d2, d3, d4, d5, d6] 0 0 336 [] := by
  unfold F_X12_order_336 at h
  refine r_aload_n DX12_order_336 rfl ?_
  refine r_aload_n DX12_order_337 rfl ?_
  refine s_geti DX12_order_338 fl_X12_394 hR ct_2200 (one_cnt _) rfl ?_
  refine r_iconst (v := 1) DX12_order_341 ki_1 ?_
  refine r_iadd DX12_order_342 ?_
  obtain ⟨V1, hv2, h⟩ := bv_inv h
  refine s_puti DX12_order_343 fp_X12_394 hR oks_2258 ct_2200 (one_cnt _) rfl rfl rfl (fun M hR => ?_)
  have hR := hR.cg hv2
  refine r_aload_n DX12_order_346 rfl ?_
  refine s_geti DX12_order_347 fl_X12_394 hR ct_2200 (one_cnt _) rfl ?_
  refine r_iconst (v := 1) DX12_order_350 ki_1 ?_
  refine r_isub DX12_order_351 ?_
  cases h
  exact r_iret DX12_order_352 rfl ⟨Nat.le_refl 0, Nat.le_refl 0⟩ (hp M hR)
theorem S_X12_order_221 {E : EN} {X : CX} {P : Option Value → MH → Prop} {ad : AD} {fu : Nat} {out : Int32 × St} {kh : St → Int32 → RR} {kx336 : St → RR} (hkh : ∀ {V : St} {M : MH} {x5 : Int32} {d1 : Option Value} {d2 : Option Value} {d3 : Option Value} {d4 : Option Value} {d6 : Option Value}, Rep E ad V M → kh V x5 = some out → G E X RX12 cX12_order 7 (some .int) false (rmD 9) P M [some (.ref (ad 2200 0)), d1, d2, d3, d4, some (.int (x5)), d6] 0 0 221 []) (hkx336 : ∀ {V : St} {M : MH} {d1 : Option Value} {d2 : Option Value} {d3 : Option Value} {d4 : Option Value} {d5 : Option Value} {d6 : Option Value}, Rep E ad V M → kx336 V  = some out → G E X RX12 cX12_order 7 (some .int) false (rmD 9) P M [some (.ref (ad 2200 0)), d1, d2, d3, d4, d5, d6] 0 0 336 []) (hp : ∀ M, Rep E ad out.2 M → P (some (.int out.1)) M) {V : St} {M : MH} {x5 : Int32} {d1 : Option Value} {d2 : Option Value} {d3 : Option Value} {d4 : Option Value} {d6 : Option Value} (hR : Rep E ad V M) (h : F_X12_order_221 kh kx336 fu V x5 = some out) : G E X RX12 cX12_order 7 (some .int) false (rmD 9) P M [some (.ref (ad 2200 0)), d1, d2, d3, d4, some (.int (x5)), d6] 0 0 221 [] := by
  unfold F_X12_order_221 at h
  refine r_iload DX12_order_221 rfl ?_
  refine r_aload_n DX12_order_223 rfl ?_
  refine s_geti DX12_order_224 fl_X12_382 hR ct_2200 (one_cnt _) rfl ?_
  refine r_icmp_ge DX12_order_227 (fun c1 => ?_) (fun c1 => ?_)
  · have h := if_t c1 h
    exact hkx336 hR h
  · have h := if_f c1 h
    refine r_bipush (v := 12) DX12_order_230 kb_12 ?_
    refine r_aload_n DX12_order_232 rfl ?_
    refine s_geti DX12_order_233 fl_X12_394 hR ct_2200 (one_cnt _) rfl ?_
    refine r_imul DX12_order_236 ?_
    refine r_iload DX12_order_237 rfl ?_
    refine r_iadd DX12_order_239 ?_
    refine t_istore (L' := [some (.ref (ad 2200 0)), d1, d2, d3, d4, some (.int (x5)), some (.int (((12 : Int32) * (V 2258 0 0)) + x5))]) DX12_order_240 (by decide) rfl ?_
    refine r_aload_n DX12_order_242 rfl ?_
    refine s_geta DX12_order_243 fl_X12_160 hR ct_2200 (one_cnt _) rfl ?_
    refine r_iload DX12_order_246 rfl ?_
    refine r_aload_n DX12_order_248 rfl ?_
    refine s_geta DX12_order_249 fl_X12_126 hR ct_2200 (one_cnt _) rfl ?_
    refine r_iload DX12_order_252 rfl ?_
    obtain ⟨hg2, h⟩ := gd_inv h
    refine s_iald DX12_order_254 hR ct_2253 (one_cnt _) hg2 ?_
    obtain ⟨hg3, h⟩ := gd_inv h
    obtain ⟨V4, hv5, h⟩ := bv_inv h
    refine s_iast DX12_order_255 hR oka_2265 ct_2265 (one_cnt _) hg3 (fun M hR => ?_)
    have hR := hR.cg hv5
    refine r_aload_n DX12_order_256 rfl ?_
    refine s_geta DX12_order_257 fl_X12_169 hR ct_2200 (one_cnt _) rfl ?_
    refine r_iload DX12_order_260 rfl ?_
    refine r_aload_n DX12_order_262 rfl ?_
    refine s_geta DX12_order_263 fl_X12_135 hR ct_2200 (one_cnt _) rfl ?_
    refine r_iload DX12_order_266 rfl ?_
    obtain ⟨hg6, h⟩ := gd_inv h
    refine s_iald DX12_order_268 hR ct_2256 (one_cnt _) hg6 ?_
    obtain ⟨hg7, h⟩ := gd_inv h
    obtain ⟨V8, hv9, h⟩ := bv_inv h
    refine s_iast DX12_order_269 hR oka_2268 ct_2268 (one_cnt _) hg7 (fun M hR => ?_)
    have hR := hR.cg hv9
    refine r_aload_n DX12_order_270 rfl ?_
    refine s_geta DX12_order_271 fl_X12_172 hR ct_2200 (one_cnt _) rfl ?_
    refine r_iload DX12_order_274 rfl ?_
    refine r_aload_n DX12_order_276 rfl ?_
    refine s_geta DX12_order_277 fl_X12_138 hR ct_2200 (one_cnt _) rfl ?_
    refine r_iload DX12_order_280 rfl ?_
    obtain ⟨hg10, h⟩ := gd_inv h
    refine s_iald DX12_order_282 hR ct_2257 (one_cnt _) hg10 ?_
    obtain ⟨hg11, h⟩ := gd_inv h
    obtain ⟨V12, hv13, h⟩ := bv_inv h
    refine s_iast DX12_order_283 hR oka_2269 ct_2269 (one_cnt _) hg11 (fun M hR => ?_)
    have hR := hR.cg hv13
    refine r_aload_n DX12_order_284 rfl ?_
    refine s_geta DX12_order_285 fl_X12_163 hR ct_2200 (one_cnt _) rfl ?_
    refine r_iload DX12_order_288 rfl ?_
    refine r_sipush (v := 180) DX12_order_290 ks_180 ?_
    refine r_aload_n DX12_order_293 rfl ?_
    refine s_geti DX12_order_294 fl_X12_394 hR ct_2200 (one_cnt _) rfl ?_
    refine r_imul DX12_order_297 ?_
    refine r_aload_n DX12_order_298 rfl ?_
    refine s_geta DX12_order_299 fl_X12_129 hR ct_2200 (one_cnt _) rfl ?_
    refine r_iload DX12_order_302 rfl ?_
    obtain ⟨hg14, h⟩ := gd_inv h
    refine s_iald DX12_order_304 hR ct_2254 (one_cnt _) hg14 ?_
    refine r_iadd DX12_order_305 ?_
    obtain ⟨hg15, h⟩ := gd_inv h
    obtain ⟨V16, hv17, h⟩ := bv_inv h
    refine s_iast DX12_order_306 hR oka_2266 ct_2266 (one_cnt _) hg15 (fun M hR => ?_)
    have hR := hR.cg hv17
    refine r_aload_n DX12_order_307 rfl ?_
    refine s_geta DX12_order_308 fl_X12_166 hR ct_2200 (one_cnt _) rfl ?_
    refine r_iload DX12_order_311 rfl ?_
    refine r_sipush (v := 180) DX12_order_313 ks_180 ?_
    refine r_aload_n DX12_order_316 rfl ?_
    refine s_geti DX12_order_317 fl_X12_394 hR ct_2200 (one_cnt _) rfl ?_
    refine r_imul DX12_order_320 ?_
    refine r_aload_n DX12_order_321 rfl ?_
    refine s_geta DX12_order_322 fl_X12_132 hR ct_2200 (one_cnt _) rfl ?_
    refine r_iload DX12_order_325 rfl ?_
    obtain ⟨hg18, h⟩ := gd_inv h
    refine s_iald DX12_order_327 hR ct_2255 (one_cnt _) hg18 ?_
    refine r_iadd DX12_order_328 ?_
    obtain ⟨hg19, h⟩ := gd_inv h
    obtain ⟨V20, hv21, h⟩ := bv_inv h
    refine s_iast DX12_order_329 hR oka_2267 ct_2267 (one_cnt _) hg19 (fun M hR => ?_)
    have hR := hR.cg hv21
    refine t_iinc (v := 1) (L' := [some (.ref (ad 2200 0)), d1, d2, d3, d4, some (.int (x5 + 1)), some (.int (((12 : Int32) * (V 2258 0 0)) + x5))]) DX12_order_330 rfl ki_1 (by decide) rfl ?_
    refine r_goto DX12_order_333 ?_
    exact hkh hR h
theorem SL_X12_order_221 {E : EN} {X : CX} {P : Option Value → MH → Prop} {ad : AD} {fu : Nat} {out : Int32 × St} {kx336 : St → RR} (hkx336 : ∀ {V : St} {M : MH} {d1 : Option Value} {d2 : Option Value} {d3 : Option Value} {d4 : Option Value} {d5 : Option Value} {d6 : Option Value}, Rep E ad V M → kx336 V  = some out → G E X RX12 cX12_order 7 (some .int) false (rmD 9) P M [some (.ref (ad 2200 0)), d1, d2, d3, d4, d5, d6] 0 0 336 []) (hp : ∀ M, Rep E ad out.2 M → P (some (.int out.1)) M) : ∀ (n : Nat) {V : St} {M : MH} {x5 : Int32} {d1 : Option Value} {d2 : Option Value} {d3 : Option Value} {d4 : Option Value} {d6 : Option Value}, Rep E ad V M → Lp_X12_order_221 kx336 fu n V x5 = some out → G E X RX12 cX12_order 7 (some .int) false (rmD 9) P M [some (.ref (ad 2200 0)), d1, d2, d3, d4, some (.int (x5)), d6] 0 0 221 [] := by
  intro n
  induction n with
  | zero => intros; rename_i h; cases h
  | succ n ih => exact fun hR h => S_X12_order_221 (fun hR h => ih hR h) (fun hR h => hkx336 hR h) hp hR h
theorem S_X12_order_218 {E : EN} {X : CX} {P : Option Value → MH → Prop} {ad : AD} {fu : Nat} {out : Int32 × St} (hp : ∀ M, Rep E ad out.2 M → P (some (.int out.1)) M) {V : St} {M : MH} {d1 : Option Value} {d2 : Option Value} {d3 : Option Value} {d4 : Option Value} {d5 : Option Value} {d6 : Option Value} (hR : Rep E ad V M) (h : F_X12_order_218 fu V = some out) : G E X RX12 cX12_order 7 (some .int) false (rmD 9) P M [some (.ref (ad 2200 0)), d1, d2, d3, d4, d5, d6] 0 0 218 [] := by
  unfold F_X12_order_218 at h
  refine r_iconst (v := 0) DX12_order_218 ki_0 ?_
  refine t_istore (L' := [some (.ref (ad 2200 0)), d1, d2, d3, d4, some (.int ((0 : Int32))), d6]) DX12_order_219 (by decide) rfl ?_
  exact SL_X12_order_221 (fun hR h => S_X12_order_336 hp hR h) hp fu hR h
theorem S_X12_order_180 {E : EN} {X : CX} {P : Option Value → MH → Prop} {ad : AD} {fu : Nat} {out : Int32 × St} {kh : St → Int32 → RR} {kx218 : St → RR} (hkh : ∀ {V : St} {M : MH} {x5 : Int32} {d1 : Option Value} {d2 : Option Value} {d3 : Option Value} {d4 : Option Value} {d6 : Option Value}, Rep E ad V M → kh V x5 = some out → G E X RX12 cX12_order 7 (some .int) false (rmD 9) P M [some (.ref (ad 2200 0)), d1, d2, d3, d4, some (.int (x5)), d6] 0 0 180 []) (hkx218 : ∀ {V : St} {M : MH} {d1 : Option Value} {d2 : Option Value} {d3 : Option Value} {d4 : Option Value} {d5 : Option Value} {d6 : Option Value}, Rep E ad V M → kx218 V  = some out → G E X RX12 cX12_order 7 (some .int) false (rmD 9) P M [some (.ref (ad 2200 0)), d1, d2, d3, d4, d5, d6] 0 0 218 []) (hp : ∀ M, Rep E ad out.2 M → P (some (.int out.1)) M) {V : St} {M : MH} {x5 : Int32} {d1 : Option Value} {d2 : Option Value} {d3 : Option Value} {d4 : Option Value} {d6 : Option Value} (hR : Rep E ad V M) (h : F_X12_order_180 kh kx218 fu V x5 = some out) : G E X RX12 cX12_order 7 (some .int) false (rmD 9) P M [some (.ref (ad 2200 0)), d1, d2, d3, d4, some (.int (x5)), d6] 0 0 180 [] := by
  unfold F_X12_order_180 at h
  refine r_iload DX12_order_180 rfl ?_
  refine r_aload_n DX12_order_182 rfl ?_
  refine s_geti DX12_order_183 fl_X12_325 hR ct_2200 (one_cnt _) rfl ?_
  refine r_icmp_ge DX12_order_186 (fun c1 => ?_) (fun c1 => ?_)
  · have h := if_t c1 h
    exact hkx218 hR h
  · have h := if_f c1 h
    refine r_aload_n DX12_order_189 rfl ?_
    refine s_geta DX12_order_190 fl_X12_145 hR ct_2200 (one_cnt _) rfl ?_
    refine r_sipush (v := 180) DX12_order_193 ks_180 ?_
    refine r_aload_n DX12_order_196 rfl ?_
    refine s_geti DX12_order_197 fl_X12_394 hR ct_2200 (one_cnt _) rfl ?_
    refine r_imul DX12_order_200 ?_
    refine r_iload DX12_order_201 rfl ?_
    refine r_iadd DX12_order_203 ?_
    refine r_aload_n DX12_order_204 rfl ?_
    refine s_geta DX12_order_205 fl_X12_120 hR ct_2200 (one_cnt _) rfl ?_
    refine r_iload DX12_order_208 rfl ?_
    obtain ⟨hg2, h⟩ := gd_inv h
    refine s_iald DX12_order_210 hR ct_2251 (one_cnt _) hg2 ?_
    obtain ⟨hg3, h⟩ := gd_inv h
    obtain ⟨V4, hv5, h⟩ := bv_inv h
    refine s_iast DX12_order_211 hR oka_2260 ct_2260 (one_cnt _) hg3 (fun M hR => ?_)
    have hR := hR.cg hv5
    refine t_iinc (v := 1) (L' := [some (.ref (ad 2200 0)), d1, d2, d3, d4, some (.int (x5 + 1)), d6]) DX12_order_212 rfl ki_1 (by decide) rfl ?_
    refine r_goto DX12_order_215 ?_
    exact hkh hR h
theorem SL_X12_order_180 {E : EN} {X : CX} {P : Option Value → MH → Prop} {ad : AD} {fu : Nat} {out : Int32 × St} {kx218 : St → RR} (hkx218 : ∀ {V : St} {M : MH} {d1 : Option Value} {d2 : Option Value} {d3 : Option Value} {d4 : Option Value} {d5 : Option Value} {d6 : Option Value}, Rep E ad V M → kx218 V  = some out → G E X RX12 cX12_order 7 (some .int) false (rmD 9) P M [some (.ref (ad 2200 0)), d1, d2, d3, d4, d5, d6] 0 0 218 []) (hp : ∀ M, Rep E ad out.2 M → P (some (.int out.1)) M) : ∀ (n : Nat) {V : St} {M : MH} {x5 : Int32} {d1 : Option Value} {d2 : Option Value} {d3 : Option Value} {d4 : Option Value} {d6 : Option Value}, Rep E ad V M → Lp_X12_order_180 kx218 fu n V x5 = some out → G E X RX12 cX12_order 7 (some .int) false (rmD 9) P M [some (.ref (ad 2200 0)), d1, d2, d3, d4, some (.int (x5)), d6] 0 0 180 [] := by
  intro n
  induction n with
  | zero => intros; rename_i h; cases h
  | succ n ih => exact fun hR h => S_X12_order_180 (fun hR h => ih hR h) (fun hR h => hkx218 hR h) hp hR h
theorem S_X12_order_116 {E : EN} {X : CX} {P : Option Value → MH → Prop} {ad : AD} {fu : Nat} {out : Int32 × St} (hp : ∀ M, Rep E ad out.2 M → P (some (.int out.1)) M) {V : St} {M : MH} {x1 : Int32} {x2 : Int32} {x4 : Int32} {d3 : Option Value} {d5 : Option Value} {d6 : Option Value} (hR : Rep E ad V M) (h : F_X12_order_116 fu V x1 x2 x4 = some out) : G E X RX12 cX12_order 7 (some .int) false (rmD 9) P M [some (.ref (ad 2200 0)), some (.int (x1)), some (.int (x2)), d3, some (.int (x4)), d5, d6] 0 0 116 [] := by
  unfold F_X12_order_116 at h
  refine r_aload_n DX12_order_116 rfl ?_
  refine r_iconst (v := 0) DX12_order_117 ki_0 ?_
  obtain ⟨V1, hv2, h⟩ := bv_inv h
  refine s_puti DX12_order_118 fp_X12_274 hR oks_2242 ct_2200 (one_cnt _) rfl rfl rfl (fun M hR => ?_)
  have hR := hR.cg hv2
  refine r_iload DX12_order_121 rfl ?_
  refine r_if_ne DX12_order_123 (fun c3 => ?_) (fun c3 => ?_)
  · have h := if_f c3 h
    refine r_aload_n DX12_order_131 rfl ?_
    refine s_geta DX12_order_132 fl_X12_148 hR ct_2200 (one_cnt _) rfl ?_
    refine r_aload_n DX12_order_135 rfl ?_
    refine s_geti DX12_order_136 fl_X12_394 hR ct_2200 (one_cnt _) rfl ?_
    refine r_iload_n DX12_order_139 rfl ?_
    obtain ⟨hg4, h⟩ := gd_inv h
    obtain ⟨V5, hv6, h⟩ := bv_inv h
    refine s_iast DX12_order_140 hR oka_2261 ct_2261 (one_cnt _) hg4 (fun M hR => ?_)
    have hR := hR.cg hv6
    refine r_aload_n DX12_order_141 rfl ?_
    refine s_geta DX12_order_142 fl_X12_151 hR ct_2200 (one_cnt _) rfl ?_
    refine r_aload_n DX12_order_145 rfl ?_
    refine s_geti DX12_order_146 fl_X12_394 hR ct_2200 (one_cnt _) rfl ?_
    refine r_iload_n DX12_order_149 rfl ?_
    obtain ⟨hg7, h⟩ := gd_inv h
    obtain ⟨V8, hv9, h⟩ := bv_inv h
    refine s_iast DX12_order_150 hR oka_2262 ct_2262 (one_cnt _) hg7 (fun M hR => ?_)
    have hR := hR.cg hv9
    refine r_aload_n DX12_order_151 rfl ?_
    refine s_geta DX12_order_152 fl_X12_154 hR ct_2200 (one_cnt _) rfl ?_
    refine r_aload_n DX12_order_155 rfl ?_
    refine s_geti DX12_order_156 fl_X12_394 hR ct_2200 (one_cnt _) rfl ?_
    refine r_aload_n DX12_order_159 rfl ?_
    refine s_geti DX12_order_160 fl_X12_400 hR ct_2200 (one_cnt _) rfl ?_
    obtain ⟨hg10, h⟩ := gd_inv h
    obtain ⟨V11, hv12, h⟩ := bv_inv h
    refine s_iast DX12_order_163 hR oka_2263 ct_2263 (one_cnt _) hg10 (fun M hR => ?_)
    have hR := hR.cg hv12
    refine r_aload_n DX12_order_164 rfl ?_
    refine s_geta DX12_order_165 fl_X12_157 hR ct_2200 (one_cnt _) rfl ?_
    refine r_aload_n DX12_order_168 rfl ?_
    refine s_geti DX12_order_169 fl_X12_394 hR ct_2200 (one_cnt _) rfl ?_
    refine r_aload_n DX12_order_172 rfl ?_
    refine s_geti DX12_order_173 fl_X12_382 hR ct_2200 (one_cnt _) rfl ?_
    obtain ⟨hg13, h⟩ := gd_inv h
    obtain ⟨V14, hv15, h⟩ := bv_inv h
    refine s_iast DX12_order_176 hR oka_2264 ct_2264 (one_cnt _) hg13 (fun M hR => ?_)
    have hR := hR.cg hv15
    refine r_iconst (v := 0) DX12_order_177 ki_0 ?_
    refine t_istore (L' := [some (.ref (ad 2200 0)), some (.int (x1)), some (.int (x2)), d3, some (.int (x4)), some (.int ((0 : Int32))), d6]) DX12_order_178 (by decide) rfl ?_
    exact SL_X12_order_180 (fun hR h => S_X12_order_218 hp hR h) hp fu hR h
  · have h := if_t c3 h
    refine r_aload_n DX12_order_126 rfl ?_
    refine s_geti DX12_order_127 fl_X12_312 hR ct_2200 (one_cnt _) rfl ?_
    cases h
    exact r_iret DX12_order_130 rfl ⟨Nat.le_refl 0, Nat.le_refl 0⟩ (hp M hR)
theorem S_X12_order_111 {E : EN} {X : CX} {P : Option Value → MH → Prop} {ad : AD} {fu : Nat} {out : Int32 × St} {kh : St → Int32 → Int32 → Int32 → RR} {kx116 : St → Int32 → Int32 → Int32 → RR} (hkh : ∀ {V : St} {M : MH} {x1 : Int32} {x2 : Int32} {x4 : Int32} {d3 : Option Value} {d5 : Option Value} {d6 : Option Value}, Rep E ad V M → kh V x1 x2 x4 = some out → G E X RX12 cX12_order 7 (some .int) false (rmD 9) P M [some (.ref (ad 2200 0)), some (.int (x1)), some (.int (x2)), d3, some (.int (x4)), d5, d6] 0 0 74 []) (hkx116 : ∀ {V : St} {M : MH} {x1 : Int32} {x2 : Int32} {x4 : Int32} {d3 : Option Value} {d5 : Option Value} {d6 : Option Value}, Rep E ad V M → kx116 V x1 x2 x4 = some out → G E X RX12 cX12_order 7 (some .int) false (rmD 9) P M [some (.ref (ad 2200 0)), some (.int (x1)), some (.int (x2)), d3, some (.int (x4)), d5, d6] 0 0 116 []) (hp : ∀ M, Rep E ad out.2 M → P (some (.int out.1)) M) {V : St} {M : MH} {x1 : Int32} {x2 : Int32} {s0 : Int32} {d3 : Option Value} {d4 : Option Value} {d5 : Option Value} {d6 : Option Value} (hR : Rep E ad V M) (h : F_X12_order_111 kh kx116 fu V x1 x2 s0 = some out) : G E X RX12 cX12_order 7 (some .int) false (rmD 9) P M [some (.ref (ad 2200 0)), some (.int (x1)), some (.int (x2)), d3, d4, d5, d6] 0 0 111 [.int (s0)] := by
  unfold F_X12_order_111 at h
  refine t_istore (L' := [some (.ref (ad 2200 0)), some (.int (x1)), some (.int (x2)), d3, some (.int (s0)), d5, d6]) DX12_order_111 (by decide) rfl ?_
  refine r_goto DX12_order_113 ?_
  exact hkh hR h
theorem S_X12_order_110 {E : EN} {X : CX} {P : Option Value → MH → Prop} {ad : AD} {fu : Nat} {out : Int32 × St} {kh : St → Int32 → Int32 → Int32 → RR} {kx116 : St → Int32 → Int32 → Int32 → RR} (hkh : ∀ {V : St} {M : MH} {x1 : Int32} {x2 : Int32} {x4 : Int32} {d3 : Option Value} {d5 : Option Value} {d6 : Option Value}, Rep E ad V M → kh V x1 x2 x4 = some out → G E X RX12 cX12_order 7 (some .int) false (rmD 9) P M [some (.ref (ad 2200 0)), some (.int (x1)), some (.int (x2)), d3, some (.int (x4)), d5, d6] 0 0 74 []) (hkx116 : ∀ {V : St} {M : MH} {x1 : Int32} {x2 : Int32} {x4 : Int32} {d3 : Option Value} {d5 : Option Value} {d6 : Option Value}, Rep E ad V M → kx116 V x1 x2 x4 = some out → G E X RX12 cX12_order 7 (some .int) false (rmD 9) P M [some (.ref (ad 2200 0)), some (.int (x1)), some (.int (x2)), d3, some (.int (x4)), d5, d6] 0 0 116 []) (hp : ∀ M, Rep E ad out.2 M → P (some (.int out.1)) M) {V : St} {M : MH} {x1 : Int32} {x2 : Int32} {d3 : Option Value} {d4 : Option Value} {d5 : Option Value} {d6 : Option Value} (hR : Rep E ad V M) (h : F_X12_order_110 kh kx116 fu V x1 x2 = some out) : G E X RX12 cX12_order 7 (some .int) false (rmD 9) P M [some (.ref (ad 2200 0)), some (.int (x1)), some (.int (x2)), d3, d4, d5, d6] 0 0 110 [] := by
  unfold F_X12_order_110 at h
  refine r_iconst (v := 0) DX12_order_110 ki_0 ?_
  exact S_X12_order_111 (fun hR h => hkh hR h) (fun hR h => hkx116 hR h) hp hR h
theorem S_X12_order_74 {E : EN} {X : CX} {P : Option Value → MH → Prop} {ad : AD} {fu : Nat} {out : Int32 × St} {kh : St → Int32 → Int32 → Int32 → RR} {kx116 : St → Int32 → Int32 → Int32 → RR} (hkh : ∀ {V : St} {M : MH} {x1 : Int32} {x2 : Int32} {x4 : Int32} {d3 : Option Value} {d5 : Option Value} {d6 : Option Value}, Rep E ad V M → kh V x1 x2 x4 = some out → G E X RX12 cX12_order 7 (some .int) false (rmD 9) P M [some (.ref (ad 2200 0)), some (.int (x1)), some (.int (x2)), d3, some (.int (x4)), d5, d6] 0 0 74 []) (hkx116 : ∀ {V : St} {M : MH} {x1 : Int32} {x2 : Int32} {x4 : Int32} {d3 : Option Value} {d5 : Option Value} {d6 : Option Value}, Rep E ad V M → kx116 V x1 x2 x4 = some out → G E X RX12 cX12_order 7 (some .int) false (rmD 9) P M [some (.ref (ad 2200 0)), some (.int (x1)), some (.int (x2)), d3, some (.int (x4)), d5, d6] 0 0 116 []) (hp : ∀ M, Rep E ad out.2 M → P (some (.int out.1)) M) {V : St} {M : MH} {x1 : Int32} {x2 : Int32} {x4 : Int32} {d3 : Option Value} {d5 : Option Value} {d6 : Option Value} (hR : Rep E ad V M) (h : F_X12_order_74 kh kx116 fu V x1 x2 x4 = some out) : G E X RX12 cX12_order 7 (some .int) false (rmD 9) P M [some (.ref (ad 2200 0)), some (.int (x1)), some (.int (x2)), d3, some (.int (x4)), d5, d6] 0 0 74 [] := by
  unfold F_X12_order_74 at h
  refine r_iload DX12_order_74 rfl ?_
  refine r_if_eq DX12_order_76 (fun c1 => ?_) (fun c1 => ?_)
  · have h := if_t c1 h
    exact hkx116 hR h
  · have h := if_f c1 h
    refine r_aload_n DX12_order_79 rfl ?_
    refine s_geti DX12_order_80 fl_X12_302 hR ct_2200 (one_cnt _) rfl ?_
    refine r_aload_n DX12_order_83 rfl ?_
    refine s_geti DX12_order_84 fl_X12_305 hR ct_2200 (one_cnt _) rfl ?_
    refine r_icmp_ge DX12_order_87 (fun c2 => ?_) (fun c2 => ?_)
    · have h := if_t c2 h
      exact hkx116 hR h
    · have h := if_f c2 h
      refine r_aload_n DX12_order_90 rfl ?_
      refine r_bipush (v := 59) DX12_order_91 kb_59 ?_
      obtain ⟨r3, V4, hc5, h⟩ := bd_inv h
      refine k_callV (As := [.int ((59 : Int32))]) (rest := []) (st1 := [.int (r3)]) (w := some (.int r3)) DX12_order_93 cv_X12_385 hR ct_2200 (one_cnt _) rfl (C_X12_takes (out := (r3, V4)) (cxL X) hR hc5) rfl (by decide) (by decide) rfl (Nat.le_of_ble_eq_true rfl) rfl (fun M hR => ?_)
      refine r_if_eq DX12_order_96 (fun c6 => ?_) (fun c6 => ?_)
      · have h := if_t c6 h
        exact S_X12_order_110 (fun hR h => hkh hR h) (fun hR h => hkx116 hR h) hp hR h
      · have h := if_f c6 h
        refine r_aload_n DX12_order_99 rfl ?_
        obtain ⟨r7, V8, hc9, h⟩ := bd_inv h
        refine k_callV (As := []) (rest := []) (st1 := [.int (r7)]) (w := some (.int r7)) DX12_order_100 cv_X12_397 hR ct_2200 (one_cnt _) rfl (C_X12_readsClause (out := (r7, V8)) (cxL X) hR hc9) rfl (by decide) (by decide) rfl (Nat.le_of_ble_eq_true rfl) rfl (fun M hR => ?_)
        refine r_if_eq DX12_order_103 (fun c10 => ?_) (fun c10 => ?_)
        · have h := if_t c10 h
          exact S_X12_order_110 (fun hR h => hkh hR h) (fun hR h => hkx116 hR h) hp hR h
        · have h := if_f c10 h
          refine r_iconst (v := 1) DX12_order_106 ki_1 ?_
          refine r_goto DX12_order_107 ?_
          exact S_X12_order_111 (fun hR h => hkh hR h) (fun hR h => hkx116 hR h) hp hR h
theorem SL_X12_order_74 {E : EN} {X : CX} {P : Option Value → MH → Prop} {ad : AD} {fu : Nat} {out : Int32 × St} {kx116 : St → Int32 → Int32 → Int32 → RR} (hkx116 : ∀ {V : St} {M : MH} {x1 : Int32} {x2 : Int32} {x4 : Int32} {d3 : Option Value} {d5 : Option Value} {d6 : Option Value}, Rep E ad V M → kx116 V x1 x2 x4 = some out → G E X RX12 cX12_order 7 (some .int) false (rmD 9) P M [some (.ref (ad 2200 0)), some (.int (x1)), some (.int (x2)), d3, some (.int (x4)), d5, d6] 0 0 116 []) (hp : ∀ M, Rep E ad out.2 M → P (some (.int out.1)) M) : ∀ (n : Nat) {V : St} {M : MH} {x1 : Int32} {x2 : Int32} {x4 : Int32} {d3 : Option Value} {d5 : Option Value} {d6 : Option Value}, Rep E ad V M → Lp_X12_order_74 kx116 fu n V x1 x2 x4 = some out → G E X RX12 cX12_order 7 (some .int) false (rmD 9) P M [some (.ref (ad 2200 0)), some (.int (x1)), some (.int (x2)), d3, some (.int (x4)), d5, d6] 0 0 74 [] := by
  intro n
  induction n with
  | zero => intros; rename_i h; cases h
  | succ n ih => exact fun hR h => S_X12_order_74 (fun hR h => ih hR h) (fun hR h => hkx116 hR h) hp hR h
theorem S_X12_order_46 {E : EN} {X : CX} {P : Option Value → MH → Prop} {ad : AD} {fu : Nat} {out : Int32 × St} (hp : ∀ M, Rep E ad out.2 M → P (some (.int out.1)) M) {V : St} {M : MH} {d0 : Option Value} {d1 : Option Value} {d2 : Option Value} {d3 : Option Value} {d4 : Option Value} {d5 : Option Value} {d6 : Option Value} (hR : Rep E ad V M) (h : F_X12_order_46 fu V = some out) : G E X RX12 cX12_order 7 (some .int) false (rmD 9) P M [d0, d1, d2, d3, d4, d5, d6] 0 0 46 [] := by
  unfold F_X12_order_46 at h
  refine r_iconst (v := -1) DX12_order_46 ki_m1 ?_
  cases h
  exact r_iret DX12_order_47 rfl ⟨Nat.le_refl 0, Nat.le_refl 0⟩ (hp M hR)
theorem S_X12_order_0 {E : EN} {X : CX} {P : Option Value → MH → Prop} {ad : AD} {fu : Nat} {out : Int32 × St} (hp : ∀ M, Rep E ad out.2 M → P (some (.int out.1)) M) {V : St} {M : MH} {x1 : Int32} {x2 : Int32} {x3 : Int32} (hR : Rep E ad V M) (h : f_X12_order fu V x1 x2 x3 = some out) : G E X RX12 cX12_order 7 (some .int) false (rmD 9) P M [some (.ref (ad 2200 0)), some (.int (x1)), some (.int (x2)), some (.int (x3)), none, none, none] 0 0 0 [] := by
  unfold f_X12_order at h
  refine r_iload_n DX12_order_0 rfl ?_
  obtain ⟨r1, V2, hc3, h⟩ := bd_inv h
  refine k_callS (As := [.int (x1)]) (rest := []) (st1 := [.int (r1)]) (w := some (.int r1)) DX12_order_1 cs_X12_391 (C_X12_isWeek (out := (r1, V2)) (cxL X) hR hc3) rfl (by decide) (by decide) rfl (Nat.le_of_ble_eq_true rfl) rfl (fun M hR => ?_)
  refine r_if_eq DX12_order_4 (fun c4 => ?_) (fun c4 => ?_)
  · have h := if_t c4 h
    exact S_X12_order_46 hp hR h
  · have h := if_f c4 h
    refine r_iload_n DX12_order_7 rfl ?_
    refine r_iload_n DX12_order_8 rfl ?_
    refine r_sipush (v := 499) DX12_order_9 ks_499 ?_
    obtain ⟨r5, V6, hc7, h⟩ := bd_inv h
    refine k_callS (As := [.int (x2), .int (x1), .int ((499 : Int32))]) (rest := []) (st1 := [.int (r5)]) (w := some (.int r5)) DX12_order_12 cs_X12_245 (C_X12_in (out := (r5, V6)) (cxL X) hR hc7) rfl (by decide) (by decide) rfl (Nat.le_of_ble_eq_true rfl) rfl (fun M hR => ?_)
    refine r_if_eq DX12_order_15 (fun c8 => ?_) (fun c8 => ?_)
    · have h := if_t c8 h
      exact S_X12_order_46 hp hR h
    · have h := if_f c8 h
      refine r_iload_n DX12_order_18 rfl ?_
      refine r_iconst (v := 1) DX12_order_19 ki_1 ?_
      refine r_sipush (v := 160) DX12_order_20 ks_160 ?_
      obtain ⟨r9, V10, hc11, h⟩ := bd_inv h
      refine k_callS (As := [.int (x3), .int ((1 : Int32)), .int ((160 : Int32))]) (rest := []) (st1 := [.int (r9)]) (w := some (.int r9)) DX12_order_23 cs_X12_245 (C_X12_in (out := (r9, V10)) (cxL X) hR hc11) rfl (by decide) (by decide) rfl (Nat.le_of_ble_eq_true rfl) rfl (fun M hR => ?_)
      refine r_if_eq DX12_order_26 (fun c12 => ?_) (fun c12 => ?_)
      · have h := if_t c12 h
        exact S_X12_order_46 hp hR h
      · have h := if_f c12 h
        refine r_iload_n DX12_order_29 rfl ?_
        refine r_aload_n DX12_order_30 rfl ?_
        refine s_geti DX12_order_31 fl_X12_274 hR ct_2200 (one_cnt _) rfl ?_
        refine r_icmp_gt DX12_order_34 (fun c13 => ?_) (fun c13 => ?_)
        · have h := if_t c13 h
          exact S_X12_order_46 hp hR h
        · have h := if_f c13 h
          refine r_aload_n DX12_order_37 rfl ?_
          refine s_geti DX12_order_38 fl_X12_394 hR ct_2200 (one_cnt _) rfl ?_
          refine r_bipush (v := 30) DX12_order_41 kb_30 ?_
          refine r_icmp_ne DX12_order_43 (fun c14 => ?_) (fun c14 => ?_)
          · have h := if_f c14 h
            refine r_aload_n DX12_order_48 rfl ?_
            refine r_iconst (v := 0) DX12_order_49 ki_0 ?_
            obtain ⟨V15, hv16, h⟩ := bv_inv h
            refine s_puti DX12_order_50 fp_X12_302 hR oks_2243 ct_2200 (one_cnt _) rfl rfl rfl (fun M hR => ?_)
            have hR := hR.cg hv16
            refine r_aload_n DX12_order_53 rfl ?_
            refine r_iload_n DX12_order_54 rfl ?_
            obtain ⟨V17, hv18, h⟩ := bv_inv h
            refine s_puti DX12_order_55 fp_X12_305 hR oks_2244 ct_2200 (one_cnt _) rfl rfl rfl (fun M hR => ?_)
            have hR := hR.cg hv18
            refine r_aload_n DX12_order_58 rfl ?_
            refine r_iconst (v := 0) DX12_order_59 ki_0 ?_
            obtain ⟨V19, hv20, h⟩ := bv_inv h
            refine s_puti DX12_order_60 fp_X12_325 hR oks_2248 ct_2200 (one_cnt _) rfl rfl rfl (fun M hR => ?_)
            have hR := hR.cg hv20
            refine r_aload_n DX12_order_63 rfl ?_
            refine r_iconst (v := 0) DX12_order_64 ki_0 ?_
            obtain ⟨V21, hv22, h⟩ := bv_inv h
            refine s_puti DX12_order_65 fp_X12_382 hR oks_2250 ct_2200 (one_cnt _) rfl rfl rfl (fun M hR => ?_)
            have hR := hR.cg hv22
            refine r_aload_n DX12_order_68 rfl ?_
            obtain ⟨r23, V24, hc25, h⟩ := bd_inv h
            refine k_callV (As := []) (rest := []) (st1 := [.int (r23)]) (w := some (.int r23)) DX12_order_69 cv_X12_397 hR ct_2200 (one_cnt _) rfl (C_X12_readsClause (out := (r23, V24)) (cxL X) hR hc25) rfl (by decide) (by decide) rfl (Nat.le_of_ble_eq_true rfl) rfl (fun M hR => ?_)
            refine t_istore (L' := [some (.ref (ad 2200 0)), some (.int (x1)), some (.int (x2)), some (.int (x3)), some (.int (r23)), none, none]) DX12_order_72 (by decide) rfl ?_
            exact SL_X12_order_74 (fun hR h => S_X12_order_116 hp hR h) hp fu hR h
          · have h := if_t c14 h
            exact S_X12_order_46 hp hR h
theorem C_X12_order {E : EN} {ad : AD} {fu : Nat} {out : Int32 × St} {V : St} {M : MH} {x1 : Int32} {x2 : Int32} {x3 : Int32} (l : Launch) (hR : Rep E ad V M) (h : f_X12_order fu V x1 x2 x3 = some out) : Ct E l yX12_order cX12_order 7 (some .int) (rmD 9) [.ref (ad 2200 0), .int (x1), .int (x2), .int (x3)] M (fun v M => v = (some (.int out.1)) ∧ Rep E ad out.2 M) :=
  Ct.of (own := RX12) (ini := false) (L := [some (.ref (ad 2200 0)), some (.int (x1)), some (.int (x2)), some (.int (x3)), none, none, none]) rfl rfl (fun h => by cases h) rfl (Nat.le_of_ble_eq_true rfl) rfl (fun X _ => S_X12_order_0 (fun M hR => ⟨rfl, hR⟩) hR h)
theorem S_X12_person_20 {E : EN} {X : CX} {P : Option Value → MH → Prop} {ad : AD} {fu : Nat} {out : Int32 × St} (hp : ∀ M, Rep E ad out.2 M → P (some (.int out.1)) M) {V : St} {M : MH} {d0 : Option Value} {d1 : Option Value} (hR : Rep E ad V M) (h : F_X12_person_20 fu V = some out) : G E X RX12 cX12_person 2 (some .int) false (rmD 2) P M [d0, d1] 0 0 20 [] := by
  unfold F_X12_person_20 at h
  refine r_iconst (v := -1) DX12_person_20 ki_m1 ?_
  cases h
  exact r_iret DX12_person_21 rfl ⟨Nat.le_refl 0, Nat.le_refl 0⟩ (hp M hR)
theorem S_X12_person_0 {E : EN} {X : CX} {P : Option Value → MH → Prop} {ad : AD} {fu : Nat} {out : Int32 × St} (hp : ∀ M, Rep E ad out.2 M → P (some (.int out.1)) M) {V : St} {M : MH} {x1 : Int32} (hR : Rep E ad V M) (h : f_X12_person fu V x1 = some out) : G E X RX12 cX12_person 2 (some .int) false (rmD 2) P M [some (.ref (ad 2200 0)), some (.int (x1))] 0 0 0 [] := by
  unfold f_X12_person at h
  refine r_iload_n DX12_person_0 rfl ?_
  refine r_iconst (v := 0) DX12_person_1 ki_0 ?_
  refine r_ldcw (v := 1000000) DX12_person_2 ck_X12_297 ?_
  obtain ⟨r1, V2, hc3, h⟩ := bd_inv h
  refine k_callS (As := [.int (x1), .int ((0 : Int32)), .int ((1000000 : Int32))]) (rest := []) (st1 := [.int (r1)]) (w := some (.int r1)) DX12_person_5 cs_X12_245 (C_X12_in (out := (r1, V2)) (cxL X) hR hc3) rfl (by decide) (by decide) rfl (Nat.le_of_ble_eq_true rfl) rfl (fun M hR => ?_)
  refine r_if_eq DX12_person_8 (fun c4 => ?_) (fun c4 => ?_)
  · have h := if_t c4 h
    exact S_X12_person_20 hp hR h
  · have h := if_f c4 h
    refine r_aload_n DX12_person_11 rfl ?_
    refine s_geti DX12_person_12 fl_X12_440 hR ct_2200 (one_cnt _) rfl ?_
    refine r_bipush (v := 40) DX12_person_15 kb_40 ?_
    refine r_icmp_ne DX12_person_17 (fun c5 => ?_) (fun c5 => ?_)
    · have h := if_f c5 h
      refine r_aload_n DX12_person_22 rfl ?_
      refine s_geta DX12_person_23 fl_X12_194 hR ct_2200 (one_cnt _) rfl ?_
      refine r_aload_n DX12_person_26 rfl ?_
      refine s_geti DX12_person_27 fl_X12_440 hR ct_2200 (one_cnt _) rfl ?_
      refine r_iload_n DX12_person_30 rfl ?_
      obtain ⟨hg6, h⟩ := gd_inv h
      obtain ⟨V7, hv8, h⟩ := bv_inv h
      refine s_iast DX12_person_31 hR oka_2279 ct_2279 (one_cnt _) hg6 (fun M hR => ?_)
      have hR := hR.cg hv8
      refine r_aload_n DX12_person_32 rfl ?_
      refine r_aload_n DX12_person_33 rfl ?_
      refine s_geti DX12_person_34 fl_X12_440 hR ct_2200 (one_cnt _) rfl ?_
      refine r_iconst (v := 1) DX12_person_37 ki_1 ?_
      refine r_iadd DX12_person_38 ?_
      obtain ⟨V9, hv10, h⟩ := bv_inv h
      refine s_puti DX12_person_39 fp_X12_440 hR oks_2277 ct_2200 (one_cnt _) rfl rfl rfl (fun M hR => ?_)
      have hR := hR.cg hv10
      refine r_aload_n DX12_person_42 rfl ?_
      refine s_geti DX12_person_43 fl_X12_440 hR ct_2200 (one_cnt _) rfl ?_
      refine r_iconst (v := 1) DX12_person_46 ki_1 ?_
      refine r_isub DX12_person_47 ?_
      cases h
      exact r_iret DX12_person_48 rfl ⟨Nat.le_refl 0, Nat.le_refl 0⟩ (hp M hR)
    · have h := if_t c5 h
      exact S_X12_person_20 hp hR h
theorem C_X12_person {E : EN} {ad : AD} {fu : Nat} {out : Int32 × St} {V : St} {M : MH} {x1 : Int32} (l : Launch) (hR : Rep E ad V M) (h : f_X12_person fu V x1 = some out) : Ct E l yX12_person cX12_person 2 (some .int) (rmD 2) [.ref (ad 2200 0), .int (x1)] M (fun v M => v = (some (.int out.1)) ∧ Rep E ad out.2 M) :=
  Ct.of (own := RX12) (ini := false) (L := [some (.ref (ad 2200 0)), some (.int (x1))]) rfl rfl (fun h => by cases h) rfl (Nat.le_of_ble_eq_true rfl) rfl (fun X _ => S_X12_person_0 (fun M hR => ⟨rfl, hR⟩) hR h)
theorem S_X12_piece_48 {E : EN} {X : CX} {P : Option Value → MH → Prop} {ad : AD} {fu : Nat} {out : Int32 × St} (hp : ∀ M, Rep E ad out.2 M → P (some (.int out.1)) M) {V : St} {M : MH} {d0 : Option Value} {d1 : Option Value} {d2 : Option Value} {d3 : Option Value} (hR : Rep E ad V M) (h : F_X12_piece_48 fu V = some out) : G E X RX12 cX12_piece 4 (some .int) false (rmD 2) P M [d0, d1, d2, d3] 0 0 48 [] := by
  unfold F_X12_piece_48 at h
  refine r_iconst (v := -1) DX12_piece_48 ki_m1 ?_
  cases h
  exact r_iret DX12_piece_49 rfl ⟨Nat.le_refl 0, Nat.le_refl 0⟩ (hp M hR)
theorem S_X12_piece_0 {E : EN} {X : CX} {P : Option Value → MH → Prop} {ad : AD} {fu : Nat} {out : Int32 × St} (hp : ∀ M, Rep E ad out.2 M → P (some (.int out.1)) M) {V : St} {M : MH} {x1 : Int32} {x2 : Int32} {x3 : Int32} (hR : Rep E ad V M) (h : f_X12_piece fu V x1 x2 x3 = some out) : G E X RX12 cX12_piece 4 (some .int) false (rmD 2) P M [some (.ref (ad 2200 0)), some (.int (x1)), some (.int (x2)), some (.int (x3))] 0 0 0 [] := by
  unfold f_X12_piece at h
  refine r_aload_n DX12_piece_0 rfl ?_
  refine r_iload_n DX12_piece_1 rfl ?_
  obtain ⟨r1, V2, hc3, h⟩ := bd_inv h
  refine k_callV (As := [.int (x1)]) (rest := []) (st1 := [.int (r1)]) (w := some (.int r1)) DX12_piece_2 cv_X12_271 hR ct_2200 (one_cnt _) rfl (C_X12_isThing (out := (r1, V2)) (cxL X) hR hc3) rfl (by decide) (by decide) rfl (Nat.le_of_ble_eq_true rfl) rfl (fun M hR => ?_)
  refine r_if_eq DX12_piece_5 (fun c4 => ?_) (fun c4 => ?_)
  · have h := if_t c4 h
    exact S_X12_piece_48 hp hR h
  · have h := if_f c4 h
    refine r_aload_n DX12_piece_8 rfl ?_
    refine s_geta DX12_piece_9 fl_X12_43 hR ct_2200 (one_cnt _) rfl ?_
    refine r_iload_n DX12_piece_12 rfl ?_
    obtain ⟨hg5, h⟩ := gd_inv h
    refine s_iald DX12_piece_13 hR ct_2216 (one_cnt _) hg5 ?_
    refine r_if_ne DX12_piece_14 (fun c6 => ?_) (fun c6 => ?_)
    · have h := if_f c6 h
      exact S_X12_piece_48 hp hR h
    · have h := if_t c6 h
      refine r_iload_n DX12_piece_17 rfl ?_
      refine r_iconst (v := 1) DX12_piece_18 ki_1 ?_
      refine r_bipush (v := 60) DX12_piece_19 kb_60 ?_
      obtain ⟨r7, V8, hc9, h⟩ := bd_inv h
      refine k_callS (As := [.int (x2), .int ((1 : Int32)), .int ((60 : Int32))]) (rest := []) (st1 := [.int (r7)]) (w := some (.int r7)) DX12_piece_21 cs_X12_245 (C_X12_in (out := (r7, V8)) (cxL X) hR hc9) rfl (by decide) (by decide) rfl (Nat.le_of_ble_eq_true rfl) rfl (fun M hR => ?_)
      refine r_if_eq DX12_piece_24 (fun c10 => ?_) (fun c10 => ?_)
      · have h := if_t c10 h
        exact S_X12_piece_48 hp hR h
      · have h := if_f c10 h
        refine r_iload_n DX12_piece_27 rfl ?_
        refine r_iconst (v := 1) DX12_piece_28 ki_1 ?_
        refine r_bipush (v := 60) DX12_piece_29 kb_60 ?_
        obtain ⟨r11, V12, hc13, h⟩ := bd_inv h
        refine k_callS (As := [.int (x3), .int ((1 : Int32)), .int ((60 : Int32))]) (rest := []) (st1 := [.int (r11)]) (w := some (.int r11)) DX12_piece_31 cs_X12_245 (C_X12_in (out := (r11, V12)) (cxL X) hR hc13) rfl (by decide) (by decide) rfl (Nat.le_of_ble_eq_true rfl) rfl (fun M hR => ?_)
        refine r_if_eq DX12_piece_34 (fun c14 => ?_) (fun c14 => ?_)
        · have h := if_t c14 h
          exact S_X12_piece_48 hp hR h
        · have h := if_f c14 h
          refine r_aload_n DX12_piece_37 rfl ?_
          refine s_geta DX12_piece_38 fl_X12_64 hR ct_2200 (one_cnt _) rfl ?_
          refine r_iload_n DX12_piece_41 rfl ?_
          obtain ⟨hg15, h⟩ := gd_inv h
          refine s_iald DX12_piece_42 hR ct_2223 (one_cnt _) hg15 ?_
          refine r_bipush (v := 9) DX12_piece_43 kb_9 ?_
          refine r_icmp_ne DX12_piece_45 (fun c16 => ?_) (fun c16 => ?_)
          · have h := if_f c16 h
            refine r_aload_n DX12_piece_50 rfl ?_
            refine s_geta DX12_piece_51 fl_X12_67 hR ct_2200 (one_cnt _) rfl ?_
            refine r_bipush (v := 9) DX12_piece_54 kb_9 ?_
            refine r_iload_n DX12_piece_56 rfl ?_
            refine r_imul DX12_piece_57 ?_
            refine r_aload_n DX12_piece_58 rfl ?_
            refine s_geta DX12_piece_59 fl_X12_64 hR ct_2200 (one_cnt _) rfl ?_
            refine r_iload_n DX12_piece_62 rfl ?_
            obtain ⟨hg17, h⟩ := gd_inv h
            refine s_iald DX12_piece_63 hR ct_2223 (one_cnt _) hg17 ?_
            refine r_iadd DX12_piece_64 ?_
            refine r_iload_n DX12_piece_65 rfl ?_
            obtain ⟨hg18, h⟩ := gd_inv h
            obtain ⟨V19, hv20, h⟩ := bv_inv h
            refine s_iast DX12_piece_66 hR oka_2224 ct_2224 (one_cnt _) hg18 (fun M hR => ?_)
            have hR := hR.cg hv20
            refine r_aload_n DX12_piece_67 rfl ?_
            refine s_geta DX12_piece_68 fl_X12_70 hR ct_2200 (one_cnt _) rfl ?_
            refine r_bipush (v := 9) DX12_piece_71 kb_9 ?_
            refine r_iload_n DX12_piece_73 rfl ?_
            refine r_imul DX12_piece_74 ?_
            refine r_aload_n DX12_piece_75 rfl ?_
            refine s_geta DX12_piece_76 fl_X12_64 hR ct_2200 (one_cnt _) rfl ?_
            refine r_iload_n DX12_piece_79 rfl ?_
            obtain ⟨hg21, h⟩ := gd_inv h
            refine s_iald DX12_piece_80 hR ct_2223 (one_cnt _) hg21 ?_
            refine r_iadd DX12_piece_81 ?_
            refine r_iload_n DX12_piece_82 rfl ?_
            obtain ⟨hg22, h⟩ := gd_inv h
            obtain ⟨V23, hv24, h⟩ := bv_inv h
            refine s_iast DX12_piece_83 hR oka_2225 ct_2225 (one_cnt _) hg22 (fun M hR => ?_)
            have hR := hR.cg hv24
            refine r_aload_n DX12_piece_84 rfl ?_
            refine s_geta DX12_piece_85 fl_X12_64 hR ct_2200 (one_cnt _) rfl ?_
            refine r_iload_n DX12_piece_88 rfl ?_
            refine r_aload_n DX12_piece_89 rfl ?_
            refine s_geta DX12_piece_90 fl_X12_64 hR ct_2200 (one_cnt _) rfl ?_
            refine r_iload_n DX12_piece_93 rfl ?_
            obtain ⟨hg25, h⟩ := gd_inv h
            refine s_iald DX12_piece_94 hR ct_2223 (one_cnt _) hg25 ?_
            refine r_iconst (v := 1) DX12_piece_95 ki_1 ?_
            refine r_iadd DX12_piece_96 ?_
            obtain ⟨hg26, h⟩ := gd_inv h
            obtain ⟨V27, hv28, h⟩ := bv_inv h
            refine s_iast DX12_piece_97 hR oka_2223 ct_2223 (one_cnt _) hg26 (fun M hR => ?_)
            have hR := hR.cg hv28
            refine r_aload_n DX12_piece_98 rfl ?_
            refine s_geta DX12_piece_99 fl_X12_64 hR ct_2200 (one_cnt _) rfl ?_
            refine r_iload_n DX12_piece_102 rfl ?_
            obtain ⟨hg29, h⟩ := gd_inv h
            refine s_iald DX12_piece_103 hR ct_2223 (one_cnt _) hg29 ?_
            refine r_iconst (v := 1) DX12_piece_104 ki_1 ?_
            refine r_isub DX12_piece_105 ?_
            cases h
            exact r_iret DX12_piece_106 rfl ⟨Nat.le_refl 0, Nat.le_refl 0⟩ (hp M hR)
          · have h := if_t c16 h
            exact S_X12_piece_48 hp hR h
theorem C_X12_piece {E : EN} {ad : AD} {fu : Nat} {out : Int32 × St} {V : St} {M : MH} {x1 : Int32} {x2 : Int32} {x3 : Int32} (l : Launch) (hR : Rep E ad V M) (h : f_X12_piece fu V x1 x2 x3 = some out) : Ct E l yX12_piece cX12_piece 4 (some .int) (rmD 2) [.ref (ad 2200 0), .int (x1), .int (x2), .int (x3)] M (fun v M => v = (some (.int out.1)) ∧ Rep E ad out.2 M) :=
  Ct.of (own := RX12) (ini := false) (L := [some (.ref (ad 2200 0)), some (.int (x1)), some (.int (x2)), some (.int (x3))]) rfl rfl (fun h => by cases h) rfl (Nat.le_of_ble_eq_true rfl) rfl (fun X _ => S_X12_piece_0 (fun M hR => ⟨rfl, hR⟩) hR h)
