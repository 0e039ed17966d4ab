theorem ks_512 : (Int16.ofInt (512)).toInt32 = 512 := by decide
theorem S_X11_cloth_56 {E : EN} {X : CX} {P : Option Value → MH → Prop} {ad : AD} {fu : Nat} {out : Int32 × St} {b0 b1 : Nat} {kc ks : Nat} (hp : ∀ (ad : AD) (M : MH), ad 2100 0 = b0 ∧ ad 2200 0 = b1 → Rep E ad out.2 M → P (some (.int out.1)) M) {V : St} {M : MH} {d0 : Option Value} {d1 : Option Value} {d2 : Option Value} {d3 : Option Value} (hb : ad 2100 0 = b0 ∧ ad 2200 0 = b1) (hk : kc ≤ 2 ∧ ks ≤ 2003) (hR : Rep E ad V M) (h : F_X11_cloth_56 fu V = some out) : G E X RX11 cX11_cloth 4 (some .int) false (rmA 9 2 2003) P M [d0, d1, d2, d3] kc ks 56 [] := by
  unfold F_X11_cloth_56 at h
  refine r_iconst (v := -1) DX11_cloth_56 ki_m1 ?_
  cases h
  exact r_iret DX11_cloth_57 rfl hk (hp ad M hb hR)
theorem S_X11_cloth_34 {E : EN} {X : CX} {P : Option Value → MH → Prop} {ad : AD} {fu : Nat} {out : Int32 × St} {b0 b1 : Nat} {kc ks : Nat} (hp : ∀ (ad : AD) (M : MH), ad 2100 0 = b0 ∧ ad 2200 0 = b1 → Rep E ad out.2 M → P (some (.int out.1)) M) {V : St} {M : MH} {d0 : Option Value} {d1 : Option Value} {d2 : Option Value} {d3 : Option Value} (hb : ad 2100 0 = b0 ∧ ad 2200 0 = b1) (hk : kc ≤ 2 ∧ ks ≤ 2003) (hR : Rep E ad V M) (h : F_X11_cloth_34 fu V = some out) : G E X RX11 cX11_cloth 4 (some .int) false (rmA 9 2 2003) P M [d0, d1, d2, d3] kc ks 34 [] := by
  unfold F_X11_cloth_34 at h
  refine r_iconst (v := -1) DX11_cloth_34 ki_m1 ?_
  cases h
  exact r_iret DX11_cloth_35 rfl hk (hp ad M hb hR)
theorem S_X11_cloth_0 {E : EN} {X : CX} {P : Option Value → MH → Prop} {ad : AD} {fu : Nat} {out : Int32 × St} {b0 b1 : Nat} (hp : ∀ (ad : AD) (M : MH), ad 2100 0 = b0 ∧ ad 2200 0 = b1 → Rep E ad out.2 M → P (some (.int out.1)) M) {V : St} {M : MH} {x1 : Int32} {x2 : Int32} {x3 : Int32} (hb : ad 2100 0 = b0 ∧ ad 2200 0 = b1) (hR : Rep E ad V M) (h : f_X11_cloth fu V x1 x2 x3 = some out) : G E X RX11 cX11_cloth 4 (some .int) false (rmA 9 2 2003) P M [some (.ref (ad 2100 0)), some (.int (x1)), some (.int (x2)), some (.int (x3))] 0 0 0 [] := by
  unfold f_X11_cloth at h
  have hk : 0 ≤ 2 ∧ 0 ≤ 2003 := ⟨Nat.zero_le _, Nat.zero_le _⟩
  refine r_iload_n DX11_cloth_0 rfl ?_
  refine r_bipush (v := 100) DX11_cloth_1 kb_100 ?_
  refine r_sipush (v := 999) DX11_cloth_3 ks_999 ?_
  obtain ⟨r1, V2, hc3, h⟩ := bd_inv h
  refine m_callS (As := [.int (x1), .int ((100 : Int32)), .int ((999 : Int32))]) (rest := []) (st1 := [.int (r1)]) (w := some (.int r1)) DX11_cloth_6 cs_X11_111 (C_X11_within (out := (r1, V2)) (cxL X) hR hc3) rfl (by decide) hk (by decide) rfl (Nat.le_of_ble_eq_true rfl) rfl (fun M hR => ?_)
  refine r_if_eq DX11_cloth_9 (fun c4 => ?_) (fun c4 => ?_)
  · have h := if_t c4 h
    exact S_X11_cloth_34 hp hb hk hR h
  · have h := if_f c4 h
    refine r_iload_n DX11_cloth_12 rfl ?_
    refine r_iconst (v := 1) DX11_cloth_13 ki_1 ?_
    refine r_sipush (v := 1000) DX11_cloth_14 ks_1000 ?_
    obtain ⟨r5, V6, hc7, h⟩ := bd_inv h
    refine m_callS (As := [.int (x2), .int ((1 : Int32)), .int ((1000 : Int32))]) (rest := []) (st1 := [.int (r5)]) (w := some (.int r5)) DX11_cloth_17 cs_X11_111 (C_X11_within (out := (r5, V6)) (cxL X) hR hc7) rfl (by decide) hk (by decide) rfl (Nat.le_of_ble_eq_true rfl) rfl (fun M hR => ?_)
    refine r_if_eq DX11_cloth_20 (fun c8 => ?_) (fun c8 => ?_)
    · have h := if_t c8 h
      exact S_X11_cloth_34 hp hb hk hR h
    · have h := if_f c8 h
      refine r_iload_n DX11_cloth_23 rfl ?_
      refine r_iconst (v := 1) DX11_cloth_24 ki_1 ?_
      refine r_sipush (v := 10000) DX11_cloth_25 ks_10000 ?_
      obtain ⟨r9, V10, hc11, h⟩ := bd_inv h
      refine m_callS (As := [.int (x3), .int ((1 : Int32)), .int ((10000 : Int32))]) (rest := []) (st1 := [.int (r9)]) (w := some (.int r9)) DX11_cloth_28 cs_X11_111 (C_X11_within (out := (r9, V10)) (cxL X) hR hc11) rfl (by decide) hk (by decide) rfl (Nat.le_of_ble_eq_true rfl) rfl (fun M hR => ?_)
      refine r_if_ne DX11_cloth_31 (fun c12 => ?_) (fun c12 => ?_)
      · have h := if_f c12 h
        refine r_aload_n DX11_cloth_36 rfl ?_
        refine s_geto DX11_cloth_37 fl_X11_19 hR ct_2100 (one_cnt _) rfl ?_
        refine m_lsize (Li := 2103) (g := 1000) DX11_cloth_40 cv_X11_89 hR (by decide) (by decide) hk (Nat.le_of_ble_eq_true rfl) ?_
        refine r_bipush (v := 20) DX11_cloth_43 kb_20 ?_
        refine r_icmp_ge DX11_cloth_45 (fun c13 => ?_) (fun c13 => ?_)
        · have h := if_t c13 h
          exact S_X11_cloth_56 hp hb hk hR h
        · have h := if_f c13 h
          refine r_aload_n DX11_cloth_48 rfl ?_
          refine r_iload_n DX11_cloth_49 rfl ?_
          obtain ⟨r14, V15, hc16, h⟩ := bd_inv h
          refine m_callV (As := [.int (x1)]) (rest := []) (st1 := [.int (r14)]) (w := some (.int r14)) DX11_cloth_50 cv_X11_115 hR ct_2100 (one_cnt _) rfl (C_X11_isTaken (out := (r14, V15)) (cxL X) hR hc16) rfl (by decide) hk (by decide) rfl (Nat.le_of_ble_eq_true rfl) rfl (fun M hR => ?_)
          refine r_if_eq DX11_cloth_53 (fun c17 => ?_) (fun c17 => ?_)
          · have h := if_t c17 h
            refine r_aload_n DX11_cloth_58 rfl ?_
            refine s_geto DX11_cloth_59 fl_X11_19 hR ct_2100 (one_cnt _) rfl ?_
            have hR0 := hR
            refine r_new DX11_cloth_62 nw_X11_119 ⟨by decide, by decide⟩ (fun q hq _ => ?_)
            have hR := hR.new (e := .inr (0, [.int 0, .int 0, .int 0])) hq
            refine r_dup DX11_cloth_65 rfl ?_
            refine r_iload_n DX11_cloth_66 rfl ?_
            refine r_iload_n DX11_cloth_67 rfl ?_
            refine r_iload_n DX11_cloth_68 rfl ?_
            obtain ⟨hm18, h⟩ := gd_inv h
            have hm18 := mkOK_of hm18
            obtain ⟨V19, hv20, h⟩ := bv_inv h
            refine k_make (As := [.int (x1), .int (x2), .int (x3)]) (F := F_1000 (x1) (x2) (x3)) DX11_cloth_69 DX11_cloth_72 DX11_cloth_75 ci_X11_121 cv_X11_124 hR0 (g := 1000) (by decide) og_1000 hm18.1 hm18.2 hq (C_X0_init (cxL X) (mset_self _ _ _)) (fun M2 h2 => B_1000 hq h2) rfl (by decide) ⟨by decide, by decide⟩ (by decide) (by decide) (Nat.le_of_ble_eq_true rfl) (fun ad M had hR => ?_)
            have hR := hR.cg hv20
            have hb : ad 2100 0 = _ ∧ ad 2200 0 = _ := ⟨(had 2100 0 (by decide) (by decide +kernel)).trans hb.1, (had 2200 0 (by decide) (by decide +kernel)).trans hb.2⟩
            have hk : 0 + 1 + 0 + 1 ≤ 2 ∧ 0 + 3 + 0 + 2000 ≤ 2003 := ⟨by decide, by decide⟩
            rw [← had 2100 0 (by decide) (by decide +kernel)]
            refine r_aload_n DX11_cloth_76 rfl ?_
            refine s_geto DX11_cloth_77 fl_X11_19 hR ct_2100 (one_cnt _) rfl ?_
            refine m_lsize (Li := 2103) (g := 1000) DX11_cloth_80 cv_X11_89 hR (by decide) (by decide) hk (Nat.le_of_ble_eq_true rfl) ?_
            refine r_iconst (v := 1) DX11_cloth_83 ki_1 ?_
            refine r_isub DX11_cloth_84 ?_
            cases h
            exact r_iret DX11_cloth_85 rfl hk (hp ad M hb hR)
          · have h := if_f c17 h
            exact S_X11_cloth_56 hp hb hk hR h
      · have h := if_t c12 h
        exact S_X11_cloth_34 hp hb hk hR h
theorem C_X11_cloth {E : EN} {ad : AD} {fu : Nat} {out : Int32 × St} {V : St} {M : MH} {x1 : Int32} {x2 : Int32} {x3 : Int32} (l : Launch) (hR : Rep E ad V M) (h : f_X11_cloth fu V x1 x2 x3 = some out) : Ct E l yX11_cloth cX11_cloth 4 (some .int) (rmA 9 2 2003) [.ref (ad 2100 0), .int (x1), .int (x2), .int (x3)] M (fun v M => v = (some (.int out.1)) ∧ ∃ ad' : AD, (ad' 2100 0 = ad 2100 0 ∧ ad' 2200 0 = ad 2200 0) ∧ Rep E ad' out.2 M) :=
  Ct.of (own := RX11) (ini := false) (L := [some (.ref (ad 2100 0)), some (.int (x1)), some (.int (x2)), some (.int (x3))]) rfl rfl (fun h => by cases h) rfl (Nat.le_of_ble_eq_true rfl) rfl (fun X _ => S_X11_cloth_0 (fun ad' M hb hR => ⟨rfl, ad', hb, hR⟩) ⟨rfl, rfl⟩ hR h)
theorem S_X11_drawing_22 {E : EN} {X : CX} {P : Option Value → MH → Prop} {ad : AD} {fu : Nat} {out : Int32 × St} {b0 b1 : Nat} {kc ks : Nat} (hp : ∀ (ad : AD) (M : MH), ad 2100 0 = b0 ∧ ad 2200 0 = b1 → Rep E ad out.2 M → P (some (.int out.1)) M) {V : St} {M : MH} {d0 : Option Value} {d1 : Option Value} (hb : ad 2100 0 = b0 ∧ ad 2200 0 = b1) (hk : kc ≤ 12 ∧ ks ≤ 2453) (hR : Rep E ad V M) (h : F_X11_drawing_22 fu V = some out) : G E X RX11 cX11_drawing 2 (some .int) false (rmA 9 12 2453) P M [d0, d1] kc ks 22 [] := by
  unfold F_X11_drawing_22 at h
  refine r_iconst (v := -1) DX11_drawing_22 ki_m1 ?_
  cases h
  exact r_iret DX11_drawing_23 rfl hk (hp ad M hb hR)
theorem S_X11_drawing_0 {E : EN} {X : CX} {P : Option Value → MH → Prop} {ad : AD} {fu : Nat} {out : Int32 × St} {b0 b1 : Nat} (hp : ∀ (ad : AD) (M : MH), ad 2100 0 = b0 ∧ ad 2200 0 = b1 → Rep E ad out.2 M → P (some (.int out.1)) M) {V : St} {M : MH} {x1 : Int32} (hb : ad 2100 0 = b0 ∧ ad 2200 0 = b1) (hR : Rep E ad V M) (h : f_X11_drawing fu V x1 = some out) : G E X RX11 cX11_drawing 2 (some .int) false (rmA 9 12 2453) P M [some (.ref (ad 2100 0)), some (.int (x1))] 0 0 0 [] := by
  unfold f_X11_drawing at h
  have hk : 0 ≤ 12 ∧ 0 ≤ 2453 := ⟨Nat.zero_le _, Nat.zero_le _⟩
  refine r_iload_n DX11_drawing_0 rfl ?_
  refine r_iconst (v := 2) DX11_drawing_1 ki_2 ?_
  refine r_bipush (v := 8) DX11_drawing_2 kb_8 ?_
  obtain ⟨r1, V2, hc3, h⟩ := bd_inv h
  refine m_callS (As := [.int (x1), .int ((2 : Int32)), .int ((8 : Int32))]) (rest := []) (st1 := [.int (r1)]) (w := some (.int r1)) DX11_drawing_4 cs_X11_111 (C_X11_within (out := (r1, V2)) (cxL X) hR hc3) rfl (by decide) hk (by decide) rfl (Nat.le_of_ble_eq_true rfl) rfl (fun M hR => ?_)
  refine r_if_eq DX11_drawing_7 (fun c4 => ?_) (fun c4 => ?_)
  · have h := if_t c4 h
    exact S_X11_drawing_22 hp hb hk hR h
  · have h := if_f c4 h
    refine r_aload_n DX11_drawing_10 rfl ?_
    refine s_geto DX11_drawing_11 fl_X11_23 hR ct_2100 (one_cnt _) rfl ?_
    refine m_lsize (Li := 2104) (g := 1200) DX11_drawing_14 cv_X11_89 hR (by decide) (by decide) hk (Nat.le_of_ble_eq_true rfl) ?_
    refine r_bipush (v := 22) DX11_drawing_17 kb_22 ?_
    refine r_icmp_lt DX11_drawing_19 (fun c5 => ?_) (fun c5 => ?_)
    · have h := if_t c5 h
      refine r_aload_n DX11_drawing_24 rfl ?_
      refine s_geto DX11_drawing_25 fl_X11_23 hR ct_2100 (one_cnt _) rfl ?_
      have hR0 := hR
      refine r_new DX11_drawing_28 nw_X11_128 ⟨by decide, by decide⟩ (fun q hq _ => ?_)
      have hR := hR.new (e := .inr (2, [.int 0, .null, .null, .null, .null, .null, .null, .null, .null, .null, .null, .int 0, .int 0, .int 0, .int 0, .int 0])) hq
      refine r_dup DX11_drawing_31 rfl ?_
      refine r_iload_n DX11_drawing_32 rfl ?_
      obtain ⟨hm6, h⟩ := gd_inv h
      have hm6 := mkOK_of hm6
      obtain ⟨V7, hv8, h⟩ := bv_inv h
      refine k_make (As := [.int (x1)]) (F := F_1200 (x1)) DX11_drawing_33 DX11_drawing_36 DX11_drawing_39 ci_X11_130 cv_X11_124 hR0 (g := 1200) (by decide) og_1200 hm6.1 hm6.2 hq (C_X2_init (cxL X) (mset_self _ _ _)) (fun M2 h2 => B_1200 hq h2) rfl (by decide) ⟨by decide, by decide⟩ (by decide) (by decide) (Nat.le_of_ble_eq_true rfl) (fun ad M had hR => ?_)
      have hR := hR.cg hv8
      have hb : ad 2100 0 = _ ∧ ad 2200 0 = _ := ⟨(had 2100 0 (by decide) (by decide +kernel)).trans hb.1, (had 2200 0 (by decide) (by decide +kernel)).trans hb.2⟩
      have hk : 0 + 1 + 10 + 1 ≤ 12 ∧ 0 + 16 + 437 + 2000 ≤ 2453 := ⟨by decide, by decide⟩
      rw [← had 2100 0 (by decide) (by decide +kernel)]
      refine r_aload_n DX11_drawing_40 rfl ?_
      refine s_geto DX11_drawing_41 fl_X11_23 hR ct_2100 (one_cnt _) rfl ?_
      refine m_lsize (Li := 2104) (g := 1200) DX11_drawing_44 cv_X11_89 hR (by decide) (by decide) hk (Nat.le_of_ble_eq_true rfl) ?_
      refine r_iconst (v := 1) DX11_drawing_47 ki_1 ?_
      refine r_isub DX11_drawing_48 ?_
      cases h
      exact r_iret DX11_drawing_49 rfl hk (hp ad M hb hR)
    · have h := if_f c5 h
      exact S_X11_drawing_22 hp hb hk hR h
theorem C_X11_drawing {E : EN} {ad : AD} {fu : Nat} {out : Int32 × St} {V : St} {M : MH} {x1 : Int32} (l : Launch) (hR : Rep E ad V M) (h : f_X11_drawing fu V x1 = some out) : Ct E l yX11_drawing cX11_drawing 2 (some .int) (rmA 9 12 2453) [.ref (ad 2100 0), .int (x1)] M (fun v M => v = (some (.int out.1)) ∧ ∃ ad' : AD, (ad' 2100 0 = ad 2100 0 ∧ ad' 2200 0 = ad 2200 0) ∧ Rep E ad' out.2 M) :=
  Ct.of (own := RX11) (ini := false) (L := [some (.ref (ad 2100 0)), some (.int (x1))]) rfl rfl (fun h => by cases h) rfl (Nat.le_of_ble_eq_true rfl) rfl (fun X _ => S_X11_drawing_0 (fun ad' M hb hR => ⟨rfl, ad', hb, hR⟩) ⟨rfl, rfl⟩ hR h)
theorem S_X11_person_22 {E : EN} {X : CX} {P : Option Value → MH → Prop} {ad : AD} {fu : Nat} {out : Int32 × St} {b0 b1 : Nat} {kc ks : Nat} (hp : ∀ (ad : AD) (M : MH), ad 2100 0 = b0 ∧ ad 2200 0 = b1 → Rep E ad out.2 M → P (some (.int out.1)) M) {V : St} {M : MH} {d0 : Option Value} {d1 : Option Value} (hb : ad 2100 0 = b0 ∧ ad 2200 0 = b1) (hk : kc ≤ 2 ∧ ks ≤ 2002) (hR : Rep E ad V M) (h : F_X11_person_22 fu V = some out) : G E X RX11 cX11_person 2 (some .int) false (rmA 9 2 2002) P M [d0, d1] kc ks 22 [] := by
  unfold F_X11_person_22 at h
  refine r_iconst (v := -1) DX11_person_22 ki_m1 ?_
  cases h
  exact r_iret DX11_person_23 rfl hk (hp ad M hb hR)
theorem S_X11_person_0 {E : EN} {X : CX} {P : Option Value → MH → Prop} {ad : AD} {fu : Nat} {out : Int32 × St} {b0 b1 : Nat} (hp : ∀ (ad : AD) (M : MH), ad 2100 0 = b0 ∧ ad 2200 0 = b1 → Rep E ad out.2 M → P (some (.int out.1)) M) {V : St} {M : MH} {x1 : Int32} (hb : ad 2100 0 = b0 ∧ ad 2200 0 = b1) (hR : Rep E ad V M) (h : f_X11_person fu V x1 = some out) : G E X RX11 cX11_person 2 (some .int) false (rmA 9 2 2002) P M [some (.ref (ad 2100 0)), some (.int (x1))] 0 0 0 [] := by
  unfold f_X11_person at h
  have hk : 0 ≤ 2 ∧ 0 ≤ 2002 := ⟨Nat.zero_le _, Nat.zero_le _⟩
  refine r_iload_n DX11_person_0 rfl ?_
  refine r_iconst (v := 0) DX11_person_1 ki_0 ?_
  refine r_ldc (v := 1000000) DX11_person_2 ck_X11_99 ?_
  obtain ⟨r1, V2, hc3, h⟩ := bd_inv h
  refine m_callS (As := [.int (x1), .int ((0 : Int32)), .int ((1000000 : Int32))]) (rest := []) (st1 := [.int (r1)]) (w := some (.int r1)) DX11_person_4 cs_X11_111 (C_X11_within (out := (r1, V2)) (cxL X) hR hc3) rfl (by decide) hk (by decide) rfl (Nat.le_of_ble_eq_true rfl) rfl (fun M hR => ?_)
  refine r_if_eq DX11_person_7 (fun c4 => ?_) (fun c4 => ?_)
  · have h := if_t c4 h
    exact S_X11_person_22 hp hb hk hR h
  · have h := if_f c4 h
    refine r_aload_n DX11_person_10 rfl ?_
    refine s_geto DX11_person_11 fl_X11_36 hR ct_2100 (one_cnt _) rfl ?_
    refine m_lsize (Li := 2108) (g := 1800) DX11_person_14 cv_X11_89 hR (by decide) (by decide) hk (Nat.le_of_ble_eq_true rfl) ?_
    refine r_bipush (v := 40) DX11_person_17 kb_40 ?_
    refine r_icmp_lt DX11_person_19 (fun c5 => ?_) (fun c5 => ?_)
    · have h := if_t c5 h
      refine r_aload_n DX11_person_24 rfl ?_
      refine s_geto DX11_person_25 fl_X11_36 hR ct_2100 (one_cnt _) rfl ?_
      have hR0 := hR
      refine r_new DX11_person_28 nw_X11_97 ⟨by decide, by decide⟩ (fun q hq _ => ?_)
      have hR := hR.new (e := .inr (8, [.int 0, .int 0])) hq
      refine r_dup DX11_person_31 rfl ?_
      refine r_iload_n DX11_person_32 rfl ?_
      obtain ⟨hm6, h⟩ := gd_inv h
      have hm6 := mkOK_of hm6
      obtain ⟨V7, hv8, h⟩ := bv_inv h
      refine k_make (As := [.int (x1)]) (F := F_1800 (x1)) DX11_person_33 DX11_person_36 DX11_person_39 ci_X11_282 cv_X11_124 hR0 (g := 1800) (by decide) og_1800 hm6.1 hm6.2 hq (C_X8_init (cxL X) (mset_self _ _ _)) (fun M2 h2 => B_1800 hq h2) rfl (by decide) ⟨by decide, by decide⟩ (by decide) (by decide) (Nat.le_of_ble_eq_true rfl) (fun ad M had hR => ?_)
      have hR := hR.cg hv8
      have hb : ad 2100 0 = _ ∧ ad 2200 0 = _ := ⟨(had 2100 0 (by decide) (by decide +kernel)).trans hb.1, (had 2200 0 (by decide) (by decide +kernel)).trans hb.2⟩
      have hk : 0 + 1 + 0 + 1 ≤ 2 ∧ 0 + 2 + 0 + 2000 ≤ 2002 := ⟨by decide, by decide⟩
      rw [← had 2100 0 (by decide) (by decide +kernel)]
      refine r_aload_n DX11_person_40 rfl ?_
      refine s_geto DX11_person_41 fl_X11_36 hR ct_2100 (one_cnt _) rfl ?_
      refine m_lsize (Li := 2108) (g := 1800) DX11_person_44 cv_X11_89 hR (by decide) (by decide) hk (Nat.le_of_ble_eq_true rfl) ?_
      refine r_iconst (v := 1) DX11_person_47 ki_1 ?_
      refine r_isub DX11_person_48 ?_
      cases h
      exact r_iret DX11_person_49 rfl hk (hp ad M hb hR)
    · have h := if_f c5 h
      exact S_X11_person_22 hp hb hk hR h
theorem C_X11_person {E : EN} {ad : AD} {fu : Nat} {out : Int32 × St} {V : St} {M : MH} {x1 : Int32} (l : Launch) (hR : Rep E ad V M) (h : f_X11_person fu V x1 = some out) : Ct E l yX11_person cX11_person 2 (some .int) (rmA 9 2 2002) [.ref (ad 2100 0), .int (x1)] M (fun v M => v = (some (.int out.1)) ∧ ∃ ad' : AD, (ad' 2100 0 = ad 2100 0 ∧ ad' 2200 0 = ad 2200 0) ∧ Rep E ad' out.2 M) :=
  Ct.of (own := RX11) (ini := false) (L := [some (.ref (ad 2100 0)), some (.int (x1))]) rfl rfl (fun h => by cases h) rfl (Nat.le_of_ble_eq_true rfl) rfl (fun X _ => S_X11_person_0 (fun ad' M hb hR => ⟨rfl, ad', hb, hR⟩) ⟨rfl, rfl⟩ hR h)
theorem S_X11_docket_53 {E : EN} {X : CX} {P : Option Value → MH → Prop} {ad : AD} {fu : Nat} {out : Int32 × St} {b0 b1 : Nat} {kc ks : Nat} (hp : ∀ (ad : AD) (M : MH), ad 2100 0 = b0 ∧ ad 2200 0 = b1 → Rep E ad out.2 M → P (some (.int out.1)) M) {V : St} {M : MH} {d0 : Option Value} {d1 : Option Value} {d2 : Option Value} {d3 : Option Value} {d4 : Option Value} (hb : ad 2100 0 = b0 ∧ ad 2200 0 = b1) (hk : kc ≤ 2 ∧ ks ≤ 2005) (hR : Rep E ad V M) (h : F_X11_docket_53 fu V = some out) : G E X RX11 cX11_docket 5 (some .int) false (rmA 9 2 2005) P M [d0, d1, d2, d3, d4] kc ks 53 [] := by
  unfold F_X11_docket_53 at h
  refine r_iconst (v := -1) DX11_docket_53 ki_m1 ?_
  cases h
  exact r_iret DX11_docket_54 rfl hk (hp ad M hb hR)
theorem S_X11_docket_28 {E : EN} {X : CX} {P : Option Value → MH → Prop} {ad : AD} {fu : Nat} {out : Int32 × St} {b0 b1 : Nat} {kc ks : Nat} (hp : ∀ (ad : AD) (M : MH), ad 2100 0 = b0 ∧ ad 2200 0 = b1 → Rep E ad out.2 M → P (some (.int out.1)) M) {V : St} {M : MH} {d0 : Option Value} {d1 : Option Value} {d2 : Option Value} {d3 : Option Value} {d4 : Option Value} (hb : ad 2100 0 = b0 ∧ ad 2200 0 = b1) (hk : kc ≤ 2 ∧ ks ≤ 2005) (hR : Rep E ad V M) (h : F_X11_docket_28 fu V = some out) : G E X RX11 cX11_docket 5 (some .int) false (rmA 9 2 2005) P M [d0, d1, d2, d3, d4] kc ks 28 [] := by
  unfold F_X11_docket_28 at h
  refine r_iconst (v := -1) DX11_docket_28 ki_m1 ?_
  cases h
  exact r_iret DX11_docket_29 rfl hk (hp ad M hb hR)
theorem S_X11_docket_0 {E : EN} {X : CX} {P : Option Value → MH → Prop} {ad : AD} {fu : Nat} {out : Int32 × St} {b0 b1 : Nat} (hp : ∀ (ad : AD) (M : MH), ad 2100 0 = b0 ∧ ad 2200 0 = b1 → Rep E ad out.2 M → P (some (.int out.1)) M) {V : St} {M : MH} {x1 : Int32} {x2 : Int32} {x3 : Int32} {x4 : Int32} (hb : ad 2100 0 = b0 ∧ ad 2200 0 = b1) (hR : Rep E ad V M) (h : f_X11_docket fu V x1 x2 x3 x4 = some out) : G E X RX11 cX11_docket 5 (some .int) false (rmA 9 2 2005) P M [some (.ref (ad 2100 0)), some (.int (x1)), some (.int (x2)), some (.int (x3)), some (.int (x4))] 0 0 0 [] := by
  unfold f_X11_docket at h
  have hk : 0 ≤ 2 ∧ 0 ≤ 2005 := ⟨Nat.zero_le _, Nat.zero_le _⟩
  refine r_aload_n DX11_docket_0 rfl ?_
  refine r_iload_n DX11_docket_1 rfl ?_
  obtain ⟨r1, V2, hc3, h⟩ := bd_inv h
  refine m_callV (As := [.int (x1)]) (rest := []) (st1 := [rfq ad 1800 (r1)]) (w := some (rfq ad 1800 r1)) DX11_docket_2 cv_X11_287 hR ct_2100 (one_cnt _) rfl (C_X11_findPerson (out := (r1, V2)) (cxL X) hR hc3) rfl (by decide) hk (by decide) rfl (Nat.le_of_ble_eq_true rfl) rfl (fun M hR => ?_)
  refine q_ifnull DX11_docket_5 (fun c4 => ?_) (fun c4 => ?_)
  · have h := if_t c4 h
    exact S_X11_docket_28 hp hb hk hR h
  · have h := if_f c4 h
    refine r_aload_n DX11_docket_8 rfl ?_
    refine r_iload_n DX11_docket_9 rfl ?_
    obtain ⟨r5, V6, hc7, h⟩ := bd_inv h
    refine m_callV (As := [.int (x2)]) (rest := []) (st1 := [rfq ad 2000 (r5)]) (w := some (rfq ad 2000 r5)) DX11_docket_10 cv_X11_242 hR ct_2100 (one_cnt _) rfl (C_X11_findThing (out := (r5, V6)) (cxL X) hR hc7) rfl (by decide) hk (by decide) rfl (Nat.le_of_ble_eq_true rfl) rfl (fun M hR => ?_)
    refine q_ifnull DX11_docket_13 (fun c8 => ?_) (fun c8 => ?_)
    · have h := if_t c8 h
      exact S_X11_docket_28 hp hb hk hR h
    · have h := if_f c8 h
      refine r_iload_n DX11_docket_16 rfl ?_
      refine r_iconst (v := 0) DX11_docket_17 ki_0 ?_
      refine r_aload_n DX11_docket_18 rfl ?_
      refine s_geti DX11_docket_19 fl_X11_7 hR ct_2100 (one_cnt _) rfl ?_
      obtain ⟨r9, V10, hc11, h⟩ := bd_inv h
      refine m_callS (As := [.int (x3), .int ((0 : Int32)), .int ((V6 2101 0 0))]) (rest := []) (st1 := [.int (r9)]) (w := some (.int r9)) DX11_docket_22 cs_X11_111 (C_X11_within (out := (r9, V10)) (cxL X) hR hc11) rfl (by decide) hk (by decide) rfl (Nat.le_of_ble_eq_true rfl) rfl (fun M hR => ?_)
      refine r_if_ne DX11_docket_25 (fun c12 => ?_) (fun c12 => ?_)
      · have h := if_f c12 h
        refine r_iload DX11_docket_30 rfl ?_
        refine r_iconst (v := 0) DX11_docket_32 ki_0 ?_
        refine r_bipush (v := 99) DX11_docket_33 kb_99 ?_
        obtain ⟨r13, V14, hc15, h⟩ := bd_inv h
        refine m_callS (As := [.int (x4), .int ((0 : Int32)), .int ((99 : Int32))]) (rest := []) (st1 := [.int (r13)]) (w := some (.int r13)) DX11_docket_35 cs_X11_111 (C_X11_within (out := (r13, V14)) (cxL X) hR hc15) rfl (by decide) hk (by decide) rfl (Nat.le_of_ble_eq_true rfl) rfl (fun M hR => ?_)
        refine r_if_eq DX11_docket_38 (fun c16 => ?_) (fun c16 => ?_)
        · have h := if_t c16 h
          exact S_X11_docket_53 hp hb hk hR h
        · have h := if_f c16 h
          refine r_aload_n DX11_docket_41 rfl ?_
          refine s_geto DX11_docket_42 fl_X11_39 hR ct_2100 (one_cnt _) rfl ?_
          refine m_lsize (Li := 2109) (g := 1100) DX11_docket_45 cv_X11_89 hR (by decide) (by decide) hk (Nat.le_of_ble_eq_true rfl) ?_
          refine r_bipush (v := 60) DX11_docket_48 kb_60 ?_
          refine r_icmp_lt DX11_docket_50 (fun c17 => ?_) (fun c17 => ?_)
          · have h := if_t c17 h
            refine r_aload_n DX11_docket_55 rfl ?_
            refine s_geto DX11_docket_56 fl_X11_39 hR ct_2100 (one_cnt _) rfl ?_
            have hR0 := hR
            refine r_new DX11_docket_59 nw_X11_304 ⟨by decide, by decide⟩ (fun q hq _ => ?_)
            have hR := hR.new (e := .inr (1, [.int 0, .int 0, .int 0, .int 0, .int 0])) hq
            refine r_dup DX11_docket_62 rfl ?_
            refine r_iload_n DX11_docket_63 rfl ?_
            refine r_iload_n DX11_docket_64 rfl ?_
            refine r_iload_n DX11_docket_65 rfl ?_
            refine r_iload DX11_docket_66 rfl ?_
            obtain ⟨hm18, h⟩ := gd_inv h
            have hm18 := mkOK_of hm18
            obtain ⟨V19, hv20, h⟩ := bv_inv h
            refine k_make (As := [.int (x1), .int (x2), .int (x3), .int (x4)]) (F := F_1100 (x1) (x2) (x3) (x4)) DX11_docket_68 DX11_docket_71 DX11_docket_74 ci_X11_306 cv_X11_124 hR0 (g := 1100) (by decide) og_1100 hm18.1 hm18.2 hq (C_X1_init (cxL X) (mset_self _ _ _)) (fun M2 h2 => B_1100 hq h2) rfl (by decide) ⟨by decide, by decide⟩ (by decide) (by decide) (Nat.le_of_ble_eq_true rfl) (fun ad M had hR => ?_)
            have hR := hR.cg hv20
            have hb : ad 2100 0 = _ ∧ ad 2200 0 = _ := ⟨(had 2100 0 (by decide) (by decide +kernel)).trans hb.1, (had 2200 0 (by decide) (by decide +kernel)).trans hb.2⟩
            have hk : 0 + 1 + 0 + 1 ≤ 2 ∧ 0 + 5 + 0 + 2000 ≤ 2005 := ⟨by decide, by decide⟩
            rw [← had 2100 0 (by decide) (by decide +kernel)]
            refine r_aload_n DX11_docket_75 rfl ?_
            refine s_geto DX11_docket_76 fl_X11_39 hR ct_2100 (one_cnt _) rfl ?_
            refine m_lsize (Li := 2109) (g := 1100) DX11_docket_79 cv_X11_89 hR (by decide) (by decide) hk (Nat.le_of_ble_eq_true rfl) ?_
            refine r_iconst (v := 1) DX11_docket_82 ki_1 ?_
            refine r_isub DX11_docket_83 ?_
            cases h
            exact r_iret DX11_docket_84 rfl hk (hp ad M hb hR)
          · have h := if_f c17 h
            exact S_X11_docket_53 hp hb hk hR h
      · have h := if_t c12 h
        exact S_X11_docket_28 hp hb hk hR h
theorem C_X11_docket {E : EN} {ad : AD} {fu : Nat} {out : Int32 × St} {V : St} {M : MH} {x1 : Int32} {x2 : Int32} {x3 : Int32} {x4 : Int32} (l : Launch) (hR : Rep E ad V M) (h : f_X11_docket fu V x1 x2 x3 x4 = some out) : Ct E l yX11_docket cX11_docket 5 (some .int) (rmA 9 2 2005) [.ref (ad 2100 0), .int (x1), .int (x2), .int (x3), .int (x4)] M (fun v M => v = (some (.int out.1)) ∧ ∃ ad' : AD, (ad' 2100 0 = ad 2100 0 ∧ ad' 2200 0 = ad 2200 0) ∧ Rep E ad' out.2 M) :=
  Ct.of (own := RX11) (ini := false) (L := [some (.ref (ad 2100 0)), some (.int (x1)), some (.int (x2)), some (.int (x3)), some (.int (x4))]) rfl rfl (fun h => by cases h) rfl (Nat.le_of_ble_eq_true rfl) rfl (fun X _ => S_X11_docket_0 (fun ad' M hb hR => ⟨rfl, ad', hb, hR⟩) ⟨rfl, rfl⟩ hR h)
theorem S_X11_seen_31 {E : EN} {X : CX} {P : Option Value → MH → Prop} {ad : AD} {fu : Nat} {out : Int32 × St} {b0 b1 : Nat} {kc ks : Nat} (hp : ∀ (ad : AD) (M : MH), ad 2100 0 = b0 ∧ ad 2200 0 = b1 → Rep E ad out.2 M → P (some (.int out.1)) M) {V : St} {M : MH} {d0 : Option Value} {d1 : Option Value} {d2 : Option Value} {d3 : Option Value} (hb : ad 2100 0 = b0 ∧ ad 2200 0 = b1) (hk : kc ≤ 2 ∧ ks ≤ 2004) (hR : Rep E ad V M) (h : F_X11_seen_31 fu V = some out) : G E X RX11 cX11_seen 4 (some .boolean) false (rmA 9 2 2004) P M [d0, d1, d2, d3] kc ks 31 [] := by
  unfold F_X11_seen_31 at h
  refine r_iconst (v := 0) DX11_seen_31 ki_0 ?_
  cases h
  exact r_zret DX11_seen_32 rfl rfl hk (hp ad M hb hR)
theorem S_X11_seen_0 {E : EN} {X : CX} {P : Option Value → MH → Prop} {ad : AD} {fu : Nat} {out : Int32 × St} {b0 b1 : Nat} (hp : ∀ (ad : AD) (M : MH), ad 2100 0 = b0 ∧ ad 2200 0 = b1 → Rep E ad out.2 M → P (some (.int out.1)) M) {V : St} {M : MH} {x1 : Int32} {x2 : Int32} {x3 : Int32} (hb : ad 2100 0 = b0 ∧ ad 2200 0 = b1) (hR : Rep E ad V M) (h : f_X11_seen fu V x1 x2 x3 = some out) : G E X RX11 cX11_seen 4 (some .boolean) false (rmA 9 2 2004) P M [some (.ref (ad 2100 0)), some (.int (x1)), some (.int (x2)), some (.int (x3))] 0 0 0 [] := by
  unfold f_X11_seen at h
  have hk : 0 ≤ 2 ∧ 0 ≤ 2004 := ⟨Nat.zero_le _, Nat.zero_le _⟩
  refine r_aload_n DX11_seen_0 rfl ?_
  refine r_iload_n DX11_seen_1 rfl ?_
  obtain ⟨r1, V2, hc3, h⟩ := bd_inv h
  refine m_callV (As := [.int (x1)]) (rest := []) (st1 := [rfq ad 2000 (r1)]) (w := some (rfq ad 2000 r1)) DX11_seen_2 cv_X11_242 hR ct_2100 (one_cnt _) rfl (C_X11_findThing (out := (r1, V2)) (cxL X) hR hc3) rfl (by decide) hk (by decide) rfl (Nat.le_of_ble_eq_true rfl) rfl (fun M hR => ?_)
  refine q_ifnull DX11_seen_5 (fun c4 => ?_) (fun c4 => ?_)
  · have h := if_t c4 h
    exact S_X11_seen_31 hp hb hk hR h
  · have h := if_f c4 h
    refine r_iload_n DX11_seen_8 rfl ?_
    refine r_iconst (v := 0) DX11_seen_9 ki_0 ?_
    refine r_aload_n DX11_seen_10 rfl ?_
    refine s_geti DX11_seen_11 fl_X11_7 hR ct_2100 (one_cnt _) rfl ?_
    obtain ⟨r5, V6, hc7, h⟩ := bd_inv h
    refine m_callS (As := [.int (x2), .int ((0 : Int32)), .int ((V2 2101 0 0))]) (rest := []) (st1 := [.int (r5)]) (w := some (.int r5)) DX11_seen_14 cs_X11_111 (C_X11_within (out := (r5, V6)) (cxL X) hR hc7) rfl (by decide) hk (by decide) rfl (Nat.le_of_ble_eq_true rfl) rfl (fun M hR => ?_)
    refine r_if_eq DX11_seen_17 (fun c8 => ?_) (fun c8 => ?_)
    · have h := if_t c8 h
      exact S_X11_seen_31 hp hb hk hR h
    · have h := if_f c8 h
      refine r_iload_n DX11_seen_20 rfl ?_
      refine r_iconst (v := 1) DX11_seen_21 ki_1 ?_
      refine r_ldcw (v := 100000) DX11_seen_22 ck_X11_283 ?_
      obtain ⟨r9, V10, hc11, h⟩ := bd_inv h
      refine m_callS (As := [.int (x3), .int ((1 : Int32)), .int ((100000 : Int32))]) (rest := []) (st1 := [.int (r9)]) (w := some (.int r9)) DX11_seen_25 cs_X11_111 (C_X11_within (out := (r9, V10)) (cxL X) hR hc11) rfl (by decide) hk (by decide) rfl (Nat.le_of_ble_eq_true rfl) rfl (fun M hR => ?_)
      refine r_if_ne DX11_seen_28 (fun c12 => ?_) (fun c12 => ?_)
      · have h := if_f c12 h
        refine r_aload_n DX11_seen_33 rfl ?_
        refine s_geto DX11_seen_34 fl_X11_42 hR ct_2100 (one_cnt _) rfl ?_
        refine m_lsize (Li := 2110) (g := 1300) DX11_seen_37 cv_X11_89 hR (by decide) (by decide) hk (Nat.le_of_ble_eq_true rfl) ?_
        refine r_bipush (v := 100) DX11_seen_40 kb_100 ?_
        refine r_icmp_lt DX11_seen_42 (fun c13 => ?_) (fun c13 => ?_)
        · have h := if_t c13 h
          refine r_aload_n DX11_seen_47 rfl ?_
          refine s_geto DX11_seen_48 fl_X11_42 hR ct_2100 (one_cnt _) rfl ?_
          have hR0 := hR
          refine r_new DX11_seen_51 nw_X11_277 ⟨by decide, by decide⟩ (fun q hq _ => ?_)
          have hR := hR.new (e := .inr (3, [.int 0, .int 0, .int 0, .int 0])) hq
          refine r_dup DX11_seen_54 rfl ?_
          refine r_iload_n DX11_seen_55 rfl ?_
          refine r_iconst (v := -1) DX11_seen_56 ki_m1 ?_
          refine r_iload_n DX11_seen_57 rfl ?_
          refine r_iload_n DX11_seen_58 rfl ?_
          obtain ⟨hm14, h⟩ := gd_inv h
          have hm14 := mkOK_of hm14
          obtain ⟨V15, hv16, h⟩ := bv_inv h
          refine k_make (As := [.int (x1), .int ((-1 : Int32)), .int (x2), .int (x3)]) (F := F_1300 (x1) ((-1 : Int32)) (x2) (x3)) DX11_seen_59 DX11_seen_62 DX11_seen_65 ci_X11_279 cv_X11_124 hR0 (g := 1300) (by decide) og_1300 hm14.1 hm14.2 hq (C_X3_init (cxL X) (mset_self _ _ _)) (fun M2 h2 => B_1300 hq h2) rfl (by decide) ⟨by decide, by decide⟩ (by decide) (by decide) (Nat.le_of_ble_eq_true rfl) (fun ad M had hR => ?_)
          have hR := hR.cg hv16
          have hb : ad 2100 0 = _ ∧ ad 2200 0 = _ := ⟨(had 2100 0 (by decide) (by decide +kernel)).trans hb.1, (had 2200 0 (by decide) (by decide +kernel)).trans hb.2⟩
          have hk : 0 + 1 + 0 + 1 ≤ 2 ∧ 0 + 4 + 0 + 2000 ≤ 2004 := ⟨by decide, by decide⟩
          rw [← had 2100 0 (by decide) (by decide +kernel)]
          refine r_iconst (v := 1) DX11_seen_66 ki_1 ?_
          cases h
          exact r_zret DX11_seen_67 rfl rfl hk (hp ad M hb hR)
        · have h := if_f c13 h
          refine r_iconst (v := 0) DX11_seen_45 ki_0 ?_
          cases h
          exact r_zret DX11_seen_46 rfl rfl hk (hp ad M hb hR)
      · have h := if_t c12 h
        exact S_X11_seen_31 hp hb hk hR h
theorem C_X11_seen {E : EN} {ad : AD} {fu : Nat} {out : Int32 × St} {V : St} {M : MH} {x1 : Int32} {x2 : Int32} {x3 : Int32} (l : Launch) (hR : Rep E ad V M) (h : f_X11_seen fu V x1 x2 x3 = some out) : Ct E l yX11_seen cX11_seen 4 (some .boolean) (rmA 9 2 2004) [.ref (ad 2100 0), .int (x1), .int (x2), .int (x3)] M (fun v M => v = (some (.int out.1)) ∧ ∃ ad' : AD, (ad' 2100 0 = ad 2100 0 ∧ ad' 2200 0 = ad 2200 0) ∧ Rep E ad' out.2 M) :=
  Ct.of (own := RX11) (ini := false) (L := [some (.ref (ad 2100 0)), some (.int (x1)), some (.int (x2)), some (.int (x3))]) rfl rfl (fun h => by cases h) rfl (Nat.le_of_ble_eq_true rfl) rfl (fun X _ => S_X11_seen_0 (fun ad' M hb hR => ⟨rfl, ad', hb, hR⟩) ⟨rfl, rfl⟩ hR h)
theorem S_X11_rubbed_31 {E : EN} {X : CX} {P : Option Value → MH → Prop} {ad : AD} {fu : Nat} {out : Int32 × St} {b0 b1 : Nat} {kc ks : Nat} (hp : ∀ (ad : AD) (M : MH), ad 2100 0 = b0 ∧ ad 2200 0 = b1 → Rep E ad out.2 M → P (some (.int out.1)) M) {V : St} {M : MH} {d0 : Option Value} {d1 : Option Value} {d2 : Option Value} {d3 : Option Value} (hb : ad 2100 0 = b0 ∧ ad 2200 0 = b1) (hk : kc ≤ 2 ∧ ks ≤ 2004) (hR : Rep E ad V M) (h : F_X11_rubbed_31 fu V = some out) : G E X RX11 cX11_rubbed 4 (some .boolean) false (rmA 9 2 2004) P M [d0, d1, d2, d3] kc ks 31 [] := by
  unfold F_X11_rubbed_31 at h
  refine r_iconst (v := 0) DX11_rubbed_31 ki_0 ?_
  cases h
  exact r_zret DX11_rubbed_32 rfl rfl hk (hp ad M hb hR)
theorem S_X11_rubbed_0 {E : EN} {X : CX} {P : Option Value → MH → Prop} {ad : AD} {fu : Nat} {out : Int32 × St} {b0 b1 : Nat} (hp : ∀ (ad : AD) (M : MH), ad 2100 0 = b0 ∧ ad 2200 0 = b1 → Rep E ad out.2 M → P (some (.int out.1)) M) {V : St} {M : MH} {x1 : Int32} {x2 : Int32} {x3 : Int32} (hb : ad 2100 0 = b0 ∧ ad 2200 0 = b1) (hR : Rep E ad V M) (h : f_X11_rubbed fu V x1 x2 x3 = some out) : G E X RX11 cX11_rubbed 4 (some .boolean) false (rmA 9 2 2004) P M [some (.ref (ad 2100 0)), some (.int (x1)), some (.int (x2)), some (.int (x3))] 0 0 0 [] := by
  unfold f_X11_rubbed at h
  have hk : 0 ≤ 2 ∧ 0 ≤ 2004 := ⟨Nat.zero_le _, Nat.zero_le _⟩
  refine r_aload_n DX11_rubbed_0 rfl ?_
  refine r_iload_n DX11_rubbed_1 rfl ?_
  obtain ⟨r1, V2, hc3, h⟩ := bd_inv h
  refine m_callV (As := [.int (x1)]) (rest := []) (st1 := [rfq ad 1000 (r1)]) (w := some (rfq ad 1000 r1)) DX11_rubbed_2 cv_X11_161 hR ct_2100 (one_cnt _) rfl (C_X11_findCloth (out := (r1, V2)) (cxL X) hR hc3) rfl (by decide) hk (by decide) rfl (Nat.le_of_ble_eq_true rfl) rfl (fun M hR => ?_)
  refine q_ifnull DX11_rubbed_5 (fun c4 => ?_) (fun c4 => ?_)
  · have h := if_t c4 h
    exact S_X11_rubbed_31 hp hb hk hR h
  · have h := if_f c4 h
    refine r_iload_n DX11_rubbed_8 rfl ?_
    refine r_iconst (v := 1) DX11_rubbed_9 ki_1 ?_
    refine r_ldcw (v := 100000) DX11_rubbed_10 ck_X11_283 ?_
    obtain ⟨r5, V6, hc7, h⟩ := bd_inv h
    refine m_callS (As := [.int (x2), .int ((1 : Int32)), .int ((100000 : Int32))]) (rest := []) (st1 := [.int (r5)]) (w := some (.int r5)) DX11_rubbed_13 cs_X11_111 (C_X11_within (out := (r5, V6)) (cxL X) hR hc7) rfl (by decide) hk (by decide) rfl (Nat.le_of_ble_eq_true rfl) rfl (fun M hR => ?_)
    refine r_if_eq DX11_rubbed_16 (fun c8 => ?_) (fun c8 => ?_)
    · have h := if_t c8 h
      exact S_X11_rubbed_31 hp hb hk hR h
    · have h := if_f c8 h
      refine r_aload_n DX11_rubbed_19 rfl ?_
      refine s_geto DX11_rubbed_20 fl_X11_45 hR ct_2100 (one_cnt _) rfl ?_
      refine m_lsize (Li := 2111) (g := 1330) DX11_rubbed_23 cv_X11_89 hR (by decide) (by decide) hk (Nat.le_of_ble_eq_true rfl) ?_
      refine r_bipush (v := 100) DX11_rubbed_26 kb_100 ?_
      refine r_icmp_lt DX11_rubbed_28 (fun c9 => ?_) (fun c9 => ?_)
      · have h := if_t c9 h
        refine r_aload_n DX11_rubbed_33 rfl ?_
        refine s_geto DX11_rubbed_34 fl_X11_45 hR ct_2100 (one_cnt _) rfl ?_
        have hR0 := hR
        refine r_new DX11_rubbed_37 nw_X11_277 ⟨by decide, by decide⟩ (fun q hq _ => ?_)
        have hR := hR.new (e := .inr (3, [.int 0, .int 0, .int 0, .int 0])) hq
        refine r_dup DX11_rubbed_40 rfl ?_
        refine r_iload_n DX11_rubbed_41 rfl ?_
        refine r_iload_n DX11_rubbed_42 rfl ?_
        refine r_if_eq DX11_rubbed_43 (fun c10 => ?_) (fun c10 => ?_)
        · have h := if_t c10 h
          refine r_iconst (v := 0) DX11_rubbed_50 ki_0 ?_
          refine r_aload_n DX11_rubbed_51 rfl ?_
          refine s_geti DX11_rubbed_52 fl_X11_7 hR ct_2100 (one_cnt _) rfl ?_
          refine r_iload_n DX11_rubbed_55 rfl ?_
          obtain ⟨hm11, h⟩ := gd_inv h
          have hm11 := mkOK_of hm11
          obtain ⟨V12, hv13, h⟩ := bv_inv h
          refine k_make (As := [.int (x1), .int ((0 : Int32)), .int ((V6 2101 0 0)), .int (x2)]) (F := F_1330 (x1) ((0 : Int32)) ((V6 2101 0 0)) (x2)) DX11_rubbed_56 DX11_rubbed_59 DX11_rubbed_62 ci_X11_279 cv_X11_124 hR0 (g := 1330) (by decide) og_1330 hm11.1 hm11.2 hq (C_X3_init (cxL X) (mset_self _ _ _)) (fun M2 h2 => B_1330 hq h2) rfl (by decide) ⟨by decide, by decide⟩ (by decide) (by decide) (Nat.le_of_ble_eq_true rfl) (fun ad M had hR => ?_)
          have hR := hR.cg hv13
          have hb : ad 2100 0 = _ ∧ ad 2200 0 = _ := ⟨(had 2100 0 (by decide) (by decide +kernel)).trans hb.1, (had 2200 0 (by decide) (by decide +kernel)).trans hb.2⟩
          have hk : 0 + 1 + 0 + 1 ≤ 2 ∧ 0 + 4 + 0 + 2000 ≤ 2004 := ⟨by decide, by decide⟩
          rw [← had 2100 0 (by decide) (by decide +kernel)]
          refine r_iconst (v := 1) DX11_rubbed_63 ki_1 ?_
          cases h
          exact r_zret DX11_rubbed_64 rfl rfl hk (hp ad M hb hR)
        · have h := if_f c10 h
          refine r_iconst (v := 1) DX11_rubbed_46 ki_1 ?_
          refine r_goto DX11_rubbed_47 ?_
          refine r_aload_n DX11_rubbed_51 rfl ?_
          refine s_geti DX11_rubbed_52 fl_X11_7 hR ct_2100 (one_cnt _) rfl ?_
          refine r_iload_n DX11_rubbed_55 rfl ?_
          obtain ⟨hm14, h⟩ := gd_inv h
          have hm14 := mkOK_of hm14
          obtain ⟨V15, hv16, h⟩ := bv_inv h
          refine k_make (As := [.int (x1), .int ((1 : Int32)), .int ((V6 2101 0 0)), .int (x2)]) (F := F_1330 (x1) ((1 : Int32)) ((V6 2101 0 0)) (x2)) DX11_rubbed_56 DX11_rubbed_59 DX11_rubbed_62 ci_X11_279 cv_X11_124 hR0 (g := 1330) (by decide) og_1330 hm14.1 hm14.2 hq (C_X3_init (cxL X) (mset_self _ _ _)) (fun M2 h2 => B_1330 hq h2) rfl (by decide) ⟨by decide, by decide⟩ (by decide) (by decide) (Nat.le_of_ble_eq_true rfl) (fun ad M had hR => ?_)
          have hR := hR.cg hv16
          have hb : ad 2100 0 = _ ∧ ad 2200 0 = _ := ⟨(had 2100 0 (by decide) (by decide +kernel)).trans hb.1, (had 2200 0 (by decide) (by decide +kernel)).trans hb.2⟩
          have hk : 0 + 1 + 0 + 1 ≤ 2 ∧ 0 + 4 + 0 + 2000 ≤ 2004 := ⟨by decide, by decide⟩
          rw [← had 2100 0 (by decide) (by decide +kernel)]
          refine r_iconst (v := 1) DX11_rubbed_63 ki_1 ?_
          cases h
          exact r_zret DX11_rubbed_64 rfl rfl hk (hp ad M hb hR)
      · have h := if_f c9 h
        exact S_X11_rubbed_31 hp hb hk hR h
theorem C_X11_rubbed {E : EN} {ad : AD} {fu : Nat} {out : Int32 × St} {V : St} {M : MH} {x1 : Int32} {x2 : Int32} {x3 : Int32} (l : Launch) (hR : Rep E ad V M) (h : f_X11_rubbed fu V x1 x2 x3 = some out) : Ct E l yX11_rubbed cX11_rubbed 4 (some .boolean) (rmA 9 2 2004) [.ref (ad 2100 0), .int (x1), .int (x2), .int (x3)] M (fun v M => v = (some (.int out.1)) ∧ ∃ ad' : AD, (ad' 2100 0 = ad 2100 0 ∧ ad' 2200 0 = ad 2200 0) ∧ Rep E ad' out.2 M) :=
  Ct.of (own := RX11) (ini := false) (L := [some (.ref (ad 2100 0)), some (.int (x1)), some (.int (x2)), some (.int (x3))]) rfl rfl (fun h => by cases h) rfl (Nat.le_of_ble_eq_true rfl) rfl (fun X _ => S_X11_rubbed_0 (fun ad' M hb hR => ⟨rfl, ad', hb, hR⟩) ⟨rfl, rfl⟩ hR h)
theorem S_X11_maker_69 {E : EN} {X : CX} {P : Option Value → MH → Prop} {ad : AD} {fu : Nat} {out : Int32 × St} {b0 b1 : Nat} {kc ks : Nat} (hp : ∀ (ad : AD) (M : MH), ad 2100 0 = b0 ∧ ad 2200 0 = b1 → Rep E ad out.2 M → P (some (.int out.1)) M) {V : St} {M : MH} {d0 : Option Value} {d1 : Option Value} {d2 : Option Value} {d3 : Option Value} {d4 : Option Value} {d5 : Option Value} (hb : ad 2100 0 = b0 ∧ ad 2200 0 = b1) (hk : kc ≤ 3 ∧ ks ≤ 2028) (hR : Rep E ad V M) (h : F_X11_maker_69 fu V = some out) : G E X RX11 cX11_maker 6 (some .int) false (rmA 9 3 2028) P M [d0, d1, d2, d3, d4, d5] kc ks 69 [] := by
  unfold F_X11_maker_69 at h
  refine r_iconst (v := -1) DX11_maker_69 ki_m1 ?_
  cases h
  exact r_iret DX11_maker_70 rfl hk (hp ad M hb hR)
theorem S_X11_maker_32 {E : EN} {X : CX} {P : Option Value → MH → Prop} {ad : AD} {fu : Nat} {out : Int32 × St} {b0 b1 : Nat} {kc ks : Nat} (hp : ∀ (ad : AD) (M : MH), ad 2100 0 = b0 ∧ ad 2200 0 = b1 → Rep E ad out.2 M → P (some (.int out.1)) M) {V : St} {M : MH} {d0 : Option Value} {d1 : Option Value} {d2 : Option Value} {d3 : Option Value} {d4 : Option Value} {d5 : Option Value} (hb : ad 2100 0 = b0 ∧ ad 2200 0 = b1) (hk : kc ≤ 3 ∧ ks ≤ 2028) (hR : Rep E ad V M) (h : F_X11_maker_32 fu V = some out) : G E X RX11 cX11_maker 6 (some .int) false (rmA 9 3 2028) P M [d0, d1, d2, d3, d4, d5] kc ks 32 [] := by
  unfold F_X11_maker_32 at h
  refine r_iconst (v := -1) DX11_maker_32 ki_m1 ?_
  cases h
  exact r_iret DX11_maker_33 rfl hk (hp ad M hb hR)
theorem S_X11_maker_0 {E : EN} {X : CX} {P : Option Value → MH → Prop} {ad : AD} {fu : Nat} {out : Int32 × St} {b0 b1 : Nat} (hp : ∀ (ad : AD) (M : MH), ad 2100 0 = b0 ∧ ad 2200 0 = b1 → Rep E ad out.2 M → P (some (.int out.1)) M) {V : St} {M : MH} {x1 : Int32} {x2 : Int32} {x3 : Int32} {x4 : Int32} {x5 : Int32} (hb : ad 2100 0 = b0 ∧ ad 2200 0 = b1) (hR : Rep E ad V M) (h : f_X11_maker fu V x1 x2 x3 x4 x5 = some out) : G E X RX11 cX11_maker 6 (some .int) false (rmA 9 3 2028) P M [some (.ref (ad 2100 0)), some (.int (x1)), some (.int (x2)), some (.int (x3)), some (.int (x4)), some (.int (x5))] 0 0 0 [] := by
  unfold f_X11_maker at h
  have hk : 0 ≤ 3 ∧ 0 ≤ 2028 := ⟨Nat.zero_le _, Nat.zero_le _⟩
  refine r_iload_n DX11_maker_0 rfl ?_
  refine r_iconst (v := 0) DX11_maker_1 ki_0 ?_
  refine r_bipush (v := 7) DX11_maker_2 kb_7 ?_
  obtain ⟨r1, V2, hc3, h⟩ := bd_inv h
  refine m_callS (As := [.int (x1), .int ((0 : Int32)), .int ((7 : Int32))]) (rest := []) (st1 := [.int (r1)]) (w := some (.int r1)) DX11_maker_4 cs_X11_111 (C_X11_within (out := (r1, V2)) (cxL X) hR hc3) rfl (by decide) hk (by decide) rfl (Nat.le_of_ble_eq_true rfl) rfl (fun M hR => ?_)
  refine r_if_eq DX11_maker_7 (fun c4 => ?_) (fun c4 => ?_)
  · have h := if_t c4 h
    exact S_X11_maker_32 hp hb hk hR h
  · have h := if_f c4 h
    refine r_iload_n DX11_maker_10 rfl ?_
    refine r_iconst (v := 1) DX11_maker_11 ki_1 ?_
    refine r_sipush (v := 10000) DX11_maker_12 ks_10000 ?_
    obtain ⟨r5, V6, hc7, h⟩ := bd_inv h
    refine m_callS (As := [.int (x2), .int ((1 : Int32)), .int ((10000 : Int32))]) (rest := []) (st1 := [.int (r5)]) (w := some (.int r5)) DX11_maker_15 cs_X11_111 (C_X11_within (out := (r5, V6)) (cxL X) hR hc7) rfl (by decide) hk (by decide) rfl (Nat.le_of_ble_eq_true rfl) rfl (fun M hR => ?_)
    refine r_if_eq DX11_maker_18 (fun c8 => ?_) (fun c8 => ?_)
    · have h := if_t c8 h
      exact S_X11_maker_32 hp hb hk hR h
    · have h := if_f c8 h
      refine r_iload_n DX11_maker_21 rfl ?_
      refine r_iconst (v := 0) DX11_maker_22 ki_0 ?_
      refine r_sipush (v := 1000) DX11_maker_23 ks_1000 ?_
      obtain ⟨r9, V10, hc11, h⟩ := bd_inv h
      refine m_callS (As := [.int (x3), .int ((0 : Int32)), .int ((1000 : Int32))]) (rest := []) (st1 := [.int (r9)]) (w := some (.int r9)) DX11_maker_26 cs_X11_111 (C_X11_within (out := (r9, V10)) (cxL X) hR hc11) rfl (by decide) hk (by decide) rfl (Nat.le_of_ble_eq_true rfl) rfl (fun M hR => ?_)
      refine r_if_ne DX11_maker_29 (fun c12 => ?_) (fun c12 => ?_)
      · have h := if_f c12 h
        refine r_iload DX11_maker_34 rfl ?_
        refine r_iconst (v := 1) DX11_maker_36 ki_1 ?_
        refine r_bipush (v := 100) DX11_maker_37 kb_100 ?_
        obtain ⟨r13, V14, hc15, h⟩ := bd_inv h
        refine m_callS (As := [.int (x4), .int ((1 : Int32)), .int ((100 : Int32))]) (rest := []) (st1 := [.int (r13)]) (w := some (.int r13)) DX11_maker_39 cs_X11_111 (C_X11_within (out := (r13, V14)) (cxL X) hR hc15) rfl (by decide) hk (by decide) rfl (Nat.le_of_ble_eq_true rfl) rfl (fun M hR => ?_)
        refine r_if_eq DX11_maker_42 (fun c16 => ?_) (fun c16 => ?_)
        · have h := if_t c16 h
          exact S_X11_maker_69 hp hb hk hR h
        · have h := if_f c16 h
          refine r_iload DX11_maker_45 rfl ?_
          refine r_iconst (v := 0) DX11_maker_47 ki_0 ?_
          refine r_sipush (v := 10000) DX11_maker_48 ks_10000 ?_
          obtain ⟨r17, V18, hc19, h⟩ := bd_inv h
          refine m_callS (As := [.int (x5), .int ((0 : Int32)), .int ((10000 : Int32))]) (rest := []) (st1 := [.int (r17)]) (w := some (.int r17)) DX11_maker_51 cs_X11_111 (C_X11_within (out := (r17, V18)) (cxL X) hR hc19) rfl (by decide) hk (by decide) rfl (Nat.le_of_ble_eq_true rfl) rfl (fun M hR => ?_)
          refine r_if_eq DX11_maker_54 (fun c20 => ?_) (fun c20 => ?_)
          · have h := if_t c20 h
            exact S_X11_maker_69 hp hb hk hR h
          · have h := if_f c20 h
            refine r_aload_n DX11_maker_57 rfl ?_
            refine s_geto DX11_maker_58 fl_X11_29 hR ct_2100 (one_cnt _) rfl ?_
            refine m_lsize (Li := 2106) (g := 1600) DX11_maker_61 cv_X11_89 hR (by decide) (by decide) hk (Nat.le_of_ble_eq_true rfl) ?_
            refine r_bipush (v := 12) DX11_maker_64 kb_12 ?_
            refine r_icmp_lt DX11_maker_66 (fun c21 => ?_) (fun c21 => ?_)
            · have h := if_t c21 h
              refine r_aload_n DX11_maker_71 rfl ?_
              refine s_geto DX11_maker_72 fl_X11_29 hR ct_2100 (one_cnt _) rfl ?_
              have hR0 := hR
              refine r_new DX11_maker_75 nw_X11_106 ⟨by decide, by decide⟩ (fun q hq _ => ?_)
              have hR := hR.new (e := .inr (6, [.int 0, .int 0, .int 0, .int 0, .int 0, .null, .int 0, .int 0])) hq
              refine r_dup DX11_maker_78 rfl ?_
              refine r_iload_n DX11_maker_79 rfl ?_
              refine r_iload_n DX11_maker_80 rfl ?_
              refine r_iload_n DX11_maker_81 rfl ?_
              refine r_iload DX11_maker_82 rfl ?_
              refine r_iload DX11_maker_84 rfl ?_
              obtain ⟨hm22, h⟩ := gd_inv h
              have hm22 := mkOK_of hm22
              obtain ⟨V23, hv24, h⟩ := bv_inv h
              refine k_make (As := [.int (x1), .int (x2), .int (x3), .int (x4), .int (x5)]) (F := F_1600 (x1) (x2) (x3) (x4) (x5)) DX11_maker_86 DX11_maker_89 DX11_maker_92 ci_X11_201 cv_X11_124 hR0 (g := 1600) (by decide) og_1600 hm22.1 hm22.2 hq (C_X6_init (cxL X) (mset_self _ _ _)) (fun M2 h2 => B_1600 hq h2) rfl (by decide) ⟨by decide, by decide⟩ (by decide) (by decide) (Nat.le_of_ble_eq_true rfl) (fun ad M had hR => ?_)
              have hR := hR.cg hv24
              have hb : ad 2100 0 = _ ∧ ad 2200 0 = _ := ⟨(had 2100 0 (by decide) (by decide +kernel)).trans hb.1, (had 2200 0 (by decide) (by decide +kernel)).trans hb.2⟩
              have hk : 0 + 1 + 1 + 1 ≤ 3 ∧ 0 + 8 + 20 + 2000 ≤ 2028 := ⟨by decide, by decide⟩
              rw [← had 2100 0 (by decide) (by decide +kernel)]
              refine r_aload_n DX11_maker_93 rfl ?_
              refine r_aload_n DX11_maker_94 rfl ?_
              refine s_geto DX11_maker_95 fl_X11_29 hR ct_2100 (one_cnt _) rfl ?_
              refine m_lsize (Li := 2106) (g := 1600) DX11_maker_98 cv_X11_89 hR (by decide) (by decide) hk (Nat.le_of_ble_eq_true rfl) ?_
              refine r_iconst (v := 1) DX11_maker_101 ki_1 ?_
              refine r_isub DX11_maker_102 ?_
              refine r_iload DX11_maker_103 rfl ?_
              obtain ⟨r25, V26, hc27, h⟩ := bd_inv h
              refine m_callV (As := [.int ((V23 2106 0 0) - (1 : Int32)), .int (x4)]) (rest := []) (st1 := []) (w := none) DX11_maker_105 cv_X11_204 hR ct_2100 (one_cnt _) rfl (C_X11_putByRate (out := (r25, V26)) (cxL X) hR hc27) rfl (by decide) hk (by decide) rfl (Nat.le_of_ble_eq_true rfl) rfl (fun M hR => ?_)
              refine r_aload_n DX11_maker_108 rfl ?_
              refine s_geto DX11_maker_109 fl_X11_29 hR ct_2100 (one_cnt _) rfl ?_
              refine m_lsize (Li := 2106) (g := 1600) DX11_maker_112 cv_X11_89 hR (by decide) (by decide) hk (Nat.le_of_ble_eq_true rfl) ?_
              refine r_iconst (v := 1) DX11_maker_115 ki_1 ?_
              refine r_isub DX11_maker_116 ?_
              cases h
              exact r_iret DX11_maker_117 rfl hk (hp ad M hb hR)
            · have h := if_f c21 h
              exact S_X11_maker_69 hp hb hk hR h
      · have h := if_t c12 h
        exact S_X11_maker_32 hp hb hk hR h
theorem C_X11_maker {E : EN} {ad : AD} {fu : Nat} {out : Int32 × St} {V : St} {M : MH} {x1 : Int32} {x2 : Int32} {x3 : Int32} {x4 : Int32} {x5 : Int32} (l : Launch) (hR : Rep E ad V M) (h : f_X11_maker fu V x1 x2 x3 x4 x5 = some out) : Ct E l yX11_maker cX11_maker 6 (some .int) (rmA 9 3 2028) [.ref (ad 2100 0), .int (x1), .int (x2), .int (x3), .int (x4), .int (x5)] M (fun v M => v = (some (.int out.1)) ∧ ∃ ad' : AD, (ad' 2100 0 = ad 2100 0 ∧ ad' 2200 0 = ad 2200 0) ∧ Rep E ad' out.2 M) :=
  Ct.of (own := RX11) (ini := false) (L := [some (.ref (ad 2100 0)), some (.int (x1)), some (.int (x2)), some (.int (x3)), some (.int (x4)), some (.int (x5))]) rfl rfl (fun h => by cases h) rfl (Nat.le_of_ble_eq_true rfl) rfl (fun X _ => S_X11_maker_0 (fun ad' M hb hR => ⟨rfl, ad', hb, hR⟩) ⟨rfl, rfl⟩ hR h)
theorem S_X11_thing_60 {E : EN} {X : CX} {P : Option Value → MH → Prop} {ad : AD} {fu : Nat} {out : Int32 × St} {b0 b1 : Nat} (hp : ∀ (ad : AD) (M : MH), ad 2100 0 = b0 ∧ ad 2200 0 = b1 → Rep E ad out.2 M → P (some (.int out.1)) M) {V : St} {M : MH} {x1 : Int32} {x2 : Int32} {x3 : Int32} {x4 : Int32} {s0 : Int32} {d5 : Option Value} (hb : ad 2100 0 = b0 ∧ ad 2200 0 = b1) (hR : Rep E ad V M) (h : F_X11_thing_60 fu V x1 x2 x3 x4 s0 = some out) : G E X RX11 cX11_thing 6 (some .int) false (rmA 9 5 2030) P M [some (.ref (ad 2100 0)), some (.int (x1)), some (.int (x2)), some (.int (x3)), some (.int (x4)), d5] 0 0 60 [rfq ad 1000 (s0)] := by
  unfold F_X11_thing_60 at h
  have hk : 0 ≤ 5 ∧ 0 ≤ 2030 := ⟨Nat.zero_le _, Nat.zero_le _⟩
  refine t_astore (L' := [some (.ref (ad 2100 0)), some (.int (x1)), some (.int (x2)), some (.int (x3)), some (.int (x4)), some (rfq ad 1000 (s0))]) (rfq_or _ _ _) DX11_thing_60 (by decide) rfl ?_
  refine r_aload_n DX11_thing_62 rfl ?_
  refine s_geto DX11_thing_63 fl_X11_26 hR ct_2100 (one_cnt _) rfl ?_
  have hR0 := hR
  refine r_new DX11_thing_66 nw_X11_165 ⟨by decide, by decide⟩ (fun q hq _ => ?_)
  have hR := hR.new (e := .inr (10, [.int 0, .int 0, .null, .int 0, .int 0, .null, .null, .null, .int 0, .int 0])) hq
  refine r_dup DX11_thing_69 rfl ?_
  refine r_iload_n DX11_thing_70 rfl ?_
  refine r_iload_n DX11_thing_71 rfl ?_
  refine t_aload (rfq_or _ _ _) DX11_thing_72 rfl ?_
  refine r_iload_n DX11_thing_74 rfl ?_
  refine r_iload DX11_thing_75 rfl ?_
  obtain ⟨hm1, h⟩ := gd_inv h
  have hm1 := mkOK_of hm1
  obtain ⟨V2, hv3, h⟩ := bv_inv h
  refine k_make (As := [.int (x1), .int (x2), rfq ad 1000 (s0), .int (x3), .int (x4)]) (F := F_2000 (x1) (x2) (s0) (x3) (x4)) DX11_thing_77 DX11_thing_80 DX11_thing_83 ci_X11_167 cv_X11_124 hR0 (g := 2000) (by decide) og_2000 hm1.1 hm1.2 hq (C_X10_init (cxL X) (mset_self _ _ _) (rfq_or _ _ _)) (fun M2 h2 => B_2000 rfl hq h2) rfl (by decide) ⟨by decide, by decide⟩ (by decide) (by decide) (by simp only [List.map_cons, List.map_nil, rfq_cat, List.sum_cons, List.sum_nil]; exact Nat.le_of_ble_eq_true rfl) (fun ad M had hR => ?_)
  have hR := hR.cg hv3
  have hb : ad 2100 0 = _ ∧ ad 2200 0 = _ := ⟨(had 2100 0 (by decide) (by decide +kernel)).trans hb.1, (had 2200 0 (by decide) (by decide +kernel)).trans hb.2⟩
  have hk : 0 + 1 + 3 + 1 ≤ 5 ∧ 0 + 10 + 20 + 2000 ≤ 2030 := ⟨by decide, by decide⟩
  rw [← had 2100 0 (by decide) (by decide +kernel)]
  simp only [rfq_ad (g := 1000) (fun i => had 1000 i (by decide) (by decide +kernel))]
  refine r_aload_n DX11_thing_84 rfl ?_
  refine s_geto DX11_thing_85 fl_X11_26 hR ct_2100 (one_cnt _) rfl ?_
  refine m_lsize (Li := 2105) (g := 2000) DX11_thing_88 cv_X11_89 hR (by decide) (by decide) hk (Nat.le_of_ble_eq_true rfl) ?_
  refine r_iconst (v := 1) DX11_thing_91 ki_1 ?_
  refine r_isub DX11_thing_92 ?_
  cases h
  exact r_iret DX11_thing_93 rfl hk (hp ad M hb hR)
theorem S_X11_thing_31 {E : EN} {X : CX} {P : Option Value → MH → Prop} {ad : AD} {fu : Nat} {out : Int32 × St} {b0 b1 : Nat} {kc ks : Nat} (hp : ∀ (ad : AD) (M : MH), ad 2100 0 = b0 ∧ ad 2200 0 = b1 → Rep E ad out.2 M → P (some (.int out.1)) M) {V : St} {M : MH} {d0 : Option Value} {d1 : Option Value} {d2 : Option Value} {d3 : Option Value} {d4 : Option Value} {d5 : Option Value} (hb : ad 2100 0 = b0 ∧ ad 2200 0 = b1) (hk : kc ≤ 5 ∧ ks ≤ 2030) (hR : Rep E ad V M) (h : F_X11_thing_31 fu V = some out) : G E X RX11 cX11_thing 6 (some .int) false (rmA 9 5 2030) P M [d0, d1, d2, d3, d4, d5] kc ks 31 [] := by
  unfold F_X11_thing_31 at h
  refine r_iconst (v := -1) DX11_thing_31 ki_m1 ?_
  cases h
  exact r_iret DX11_thing_32 rfl hk (hp ad M hb hR)
theorem S_X11_thing_0 {E : EN} {X : CX} {P : Option Value → MH → Prop} {ad : AD} {fu : Nat} {out : Int32 × St} {b0 b1 : Nat} (hp : ∀ (ad : AD) (M : MH), ad 2100 0 = b0 ∧ ad 2200 0 = b1 → Rep E ad out.2 M → P (some (.int out.1)) M) {V : St} {M : MH} {x1 : Int32} {x2 : Int32} {x3 : Int32} {x4 : Int32} (hb : ad 2100 0 = b0 ∧ ad 2200 0 = b1) (hR : Rep E ad V M) (h : f_X11_thing fu V x1 x2 x3 x4 = some out) : G E X RX11 cX11_thing 6 (some .int) false (rmA 9 5 2030) P M [some (.ref (ad 2100 0)), some (.int (x1)), some (.int (x2)), some (.int (x3)), some (.int (x4)), none] 0 0 0 [] := by
  unfold f_X11_thing at h
  have hk : 0 ≤ 5 ∧ 0 ≤ 2030 := ⟨Nat.zero_le _, Nat.zero_le _⟩
  refine r_aload_n DX11_thing_0 rfl ?_
  refine r_iload_n DX11_thing_1 rfl ?_
  refine r_iload_n DX11_thing_2 rfl ?_
  obtain ⟨r1, V2, hc3, h⟩ := bd_inv h
  refine m_callV (As := [.int (x1), .int (x2)]) (rest := []) (st1 := [.int (r1)]) (w := some (.int r1)) DX11_thing_3 cv_X11_158 hR ct_2100 (one_cnt _) rfl (C_X11_isMadeOf (out := (r1, V2)) (cxL X) hR hc3) rfl (by decide) hk (by decide) rfl (Nat.le_of_ble_eq_true rfl) rfl (fun M hR => ?_)
  refine r_if_eq DX11_thing_6 (fun c4 => ?_) (fun c4 => ?_)
  · have h := if_t c4 h
    exact S_X11_thing_31 hp hb hk hR h
  · have h := if_f c4 h
    refine r_iload_n DX11_thing_9 rfl ?_
    refine r_iconst (v := 0) DX11_thing_10 ki_0 ?_
    refine r_bipush (v := 9) DX11_thing_11 kb_9 ?_
    obtain ⟨r5, V6, hc7, h⟩ := bd_inv h
    refine m_callS (As := [.int (x3), .int ((0 : Int32)), .int ((9 : Int32))]) (rest := []) (st1 := [.int (r5)]) (w := some (.int r5)) DX11_thing_13 cs_X11_111 (C_X11_within (out := (r5, V6)) (cxL X) hR hc7) rfl (by decide) hk (by decide) rfl (Nat.le_of_ble_eq_true rfl) rfl (fun M hR => ?_)
    refine r_if_eq DX11_thing_16 (fun c8 => ?_) (fun c8 => ?_)
    · have h := if_t c8 h
      exact S_X11_thing_31 hp hb hk hR h
    · have h := if_f c8 h
      refine r_iload DX11_thing_19 rfl ?_
      refine r_iconst (v := 1) DX11_thing_21 ki_1 ?_
      refine r_sipush (v := 10000) DX11_thing_22 ks_10000 ?_
      obtain ⟨r9, V10, hc11, h⟩ := bd_inv h
      refine m_callS (As := [.int (x4), .int ((1 : Int32)), .int ((10000 : Int32))]) (rest := []) (st1 := [.int (r9)]) (w := some (.int r9)) DX11_thing_25 cs_X11_111 (C_X11_within (out := (r9, V10)) (cxL X) hR hc11) rfl (by decide) hk (by decide) rfl (Nat.le_of_ble_eq_true rfl) rfl (fun M hR => ?_)
      refine r_if_ne DX11_thing_28 (fun c12 => ?_) (fun c12 => ?_)
      · have h := if_f c12 h
        refine r_aload_n DX11_thing_33 rfl ?_
        refine s_geto DX11_thing_34 fl_X11_26 hR ct_2100 (one_cnt _) rfl ?_
        refine m_lsize (Li := 2105) (g := 2000) DX11_thing_37 cv_X11_89 hR (by decide) (by decide) hk (Nat.le_of_ble_eq_true rfl) ?_
        refine r_bipush (v := 30) DX11_thing_40 kb_30 ?_
        refine r_icmp_lt DX11_thing_42 (fun c13 => ?_) (fun c13 => ?_)
        · have h := if_t c13 h
          refine r_iload_n DX11_thing_47 rfl ?_
          refine r_if_ne DX11_thing_48 (fun c14 => ?_) (fun c14 => ?_)
          · have h := if_f c14 h
            refine q_null (ad := ad) (g := 1000) DX11_thing_59 ?_
            exact S_X11_thing_60 hp hb hR h
          · have h := if_t c14 h
            refine r_aload_n DX11_thing_51 rfl ?_
            refine r_iload_n DX11_thing_52 rfl ?_
            obtain ⟨r15, V16, hc17, h⟩ := bd_inv h
            refine m_callV (As := [.int (x2)]) (rest := []) (st1 := [rfq ad 1000 (r15)]) (w := some (rfq ad 1000 r15)) DX11_thing_53 cv_X11_161 hR ct_2100 (one_cnt _) rfl (C_X11_findCloth (out := (r15, V16)) (cxL X) hR hc17) rfl (by decide) hk (by decide) rfl (Nat.le_of_ble_eq_true rfl) rfl (fun M hR => ?_)
            refine r_goto DX11_thing_56 ?_
            exact S_X11_thing_60 hp hb hR h
        · have h := if_f c13 h
          refine r_iconst (v := -1) DX11_thing_45 ki_m1 ?_
          cases h
          exact r_iret DX11_thing_46 rfl hk (hp ad M hb hR)
      · have h := if_t c12 h
        exact S_X11_thing_31 hp hb hk hR h
theorem C_X11_thing {E : EN} {ad : AD} {fu : Nat} {out : Int32 × St} {V : St} {M : MH} {x1 : Int32} {x2 : Int32} {x3 : Int32} {x4 : Int32} (l : Launch) (hR : Rep E ad V M) (h : f_X11_thing fu V x1 x2 x3 x4 = some out) : Ct E l yX11_thing cX11_thing 6 (some .int) (rmA 9 5 2030) [.ref (ad 2100 0), .int (x1), .int (x2), .int (x3), .int (x4)] M (fun v M => v = (some (.int out.1)) ∧ ∃ ad' : AD, (ad' 2100 0 = ad 2100 0 ∧ ad' 2200 0 = ad 2200 0) ∧ Rep E ad' out.2 M) :=
  Ct.of (own := RX11) (ini := false) (L := [some (.ref (ad 2100 0)), some (.int (x1)), some (.int (x2)), some (.int (x3)), some (.int (x4)), none]) rfl rfl (fun h => by cases h) rfl (Nat.le_of_ble_eq_true rfl) rfl (fun X _ => S_X11_thing_0 (fun ad' M hb hR => ⟨rfl, ad', hb, hR⟩) ⟨rfl, rfl⟩ hR h)
theorem S_X11_order_58 {E : EN} {X : CX} {P : Option Value → MH → Prop} {ad : AD} {fu : Nat} {out : Int32 × St} {b0 b1 : Nat} {kc ks : Nat} (hp : ∀ (ad : AD) (M : MH), ad 2100 0 = b0 ∧ ad 2200 0 = b1 → Rep E ad out.2 M → P (some (.int out.1)) M) {V : St} {M : MH} {d0 : Option Value} {d1 : Option Value} {d2 : Option Value} {d3 : Option Value} {d4 : Option Value} (hb : ad 2100 0 = b0 ∧ ad 2200 0 = b1) (hk : kc ≤ 7 ∧ ks ≤ 3009) (hR : Rep E ad V M) (h : F_X11_order_58 fu V = some out) : G E X RX11 cX11_order 5 (some .int) false (rmA 39 7 3009) P M [d0, d1, d2, d3, d4] kc ks 58 [] := by
  unfold F_X11_order_58 at h
  refine r_iconst (v := -1) DX11_order_58 ki_m1 ?_
  cases h
  exact r_iret DX11_order_59 rfl hk (hp ad M hb hR)
theorem S_X11_order_33 {E : EN} {X : CX} {P : Option Value → MH → Prop} {ad : AD} {fu : Nat} {out : Int32 × St} {b0 b1 : Nat} {kc ks : Nat} (hp : ∀ (ad : AD) (M : MH), ad 2100 0 = b0 ∧ ad 2200 0 = b1 → Rep E ad out.2 M → P (some (.int out.1)) M) {V : St} {M : MH} {d0 : Option Value} {d1 : Option Value} {d2 : Option Value} {d3 : Option Value} {d4 : Option Value} (hb : ad 2100 0 = b0 ∧ ad 2200 0 = b1) (hk : kc ≤ 7 ∧ ks ≤ 3009) (hR : Rep E ad V M) (h : F_X11_order_33 fu V = some out) : G E X RX11 cX11_order 5 (some .int) false (rmA 39 7 3009) P M [d0, d1, d2, d3, d4] kc ks 33 [] := by
  unfold F_X11_order_33 at h
  refine r_iconst (v := -1) DX11_order_33 ki_m1 ?_
  cases h
  exact r_iret DX11_order_34 rfl hk (hp ad M hb hR)
theorem S_X11_order_0 {E : EN} {X : CX} {P : Option Value → MH → Prop} {ad : AD} {fu : Nat} {out : Int32 × St} {b0 b1 : Nat} (hp : ∀ (ad : AD) (M : MH), ad 2100 0 = b0 ∧ ad 2200 0 = b1 → Rep E ad out.2 M → P (some (.int out.1)) M) {V : St} {M : MH} {x1 : Int32} {x2 : Int32} {x3 : Int32} (hb : ad 2100 0 = b0 ∧ ad 2200 0 = b1) (hR : Rep E ad V M) (h : f_X11_order fu V x1 x2 x3 = some out) : G E X RX11 cX11_order 5 (some .int) false (rmA 39 7 3009) P M [some (.ref (ad 2100 0)), some (.int (x1)), some (.int (x2)), some (.int (x3)), none] 0 0 0 [] := by
  unfold f_X11_order at h
  have hk : 0 ≤ 7 ∧ 0 ≤ 3009 := ⟨Nat.zero_le _, Nat.zero_le _⟩
  refine r_iload_n DX11_order_0 rfl ?_
  refine r_iconst (v := 0) DX11_order_1 ki_0 ?_
  refine r_sipush (v := 499) DX11_order_2 ks_499 ?_
  obtain ⟨r1, V2, hc3, h⟩ := bd_inv h
  refine m_callS (As := [.int (x1), .int ((0 : Int32)), .int ((499 : Int32))]) (rest := []) (st1 := [.int (r1)]) (w := some (.int r1)) DX11_order_5 cs_X11_111 (C_X11_within (out := (r1, V2)) (cxL X) hR hc3) rfl (by decide) hk (by decide) rfl (Nat.le_of_ble_eq_true rfl) rfl (fun M hR => ?_)
  refine r_if_eq DX11_order_8 (fun c4 => ?_) (fun c4 => ?_)
  · have h := if_t c4 h
    exact S_X11_order_33 hp hb hk hR h
  · have h := if_f c4 h
    refine r_iload_n DX11_order_11 rfl ?_
    refine r_iload_n DX11_order_12 rfl ?_
    refine r_sipush (v := 499) DX11_order_13 ks_499 ?_
    obtain ⟨r5, V6, hc7, h⟩ := bd_inv h
    refine m_callS (As := [.int (x2), .int (x1), .int ((499 : Int32))]) (rest := []) (st1 := [.int (r5)]) (w := some (.int r5)) DX11_order_16 cs_X11_111 (C_X11_within (out := (r5, V6)) (cxL X) hR hc7) rfl (by decide) hk (by decide) rfl (Nat.le_of_ble_eq_true rfl) rfl (fun M hR => ?_)
    refine r_if_eq DX11_order_19 (fun c8 => ?_) (fun c8 => ?_)
    · have h := if_t c8 h
      exact S_X11_order_33 hp hb hk hR h
    · have h := if_f c8 h
      refine r_iload_n DX11_order_22 rfl ?_
      refine r_iconst (v := 1) DX11_order_23 ki_1 ?_
      refine r_sipush (v := 160) DX11_order_24 ks_160 ?_
      obtain ⟨r9, V10, hc11, h⟩ := bd_inv h
      refine m_callS (As := [.int (x3), .int ((1 : Int32)), .int ((160 : Int32))]) (rest := []) (st1 := [.int (r9)]) (w := some (.int r9)) DX11_order_27 cs_X11_111 (C_X11_within (out := (r9, V10)) (cxL X) hR hc11) rfl (by decide) hk (by decide) rfl (Nat.le_of_ble_eq_true rfl) rfl (fun M hR => ?_)
      refine r_if_ne DX11_order_30 (fun c12 => ?_) (fun c12 => ?_)
      · have h := if_f c12 h
        refine r_aload_n DX11_order_35 rfl ?_
        refine s_geto DX11_order_36 fl_X11_68 hR ct_2100 (one_cnt _) rfl ?_
        refine s_geto DX11_order_39 fl_X11_222 hR ct_1400 (one_cnt _) rfl ?_
        refine m_lsize (Li := 1401) (g := 1700) DX11_order_42 cv_X11_89 hR (by decide) (by decide) hk (Nat.le_of_ble_eq_true rfl) ?_
        refine r_bipush (v := 30) DX11_order_45 kb_30 ?_
        refine r_icmp_ge DX11_order_47 (fun c13 => ?_) (fun c13 => ?_)
        · have h := if_t c13 h
          exact S_X11_order_58 hp hb hk hR h
        · have h := if_f c13 h
          refine r_iload_n DX11_order_50 rfl ?_
          refine r_aload_n DX11_order_51 rfl ?_
          refine s_geti DX11_order_52 fl_X11_55 hR ct_2100 (one_cnt _) rfl ?_
          refine r_icmp_le DX11_order_55 (fun c14 => ?_) (fun c14 => ?_)
          · have h := if_t c14 h
            refine r_aload_n DX11_order_60 rfl ?_
            refine r_iconst (v := 0) DX11_order_61 ki_0 ?_
            obtain ⟨V15, hv16, h⟩ := bv_inv h
            refine s_puti DX11_order_62 fp_X11_55 hR oks_2114 ct_2100 (one_cnt _) rfl rfl rfl (fun M hR => ?_)
            have hR := hR.cg hv16
            refine r_aload_n DX11_order_65 rfl ?_
            refine s_geto DX11_order_66 fl_X11_61 hR ct_2100 (one_cnt _) rfl ?_
            refine r_aload_n DX11_order_69 rfl ?_
            refine s_geta DX11_order_70 fl_X11_51 hR ct_2100 (one_cnt _) rfl ?_
            refine r_iload_n DX11_order_73 rfl ?_
            obtain ⟨r17, V18, hc19, h⟩ := bd_inv h
            refine m_callV (As := [.ref (ad 2113 (0)), .int (x3)]) (rest := []) (st1 := [.int (r17)]) (w := some (.int r17)) DX11_order_74 cv_X11_225 hR ct_1900 (one_cnt _) rfl (C_X9_read (out := (r17, V18)) (cxL X) hR hc19) rfl (by decide) hk (by decide) rfl (Nat.le_of_ble_eq_true rfl) rfl (fun M hR => ?_)
            refine t_istore (L' := [some (.ref (ad 2100 0)), some (.int (x1)), some (.int (x2)), some (.int (x3)), some (.int (r17))]) DX11_order_77 (by decide) rfl ?_
            refine r_iload DX11_order_79 rfl ?_
            refine r_if_eq DX11_order_81 (fun c20 => ?_) (fun c20 => ?_)
            · have h := if_t c20 h
              refine r_aload_n DX11_order_87 rfl ?_
              refine s_geto DX11_order_88 fl_X11_68 hR ct_2100 (one_cnt _) rfl ?_
              refine s_geto DX11_order_91 fl_X11_222 hR ct_1400 (one_cnt _) rfl ?_
              have hR0 := hR
              refine r_new DX11_order_94 nw_X11_229 ⟨by decide, by decide⟩ (fun q hq _ => ?_)
              have hR := hR.new (e := .inr (7, [.int 0, .int 0, .int 0, .int 0, .null, .null, .null, .null, .null])) hq
              refine r_dup DX11_order_97 rfl ?_
              refine r_iload_n DX11_order_98 rfl ?_
              refine r_iload_n DX11_order_99 rfl ?_
              refine r_aload_n DX11_order_100 rfl ?_
              refine s_geti DX11_order_101 fl_X11_7 hR ct_2100 (one_cnt _) rfl ?_
              refine r_aload_n DX11_order_104 rfl ?_
              refine s_geto DX11_order_105 fl_X11_61 hR ct_2100 (one_cnt _) rfl ?_
              obtain ⟨hm21, h⟩ := gd_inv h
              have hm21 := mkOK_of hm21
              obtain ⟨hx22, h⟩ := gd_inv h
              obtain ⟨hy23, h⟩ := gd_inv h
              obtain ⟨V24, hv25, h⟩ := bv_inv h
              refine k_make (As := [.int (x1), .int (x2), .int ((V18 2101 0 0)), .ref (ad 1900 0)]) (F := F_1700 (x1) (x2) ((V18 2101 0 0)) (V18 1906 0 0) (V18 1907 0 0) (V18 1901 0) (V18 1902 0) (V18 1903 0) (V18 1904 0) (V18 1905 0)) DX11_order_108 DX11_order_111 DX11_order_114 ci_X11_231 cv_X11_124 hR0 (g := 1700) (by decide) og_1700 hm21.1 hm21.2 hq (C_X7_init (g := []) (y5 := .null) (y6 := .null) (cxL X) (mset_self _ _ _) (hR.obj ct_1900 (one_cnt _)) (hR.1 1901 _ 0 ct_1901 (one_cnt _)) (hR.1 1902 _ 0 ct_1902 (one_cnt _)) (hR.1 1903 _ 0 ct_1903 (one_cnt _)) (hR.1 1904 _ 0 ct_1904 (one_cnt _)) (hR.1 1905 _ 0 ct_1905 (one_cnt _)) hx22 hy23) (fun M2 h2 => B_1700 hq h2) rfl (by decide) ⟨by decide, by decide⟩ (by decide) (by decide) (Nat.le_of_ble_eq_true rfl) (fun ad M had hR => ?_)
              have hR := hR.cg hv25
              have hb : ad 2100 0 = _ ∧ ad 2200 0 = _ := ⟨(had 2100 0 (by decide) (by decide +kernel)).trans hb.1, (had 2200 0 (by decide) (by decide +kernel)).trans hb.2⟩
              have hk : 0 + 1 + 5 + 1 ≤ 7 ∧ 0 + 9 + 1000 + 2000 ≤ 3009 := ⟨by decide, by decide⟩
              rw [← had 2100 0 (by decide) (by decide +kernel)]
              refine r_aload_n DX11_order_115 rfl ?_
              refine s_geto DX11_order_116 fl_X11_68 hR ct_2100 (one_cnt _) rfl ?_
              refine s_geto DX11_order_119 fl_X11_222 hR ct_1400 (one_cnt _) rfl ?_
              refine m_lsize (Li := 1401) (g := 1700) DX11_order_122 cv_X11_89 hR (by decide) (by decide) hk (Nat.le_of_ble_eq_true rfl) ?_
              refine r_iconst (v := 1) DX11_order_125 ki_1 ?_
              refine r_isub DX11_order_126 ?_
              cases h
              exact r_iret DX11_order_127 rfl hk (hp ad M hb hR)
            · have h := if_f c20 h
              refine r_iload DX11_order_84 rfl ?_
              cases h
              exact r_iret DX11_order_86 rfl hk (hp ad M hb hR)
          · have h := if_f c14 h
            exact S_X11_order_58 hp hb hk hR h
      · have h := if_t c12 h
        exact S_X11_order_33 hp hb hk hR h
theorem C_X11_order {E : EN} {ad : AD} {fu : Nat} {out : Int32 × St} {V : St} {M : MH} {x1 : Int32} {x2 : Int32} {x3 : Int32} (l : Launch) (hR : Rep E ad V M) (h : f_X11_order fu V x1 x2 x3 = some out) : Ct E l yX11_order cX11_order 5 (some .int) (rmA 39 7 3009) [.ref (ad 2100 0), .int (x1), .int (x2), .int (x3)] M (fun v M => v = (some (.int out.1)) ∧ ∃ ad' : AD, (ad' 2100 0 = ad 2100 0 ∧ ad' 2200 0 = ad 2200 0) ∧ Rep E ad' out.2 M) :=
  Ct.of (own := RX11) (ini := false) (L := [some (.ref (ad 2100 0)), some (.int (x1)), some (.int (x2)), some (.int (x3)), none]) rfl rfl (fun h => by cases h) rfl (Nat.le_of_ble_eq_true rfl) rfl (fun X _ => S_X11_order_0 (fun ad' M hb hR => ⟨rfl, ad', hb, hR⟩) ⟨rfl, rfl⟩ hR h)
theorem S_X11_makes_178 {E : EN} {X : CX} {P : Option Value → MH → Prop} {ad : AD} {fu : Nat} {out : Int32 × St} {b0 b1 : Nat} {kc ks : Nat} (hp : ∀ (ad : AD) (M : MH), ad 2100 0 = b0 ∧ ad 2200 0 = b1 → Rep E ad out.2 M → P (some (.int out.1)) M) {V : St} {M : MH} {x6 : Int32} {d0 : Option Value} {d1 : Option Value} {d2 : Option Value} {d3 : Option Value} {d4 : Option Value} {d5 : Option Value} {d7 : Option Value} {d8 : Option Value} (hb : ad 2100 0 = b0 ∧ ad 2200 0 = b1) (hk : kc ≤ 2 ∧ ks ≤ 2004) (hR : Rep E ad V M) (h : F_X11_makes_178 fu V x6 = some out) : G E X RX11 cX11_makes 9 (some .int) false (rmA 9 2 2004) P M [d0, d1, d2, d3, d4, d5, some (rfq ad 2000 (x6)), d7, d8] kc ks 178 [] := by
  unfold F_X11_makes_178 at h
  refine t_aload (rfq_or _ _ _) DX11_makes_178 rfl ?_
  obtain ⟨⟨hx1, hi2⟩, h⟩ := gd_inv h
  refine q_geta hx1 DX11_makes_180 fl_X11_260 hR ct_2000 hi2 rfl ?_
  refine r_iconst (v := 0) DX11_makes_183 ki_0 ?_
  obtain ⟨hg3, h⟩ := gd_inv h
  refine s_iald DX11_makes_184 hR ct_2006 (hi2) hg3 ?_
  refine t_aload (rfq_or _ _ _) DX11_makes_185 rfl ?_
  refine q_geta hx1 DX11_makes_187 fl_X11_260 hR ct_2000 hi2 rfl ?_
  refine r_iconst (v := 1) DX11_makes_190 ki_1 ?_
  obtain ⟨hg4, h⟩ := gd_inv h
  refine s_iald DX11_makes_191 hR ct_2006 (hi2) hg4 ?_
  refine r_iadd DX11_makes_192 ?_
  cases h
  exact r_iret DX11_makes_193 rfl hk (hp ad M hb hR)
theorem S_X11_makes_128 {E : EN} {X : CX} {P : Option Value → MH → Prop} {ad : AD} {fu : Nat} {out : Int32 × St} {b0 b1 : Nat} (hp : ∀ (ad : AD) (M : MH), ad 2100 0 = b0 ∧ ad 2200 0 = b1 → Rep E ad out.2 M → P (some (.int out.1)) M) {V : St} {M : MH} {x1 : Int32} {x2 : Int32} {x3 : Int32} {x4 : Int32} {x5 : Int32} {x6 : Int32} {x7 : Int32} {d8 : Option Value} (hb : ad 2100 0 = b0 ∧ ad 2200 0 = b1) (hR : Rep E ad V M) (h : F_X11_makes_128 fu V x1 x2 x3 x4 x5 x6 x7 = some out) : G E X RX11 cX11_makes 9 (some .int) false (rmA 9 2 2004) P M [some (.ref (ad 2100 0)), some (.int (x1)), some (.int (x2)), some (.int (x3)), some (.int (x4)), some (rfq ad 1600 (x5)), some (rfq ad 2000 (x6)), some (.int (x7)), d8] 0 0 128 [] := by
  unfold F_X11_makes_128 at h
  have hk : 0 ≤ 2 ∧ 0 ≤ 2004 := ⟨Nat.zero_le _, Nat.zero_le _⟩
  refine t_aload (rfq_or _ _ _) DX11_makes_128 rfl ?_
  refine r_dup DX11_makes_130 (rfq_cat _ _ _) ?_
  obtain ⟨⟨hx1, hi2⟩, h⟩ := gd_inv h
  refine q_geti hx1 DX11_makes_131 fl_X11_108 hR ct_1600 hi2 rfl ?_
  refine r_iload_n DX11_makes_134 rfl ?_
  refine r_iadd DX11_makes_135 ?_
  obtain ⟨V3, hv4, h⟩ := bv_inv h
  refine q_puti hx1 DX11_makes_136 fp_X11_108 hR oks_1608 ct_1600 hi2 rfl rfl rfl (fun M hR => ?_)
  have hR := hR.cg hv4
  refine t_aload (rfq_or _ _ _) DX11_makes_139 rfl ?_
  obtain ⟨⟨hx5, hi6⟩, h⟩ := gd_inv h
  refine q_geta hx5 DX11_makes_141 fl_X11_260 hR ct_2000 hi6 rfl ?_
  refine r_iload DX11_makes_144 rfl ?_
  refine r_dup2 DX11_makes_146 rfl rfl ?_
  obtain ⟨hg7, h⟩ := gd_inv h
  refine s_iald DX11_makes_147 hR ct_2006 (hi6) hg7 ?_
  refine r_iload_n DX11_makes_148 rfl ?_
  refine r_iadd DX11_makes_149 ?_
  obtain ⟨hg8, h⟩ := gd_inv h
  obtain ⟨V9, hv10, h⟩ := bv_inv h
  refine s_iast DX11_makes_150 hR oka_2006 ct_2006 (hi6) hg8 (fun M hR => ?_)
  have hR := hR.cg hv10
  refine r_iload DX11_makes_151 rfl ?_
  refine r_if_eq DX11_makes_153 (fun c11 => ?_) (fun c11 => ?_)
  · have h := if_t c11 h
    exact S_X11_makes_178 hp hb hk hR h
  · have h := if_f c11 h
    refine r_aload_n DX11_makes_156 rfl ?_
    refine s_geto DX11_makes_157 fl_X11_48 hR ct_2100 (one_cnt _) rfl ?_
    have hR0 := hR
    refine r_new DX11_makes_160 nw_X11_277 ⟨by decide, by decide⟩ (fun q hq _ => ?_)
    have hR := hR.new (e := .inr (3, [.int 0, .int 0, .int 0, .int 0])) hq
    refine r_dup DX11_makes_163 rfl ?_
    refine r_iload_n DX11_makes_164 rfl ?_
    refine r_iload_n DX11_makes_165 rfl ?_
    refine r_aload_n DX11_makes_166 rfl ?_
    refine s_geti DX11_makes_167 fl_X11_7 hR ct_2100 (one_cnt _) rfl ?_
    refine r_iload_n DX11_makes_170 rfl ?_
    obtain ⟨hm12, h⟩ := gd_inv h
    have hm12 := mkOK_of hm12
    obtain ⟨V13, hv14, h⟩ := bv_inv h
    refine k_make (As := [.int (x2), .int (x1), .int ((V9 2101 0 0)), .int (x3)]) (F := F_1360 (x2) (x1) ((V9 2101 0 0)) (x3)) DX11_makes_171 DX11_makes_174 DX11_makes_177 ci_X11_279 cv_X11_124 hR0 (g := 1360) (by decide) og_1360 hm12.1 hm12.2 hq (C_X3_init (cxL X) (mset_self _ _ _)) (fun M2 h2 => B_1360 hq h2) rfl (by decide) ⟨by decide, by decide⟩ (by decide) (by decide) (Nat.le_of_ble_eq_true rfl) (fun ad M had hR => ?_)
    have hR := hR.cg hv14
    have hb : ad 2100 0 = _ ∧ ad 2200 0 = _ := ⟨(had 2100 0 (by decide) (by decide +kernel)).trans hb.1, (had 2200 0 (by decide) (by decide +kernel)).trans hb.2⟩
    have hk : 0 + 1 + 0 + 1 ≤ 2 ∧ 0 + 4 + 0 + 2000 ≤ 2004 := ⟨by decide, by decide⟩
    rw [← had 2100 0 (by decide) (by decide +kernel)]
    simp only [rfq_ad (g := 1600) (fun i => had 1600 i (by decide) (by decide +kernel))]
    simp only [rfq_ad (g := 2000) (fun i => had 2000 i (by decide) (by decide +kernel))]
    exact S_X11_makes_178 hp hb hk hR h
theorem S_X11_makes_77 {E : EN} {X : CX} {P : Option Value → MH → Prop} {ad : AD} {fu : Nat} {out : Int32 × St} {b0 b1 : Nat} {kc ks : Nat} (hp : ∀ (ad : AD) (M : MH), ad 2100 0 = b0 ∧ ad 2200 0 = b1 → Rep E ad out.2 M → P (some (.int out.1)) M) {V : St} {M : MH} {d0 : Option Value} {d1 : Option Value} {d2 : Option Value} {d3 : Option Value} {d4 : Option Value} {d5 : Option Value} {d6 : Option Value} {d7 : Option Value} {d8 : Option Value} (hb : ad 2100 0 = b0 ∧ ad 2200 0 = b1) (hk : kc ≤ 2 ∧ ks ≤ 2004) (hR : Rep E ad V M) (h : F_X11_makes_77 fu V = some out) : G E X RX11 cX11_makes 9 (some .int) false (rmA 9 2 2004) P M [d0, d1, d2, d3, d4, d5, d6, d7, d8] kc ks 77 [] := by
  unfold F_X11_makes_77 at h
  refine r_iconst (v := -1) DX11_makes_77 ki_m1 ?_
  cases h
  exact r_iret DX11_makes_78 rfl hk (hp ad M hb hR)
theorem S_X11_makes_47 {E : EN} {X : CX} {P : Option Value → MH → Prop} {ad : AD} {fu : Nat} {out : Int32 × St} {b0 b1 : Nat} (hp : ∀ (ad : AD) (M : MH), ad 2100 0 = b0 ∧ ad 2200 0 = b1 → Rep E ad out.2 M → P (some (.int out.1)) M) {V : St} {M : MH} {x1 : Int32} {x2 : Int32} {x3 : Int32} {x4 : Int32} {x5 : Int32} {x6 : Int32} {s0 : Int32} {d7 : Option Value} {d8 : Option Value} (hb : ad 2100 0 = b0 ∧ ad 2200 0 = b1) (hR : Rep E ad V M) (h : F_X11_makes_47 fu V x1 x2 x3 x4 x5 x6 s0 = some out) : G E X RX11 cX11_makes 9 (some .int) false (rmA 9 2 2004) P M [some (.ref (ad 2100 0)), some (.int (x1)), some (.int (x2)), some (.int (x3)), some (.int (x4)), some (rfq ad 1600 (x5)), some (rfq ad 2000 (x6)), d7, d8] 0 0 47 [.int (s0)] := by
  unfold F_X11_makes_47 at h
  have hk : 0 ≤ 2 ∧ 0 ≤ 2004 := ⟨Nat.zero_le _, Nat.zero_le _⟩
  refine t_istore (L' := [some (.ref (ad 2100 0)), some (.int (x1)), some (.int (x2)), some (.int (x3)), some (.int (x4)), some (rfq ad 1600 (x5)), some (rfq ad 2000 (x6)), some (.int (s0)), d8]) DX11_makes_47 (by decide) rfl ?_
  refine t_aload (rfq_or _ _ _) DX11_makes_49 rfl ?_
  obtain ⟨⟨hx1, hi2⟩, h⟩ := gd_inv h
  refine q_geta hx1 DX11_makes_51 fl_X11_260 hR ct_2000 hi2 rfl ?_
  refine r_iload DX11_makes_54 rfl ?_
  obtain ⟨hg3, h⟩ := gd_inv h
  refine s_iald DX11_makes_56 hR ct_2006 (hi2) hg3 ?_
  refine r_iload_n DX11_makes_57 rfl ?_
  refine r_iadd DX11_makes_58 ?_
  refine r_ldc (v := 1000000) DX11_makes_59 ck_X11_99 ?_
  refine r_icmp_gt DX11_makes_61 (fun c4 => ?_) (fun c4 => ?_)
  · have h := if_t c4 h
    exact S_X11_makes_77 hp hb hk hR h
  · have h := if_f c4 h
    refine r_aload_n DX11_makes_64 rfl ?_
    refine s_geto DX11_makes_65 fl_X11_48 hR ct_2100 (one_cnt _) rfl ?_
    refine m_lsize (Li := 2112) (g := 1360) DX11_makes_68 cv_X11_89 hR (by decide) (by decide) hk (Nat.le_of_ble_eq_true rfl) ?_
    refine r_sipush (v := 512) DX11_makes_71 ks_512 ?_
    refine r_icmp_lt DX11_makes_74 (fun c5 => ?_) (fun c5 => ?_)
    · have h := if_t c5 h
      refine r_aload_n DX11_makes_79 rfl ?_
      refine t_aload (rfq_or _ _ _) DX11_makes_80 rfl ?_
      refine t_aload (rfq_or _ _ _) DX11_makes_82 rfl ?_
      refine r_iload_n DX11_makes_84 rfl ?_
      refine r_iload DX11_makes_85 rfl ?_
      obtain ⟨r6, V7, hc8, h⟩ := bd_inv h
      refine m_callV (As := [rfq ad 1600 (x5), rfq ad 2000 (x6), .int (x3), .int (x4)]) (rest := []) (st1 := [.int (r6)]) (w := some (.int r6)) DX11_makes_87 cv_X11_263 hR ct_2100 (one_cnt _) rfl (C_X11_whyNotMade (out := (r6, V7)) (cxL X) hR hc8) rfl (by decide) hk (by decide) rfl (Nat.le_of_ble_eq_true rfl) rfl (fun M hR => ?_)
      refine t_istore (L' := [some (.ref (ad 2100 0)), some (.int (x1)), some (.int (x2)), some (.int (x3)), some (.int (x4)), some (rfq ad 1600 (x5)), some (rfq ad 2000 (x6)), some (.int (s0)), some (.int (r6))]) DX11_makes_90 (by decide) rfl ?_
      refine r_iload DX11_makes_92 rfl ?_
      refine r_if_eq DX11_makes_94 (fun c9 => ?_) (fun c9 => ?_)
      · have h := if_t c9 h
        refine t_aload (rfq_or _ _ _) DX11_makes_100 rfl ?_
        obtain ⟨⟨hx10, hi11⟩, h⟩ := gd_inv h
        refine q_geti hx10 DX11_makes_102 fl_X11_267 hR ct_2000 hi11 rfl ?_
        refine r_if_ne DX11_makes_105 (fun c12 => ?_) (fun c12 => ?_)
        · have h := if_f c12 h
          exact S_X11_makes_128 hp hb hR h
        · have h := if_t c12 h
          refine t_aload (rfq_or _ _ _) DX11_makes_108 rfl ?_
          obtain ⟨⟨hx13, hi14⟩, h⟩ := gd_inv h
          refine q_geta hx13 DX11_makes_110 fl_X11_216 hR ct_1600 hi14 rfl ?_
          refine t_aload (rfq_or _ _ _) DX11_makes_113 rfl ?_
          refine q_geti hx10 DX11_makes_115 fl_X11_270 hR ct_2000 hi11 rfl ?_
          refine r_dup2 DX11_makes_118 rfl rfl ?_
          obtain ⟨hg15, h⟩ := gd_inv h
          refine s_iald DX11_makes_119 hR ct_1606 (hi14) hg15 ?_
          refine t_aload (rfq_or _ _ _) DX11_makes_120 rfl ?_
          refine r_iload_n DX11_makes_122 rfl ?_
          obtain ⟨r16, V17, hc18, h⟩ := bd_inv h
          refine m_callS (As := [rfq ad 2000 (x6), .int (x3)]) (rest := [.int ((V7 1606 ((x5).toNatClampNeg) ((V7 2002 (x6).toNatClampNeg 0)).toNatClampNeg)), .int ((V7 2002 (x6).toNatClampNeg 0)), .ref (ad 1606 ((x5).toNatClampNeg))]) (st1 := [.int (r16), .int ((V7 1606 ((x5).toNatClampNeg) ((V7 2002 (x6).toNatClampNeg 0)).toNatClampNeg)), .int ((V7 2002 (x6).toNatClampNeg 0)), .ref (ad 1606 ((x5).toNatClampNeg))]) (w := some (.int r16)) DX11_makes_123 cs_X11_273 (C_X11_yardsFor (out := (r16, V17)) (cxL X) hR hc18) rfl (by decide) hk (by decide) rfl (Nat.le_of_ble_eq_true rfl) rfl (fun M hR => ?_)
          refine r_isub DX11_makes_126 ?_
          obtain ⟨⟨hx19, hi20⟩, h⟩ := gd_inv h
          obtain ⟨hg21, h⟩ := gd_inv h
          obtain ⟨V22, hv23, h⟩ := bv_inv h
          refine s_iast DX11_makes_127 hR oka_1606 ct_1606 (hi20) hg21 (fun M hR => ?_)
          have hR := hR.cg hv23
          exact S_X11_makes_128 hp hb hR h
      · have h := if_f c9 h
        refine r_iload DX11_makes_97 rfl ?_
        cases h
        exact r_iret DX11_makes_99 rfl hk (hp ad M hb hR)
    · have h := if_f c5 h
      exact S_X11_makes_77 hp hb hk hR h
theorem S_X11_makes_35 {E : EN} {X : CX} {P : Option Value → MH → Prop} {ad : AD} {fu : Nat} {out : Int32 × St} {b0 b1 : Nat} {kc ks : Nat} (hp : ∀ (ad : AD) (M : MH), ad 2100 0 = b0 ∧ ad 2200 0 = b1 → Rep E ad out.2 M → P (some (.int out.1)) M) {V : St} {M : MH} {d0 : Option Value} {d1 : Option Value} {d2 : Option Value} {d3 : Option Value} {d4 : Option Value} {d5 : Option Value} {d6 : Option Value} {d7 : Option Value} {d8 : Option Value} (hb : ad 2100 0 = b0 ∧ ad 2200 0 = b1) (hk : kc ≤ 2 ∧ ks ≤ 2004) (hR : Rep E ad V M) (h : F_X11_makes_35 fu V = some out) : G E X RX11 cX11_makes 9 (some .int) false (rmA 9 2 2004) P M [d0, d1, d2, d3, d4, d5, d6, d7, d8] kc ks 35 [] := by
  unfold F_X11_makes_35 at h
  refine r_iconst (v := -1) DX11_makes_35 ki_m1 ?_
  cases h
  exact r_iret DX11_makes_36 rfl hk (hp ad M hb hR)
theorem S_X11_makes_0 {E : EN} {X : CX} {P : Option Value → MH → Prop} {ad : AD} {fu : Nat} {out : Int32 × St} {b0 b1 : Nat} (hp : ∀ (ad : AD) (M : MH), ad 2100 0 = b0 ∧ ad 2200 0 = b1 → Rep E ad out.2 M → P (some (.int out.1)) M) {V : St} {M : MH} {x1 : Int32} {x2 : Int32} {x3 : Int32} {x4 : Int32} (hb : ad 2100 0 = b0 ∧ ad 2200 0 = b1) (hR : Rep E ad V M) (h : f_X11_makes fu V x1 x2 x3 x4 = some out) : G E X RX11 cX11_makes 9 (some .int) false (rmA 9 2 2004) P M [some (.ref (ad 2100 0)), some (.int (x1)), some (.int (x2)), some (.int (x3)), some (.int (x4)), none, none, none, none] 0 0 0 [] := by
  unfold f_X11_makes at h
  have hk : 0 ≤ 2 ∧ 0 ≤ 2004 := ⟨Nat.zero_le _, Nat.zero_le _⟩
  refine r_aload_n DX11_makes_0 rfl ?_
  refine r_iload_n DX11_makes_1 rfl ?_
  obtain ⟨r1, V2, hc3, h⟩ := bd_inv h
  refine m_callV (As := [.int (x1)]) (rest := []) (st1 := [rfq ad 1600 (r1)]) (w := some (rfq ad 1600 r1)) DX11_makes_2 cv_X11_208 hR ct_2100 (one_cnt _) rfl (C_X11_findMaker (out := (r1, V2)) (cxL X) hR hc3) rfl (by decide) hk (by decide) rfl (Nat.le_of_ble_eq_true rfl) rfl (fun M hR => ?_)
  refine t_astore (L' := [some (.ref (ad 2100 0)), some (.int (x1)), some (.int (x2)), some (.int (x3)), some (.int (x4)), some (rfq ad 1600 (r1)), none, none, none]) (rfq_or _ _ _) DX11_makes_5 (by decide) rfl ?_
  refine r_aload_n DX11_makes_7 rfl ?_
  refine r_iload_n DX11_makes_8 rfl ?_
  obtain ⟨r4, V5, hc6, h⟩ := bd_inv h
  refine m_callV (As := [.int (x2)]) (rest := []) (st1 := [rfq ad 2000 (r4)]) (w := some (rfq ad 2000 r4)) DX11_makes_9 cv_X11_242 hR ct_2100 (one_cnt _) rfl (C_X11_findThing (out := (r4, V5)) (cxL X) hR hc6) rfl (by decide) hk (by decide) rfl (Nat.le_of_ble_eq_true rfl) rfl (fun M hR => ?_)
  refine t_astore (L' := [some (.ref (ad 2100 0)), some (.int (x1)), some (.int (x2)), some (.int (x3)), some (.int (x4)), some (rfq ad 1600 (r1)), some (rfq ad 2000 (r4)), none, none]) (rfq_or _ _ _) DX11_makes_12 (by decide) rfl ?_
  refine t_aload (rfq_or _ _ _) DX11_makes_14 rfl ?_
  refine q_ifnull DX11_makes_16 (fun c7 => ?_) (fun c7 => ?_)
  · have h := if_t c7 h
    exact S_X11_makes_35 hp hb hk hR h
  · have h := if_f c7 h
    refine t_aload (rfq_or _ _ _) DX11_makes_19 rfl ?_
    refine q_ifnull DX11_makes_21 (fun c8 => ?_) (fun c8 => ?_)
    · have h := if_t c8 h
      exact S_X11_makes_35 hp hb hk hR h
    · have h := if_f c8 h
      refine r_iload_n DX11_makes_24 rfl ?_
      refine r_iconst (v := 1) DX11_makes_25 ki_1 ?_
      refine r_sipush (v := 10000) DX11_makes_26 ks_10000 ?_
      obtain ⟨r9, V10, hc11, h⟩ := bd_inv h
      refine m_callS (As := [.int (x3), .int ((1 : Int32)), .int ((10000 : Int32))]) (rest := []) (st1 := [.int (r9)]) (w := some (.int r9)) DX11_makes_29 cs_X11_111 (C_X11_within (out := (r9, V10)) (cxL X) hR hc11) rfl (by decide) hk (by decide) rfl (Nat.le_of_ble_eq_true rfl) rfl (fun M hR => ?_)
      refine r_if_ne DX11_makes_32 (fun c12 => ?_) (fun c12 => ?_)
      · have h := if_f c12 h
        refine r_iload DX11_makes_37 rfl ?_
        refine r_if_eq DX11_makes_39 (fun c13 => ?_) (fun c13 => ?_)
        · have h := if_t c13 h
          refine r_iconst (v := 0) DX11_makes_46 ki_0 ?_
          exact S_X11_makes_47 hp hb hR h
        · have h := if_f c13 h
          refine r_iconst (v := 1) DX11_makes_42 ki_1 ?_
          refine r_goto DX11_makes_43 ?_
          exact S_X11_makes_47 hp hb hR h
      · have h := if_t c12 h
        exact S_X11_makes_35 hp hb hk hR h
theorem C_X11_makes {E : EN} {ad : AD} {fu : Nat} {out : Int32 × St} {V : St} {M : MH} {x1 : Int32} {x2 : Int32} {x3 : Int32} {x4 : Int32} (l : Launch) (hR : Rep E ad V M) (h : f_X11_makes fu V x1 x2 x3 x4 = some out) : Ct E l yX11_makes cX11_makes 9 (some .int) (rmA 9 2 2004) [.ref (ad 2100 0), .int (x1), .int (x2), .int (x3), .int (x4)] M (fun v M => v = (some (.int out.1)) ∧ ∃ ad' : AD, (ad' 2100 0 = ad 2100 0 ∧ ad' 2200 0 = ad 2200 0) ∧ Rep E ad' out.2 M) :=
  Ct.of (own := RX11) (ini := false) (L := [some (.ref (ad 2100 0)), some (.int (x1)), some (.int (x2)), some (.int (x3)), some (.int (x4)), none, none, none, none]) rfl rfl (fun h => by cases h) rfl (Nat.le_of_ble_eq_true rfl) rfl (fun X _ => S_X11_makes_0 (fun ad' M hb hR => ⟨rfl, ad', hb, hR⟩) ⟨rfl, rfl⟩ hR h)
theorem S_X11_buys_175 {E : EN} {X : CX} {P : Option Value → MH → Prop} {ad : AD} {fu : Nat} {out : Int32 × St} {b0 b1 : Nat} {kc ks : Nat} (hp : ∀ (ad : AD) (M : MH), ad 2100 0 = b0 ∧ ad 2200 0 = b1 → Rep E ad out.2 M → P (some (.int out.1)) M) {V : St} {M : MH} {x1 : Int32} {x2 : Int32} {x8 : Int32} {d3 : Option Value} {d4 : Option Value} {d5 : Option Value} {d6 : Option Value} {d7 : Option Value} (hb : ad 2100 0 = b0 ∧ ad 2200 0 = b1) (hk : kc ≤ 2 ∧ ks ≤ 2004) (hR : Rep E ad V M) (h : F_X11_buys_175 fu V x1 x2 x8 = some out) : G E X RX11 cX11_buys 9 (some .int) false (rmA 9 2 2004) P M [some (.ref (ad 2100 0)), some (.int (x1)), some (.int (x2)), d3, d4, d5, d6, d7, some (.int (x8))] kc ks 175 [] := by
  unfold F_X11_buys_175 at h
  refine r_aload_n DX11_buys_175 rfl ?_
  refine r_iload_n DX11_buys_176 rfl ?_
  refine r_iload_n DX11_buys_177 rfl ?_
  obtain ⟨r1, V2, hc3, h⟩ := bd_inv h
  refine m_callV (As := [.int (x1), .int (x2)]) (rest := []) (st1 := []) (w := none) DX11_buys_178 cv_X11_298 hR ct_2100 (one_cnt _) rfl (C_X11_closeDockets (out := (r1, V2)) (cxL X) hR hc3) rfl (by decide) hk (by decide) rfl (Nat.le_of_ble_eq_true rfl) rfl (fun M hR => ?_)
  refine r_iload DX11_buys_181 rfl ?_
  cases h
  exact r_iret DX11_buys_183 rfl hk (hp ad M hb hR)
theorem S_X11_buys_48 {E : EN} {X : CX} {P : Option Value → MH → Prop} {ad : AD} {fu : Nat} {out : Int32 × St} {b0 b1 : Nat} (hp : ∀ (ad : AD) (M : MH), ad 2100 0 = b0 ∧ ad 2200 0 = b1 → Rep E ad out.2 M → P (some (.int out.1)) M) {V : St} {M : MH} {x1 : Int32} {x2 : Int32} {x3 : Int32} {x4 : Int32} {x5 : Int32} {s0 : Int32} {d6 : Option Value} {d7 : Option Value} {d8 : Option Value} (hb : ad 2100 0 = b0 ∧ ad 2200 0 = b1) (hR : Rep E ad V M) (h : F_X11_buys_48 fu V x1 x2 x3 x4 x5 s0 = some out) : G E X RX11 cX11_buys 9 (some .int) false (rmA 9 2 2004) P M [some (.ref (ad 2100 0)), some (.int (x1)), some (.int (x2)), some (.int (x3)), some (rfq ad 1800 (x4)), some (rfq ad 2000 (x5)), d6, d7, d8] 0 0 48 [.int (s0)] := by
  unfold F_X11_buys_48 at h
  have hk : 0 ≤ 2 ∧ 0 ≤ 2004 := ⟨Nat.zero_le _, Nat.zero_le _⟩
  refine t_istore (L' := [some (.ref (ad 2100 0)), some (.int (x1)), some (.int (x2)), some (.int (x3)), some (rfq ad 1800 (x4)), some (rfq ad 2000 (x5)), some (.int (s0)), d7, d8]) DX11_buys_48 (by decide) rfl ?_
  refine t_aload (rfq_or _ _ _) DX11_buys_50 rfl ?_
  obtain ⟨⟨hx1, hi2⟩, h⟩ := gd_inv h
  refine q_geta hx1 DX11_buys_52 fl_X11_260 hR ct_2000 hi2 rfl ?_
  refine r_iload DX11_buys_55 rfl ?_
  obtain ⟨hg3, h⟩ := gd_inv h
  refine s_iald DX11_buys_57 hR ct_2006 (hi2) hg3 ?_
  refine r_if_ne DX11_buys_58 (fun c4 => ?_) (fun c4 => ?_)
  · have h := if_f c4 h
    refine r_iconst (v := 0) DX11_buys_64 ki_0 ?_
    refine r_aload_n DX11_buys_65 rfl ?_
    refine r_bipush (v := 112) DX11_buys_66 kb_112 ?_
    refine t_aload (rfq_or _ _ _) DX11_buys_68 rfl ?_
    refine q_null (ad := ad) (g := 1600) DX11_buys_70 ?_
    obtain ⟨r5, V6, hc7, h⟩ := bd_inv h
    refine m_callV (As := [.int ((112 : Int32)), rfq ad 2000 (x5), rfq ad 1600 ((-1))]) (rest := [.int ((0 : Int32))]) (st1 := [.int (r5), .int ((0 : Int32))]) (w := some (.int r5)) DX11_buys_71 cv_X11_79 hR ct_2100 (one_cnt _) rfl (C_X11_askNow (out := (r5, V6)) (cxL X) hR hc7) rfl (by decide) hk (by decide) rfl (Nat.le_of_ble_eq_true rfl) rfl (fun M hR => ?_)
    refine r_mmaxA DX11_buys_74 wd_395 (by decide) (Nat.le_of_ble_eq_true rfl) hk ?_
    refine t_istore (L' := [some (.ref (ad 2100 0)), some (.int (x1)), some (.int (x2)), some (.int (x3)), some (rfq ad 1800 (x4)), some (rfq ad 2000 (x5)), some (.int (s0)), some (.int ((if (0 : Int32) < r5 then r5 else (0 : Int32)))), d8]) DX11_buys_77 (by decide) rfl ?_
    refine t_aload (rfq_or _ _ _) DX11_buys_79 rfl ?_
    obtain ⟨⟨hx8, hi9⟩, h⟩ := gd_inv h
    refine q_geti hx8 DX11_buys_81 fl_X11_100 hR ct_1800 hi9 rfl ?_
    refine r_iload DX11_buys_84 rfl ?_
    refine r_icmp_ge DX11_buys_86 (fun c10 => ?_) (fun c10 => ?_)
    · have h := if_t c10 h
      refine r_aload_n DX11_buys_92 rfl ?_
      refine t_aload (rfq_or _ _ _) DX11_buys_93 rfl ?_
      obtain ⟨r11, V12, hc13, h⟩ := bd_inv h
      refine m_callV (As := [rfq ad 2000 (x5)]) (rest := []) (st1 := [.int (r11)]) (w := some (.int r11)) DX11_buys_95 cv_X11_291 hR ct_2100 (one_cnt _) rfl (C_X11_paidNow (out := (r11, V12)) (cxL X) hR hc13) rfl (by decide) hk (by decide) rfl (Nat.le_of_ble_eq_true rfl) rfl (fun M hR => ?_)
      refine t_istore (L' := [some (.ref (ad 2100 0)), some (.int (x1)), some (.int (x2)), some (.int (x3)), some (rfq ad 1800 (x4)), some (rfq ad 2000 (x5)), some (.int (s0)), some (.int ((if (0 : Int32) < r5 then r5 else (0 : Int32)))), some (.int (r11))]) DX11_buys_98 (by decide) rfl ?_
      refine t_aload (rfq_or _ _ _) DX11_buys_100 rfl ?_
      obtain ⟨⟨hx14, hi15⟩, h⟩ := gd_inv h
      refine q_geti hx14 DX11_buys_102 fl_X11_295 hR ct_1800 hi15 rfl ?_
      refine r_iload DX11_buys_105 rfl ?_
      refine r_icmp_ge DX11_buys_107 (fun c16 => ?_) (fun c16 => ?_)
      · have h := if_t c16 h
        refine t_aload (rfq_or _ _ _) DX11_buys_113 rfl ?_
        refine r_dup DX11_buys_115 (rfq_cat _ _ _) ?_
        refine q_geti hx14 DX11_buys_116 fl_X11_100 hR ct_1800 hi15 rfl ?_
        refine r_iload DX11_buys_119 rfl ?_
        refine r_isub DX11_buys_121 ?_
        obtain ⟨V17, hv18, h⟩ := bv_inv h
        refine q_puti hx14 DX11_buys_122 fp_X11_100 hR oks_1801 ct_1800 hi15 rfl rfl rfl (fun M hR => ?_)
        have hR := hR.cg hv18
        refine t_aload (rfq_or _ _ _) DX11_buys_125 rfl ?_
        refine r_dup DX11_buys_127 (rfq_cat _ _ _) ?_
        have hi19 := cnt_keep hv18 (b := 2108) (by decide) hi15
        refine q_geti hx14 DX11_buys_128 fl_X11_295 hR ct_1800 hi19 rfl ?_
        refine r_iload DX11_buys_131 rfl ?_
        refine r_isub DX11_buys_133 ?_
        obtain ⟨V20, hv21, h⟩ := bv_inv h
        refine q_puti hx14 DX11_buys_134 fp_X11_295 hR oks_1802 ct_1800 hi19 rfl rfl rfl (fun M hR => ?_)
        have hR := hR.cg hv21
        refine t_aload (rfq_or _ _ _) DX11_buys_137 rfl ?_
        obtain ⟨⟨hx22, hi23⟩, h⟩ := gd_inv h
        refine q_geta hx22 DX11_buys_139 fl_X11_260 hR ct_2000 hi23 rfl ?_
        refine r_iload DX11_buys_142 rfl ?_
        refine r_dup2 DX11_buys_144 rfl rfl ?_
        obtain ⟨hg24, h⟩ := gd_inv h
        refine s_iald DX11_buys_145 hR ct_2006 (hi23) hg24 ?_
        refine r_iconst (v := 1) DX11_buys_146 ki_1 ?_
        refine r_isub DX11_buys_147 ?_
        obtain ⟨hg25, h⟩ := gd_inv h
        obtain ⟨V26, hv27, h⟩ := bv_inv h
        refine s_iast DX11_buys_148 hR oka_2006 ct_2006 (hi23) hg25 (fun M hR => ?_)
        have hR := hR.cg hv27
        refine r_iload_n DX11_buys_149 rfl ?_
        refine r_if_eq DX11_buys_150 (fun c28 => ?_) (fun c28 => ?_)
        · have h := if_t c28 h
          exact S_X11_buys_175 hp hb hk hR h
        · have h := if_f c28 h
          refine r_aload_n DX11_buys_153 rfl ?_
          refine s_geto DX11_buys_154 fl_X11_48 hR ct_2100 (one_cnt _) rfl ?_
          have hR0 := hR
          refine r_new DX11_buys_157 nw_X11_277 ⟨by decide, by decide⟩ (fun q hq _ => ?_)
          have hR := hR.new (e := .inr (3, [.int 0, .int 0, .int 0, .int 0])) hq
          refine r_dup DX11_buys_160 rfl ?_
          refine r_iload_n DX11_buys_161 rfl ?_
          refine r_iconst (v := -1) DX11_buys_162 ki_m1 ?_
          refine r_aload_n DX11_buys_163 rfl ?_
          refine s_geti DX11_buys_164 fl_X11_7 hR ct_2100 (one_cnt _) rfl ?_
          refine r_iconst (v := 1) DX11_buys_167 ki_1 ?_
          obtain ⟨hm29, h⟩ := gd_inv h
          have hm29 := mkOK_of hm29
          obtain ⟨V30, hv31, h⟩ := bv_inv h
          refine k_make (As := [.int (x2), .int ((-1 : Int32)), .int ((V26 2101 0 0)), .int ((1 : Int32))]) (F := F_1360 (x2) ((-1 : Int32)) ((V26 2101 0 0)) ((1 : Int32))) DX11_buys_168 DX11_buys_171 DX11_buys_174 ci_X11_279 cv_X11_124 hR0 (g := 1360) (by decide) og_1360 hm29.1 hm29.2 hq (C_X3_init (cxL X) (mset_self _ _ _)) (fun M2 h2 => B_1360 hq h2) rfl (by decide) ⟨by decide, by decide⟩ (by decide) (by decide) (Nat.le_of_ble_eq_true rfl) (fun ad M had hR => ?_)
          have hR := hR.cg hv31
          have hb : ad 2100 0 = _ ∧ ad 2200 0 = _ := ⟨(had 2100 0 (by decide) (by decide +kernel)).trans hb.1, (had 2200 0 (by decide) (by decide +kernel)).trans hb.2⟩
          have hk : 0 + 1 + 0 + 1 ≤ 2 ∧ 0 + 4 + 0 + 2000 ≤ 2004 := ⟨by decide, by decide⟩
          rw [← had 2100 0 (by decide) (by decide +kernel)]
          simp only [rfq_ad (g := 1800) (fun i => had 1800 i (by decide) (by decide +kernel))]
          simp only [rfq_ad (g := 2000) (fun i => had 2000 i (by decide) (by decide +kernel))]
          exact S_X11_buys_175 hp hb hk hR h
      · have h := if_f c16 h
        refine r_bipush (v := -4) DX11_buys_110 kb_m4 ?_
        cases h
        exact r_iret DX11_buys_112 rfl hk (hp ad M hb hR)
    · have h := if_f c10 h
      refine r_bipush (v := -3) DX11_buys_89 kb_m3 ?_
      cases h
      exact r_iret DX11_buys_91 rfl hk (hp ad M hb hR)
  · have h := if_t c4 h
    refine r_bipush (v := -2) DX11_buys_61 kb_m2 ?_
    cases h
    exact r_iret DX11_buys_63 rfl hk (hp ad M hb hR)
theorem S_X11_buys_37 {E : EN} {X : CX} {P : Option Value → MH → Prop} {ad : AD} {fu : Nat} {out : Int32 × St} {b0 b1 : Nat} {kc ks : Nat} (hp : ∀ (ad : AD) (M : MH), ad 2100 0 = b0 ∧ ad 2200 0 = b1 → Rep E ad out.2 M → P (some (.int out.1)) M) {V : St} {M : MH} {d0 : Option Value} {d1 : Option Value} {d2 : Option Value} {d3 : Option Value} {d4 : Option Value} {d5 : Option Value} {d6 : Option Value} {d7 : Option Value} {d8 : Option Value} (hb : ad 2100 0 = b0 ∧ ad 2200 0 = b1) (hk : kc ≤ 2 ∧ ks ≤ 2004) (hR : Rep E ad V M) (h : F_X11_buys_37 fu V = some out) : G E X RX11 cX11_buys 9 (some .int) false (rmA 9 2 2004) P M [d0, d1, d2, d3, d4, d5, d6, d7, d8] kc ks 37 [] := by
  unfold F_X11_buys_37 at h
  refine r_iconst (v := -1) DX11_buys_37 ki_m1 ?_
  cases h
  exact r_iret DX11_buys_38 rfl hk (hp ad M hb hR)
theorem S_X11_buys_0 {E : EN} {X : CX} {P : Option Value → MH → Prop} {ad : AD} {fu : Nat} {out : Int32 × St} {b0 b1 : Nat} (hp : ∀ (ad : AD) (M : MH), ad 2100 0 = b0 ∧ ad 2200 0 = b1 → Rep E ad out.2 M → P (some (.int out.1)) M) {V : St} {M : MH} {x1 : Int32} {x2 : Int32} {x3 : Int32} (hb : ad 2100 0 = b0 ∧ ad 2200 0 = b1) (hR : Rep E ad V M) (h : f_X11_buys fu V x1 x2 x3 = some out) : G E X RX11 cX11_buys 9 (some .int) false (rmA 9 2 2004) P M [some (.ref (ad 2100 0)), some (.int (x1)), some (.int (x2)), some (.int (x3)), none, none, none, none, none] 0 0 0 [] := by
  unfold f_X11_buys at h
  have hk : 0 ≤ 2 ∧ 0 ≤ 2004 := ⟨Nat.zero_le _, Nat.zero_le _⟩
  refine r_aload_n DX11_buys_0 rfl ?_
  refine r_iload_n DX11_buys_1 rfl ?_
  obtain ⟨r1, V2, hc3, h⟩ := bd_inv h
  refine m_callV (As := [.int (x1)]) (rest := []) (st1 := [rfq ad 1800 (r1)]) (w := some (rfq ad 1800 r1)) DX11_buys_2 cv_X11_287 hR ct_2100 (one_cnt _) rfl (C_X11_findPerson (out := (r1, V2)) (cxL X) hR hc3) rfl (by decide) hk (by decide) rfl (Nat.le_of_ble_eq_true rfl) rfl (fun M hR => ?_)
  refine t_astore (L' := [some (.ref (ad 2100 0)), some (.int (x1)), some (.int (x2)), some (.int (x3)), some (rfq ad 1800 (r1)), none, none, none, none]) (rfq_or _ _ _) DX11_buys_5 (by decide) rfl ?_
  refine r_aload_n DX11_buys_7 rfl ?_
  refine r_iload_n DX11_buys_8 rfl ?_
  obtain ⟨r4, V5, hc6, h⟩ := bd_inv h
  refine m_callV (As := [.int (x2)]) (rest := []) (st1 := [rfq ad 2000 (r4)]) (w := some (rfq ad 2000 r4)) DX11_buys_9 cv_X11_242 hR ct_2100 (one_cnt _) rfl (C_X11_findThing (out := (r4, V5)) (cxL X) hR hc6) rfl (by decide) hk (by decide) rfl (Nat.le_of_ble_eq_true rfl) rfl (fun M hR => ?_)
  refine t_astore (L' := [some (.ref (ad 2100 0)), some (.int (x1)), some (.int (x2)), some (.int (x3)), some (rfq ad 1800 (r1)), some (rfq ad 2000 (r4)), none, none, none]) (rfq_or _ _ _) DX11_buys_12 (by decide) rfl ?_
  refine t_aload (rfq_or _ _ _) DX11_buys_14 rfl ?_
  refine q_ifnull DX11_buys_16 (fun c7 => ?_) (fun c7 => ?_)
  · have h := if_t c7 h
    exact S_X11_buys_37 hp hb hk hR h
  · have h := if_f c7 h
    refine t_aload (rfq_or _ _ _) DX11_buys_19 rfl ?_
    refine q_ifnull DX11_buys_21 (fun c8 => ?_) (fun c8 => ?_)
    · have h := if_t c8 h
      exact S_X11_buys_37 hp hb hk hR h
    · have h := if_f c8 h
      refine r_aload_n DX11_buys_24 rfl ?_
      refine s_geto DX11_buys_25 fl_X11_48 hR ct_2100 (one_cnt _) rfl ?_
      refine m_lsize (Li := 2112) (g := 1360) DX11_buys_28 cv_X11_89 hR (by decide) (by decide) hk (Nat.le_of_ble_eq_true rfl) ?_
      refine r_sipush (v := 512) DX11_buys_31 ks_512 ?_
      refine r_icmp_lt DX11_buys_34 (fun c9 => ?_) (fun c9 => ?_)
      · have h := if_t c9 h
        refine r_iload_n DX11_buys_39 rfl ?_
        refine r_if_eq DX11_buys_40 (fun c10 => ?_) (fun c10 => ?_)
        · have h := if_t c10 h
          refine r_iconst (v := 0) DX11_buys_47 ki_0 ?_
          exact S_X11_buys_48 hp hb hR h
        · have h := if_f c10 h
          refine r_iconst (v := 1) DX11_buys_43 ki_1 ?_
          refine r_goto DX11_buys_44 ?_
          exact S_X11_buys_48 hp hb hR h
      · have h := if_f c9 h
        exact S_X11_buys_37 hp hb hk hR h
theorem C_X11_buys {E : EN} {ad : AD} {fu : Nat} {out : Int32 × St} {V : St} {M : MH} {x1 : Int32} {x2 : Int32} {x3 : Int32} (l : Launch) (hR : Rep E ad V M) (h : f_X11_buys fu V x1 x2 x3 = some out) : Ct E l yX11_buys cX11_buys 9 (some .int) (rmA 9 2 2004) [.ref (ad 2100 0), .int (x1), .int (x2), .int (x3)] M (fun v M => v = (some (.int out.1)) ∧ ∃ ad' : AD, (ad' 2100 0 = ad 2100 0 ∧ ad' 2200 0 = ad 2200 0) ∧ Rep E ad' out.2 M) :=
  Ct.of (own := RX11) (ini := false) (L := [some (.ref (ad 2100 0)), some (.int (x1)), some (.int (x2)), some (.int (x3)), none, none, none, none, none]) rfl rfl (fun h => by cases h) rfl (Nat.le_of_ble_eq_true rfl) rfl (fun X _ => S_X11_buys_0 (fun ad' M hb hR => ⟨rfl, ad', hb, hR⟩) ⟨rfl, rfl⟩ hR h)
