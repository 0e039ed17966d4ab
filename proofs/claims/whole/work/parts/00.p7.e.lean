/-! holdsUp -/
theorem gT0_eq {t : Nat} (h : t < 3) : gT0 (nI t) = nI (tbo t) := by
  rcases (show t = 0 ∨ t = 1 ∨ t = 2 by omega) with rfl | rfl | rfl <;> rfl
theorem CutV.toS {V : St} {nD d c : Nat} {CS CN : Nat → Nat} (h : CutV V d c CS CN) (hd : d < nD) (h22 : nD ≤ 22) (hn : V 2104 0 0 = nI nD) : CutS V nD d c CS (fun e => 60 * nI (pcR (CS e) 31 0) - nI (CN e)) :=
  ⟨hd, h22, hn, h.1, h.2.1, fun k hk => ⟨(h.2.2 k hk).1, (h.2.2 k hk).2.2.1, (h.2.2 k hk).2.2.2.2⟩⟩
theorem CutsOK.bits {j s l c : Nat} {A B LJ LP CS CN : Nat → Nat} {t : Nat} (h : CutsOK j s l c A B LJ LP CS CN t) : ∀ e, e < c → ∀ i, s ≤ i → (CS e).testBit i = false := fun e he i hi => by
  obtain ⟨S, -, -, h3, -⟩ := h.1 e he
  have : ¬ i < s := by omega
  rw [h3, outF_bit]; simp [this]
theorem CutsOK.cn {j s l c : Nat} {A B LJ LP CS CN : Nat → Nat} {t : Nat} (h : CutsOK j s l c A B LJ LP CS CN t) (hp : ∀ q, q < l → LP q ≤ 500) : ∀ e, e < c → CN e ≤ 500 := fun e he => by
  obtain ⟨S, -, -, -, h4⟩ := h.1 e he
  rw [h4]; exact glF_le hp
theorem holdsUp_eq {fu nD d j s l : Nat} {V : St} {A B LJ LP T : Nat → Nat} (hfu : 1000 ≤ fu) (h : DrC V nD d j s l A B LJ LP) (hT : ∀ k, k < s → T k < 3 ∧ V 1204 d k = nI (T k)) : ∃ V1, Fr cws3 V V1 ∧ ((Bears s l A B LJ LP T ∧ f_X2_holdsUp fu V (nI d) = some (1, V1)) ∨ (¬ Bears s l A B LJ LP T ∧ f_X2_holdsUp fu V (nI d) = some (0, V1))) := by
  have hh := h
  obtain ⟨hd, h22, hn, h2, h8, hs8, hl8, e1, e2, e3, hst, hlo⟩ := h
  obtain ⟨V0, c, CS, CN, a1, a2, a3, a4⟩ := findCuts_eq (fu := fu) hfu hh
  have hbits := a4.bits
  have hcn := a4.cn (fun q hq => (hlo q hq).2.2.2.1)
  have hn0 : V0 2104 0 0 = nI nD := by rw [a2 2104 (by decide)]; exact hn
  have key : ∀ (r N i : Nat) (W : St), i + r = s → r < N → Fr cws3 V W → CutS W nD d c CS (fun e => 60 * nI (pcR (CS e) 31 0) - nI (CN e) - sm (fun k => if (CS e).testBit k = true then 60 - nI (tbo (T k)) else 0) i) → ∃ V1, Fr cws3 V V1 ∧ Lp_X2_holdsUp_6 (F_X2_holdsUp_41 fu) fu N W (nI d) (nI i) = F_X2_holdsUp_41 fu V1 (nI d) ∧ CutS V1 nD d c CS (fun e => 60 * nI (pcR (CS e) 31 0) - nI (CN e) - sm (fun k => if (CS e).testBit k = true then 60 - nI (tbo (T k)) else 0) s) := by
    intro r
    induction r with
    | zero =>
      intro N i W hi hN hF hC
      obtain ⟨N, rfl⟩ : ∃ N', N = N' + 1 := ⟨N - 1, by omega⟩
      have : i = s := by omega
      subst this
      have hct : cntV W 2104 = nD := cnt_n (by decide) (by omega) hC.2.2.1
      have w1 : W 1212 d 0 = nI i := by rw [hF 1212 (by decide)]; exact e2
      have hle : i ≤ i := Nat.le_refl i
      refine ⟨W, hF, ?_, hC⟩
      simp (disch := omega) only [Lp_X2_holdsUp_6, F_X2_holdsUp_6, hct, w1, hle, bd_some, n10, n00, bv_eq, within_eq, in_eq, gd_T, gd_t, i00, i10, c_0, c_1, c_m1, ite10, ite01, setV_fn, setV_at, cntS, nI_pos, nI_clamp, nI_leI, nI_ltI, nI_eq, nI_1, if_true, if_false, not_true, not_false, and_self, and_true, true_and, false_and, and_false, or_false, false_or, or_true, true_or, not_false_eq_true, ite_self, ite_true, ite_false, reduceIte, Nat.reduceEqDiff, Nat.reduceMul, Nat.reduceAdd, Nat.reduceLT, Nat.reducePow, ne_eq]
    | succ r ih =>
      intro N i W hi hN hF hC
      obtain ⟨N, rfl⟩ : ∃ N', N = N' + 1 := ⟨N - 1, by omega⟩
      have hct : cntV W 2104 = nD := cnt_n (by decide) (by omega) hC.2.2.1
      have w1 : W 1212 d 0 = nI s := by rw [hF 1212 (by decide)]; exact e2
      have hle : ¬ s ≤ i := by omega
      obtain ⟨t1, t2⟩ := hT i (by omega)
      have w2 : W 1204 d i = nI (T i) := by rw [hF 1204 (by decide)]; exact t2
      have g2 : gT0 2 = 60 := rfl
      have gi := gT0_eq t1
      obtain ⟨W1, b1, b2, b3⟩ := take_eq (fu := fu) (p := 60 - nI (tbo (T i))) hfu hC (show i < 8 by omega)
      have hF1 : Fr cws3 V W1 := hF.trans (b2.weak (by decide))
      have hC1 : CutS W1 nD d c CS (fun e => 60 * nI (pcR (CS e) 31 0) - nI (CN e) - sm (fun k => if (CS e).testBit k = true then 60 - nI (tbo (T k)) else 0) (i + 1)) := by
        have : (fun e => if (CS e).testBit i = true then 60 * nI (pcR (CS e) 31 0) - nI (CN e) - sm (fun k => if (CS e).testBit k = true then 60 - nI (tbo (T k)) else 0) i - (60 - nI (tbo (T i))) else 60 * nI (pcR (CS e) 31 0) - nI (CN e) - sm (fun k => if (CS e).testBit k = true then 60 - nI (tbo (T k)) else 0) i) = (fun e => 60 * nI (pcR (CS e) 31 0) - nI (CN e) - sm (fun k => if (CS e).testBit k = true then 60 - nI (tbo (T k)) else 0) (i + 1)) := by
          funext e
          rw [sm]
          by_cases z : (CS e).testBit i = true
          · simp only [z, if_true]; grind
          · simp only [z, Bool.false_eq_true, if_false]; grind
        rw [← this]; exact b3
      obtain ⟨V1, c1, c2, c3⟩ := ih N (i + 1) W1 (by omega) (by omega) hF1 hC1
      refine ⟨V1, c1, ?_, c3⟩
      rw [← c2]
      simp (disch := omega) only [Lp_X2_holdsUp_6, F_X2_holdsUp_6, hct, w1, hle, w2, g2, gi, c_2, p_2, b1, bd_some, n10, n00, bv_eq, within_eq, in_eq, gd_T, gd_t, i00, i10, c_0, c_1, c_m1, ite10, ite01, setV_fn, setV_at, cntS, nI_pos, nI_clamp, nI_leI, nI_ltI, nI_eq, nI_1, if_true, if_false, not_true, not_false, and_self, and_true, true_and, false_and, and_false, or_false, false_or, or_true, true_or, not_false_eq_true, ite_self, ite_true, ite_false, reduceIte, Nat.reduceEqDiff, Nat.reduceMul, Nat.reduceAdd, Nat.reduceLT, Nat.reducePow, ne_eq]
  have hC0 : CutS V0 nD d c CS (fun e => 60 * nI (pcR (CS e) 31 0) - nI (CN e) - sm (fun k => if (CS e).testBit k = true then 60 - nI (tbo (T k)) else 0) 0) := by
    have : (fun e => 60 * nI (pcR (CS e) 31 0) - nI (CN e) - sm (fun k => if (CS e).testBit k = true then 60 - nI (tbo (T k)) else 0) 0) = (fun e => 60 * nI (pcR (CS e) 31 0) - nI (CN e)) := by
      funext e
      show 60 * nI (pcR (CS e) 31 0) - nI (CN e) - 0 = _
      grind
    rw [this]; exact a3.toS hd h22 hn0
  obtain ⟨V1, c1, c2, c3⟩ := key s fu 0 V0 (by omega) (by omega) a2 hC0
  rw [nI_0] at c2
  have hct : cntV V 2104 = nD := cnt_n (by decide) (by omega) hn
  have hct1 : cntV V1 2104 = nD := cnt_n (by decide) (by omega) c3.2.2.1
  have hun : f_X2_holdsUp fu V (nI d) = F_X2_holdsUp_41 fu V1 (nI d) := by
    rw [← c2]
    simp (disch := omega) only [f_X2_holdsUp, hct, a1, bd_some, n10, n00, bv_eq, within_eq, in_eq, gd_T, gd_t, i00, i10, c_0, c_1, c_m1, ite10, ite01, setV_fn, setV_at, cntS, nI_pos, nI_clamp, nI_leI, nI_ltI, nI_eq, nI_1, if_true, if_false, not_true, not_false, and_self, and_true, true_and, false_and, and_false, or_false, false_or, or_true, true_or, not_false_eq_true, ite_self, ite_true, ite_false, reduceIte, Nat.reduceEqDiff, Nat.reduceMul, Nat.reduceAdd, Nat.reduceLT, Nat.reducePow, ne_eq]
  have hsp : ∀ e, e < c → (0 ≤ 60 * nI (pcR (CS e) 31 0) - nI (CN e) - sm (fun k => if (CS e).testBit k = true then 60 - nI (tbo (T k)) else 0) s ↔ CN e ≤ capM (CS e) T s) := fun e he => by
    rw [spare_end hs8 (hbits e he)]
    have q1 := hcn e he
    have q2 := capM_le (m := CS e) (c := T) s
    have z := pk_sub_toInt (a := capM (CS e) T s) (b := CN e) (by omega) (by omega)
    rw [Int32.le_iff_toInt_le, z, show (0 : Int32).toInt = 0 by decide]
    omega
  have hB := cuts_bears (T := T) a4 (fun k hk => ⟨(hst k hk).1, (hst k hk).2.1⟩) (fun q hq => ⟨(hlo q hq).2.1, (hlo q hq).2.2.1⟩)
  refine ⟨V1, c1, ?_⟩
  rcases sound_eq (fu := fu) hfu c3 with ⟨s1, s2⟩ | ⟨s1, e, s2, s3⟩
  · refine .inl ⟨hB.mp (fun e he => (hsp e he).mp (s2 e he)), ?_⟩
    rw [hun]
    simp (disch := omega) only [F_X2_holdsUp_41, hct1, s1, bd_some, n10, n00, bv_eq, within_eq, in_eq, gd_T, gd_t, i00, i10, c_0, c_1, c_m1, ite10, ite01, setV_fn, setV_at, cntS, nI_pos, nI_clamp, nI_leI, nI_ltI, nI_eq, nI_1, if_true, if_false, not_true, not_false, and_self, and_true, true_and, false_and, and_false, or_false, false_or, or_true, true_or, not_false_eq_true, ite_self, ite_true, ite_false, reduceIte, Nat.reduceEqDiff, Nat.reduceMul, Nat.reduceAdd, Nat.reduceLT, Nat.reducePow, ne_eq]
  · refine .inr ⟨fun hb => s3 ((hsp e s2).mpr (hB.mpr hb e s2)), ?_⟩
    rw [hun]
    simp (disch := omega) only [F_X2_holdsUp_41, hct1, s1, bd_some, n10, n00, bv_eq, within_eq, in_eq, gd_T, gd_t, i00, i10, c_0, c_1, c_m1, ite10, ite01, setV_fn, setV_at, cntS, nI_pos, nI_clamp, nI_leI, nI_ltI, nI_eq, nI_1, if_true, if_false, not_true, not_false, and_self, and_true, true_and, false_and, and_false, or_false, false_or, or_true, true_or, not_false_eq_true, ite_self, ite_true, ite_false, reduceIte, Nat.reduceEqDiff, Nat.reduceMul, Nat.reduceAdd, Nat.reduceLT, Nat.reducePow, ne_eq]
