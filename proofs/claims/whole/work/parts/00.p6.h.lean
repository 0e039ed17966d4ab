/-! buys: all cases; maker -/
theorem P_buys {fu k : Nat} {V : St} (hfu : 1000 ≤ fu) (hk : k < 512) (hI : Inv k V) (o x b : Int32) (hb : b = 0 ∨ b = 1) : Step k (fun V => f_X11_buys fu V o x b) (fun V => f_X12_buys fu V o x b) V := by
  have hI' := hI
  obtain ⟨nC, nD, nT, nM, nP, nK, nS, nR, nL, nO, hL, hmi, hta, hcl, hdr, hth, hla, hma, hor, hpe, hdo, hse, hru, hmk⟩ := hI
  have h30 := hth.1
  have h40 := hpe.1
  rcases ix_or o (show nP < 2 ^ 31 by omega) with hv | ⟨o, ho, rfl⟩
  · obtain ⟨rT, eT, -⟩ := findThing_gen (fu := fu) (V := V) x hth.2.1 (by omega)
    refine Step.same (r := -1) ?_ ?_ hI'
    · simp only [f_X11_buys, F_X11_buys_37, findPerson_no hpe.2.1 (show nP ≤ 1000 by omega) hv, eT, bd_some, n10, n00, bv_eq, within_eq, in_eq, gd_T, gd_t, i00, i10, c_0, c_1, c_m1, ite10, ite01, setV_fn, setV_at, cntS, nI_pos, nI_clamp, nI_leI, nI_ltI, nI_eq, nI_1, if_true, if_false, not_true, not_false, and_self, and_true, true_and, false_and, and_false, or_false, false_or, or_true, true_or, not_false_eq_true, ite_self, ite_true, ite_false, reduceIte, Nat.reduceEqDiff, Nat.reduceMul, Nat.reduceAdd, Nat.reduceLT, Nat.reducePow, ne_eq]
    · simp only [f_X12_buys, F_X12_buys_16, isPerson_no hpe.2.2.1 hv, bd_some, n10, n00, bv_eq, within_eq, in_eq, gd_T, gd_t, i00, i10, c_0, c_1, c_m1, ite10, ite01, setV_fn, setV_at, cntS, nI_pos, nI_clamp, nI_leI, nI_ltI, nI_eq, nI_1, if_true, if_false, not_true, not_false, and_self, and_true, true_and, false_and, and_false, or_false, false_or, or_true, true_or, not_false_eq_true, ite_self, ite_true, ite_false, reduceIte, Nat.reduceEqDiff, Nat.reduceMul, Nat.reduceAdd, Nat.reduceLT, Nat.reducePow, ne_eq]
  rcases ix_or x (show nT < 2 ^ 31 by omega) with hv | ⟨x, hx, rfl⟩
  · refine Step.same (r := -1) ?_ ?_ hI'
    · simp (disch := omega) only [f_X11_buys, F_X11_buys_37, findThing_no hth.2.1 (show nT ≤ 1000 by omega) hv, findPerson_ok hpe.2.1 (show nP ≤ 1000 by omega) ho, bd_some, n10, n00, bv_eq, within_eq, in_eq, gd_T, gd_t, i00, i10, c_0, c_1, c_m1, ite10, ite01, setV_fn, setV_at, cntS, nI_pos, nI_clamp, nI_leI, nI_ltI, nI_eq, nI_1, if_true, if_false, not_true, not_false, and_self, and_true, true_and, false_and, and_false, or_false, false_or, or_true, true_or, not_false_eq_true, ite_self, ite_true, ite_false, reduceIte, Nat.reduceEqDiff, Nat.reduceMul, Nat.reduceAdd, Nat.reduceLT, Nat.reducePow, ne_eq]
    · simp (disch := omega) only [f_X12_buys, F_X12_buys_16, isThing_no hth.2.2.1 hv, isPerson_ok hpe.2.2.1 (show nP ≤ 1000 by omega) ho, bd_some, n10, n00, bv_eq, within_eq, in_eq, gd_T, gd_t, i00, i10, c_0, c_1, c_m1, ite10, ite01, setV_fn, setV_at, cntS, nI_pos, nI_clamp, nI_leI, nI_ltI, nI_eq, nI_1, if_true, if_false, not_true, not_false, and_self, and_true, true_and, false_and, and_false, or_false, false_or, or_true, true_or, not_false_eq_true, ite_self, ite_true, ite_false, reduceIte, Nat.reduceEqDiff, Nat.reduceMul, Nat.reduceAdd, Nat.reduceLT, Nat.reducePow, ne_eq]
  rcases hb with rfl | rfl
  · exact buys_0 hfu hk hI' hL hmi hta hcl hdr hth hla hma hor hpe hdo hse hru hmk ho hx
  · exact buys_1 hfu hk hI' hL hmi hta hcl hdr hth hla hma hor hpe hdo hse hru hmk ho hx
/-- where a maker of this rate goes -/
theorem lp_place {fu n : Nat} {V : St} {rate : Int32} {R : Nat → Nat} {kx : St → Int32 → Int32 → RR} (h12 : n ≤ 11) (hc : cntV V 2106 = n + 1) (hR : ∀ i, i < n → R i < n) (hv : ∀ i, i < n → V 2107 0 i = nI (R i)) : ∀ (N i : Nat), i ≤ n → n < i + N → (∀ q, q < i → rate ≤ V 1604 (R q) 0) → ∃ pl, pl ≤ n ∧ Lp_X11_putByRate_2 kx fu N V (nI n) rate (nI i) = kx V (nI n) (nI pl) ∧ (∀ q, q < pl → rate ≤ V 1604 (R q) 0) ∧ (pl < n → V 1604 (R pl) 0 < rate) := by
  intro N
  induction N with
  | zero => intro i h0 h; omega
  | succ N ih =>
    intro i h0 h hq
    by_cases hi : n ≤ i
    · have : i = n := by omega
      subst this
      have hle : i ≤ i := Nat.le_refl i
      refine ⟨i, hle, ?_, hq, fun z => by omega⟩
      simp (disch := omega) only [Lp_X11_putByRate_2, F_X11_putByRate_2, hle, bd_some, n10, n00, bv_eq, within_eq, in_eq, gd_T, gd_t, i00, i10, c_0, c_1, c_m1, ite10, ite01, setV_fn, setV_at, cntS, nI_pos, nI_clamp, nI_leI, nI_ltI, nI_eq, nI_1, if_true, if_false, not_true, not_false, and_self, and_true, true_and, false_and, and_false, or_false, false_or, or_true, true_or, not_false_eq_true, ite_self, ite_true, ite_false, reduceIte, Nat.reduceEqDiff, Nat.reduceMul, Nat.reduceAdd, Nat.reduceLT, Nat.reducePow, ne_eq]
    · have hvi := hv i (by omega)
      have hri := hR i (by omega)
      by_cases hz : V 1604 (R i) 0 < rate
      · refine ⟨i, h0, ?_, hq, fun _ => hz⟩
        simp (disch := omega) only [Lp_X11_putByRate_2, F_X11_putByRate_2, hi, hvi, hc, hz, bd_some, n10, n00, bv_eq, within_eq, in_eq, gd_T, gd_t, i00, i10, c_0, c_1, c_m1, ite10, ite01, setV_fn, setV_at, cntS, nI_pos, nI_clamp, nI_leI, nI_ltI, nI_eq, nI_1, if_true, if_false, not_true, not_false, and_self, and_true, true_and, false_and, and_false, or_false, false_or, or_true, true_or, not_false_eq_true, ite_self, ite_true, ite_false, reduceIte, Nat.reduceEqDiff, Nat.reduceMul, Nat.reduceAdd, Nat.reduceLT, Nat.reducePow, ne_eq]
      · obtain ⟨pl, a1, a2, a3, a4⟩ := ih (i + 1) (by omega) (by omega) (fun q hq2 => by
          by_cases e : q = i
          · subst e; grind
          · exact hq q (by omega))
        refine ⟨pl, a1, ?_, a3, a4⟩
        rw [← a2]
        simp (disch := omega) only [Lp_X11_putByRate_2, F_X11_putByRate_2, hi, hvi, hc, hz, bd_some, n10, n00, bv_eq, within_eq, in_eq, gd_T, gd_t, i00, i10, c_0, c_1, c_m1, ite10, ite01, setV_fn, setV_at, cntS, nI_pos, nI_clamp, nI_leI, nI_ltI, nI_eq, nI_1, if_true, if_false, not_true, not_false, and_self, and_true, true_and, false_and, and_false, or_false, false_or, or_true, true_or, not_false_eq_true, ite_self, ite_true, ite_false, reduceIte, Nat.reduceEqDiff, Nat.reduceMul, Nat.reduceAdd, Nat.reduceLT, Nat.reducePow, ne_eq]
theorem lp_shift {fu n pl : Nat} {kx : St → Int32 → Int32 → RR} (h12 : n ≤ 11) (hpl : pl ≤ n) : ∀ (r N i : Nat) (V : St), i = pl + r → i ≤ n → r < N → ∃ V1, Lp_X11_putByRate_39 kx fu N V (nI n) (nI pl) (nI i) = kx V1 (nI n) (nI pl) ∧ Fr [2107] V V1 ∧ ∀ q, V1 2107 0 q = if pl < q ∧ q ≤ i then V 2107 0 (q - 1) else V 2107 0 q := by
  intro r
  induction r with
  | zero =>
    intro N i V hi hn hN
    obtain ⟨N, rfl⟩ : ∃ N', N = N' + 1 := ⟨N - 1, by omega⟩
    have hle : i ≤ pl := by omega
    refine ⟨V, ?_, Fr.refl _ V, fun q => by rw [if_neg (by omega)]⟩
    simp (disch := omega) only [Lp_X11_putByRate_39, F_X11_putByRate_39, hle, bd_some, n10, n00, bv_eq, within_eq, in_eq, gd_T, gd_t, i00, i10, c_0, c_1, c_m1, ite10, ite01, setV_fn, setV_at, cntS, nI_pos, nI_clamp, nI_leI, nI_ltI, nI_eq, nI_1, if_true, if_false, not_true, not_false, and_self, and_true, true_and, false_and, and_false, or_false, false_or, or_true, true_or, not_false_eq_true, ite_self, ite_true, ite_false, reduceIte, Nat.reduceEqDiff, Nat.reduceMul, Nat.reduceAdd, Nat.reduceLT, Nat.reducePow, ne_eq]
  | succ r ih =>
    intro N i V hi hn hN
    obtain ⟨N, rfl⟩ : ∃ N', N = N' + 1 := ⟨N - 1, by omega⟩
    obtain ⟨i, rfl⟩ : ∃ i', i = i' + 1 := ⟨i - 1, by omega⟩
    have hle : ¬ i + 1 ≤ pl := by omega
    have e1 : nI (i + 1) - 1 = nI i := nI_pred i
    have e2 : nI (i + 1) + (-1) = nI i := by rw [← e1]; grind
    obtain ⟨V1, a1, a2, a3⟩ := ih N i (setV V 2107 0 (i + 1) (V 2107 0 i)) (by omega) (by omega) (by omega)
    refine ⟨V1, ?_, (show Fr [2107] V (setV V 2107 0 (i + 1) (V 2107 0 i)) from (Fr.refl _ V).set (by decide)).trans a2, fun q => ?_⟩
    · rw [← a1]
      simp (disch := omega) only [Lp_X11_putByRate_39, F_X11_putByRate_39, hle, e1, e2, bd_some, n10, n00, bv_eq, within_eq, in_eq, gd_T, gd_t, i00, i10, c_0, c_1, c_m1, ite10, ite01, setV_fn, setV_at, cntS, nI_pos, nI_clamp, nI_leI, nI_ltI, nI_eq, nI_1, if_true, if_false, not_true, not_false, and_self, and_true, true_and, false_and, and_false, or_false, false_or, or_true, true_or, not_false_eq_true, ite_self, ite_true, ite_false, reduceIte, Nat.reduceEqDiff, Nat.reduceMul, Nat.reduceAdd, Nat.reduceLT, Nat.reducePow, ne_eq]
    · rw [a3 q, setV_at, setV_at]
      by_cases c1 : pl < q ∧ q ≤ i
      · rw [if_pos c1, if_neg (by omega), if_pos (by omega)]
      · rw [if_neg c1]
        by_cases c2 : q = i + 1
        · rw [if_pos ⟨rfl, c2⟩, if_pos (by omega), c2]; rfl
        · rw [if_neg (fun z => c2 z.2), if_neg (by omega)]
theorem putByRate_eq {fu n : Nat} {V : St} {rate : Int32} {R : Nat → Nat} (hfu : 1000 ≤ fu) (h12 : n ≤ 11) (hc : cntV V 2106 = n + 1) (hR : ∀ i, i < n → R i < n) (hv : ∀ i, i < n → V 2107 0 i = nI (R i)) : ∃ pl V1, pl ≤ n ∧ f_X11_putByRate fu V (nI n) rate = some (0, V1) ∧ Fr [2107] V V1 ∧ (∀ q, V1 2107 0 q = if q = pl then nI n else if pl < q ∧ q ≤ n then V 2107 0 (q - 1) else V 2107 0 q) ∧ (∀ q, q < pl → rate ≤ V 1604 (R q) 0) ∧ (pl < n → V 1604 (R pl) 0 < rate) := by
  obtain ⟨pl, a1, a2, a3, a4⟩ := lp_place (fu := fu) (rate := rate) (kx := F_X11_putByRate_36 fu) h12 hc hR hv fu 0 (by omega) (by omega) (fun q hq => by omega)
  obtain ⟨V1, b1, b2, b3⟩ := lp_shift (fu := fu) (kx := F_X11_putByRate_67 fu) h12 a1 (n - pl) fu n V (by omega) (by omega) (by omega)
  refine ⟨pl, setV V1 2107 0 pl (nI n), a1, ?_, b2.set (by decide), fun q => ?_, a3, a4⟩
  · unfold f_X11_putByRate
    rw [← nI_0, a2, F_X11_putByRate_36, b1]
    simp (disch := omega) only [F_X11_putByRate_67, bd_some, n10, n00, bv_eq, within_eq, in_eq, gd_T, gd_t, i00, i10, c_0, c_1, c_m1, ite10, ite01, setV_fn, setV_at, cntS, nI_pos, nI_clamp, nI_leI, nI_ltI, nI_eq, nI_1, if_true, if_false, not_true, not_false, and_self, and_true, true_and, false_and, and_false, or_false, false_or, or_true, true_or, not_false_eq_true, ite_self, ite_true, ite_false, reduceIte, Nat.reduceEqDiff, Nat.reduceMul, Nat.reduceAdd, Nat.reduceLT, Nat.reducePow, ne_eq]
    rfl
  · rw [setV_at, b3 q]
    by_cases c : q = pl
    · rw [if_pos ⟨rfl, c⟩, if_pos c]
    · rw [if_neg (fun z => c z.2), if_neg c]
theorem P_maker {fu k : Nat} {V : St} (hfu : 1000 ≤ fu) (hI : Inv k V) (a b c d e : Int32) : Step k (fun V => f_X11_maker fu V a b c d e) (fun V => f_X12_maker fu V a b c d e) V := by
  have hI' := hI
  obtain ⟨nC, nD, nT, nM, nP, nK, nS, nR, nL, nO, hL, hmi, hta, hcl, hdr, hth, hla, hma, hor, hpe, hdo, hse, hru, hmk⟩ := hI
  have hma' := hma
  obtain ⟨h12, hn1, hn2, hfr, hfr2, hx, R, hR1, hR2, hR3⟩ := hma
  rcases (Decidable.em (0 ≤ a ∧ a ≤ 7)).symm with h0 | h0
  · refine Step.same (r := -1) ?_ ?_ hI'
    · simp only [f_X11_maker, F_X11_maker_32, F_X11_maker_69, h0, bd_some, n10, n00, bv_eq, within_eq, in_eq, gd_T, gd_t, i00, i10, c_0, c_1, c_m1, ite10, ite01, setV_fn, setV_at, cntS, nI_pos, nI_clamp, nI_leI, nI_ltI, nI_eq, nI_1, if_true, if_false, not_true, not_false, and_self, and_true, true_and, false_and, and_false, or_false, false_or, or_true, true_or, not_false_eq_true, ite_self, ite_true, ite_false, reduceIte, Nat.reduceEqDiff, Nat.reduceMul, Nat.reduceAdd, Nat.reduceLT, Nat.reducePow, ne_eq]
    · simp only [f_X12_maker, F_X12_maker_64, h0, bd_some, n10, n00, bv_eq, within_eq, in_eq, gd_T, gd_t, i00, i10, c_0, c_1, c_m1, ite10, ite01, setV_fn, setV_at, cntS, nI_pos, nI_clamp, nI_leI, nI_ltI, nI_eq, nI_1, if_true, if_false, not_true, not_false, and_self, and_true, true_and, false_and, and_false, or_false, false_or, or_true, true_or, not_false_eq_true, ite_self, ite_true, ite_false, reduceIte, Nat.reduceEqDiff, Nat.reduceMul, Nat.reduceAdd, Nat.reduceLT, Nat.reducePow, ne_eq]
  rcases (Decidable.em (1 ≤ b ∧ b ≤ 10000)).symm with h1 | h1
  · refine Step.same (r := -1) ?_ ?_ hI'
    · simp only [f_X11_maker, F_X11_maker_32, F_X11_maker_69, h0, h1, bd_some, n10, n00, bv_eq, within_eq, in_eq, gd_T, gd_t, i00, i10, c_0, c_1, c_m1, ite10, ite01, setV_fn, setV_at, cntS, nI_pos, nI_clamp, nI_leI, nI_ltI, nI_eq, nI_1, if_true, if_false, not_true, not_false, and_self, and_true, true_and, false_and, and_false, or_false, false_or, or_true, true_or, not_false_eq_true, ite_self, ite_true, ite_false, reduceIte, Nat.reduceEqDiff, Nat.reduceMul, Nat.reduceAdd, Nat.reduceLT, Nat.reducePow, ne_eq]
    · simp only [f_X12_maker, F_X12_maker_64, h0, h1, bd_some, n10, n00, bv_eq, within_eq, in_eq, gd_T, gd_t, i00, i10, c_0, c_1, c_m1, ite10, ite01, setV_fn, setV_at, cntS, nI_pos, nI_clamp, nI_leI, nI_ltI, nI_eq, nI_1, if_true, if_false, not_true, not_false, and_self, and_true, true_and, false_and, and_false, or_false, false_or, or_true, true_or, not_false_eq_true, ite_self, ite_true, ite_false, reduceIte, Nat.reduceEqDiff, Nat.reduceMul, Nat.reduceAdd, Nat.reduceLT, Nat.reducePow, ne_eq]
  rcases (Decidable.em (0 ≤ c ∧ c ≤ 1000)).symm with h2 | h2
  · refine Step.same (r := -1) ?_ ?_ hI'
    · simp only [f_X11_maker, F_X11_maker_32, F_X11_maker_69, h0, h1, h2, bd_some, n10, n00, bv_eq, within_eq, in_eq, gd_T, gd_t, i00, i10, c_0, c_1, c_m1, ite10, ite01, setV_fn, setV_at, cntS, nI_pos, nI_clamp, nI_leI, nI_ltI, nI_eq, nI_1, if_true, if_false, not_true, not_false, and_self, and_true, true_and, false_and, and_false, or_false, false_or, or_true, true_or, not_false_eq_true, ite_self, ite_true, ite_false, reduceIte, Nat.reduceEqDiff, Nat.reduceMul, Nat.reduceAdd, Nat.reduceLT, Nat.reducePow, ne_eq]
    · simp only [f_X12_maker, F_X12_maker_64, h0, h1, h2, bd_some, n10, n00, bv_eq, within_eq, in_eq, gd_T, gd_t, i00, i10, c_0, c_1, c_m1, ite10, ite01, setV_fn, setV_at, cntS, nI_pos, nI_clamp, nI_leI, nI_ltI, nI_eq, nI_1, if_true, if_false, not_true, not_false, and_self, and_true, true_and, false_and, and_false, or_false, false_or, or_true, true_or, not_false_eq_true, ite_self, ite_true, ite_false, reduceIte, Nat.reduceEqDiff, Nat.reduceMul, Nat.reduceAdd, Nat.reduceLT, Nat.reducePow, ne_eq]
  rcases (Decidable.em (1 ≤ d ∧ d ≤ 100)).symm with h3 | h3
  · refine Step.same (r := -1) ?_ ?_ hI'
    · simp only [f_X11_maker, F_X11_maker_32, F_X11_maker_69, h0, h1, h2, h3, bd_some, n10, n00, bv_eq, within_eq, in_eq, gd_T, gd_t, i00, i10, c_0, c_1, c_m1, ite10, ite01, setV_fn, setV_at, cntS, nI_pos, nI_clamp, nI_leI, nI_ltI, nI_eq, nI_1, if_true, if_false, not_true, not_false, and_self, and_true, true_and, false_and, and_false, or_false, false_or, or_true, true_or, not_false_eq_true, ite_self, ite_true, ite_false, reduceIte, Nat.reduceEqDiff, Nat.reduceMul, Nat.reduceAdd, Nat.reduceLT, Nat.reducePow, ne_eq]
    · simp only [f_X12_maker, F_X12_maker_64, h0, h1, h2, h3, bd_some, n10, n00, bv_eq, within_eq, in_eq, gd_T, gd_t, i00, i10, c_0, c_1, c_m1, ite10, ite01, setV_fn, setV_at, cntS, nI_pos, nI_clamp, nI_leI, nI_ltI, nI_eq, nI_1, if_true, if_false, not_true, not_false, and_self, and_true, true_and, false_and, and_false, or_false, false_or, or_true, true_or, not_false_eq_true, ite_self, ite_true, ite_false, reduceIte, Nat.reduceEqDiff, Nat.reduceMul, Nat.reduceAdd, Nat.reduceLT, Nat.reducePow, ne_eq]
  rcases (Decidable.em (0 ≤ e ∧ e ≤ 10000)).symm with h4 | h4
  · refine Step.same (r := -1) ?_ ?_ hI'
    · simp only [f_X11_maker, F_X11_maker_32, F_X11_maker_69, h0, h1, h2, h3, h4, bd_some, n10, n00, bv_eq, within_eq, in_eq, gd_T, gd_t, i00, i10, c_0, c_1, c_m1, ite10, ite01, setV_fn, setV_at, cntS, nI_pos, nI_clamp, nI_leI, nI_ltI, nI_eq, nI_1, if_true, if_false, not_true, not_false, and_self, and_true, true_and, false_and, and_false, or_false, false_or, or_true, true_or, not_false_eq_true, ite_self, ite_true, ite_false, reduceIte, Nat.reduceEqDiff, Nat.reduceMul, Nat.reduceAdd, Nat.reduceLT, Nat.reducePow, ne_eq]
    · simp only [f_X12_maker, F_X12_maker_64, h0, h1, h2, h3, h4, bd_some, n10, n00, bv_eq, within_eq, in_eq, gd_T, gd_t, i00, i10, c_0, c_1, c_m1, ite10, ite01, setV_fn, setV_at, cntS, nI_pos, nI_clamp, nI_leI, nI_ltI, nI_eq, nI_1, if_true, if_false, not_true, not_false, and_self, and_true, true_and, false_and, and_false, or_false, false_or, or_true, true_or, not_false_eq_true, ite_self, ite_true, ite_false, reduceIte, Nat.reduceEqDiff, Nat.reduceMul, Nat.reduceAdd, Nat.reduceLT, Nat.reducePow, ne_eq]
  by_cases hmx : nM = 12
  · have e1 : ¬ nI nM < 12 := by rw [hmx]; decide
    have e2 : nI nM = 12 := by rw [hmx]; decide
    refine Step.same (r := -1) ?_ ?_ hI'
    · simp only [f_X11_maker, F_X11_maker_32, F_X11_maker_69, h0, h1, h2, h3, h4, hn1, e1, bd_some, n10, n00, bv_eq, within_eq, in_eq, gd_T, gd_t, i00, i10, c_0, c_1, c_m1, ite10, ite01, setV_fn, setV_at, cntS, nI_pos, nI_clamp, nI_leI, nI_ltI, nI_eq, nI_1, if_true, if_false, not_true, not_false, and_self, and_true, true_and, false_and, and_false, or_false, false_or, or_true, true_or, not_false_eq_true, ite_self, ite_true, ite_false, reduceIte, Nat.reduceEqDiff, Nat.reduceMul, Nat.reduceAdd, Nat.reduceLT, Nat.reducePow, ne_eq]
    · simp only [f_X12_maker, F_X12_maker_64, h0, h1, h2, h3, h4, hn2, e2, bd_some, n10, n00, bv_eq, within_eq, in_eq, gd_T, gd_t, i00, i10, c_0, c_1, c_m1, ite10, ite01, setV_fn, setV_at, cntS, nI_pos, nI_clamp, nI_leI, nI_ltI, nI_eq, nI_1, if_true, if_false, not_true, not_false, and_self, and_true, true_and, false_and, and_false, or_false, false_or, or_true, true_or, not_false_eq_true, ite_self, ite_true, ite_false, reduceIte, Nat.reduceEqDiff, Nat.reduceMul, Nat.reduceAdd, Nat.reduceLT, Nat.reducePow, ne_eq]
  have e1 : nI nM < 12 := nI_lt (b := 12) (by omega) (by decide)
  have e2 : ¬ nI nM = 12 := fun q => hmx ((nI_eq (b := 12) (by omega) (by decide)).mp q)
  have hok := mkOK_I hcl hth hla hn1 (by omega)
  have hc1 : cntV (mkV V 2106 nM gv_1600 (F_1600 a b c d e)) 2106 = nM + 1 := cnt_n (by decide) (by omega) (mkV_cnt _ _ _ _ _)
  have hold : ∀ v, v ∈ gv_1600 → ∀ m, m < nM → (mkV V 2106 nM gv_1600 (F_1600 a b c d e)) v m = V v m := fun v hv m hm => by
    funext q; rw [mkV_at (by intro z; subst z; revert hv; decide) hv, if_neg (by omega)]
  have h2107 : (mkV V 2106 nM gv_1600 (F_1600 a b c d e)) 2107 = V 2107 := mkV_fn (by decide) (by decide)
  obtain ⟨pl, W, p1, p2, p3, p4, p5, p6⟩ := putByRate_eq (fu := fu) (n := nM) (V := mkV V 2106 nM gv_1600 (F_1600 a b c d e)) (rate := d) (R := R) hfu (by omega) hc1 hR1.1 (fun i hi => by rw [h2107]; exact hR2 i hi)
  have hFm : Fr [2106, 2107, 1601, 1602, 1603, 1604, 1605, 1606, 1607, 1608] V W := ((Fr.refl _ V).mk (by decide) (by decide)).trans (p3.weak (by decide))
  have hF : Fr [2106, 2107, 1601, 1602, 1603, 1604, 1605, 1606, 1607, 1608, 2233, 2234, 2235, 2236, 2237, 2232] V (setV (setV (setV (setV (setV (setV (W) 2233 0 nM a) 2234 0 nM b) 2235 0 nM c) 2236 0 nM d) 2237 0 nM e) 2232 0 0 (nI (nM + 1))) := ((((((hFm.weak (by decide)).set (by decide)).set (by decide)).set (by decide)).set (by decide)).set (by decide)).set (by decide)
  have hr : ∀ m, m < nM → V 1604 m 0 = V 2236 0 m := fun m hm => (hx m hm).2.2.2.2.2.1
  have w2106 : W 2106 0 0 = nI (nM + 1) := by rw [p3 2106 (by decide), mkV_cnt]
  have w2232 : W 2232 0 0 = nI nM := by rw [hFm 2232 (by decide)]; exact hn2
  refine ⟨nI nM, W, setV (setV (setV (setV (setV (setV (W) 2233 0 nM a) 2234 0 nM b) 2235 0 nM c) 2236 0 nM d) 2237 0 nM e) 2232 0 0 (nI (nM + 1)), ?_, ?_, ?_⟩
  · simp (disch := omega) only [f_X11_maker, hn1, h0, h1, h2, h3, h4, e1, hok, mkV_cnt, nI_pred, p2, w2106, bd_some, n10, n00, bv_eq, within_eq, in_eq, gd_T, gd_t, i00, i10, c_0, c_1, c_m1, ite10, ite01, setV_fn, setV_at, cntS, nI_pos, nI_clamp, nI_leI, nI_ltI, nI_eq, nI_1, if_true, if_false, not_true, not_false, and_self, and_true, true_and, false_and, and_false, or_false, false_or, or_true, true_or, not_false_eq_true, ite_self, ite_true, ite_false, reduceIte, Nat.reduceEqDiff, Nat.reduceMul, Nat.reduceAdd, Nat.reduceLT, Nat.reducePow, ne_eq]
  · simp (disch := omega) only [f_X12_maker, F_X12_maker_64, w2232, h0, h1, h2, h3, h4, e2, nI_pred, bd_some, n10, n00, bv_eq, within_eq, in_eq, gd_T, gd_t, i00, i10, c_0, c_1, c_m1, ite10, ite01, setV_fn, setV_at, cntS, nI_pos, nI_clamp, nI_leI, nI_ltI, nI_eq, nI_1, if_true, if_false, not_true, not_false, and_self, and_true, true_and, false_and, and_false, or_false, false_or, or_true, true_or, not_false_eq_true, ite_self, ite_true, ite_false, reduceIte, Nat.reduceEqDiff, Nat.reduceMul, Nat.reduceAdd, Nat.reduceLT, Nat.reducePow, ne_eq]
  · refine ⟨nC, nD, nT, nM + 1, nP, nK, nS, nR, nL, nO, by omega, hmi.fr hF rfl, hta.fr hF rfl, hcl.fr hF rfl, hdr.fr hF rfl, hth.fr hF rfl, hla.fr hF rfl, ?_, hor.fr hF rfl, hpe.fr hF rfl, hdo.fr hF rfl, hse.fr hF rfl, hru.fr hF rfl, (hmk.fr hF rfl).mono (by omega) (by omega)⟩
    have hW : ∀ v, v ≠ 2107 → W v = (mkV V 2106 nM gv_1600 (F_1600 a b c d e)) v := fun v hv => p3 v (by intro q; rw [List.mem_singleton] at q; exact hv q)
    have hrt : ∀ q, (setV (setV (setV (setV (setV (setV (W) 2233 0 nM a) 2234 0 nM b) 2235 0 nM c) 2236 0 nM d) 2237 0 nM e) 2232 0 0 (nI (nM + 1))) 2236 0 q = if q = nM then d else V 2236 0 q := fun q => by
      simp (disch := omega) only [setV_fn, setV_at]; rw [hFm 2236 (by decide)]; simp
    refine ⟨by omega, by simp (disch := omega) only [setV_fn]; exact w2106, by simp (disch := omega) only [setV_at, and_self, if_true], fun m hm => ?_, fun j hj => ?_, fun m hm => ?_, fun q => if q = pl then nM else if pl < q then R (q - 1) else R q, ⟨fun i hi => ?_, fun i j hi hj hij => ?_⟩, fun i hi => ?_, fun i j hij hj => ?_⟩
    · rw [hF 2239 (by decide), hF 2240 (by decide)]; exact hfr m (by omega)
    · rw [hF 2238 (by decide)]; exact hfr2 j (by omega)
    · by_cases hmn : m = nM
      · subst hmn
        have f := hfr m (by omega)
        have g : ∀ q, q < 20 → V 2238 0 (20 * m + q) = 0 := fun q _ => hfr2 _ (by omega)
        unfold MakV
        simp (disch := omega) only [setV_fn, setV_at, and_self, if_true]
        rw [hW 1601 (by decide), hW 1602 (by decide), hW 1603 (by decide), hW 1604 (by decide), hW 1605 (by decide), hW 1606 (by decide), hW 1607 (by decide), hW 1608 (by decide), hFm 2238 (by decide), hFm 2239 (by decide), hFm 2240 (by decide), f.1, f.2]
        simp (disch := first | omega | decide) only [mkV_at, if_true, F_1600, Nat.reduceEqDiff, if_false]
        exact ⟨trivial, trivial, h1.1, h1.2, trivial, trivial, h3.1, h3.2, trivial, fun q hq => (g q hq).symm, trivial, trivial, .inl trivial⟩
      · have hm2 : m < nM := by omega
        refine (hx m hm2).of (fun v hv => ?_) (fun v hv => ?_) (fun q hq => by rw [hF 2238 (by decide)])
        · have hne : ∀ u, u ∈ [2107, 2233, 2234, 2235, 2236, 2237, 2232] → v ≠ u := fun u hu => by intro z; subst z; revert hu hv; revert v; decide
          rw [setV_fn (hne 2232 (by decide)), setV_fn (hne 2237 (by decide)), setV_fn (hne 2236 (by decide)), setV_fn (hne 2235 (by decide)), setV_fn (hne 2234 (by decide)), setV_fn (hne 2233 (by decide)), hW v (hne 2107 (by decide))]
          exact hold v hv m hm2
        · revert v; simp only [List.mem_cons, List.not_mem_nil, or_false]; rintro v hv
          rcases hv with rfl | rfl | rfl | rfl | rfl | rfl | rfl <;> simp (disch := omega) only [setV_fn, setV_at, hmn, and_false, if_false] <;> first | rw [hFm 2233 (by decide)] | rw [hFm 2234 (by decide)] | rw [hFm 2235 (by decide)] | rw [hFm 2236 (by decide)] | rw [hFm 2237 (by decide)] | rw [hFm 2239 (by decide)] | rw [hFm 2240 (by decide)]
    · show (if i = pl then nM else if pl < i then R (i - 1) else R i) < nM + 1
      by_cases c1 : i = pl
      · rw [if_pos c1]; omega
      · rw [if_neg c1]
        by_cases c2 : pl < i
        · rw [if_pos c2]; have := hR1.1 (i - 1) (by omega); omega
        · rw [if_neg c2]; have := hR1.1 i (by omega); omega
    · have key : ∀ q, q < nM + 1 → (q = pl ∧ (if q = pl then nM else if pl < q then R (q - 1) else R q) = nM) ∨ (q ≠ pl ∧ ∃ q', q' < nM ∧ (if q = pl then nM else if pl < q then R (q - 1) else R q) = R q' ∧ q = if q' < pl then q' else q' + 1) := fun q hq => by
        by_cases c1 : q = pl
        · exact .inl ⟨c1, if_pos c1⟩
        · by_cases c2 : pl < q
          · exact .inr ⟨c1, q - 1, by omega, by rw [if_neg c1, if_pos c2], by rw [if_neg (by omega)]; omega⟩
          · exact .inr ⟨c1, q, by omega, by rw [if_neg c1, if_neg c2], by rw [if_pos (by omega)]⟩
      have hij : (if i = pl then nM else if pl < i then R (i - 1) else R i) = (if j = pl then nM else if pl < j then R (j - 1) else R j) := hij
      rcases key i hi with ⟨a1, a2⟩ | ⟨a1, i', a2, a3, a4⟩ <;> rcases key j hj with ⟨b1, b2⟩ | ⟨b1, j', b2, b3, b4⟩
      · omega
      · have := hR1.1 j' b2; omega
      · have := hR1.1 i' a2; omega
      · have : i' = j' := hR1.2 i' j' a2 b2 (by omega)
        subst this; rw [a4, b4]
    · simp (disch := omega) only [setV_fn]
      rw [p4 i, h2107]
      show _ = nI (if i = pl then nM else if pl < i then R (i - 1) else R i)
      by_cases c1 : i = pl
      · rw [if_pos c1, if_pos c1]
      · rw [if_neg c1, if_neg c1]
        by_cases c2 : pl < i
        · rw [if_pos ⟨c2, by omega⟩, if_pos c2]; exact hR2 (i - 1) (by omega)
        · rw [if_neg (by omega), if_neg c2]; exact hR2 i (by omega)
    · show (setV (setV (setV (setV (setV (setV (W) 2233 0 nM a) 2234 0 nM b) 2235 0 nM c) 2236 0 nM d) 2237 0 nM e) 2232 0 0 (nI (nM + 1))) 2236 0 (if j = pl then nM else if pl < j then R (j - 1) else R j) < (setV (setV (setV (setV (setV (setV (W) 2233 0 nM a) 2234 0 nM b) 2235 0 nM c) 2236 0 nM d) 2237 0 nM e) 2232 0 0 (nI (nM + 1))) 2236 0 (if i = pl then nM else if pl < i then R (i - 1) else R i) ∨ (setV (setV (setV (setV (setV (setV (W) 2233 0 nM a) 2234 0 nM b) 2235 0 nM c) 2236 0 nM d) 2237 0 nM e) 2232 0 0 (nI (nM + 1))) 2236 0 (if j = pl then nM else if pl < j then R (j - 1) else R j) = (setV (setV (setV (setV (setV (setV (W) 2233 0 nM a) 2234 0 nM b) 2235 0 nM c) 2236 0 nM d) 2237 0 nM e) 2232 0 0 (nI (nM + 1))) 2236 0 (if i = pl then nM else if pl < i then R (i - 1) else R i) ∧ (if i = pl then nM else if pl < i then R (i - 1) else R i) < (if j = pl then nM else if pl < j then R (j - 1) else R j)
      have old : ∀ i' j', i' < j' → j' < nM → (setV (setV (setV (setV (setV (setV (W) 2233 0 nM a) 2234 0 nM b) 2235 0 nM c) 2236 0 nM d) 2237 0 nM e) 2232 0 0 (nI (nM + 1))) 2236 0 (R j') < (setV (setV (setV (setV (setV (setV (W) 2233 0 nM a) 2234 0 nM b) 2235 0 nM c) 2236 0 nM d) 2237 0 nM e) 2232 0 0 (nI (nM + 1))) 2236 0 (R i') ∨ (setV (setV (setV (setV (setV (setV (W) 2233 0 nM a) 2234 0 nM b) 2235 0 nM c) 2236 0 nM d) 2237 0 nM e) 2232 0 0 (nI (nM + 1))) 2236 0 (R j') = (setV (setV (setV (setV (setV (setV (W) 2233 0 nM a) 2234 0 nM b) 2235 0 nM c) 2236 0 nM d) 2237 0 nM e) 2232 0 0 (nI (nM + 1))) 2236 0 (R i') ∧ R i' < R j' := fun i' j' h1 h2 => by
        have z1 := hR1.1 i' (by omega); have z2 := hR1.1 j' h2
        rw [hrt, hrt, if_neg (by omega), if_neg (by omega)]; exact hR3 i' j' h1 h2
      by_cases ci : i = pl
      · have cj : ¬ j = pl := by omega
        have cj2 : pl < j := by omega
        rw [if_pos ci, if_neg cj, if_pos cj2, hrt, hrt, if_pos rfl]
        have z2 := hR1.1 (j - 1) (by omega)
        rw [if_neg (by omega)]
        have hp6 := p6 (by omega)
        rw [hold 1604 (by decide) (R pl) (hR1.1 pl (by omega)), hr _ (hR1.1 pl (by omega))] at hp6
        left
        by_cases cc : j - 1 = pl
        · rw [cc]; exact hp6
        · rcases hR3 pl (j - 1) (by omega) (by omega) with z | ⟨z, -⟩ <;> grind
      · by_cases cj : j = pl
        · have ci2 : ¬ pl < i := by omega
          rw [if_pos cj, if_neg ci, if_neg ci2, hrt, hrt, if_pos rfl]
          have z1 := hR1.1 i (by omega)
          rw [if_neg (by omega)]
          have hp5 := p5 i (by omega)
          rw [hold 1604 (by decide) (R i) z1, hr _ z1] at hp5
          by_cases cc : d < V 2236 0 (R i)
          · exact .inl cc
          · exact .inr ⟨by grind, z1⟩
        · rw [if_neg ci, if_neg cj]
          by_cases ci2 : pl < i
          · rw [if_pos ci2, if_pos (show pl < j by omega)]; exact old (i - 1) (j - 1) (by omega) (by omega)
          · rw [if_neg ci2]
            by_cases cj2 : pl < j
            · rw [if_pos cj2]; exact old i (j - 1) (by omega) (by omega)
            · rw [if_neg cj2]; exact old i j (by omega) (by omega)
