/-! calls that need little -/
theorem ix_or {n : Nat} (x : Int32) (hn : n < 2 ^ 31) : (x < 0 ∨ nI n ≤ x) ∨ ∃ j, j < n ∧ x = nI j := by
  rcases pk_ix x hn with h | h | h
  · exact .inl (.inl h)
  · exact .inl (.inr h)
  · exact .inr h
theorem Step.same {k : Nat} {m1 m2 : St → RR} {V : St} {r : Int32} (h1 : m1 V = some (r, V)) (h2 : m2 V = some (r, V)) (hI : Inv k V) : Step k m1 m2 V := by
  refine ⟨r, V, V, h1, h2, ?_⟩
  obtain ⟨nC, nD, nT, nM, nP, nK, nS, nR, nL, nO, hL, hmi, hta, hcl, hdr, hth, hla, hma, hor, hpe, hdo, hse, hru, hmk⟩ := hI
  exact ⟨nC, nD, nT, nM, nP, nK, nS, nR, nL, nO, by omega, hmi, hta, hcl, hdr, hth, hla, hma, hor, hpe, hdo, hse, hru, hmk⟩
theorem P_bench {fu k : Nat} {V : St} (hI : Inv k V) (x : Int32) : Step k (fun V => f_X11_bench fu V x) (fun V => f_X12_bench fu V x) V := by
  by_cases h : 1 ≤ x ∧ x ≤ 1000
  · refine ⟨1, setV V 2102 0 0 x, setV (setV V 2102 0 0 x) 2288 0 0 x, ?_, ?_, ?_⟩
    · simp only [f_X11_bench, bd_some, n10, n00, bv_eq, gd, within_eq, in_eq, c_0, c_1, c_m1, ite10, ite01, if_true, if_false, not_true, not_false, and_self, and_true, true_and, or_false, false_or, not_false_eq_true, ite_true, ite_false, reduceIte, h]
    · simp only [f_X12_bench, bd_some, n10, n00, bv_eq, gd, within_eq, in_eq, c_0, c_1, c_m1, ite10, ite01, if_true, if_false, not_true, not_false, and_self, and_true, true_and, or_false, false_or, not_false_eq_true, ite_true, ite_false, reduceIte, h]
    · obtain ⟨nC, nD, nT, nM, nP, nK, nS, nR, nL, nO, hL, hmi, hta, hcl, hdr, hth, hla, hma, hor, hpe, hdo, hse, hru, hmk⟩ := hI
      have hF : Fr [2102, 2288] V (setV (setV V 2102 0 0 x) 2288 0 0 x) := ((Fr.refl _ V).set (by decide)).set (by decide)
      exact ⟨nC, nD, nT, nM, nP, nK, nS, nR, nL, nO, by omega, by simp only [I_misc, setV] at hmi ⊢; grind, hta.fr hF rfl, hcl.fr hF rfl, hdr.fr hF rfl, hth.fr hF rfl, hla.fr hF rfl, hma.fr hF rfl, hor.fr hF rfl, hpe.fr hF rfl, hdo.fr hF rfl, hse.fr hF rfl, hru.fr hF rfl, hmk.fr hF rfl⟩
  · refine Step.same (r := 0) ?_ ?_ hI
    · simp only [f_X11_bench, bd_some, n10, n00, bv_eq, gd, within_eq, in_eq, c_0, c_1, c_m1, ite10, ite01, if_true, if_false, not_true, not_false, and_self, and_true, true_and, or_false, false_or, not_false_eq_true, ite_true, ite_false, reduceIte, h]
    · simp only [f_X12_bench, bd_some, n10, n00, bv_eq, gd, within_eq, in_eq, c_0, c_1, c_m1, ite10, ite01, if_true, if_false, not_true, not_false, and_self, and_true, true_and, or_false, false_or, not_false_eq_true, ite_true, ite_false, reduceIte, h]
theorem P_gone {fu k : Nat} {V : St} (hI : Inv k V) (x n : Int32) : Step k (fun V => f_X11_gone fu V x n) (fun V => f_X12_gone fu V x n) V := by
  have hI' := hI
  obtain ⟨nC, nD, nT, nM, nP, nK, nS, nR, nL, nO, hL, hmi, hta, hcl, hdr, hth, hla, hma, hor, hpe, hdo, hse, hru, hmk⟩ := hI
  obtain ⟨h30, hn1, hn2, -, hx⟩ := hth
  rcases ix_or x (show nT < 2 ^ 31 by omega) with hv | ⟨i, hi, rfl⟩
  · refine Step.same (r := -1) ?_ ?_ hI'
    · simp only [f_X11_gone, F_X11_gone_21, findThing_no hn1 (by omega) hv, bd_some, n10, n00, bv_eq, gd, within_eq, in_eq, c_0, c_1, c_m1, ite10, ite01, if_true, if_false, not_true, not_false, and_self, and_true, true_and, or_false, false_or, not_false_eq_true, ite_true, ite_false, reduceIte]
    · simp only [f_X12_gone, F_X12_gone_35, isThing_no hn2 hv, bd_some, n10, n00, bv_eq, gd, within_eq, in_eq, c_0, c_1, c_m1, ite10, ite01, if_true, if_false, not_true, not_false, and_self, and_true, true_and, or_false, false_or, not_false_eq_true, ite_true, ite_false, reduceIte]
  · have hc : cntV V 2105 = nT := cnt_n (by decide) (by omega) hn1
    by_cases h : 1 ≤ n ∧ n ≤ 100000
    · obtain ⟨p, len, wid, ht⟩ := hx i hi
      obtain ⟨-, -, -, -, -, -, -, -, e1, e2, -⟩ := ht
      have h0 : 0 < n := by grind
      have hm := hmi.1
      by_cases hz : V 2222 0 i + V 2221 0 i = 0
      · refine Step.same (r := -1) ?_ ?_ hI'
        · simp (disch := omega) only [f_X11_gone, F_X11_gone_21, F_X11_gone_60, findThing_ok hn1 (by omega) hi, hc, e1, e2, h, bd_some, n10, n00, bv_eq, within_eq, in_eq, gd_T, gd_t, i00, i10, c_0, c_1, c_m1, ite10, ite01, setV_fn, setV_at, cntS, nI_pos, nI_clamp, nI_leI, nI_ltI, nI_eq, nI_1, if_true, if_false, not_true, not_false, and_self, and_true, true_and, false_and, and_false, or_false, false_or, or_true, true_or, not_false_eq_true, ite_self, ite_true, ite_false, reduceIte, Nat.reduceEqDiff, Nat.reduceMul, Nat.reduceAdd, Nat.reduceLT, Nat.reducePow, ne_eq]
          grind
        · simp (disch := omega) only [f_X12_gone, F_X12_gone_35, isThing_ok hn2 (by omega) hi, h, hz, bd_some, n10, n00, bv_eq, within_eq, in_eq, gd_T, gd_t, i00, i10, c_0, c_1, c_m1, ite10, ite01, setV_fn, setV_at, cntS, nI_pos, nI_clamp, nI_leI, nI_ltI, nI_eq, nI_1, if_true, if_false, not_true, not_false, and_self, and_true, true_and, false_and, and_false, or_false, false_or, or_true, true_or, not_false_eq_true, ite_self, ite_true, ite_false, reduceIte, Nat.reduceEqDiff, Nat.reduceMul, Nat.reduceAdd, Nat.reduceLT, Nat.reducePow, ne_eq]
      · refine Step.same (r := (V 2201 0 0 + (V 2222 0 i + V 2221 0 i + n - 1) / n) - 1) ?_ ?_ hI'
        · have : ¬ V 2221 0 i + V 2222 0 i = 0 := by grind
          have e3 : V 2221 0 i + V 2222 0 i = V 2222 0 i + V 2221 0 i := by grind
          simp (disch := omega) only [f_X11_gone, F_X11_gone_21, F_X11_gone_60, findThing_ok hn1 (by omega) hi, hc, e1, e2, h, this, roundedUp_eq h0, hm, bd_some, n10, n00, bv_eq, within_eq, in_eq, gd_T, gd_t, i00, i10, c_0, c_1, c_m1, ite10, ite01, setV_fn, setV_at, cntS, nI_pos, nI_clamp, nI_leI, nI_ltI, nI_eq, nI_1, if_true, if_false, not_true, not_false, and_self, and_true, true_and, false_and, and_false, or_false, false_or, or_true, true_or, not_false_eq_true, ite_self, ite_true, ite_false, reduceIte, Nat.reduceEqDiff, Nat.reduceMul, Nat.reduceAdd, Nat.reduceLT, Nat.reducePow, ne_eq]
          rw [e3]
        · simp (disch := omega) only [f_X12_gone, F_X12_gone_35, isThing_ok hn2 (by omega) hi, h, hz, up_eq h0, bd_some, n10, n00, bv_eq, within_eq, in_eq, gd_T, gd_t, i00, i10, c_0, c_1, c_m1, ite10, ite01, setV_fn, setV_at, cntS, nI_pos, nI_clamp, nI_leI, nI_ltI, nI_eq, nI_1, if_true, if_false, not_true, not_false, and_self, and_true, true_and, false_and, and_false, or_false, false_or, or_true, true_or, not_false_eq_true, ite_self, ite_true, ite_false, reduceIte, Nat.reduceEqDiff, Nat.reduceMul, Nat.reduceAdd, Nat.reduceLT, Nat.reducePow, ne_eq]
    · refine Step.same (r := -1) ?_ ?_ hI'
      · simp (disch := omega) only [f_X11_gone, F_X11_gone_21, findThing_ok hn1 (by omega) hi, h, bd_some, n10, n00, bv_eq, within_eq, in_eq, gd_T, gd_t, i00, i10, c_0, c_1, c_m1, ite10, ite01, setV_fn, setV_at, cntS, nI_pos, nI_clamp, nI_leI, nI_ltI, nI_eq, nI_1, if_true, if_false, not_true, not_false, and_self, and_true, true_and, false_and, and_false, or_false, false_or, or_true, true_or, not_false_eq_true, ite_self, ite_true, ite_false, reduceIte, Nat.reduceEqDiff, Nat.reduceMul, Nat.reduceAdd, Nat.reduceLT, Nat.reducePow, ne_eq]
      · simp (disch := omega) only [f_X12_gone, F_X12_gone_35, isThing_ok hn2 (by omega) hi, h, bd_some, n10, n00, bv_eq, within_eq, in_eq, gd_T, gd_t, i00, i10, c_0, c_1, c_m1, ite10, ite01, setV_fn, setV_at, cntS, nI_pos, nI_clamp, nI_leI, nI_ltI, nI_eq, nI_1, if_true, if_false, not_true, not_false, and_self, and_true, true_and, false_and, and_false, or_false, false_or, or_true, true_or, not_false_eq_true, ite_self, ite_true, ite_false, reduceIte, Nat.reduceEqDiff, Nat.reduceMul, Nat.reduceAdd, Nat.reduceLT, Nat.reducePow, ne_eq]
