/-! calls that make an object (by program: mk.py) -/
theorem P_docket {fu k : Nat} {V : St} (hI : Inv k V) (o x s w : Int32) : Step k (fun V => f_X11_docket fu V o x s w) (fun V => f_X12_docket fu V o x s w) V := by
  have hI' := hI
  obtain ⟨nC, nD, nT, nM, nP, nK, nS, nR, nL, nO, hL, hmi, hta, hcl, hdr, hth, hla, hma, hor, hpe, hdo, hse, hru, hmk⟩ := hI
  have hm := hmi.1
  have leThing : nT ≤ 1000 := by have := hth.1; omega
  have lePerson : nP ≤ 1000 := by have := hpe.1; omega
  have hn1 := hdo.2.1
  have hn2 := hdo.2.2.1
  have hle := hdo.1
  rcases ix_or o (show nP < 2 ^ 31 by omega) with hv0 | ⟨i0, hi0, rfl⟩
  · refine Step.same (r := -1) ?_ ?_ hI'
    · simp (disch := omega) only [f_X11_docket, F_X11_docket_53, F_X11_docket_28, findPerson_no hpe.2.1 (by omega) hv0, bd_some, n10, n00, bv_eq, within_eq, in_eq, gd_T, gd_t, i00, i10, c_0, c_1, c_m1, ite10, ite01, setV_fn, setV_at, cntS, nI_pos, nI_clamp, nI_leI, nI_ltI, nI_eq, nI_1, if_true, if_false, not_true, not_false, and_self, and_true, true_and, false_and, and_false, or_false, false_or, or_true, true_or, not_false_eq_true, ite_self, ite_true, ite_false, reduceIte, Nat.reduceEqDiff, Nat.reduceMul, Nat.reduceAdd, Nat.reduceLT, Nat.reducePow, ne_eq]
    · simp (disch := omega) only [f_X12_docket, F_X12_docket_48, isPerson_no hpe.2.2.1 hv0, bd_some, n10, n00, bv_eq, within_eq, in_eq, gd_T, gd_t, i00, i10, c_0, c_1, c_m1, ite10, ite01, setV_fn, setV_at, cntS, nI_pos, nI_clamp, nI_leI, nI_ltI, nI_eq, nI_1, if_true, if_false, not_true, not_false, and_self, and_true, true_and, false_and, and_false, or_false, false_or, or_true, true_or, not_false_eq_true, ite_self, ite_true, ite_false, reduceIte, Nat.reduceEqDiff, Nat.reduceMul, Nat.reduceAdd, Nat.reduceLT, Nat.reducePow, ne_eq]
  · skip
    rcases ix_or x (show nT < 2 ^ 31 by omega) with hv1 | ⟨i1, hi1, rfl⟩
    · refine Step.same (r := -1) ?_ ?_ hI'
      · simp (disch := omega) only [f_X11_docket, F_X11_docket_53, F_X11_docket_28, findPerson_ok hpe.2.1 (by omega) hi0, findThing_no hth.2.1 (by omega) hv1, bd_some, n10, n00, bv_eq, within_eq, in_eq, gd_T, gd_t, i00, i10, c_0, c_1, c_m1, ite10, ite01, setV_fn, setV_at, cntS, nI_pos, nI_clamp, nI_leI, nI_ltI, nI_eq, nI_1, if_true, if_false, not_true, not_false, and_self, and_true, true_and, false_and, and_false, or_false, false_or, or_true, true_or, not_false_eq_true, ite_self, ite_true, ite_false, reduceIte, Nat.reduceEqDiff, Nat.reduceMul, Nat.reduceAdd, Nat.reduceLT, Nat.reducePow, ne_eq]
      · simp (disch := omega) only [f_X12_docket, F_X12_docket_48, isPerson_ok hpe.2.2.1 (by omega) hi0, isThing_no hth.2.2.1 hv1, bd_some, n10, n00, bv_eq, within_eq, in_eq, gd_T, gd_t, i00, i10, c_0, c_1, c_m1, ite10, ite01, setV_fn, setV_at, cntS, nI_pos, nI_clamp, nI_leI, nI_ltI, nI_eq, nI_1, if_true, if_false, not_true, not_false, and_self, and_true, true_and, false_and, and_false, or_false, false_or, or_true, true_or, not_false_eq_true, ite_self, ite_true, ite_false, reduceIte, Nat.reduceEqDiff, Nat.reduceMul, Nat.reduceAdd, Nat.reduceLT, Nat.reducePow, ne_eq]
    · skip
      rcases (Decidable.em (0 ≤ s ∧ s ≤ V 2201 0 0)).symm with h2 | h2
      · refine Step.same (r := -1) ?_ ?_ hI'
        · simp (disch := omega) only [f_X11_docket, F_X11_docket_53, F_X11_docket_28, findPerson_ok hpe.2.1 (by omega) hi0, findThing_ok hth.2.1 (by omega) hi1, h2, hm, bd_some, n10, n00, bv_eq, within_eq, in_eq, gd_T, gd_t, i00, i10, c_0, c_1, c_m1, ite10, ite01, setV_fn, setV_at, cntS, nI_pos, nI_clamp, nI_leI, nI_ltI, nI_eq, nI_1, if_true, if_false, not_true, not_false, and_self, and_true, true_and, false_and, and_false, or_false, false_or, or_true, true_or, not_false_eq_true, ite_self, ite_true, ite_false, reduceIte, Nat.reduceEqDiff, Nat.reduceMul, Nat.reduceAdd, Nat.reduceLT, Nat.reducePow, ne_eq]
        · simp (disch := omega) only [f_X12_docket, F_X12_docket_48, isPerson_ok hpe.2.2.1 (by omega) hi0, isThing_ok hth.2.2.1 (by omega) hi1, h2, bd_some, n10, n00, bv_eq, within_eq, in_eq, gd_T, gd_t, i00, i10, c_0, c_1, c_m1, ite10, ite01, setV_fn, setV_at, cntS, nI_pos, nI_clamp, nI_leI, nI_ltI, nI_eq, nI_1, if_true, if_false, not_true, not_false, and_self, and_true, true_and, false_and, and_false, or_false, false_or, or_true, true_or, not_false_eq_true, ite_self, ite_true, ite_false, reduceIte, Nat.reduceEqDiff, Nat.reduceMul, Nat.reduceAdd, Nat.reduceLT, Nat.reducePow, ne_eq]
      · skip
        rcases (Decidable.em (0 ≤ w ∧ w ≤ 99)).symm with h3 | h3
        · refine Step.same (r := -1) ?_ ?_ hI'
          · simp (disch := omega) only [f_X11_docket, F_X11_docket_53, F_X11_docket_28, findPerson_ok hpe.2.1 (by omega) hi0, findThing_ok hth.2.1 (by omega) hi1, hm, h2, h3, hm, bd_some, n10, n00, bv_eq, within_eq, in_eq, gd_T, gd_t, i00, i10, c_0, c_1, c_m1, ite10, ite01, setV_fn, setV_at, cntS, nI_pos, nI_clamp, nI_leI, nI_ltI, nI_eq, nI_1, if_true, if_false, not_true, not_false, and_self, and_true, true_and, false_and, and_false, or_false, false_or, or_true, true_or, not_false_eq_true, ite_self, ite_true, ite_false, reduceIte, Nat.reduceEqDiff, Nat.reduceMul, Nat.reduceAdd, Nat.reduceLT, Nat.reducePow, ne_eq]
          · simp (disch := omega) only [f_X12_docket, F_X12_docket_48, isPerson_ok hpe.2.2.1 (by omega) hi0, isThing_ok hth.2.2.1 (by omega) hi1, h2, h3, bd_some, n10, n00, bv_eq, within_eq, in_eq, gd_T, gd_t, i00, i10, c_0, c_1, c_m1, ite10, ite01, setV_fn, setV_at, cntS, nI_pos, nI_clamp, nI_leI, nI_ltI, nI_eq, nI_1, if_true, if_false, not_true, not_false, and_self, and_true, true_and, false_and, and_false, or_false, false_or, or_true, true_or, not_false_eq_true, ite_self, ite_true, ite_false, reduceIte, Nat.reduceEqDiff, Nat.reduceMul, Nat.reduceAdd, Nat.reduceLT, Nat.reducePow, ne_eq]
        · skip
          by_cases hmx : nK = 60
          · have e1 : ¬ nI nK < 60 := by rw [hmx]; decide
            have e2 : nI nK = 60 := by rw [hmx]; decide
            refine Step.same (r := -1) ?_ ?_ hI'
            · simp (disch := omega) only [f_X11_docket, F_X11_docket_53, F_X11_docket_28, findPerson_ok hpe.2.1 (by omega) hi0, findThing_ok hth.2.1 (by omega) hi1, hm, h2, hm, h3, hn1, e1, bd_some, n10, n00, bv_eq, within_eq, in_eq, gd_T, gd_t, i00, i10, c_0, c_1, c_m1, ite10, ite01, setV_fn, setV_at, cntS, nI_pos, nI_clamp, nI_leI, nI_ltI, nI_eq, nI_1, if_true, if_false, not_true, not_false, and_self, and_true, true_and, false_and, and_false, or_false, false_or, or_true, true_or, not_false_eq_true, ite_self, ite_true, ite_false, reduceIte, Nat.reduceEqDiff, Nat.reduceMul, Nat.reduceAdd, Nat.reduceLT, Nat.reducePow, ne_eq]
            · simp (disch := omega) only [f_X12_docket, F_X12_docket_48, isPerson_ok hpe.2.2.1 (by omega) hi0, isThing_ok hth.2.2.1 (by omega) hi1, h2, h3, hn2, e2, bd_some, n10, n00, bv_eq, within_eq, in_eq, gd_T, gd_t, i00, i10, c_0, c_1, c_m1, ite10, ite01, setV_fn, setV_at, cntS, nI_pos, nI_clamp, nI_leI, nI_ltI, nI_eq, nI_1, if_true, if_false, not_true, not_false, and_self, and_true, true_and, false_and, and_false, or_false, false_or, or_true, true_or, not_false_eq_true, ite_self, ite_true, ite_false, reduceIte, Nat.reduceEqDiff, Nat.reduceMul, Nat.reduceAdd, Nat.reduceLT, Nat.reducePow, ne_eq]
          · have e1 : nI nK < 60 := nI_lt (b := 60) (by omega) (by decide)
            have e2 : ¬ nI nK = 60 := fun q => hmx ((nI_eq (b := 60) (by omega) (by decide)).mp q)
            have hok := mkOK_I hcl hth hla hn1 (by omega)
            refine ⟨nI nK, mkV V 2109 nK gv_1100 (F_1100 (nI i0) (nI i1) s w), setV (setV (setV (setV (setV (setV (mkV V 2109 nK gv_1100 (F_1100 (nI i0) (nI i1) s w)) 2281 0 nK (nI i0)) 2282 0 nK (nI i1)) 2283 0 nK s) 2284 0 nK w) 2285 0 nK 1) 2280 0 0 (nI (nK + 1)), ?_, ?_, ?_⟩
            · simp (disch := omega) only [f_X11_docket, F_X11_docket_53, F_X11_docket_28, findPerson_ok hpe.2.1 (by omega) hi0, findThing_ok hth.2.1 (by omega) hi1, hm, h2, hm, h3, hn1, e1, hok, mkV_cnt, nI_pred, bd_some, n10, n00, bv_eq, within_eq, in_eq, gd_T, gd_t, i00, i10, c_0, c_1, c_m1, ite10, ite01, setV_fn, setV_at, cntS, nI_pos, nI_clamp, nI_leI, nI_ltI, nI_eq, nI_1, if_true, if_false, not_true, not_false, and_self, and_true, true_and, false_and, and_false, or_false, false_or, or_true, true_or, not_false_eq_true, ite_self, ite_true, ite_false, reduceIte, Nat.reduceEqDiff, Nat.reduceMul, Nat.reduceAdd, Nat.reduceLT, Nat.reducePow, ne_eq]
            · have g : ∀ v, v ≠ 2109 → v ∉ gv_1100 → mkV V 2109 nK gv_1100 (F_1100 (nI i0) (nI i1) s w) v = V v := fun v q1 q2 => mkV_fn q1 q2
              have g2201 := g 2201 (by decide) (by decide)
              have g2202 := g 2202 (by decide) (by decide)
              have g2203 := g 2203 (by decide) (by decide)
              have g2204 := g 2204 (by decide) (by decide)
              have g2232 := g 2232 (by decide) (by decide)
              have g2277 := g 2277 (by decide) (by decide)
              have g2280 := g 2280 (by decide) (by decide)
              simp (disch := omega) only [f_X12_docket, F_X12_docket_48, isPerson_ok (show mkV V 2109 nK gv_1100 (F_1100 (nI i0) (nI i1) s w) 2277 0 0 = _ by rw [g2277]; exact hpe.2.2.1) (by omega) hi0, isThing_ok (show mkV V 2109 nK gv_1100 (F_1100 (nI i0) (nI i1) s w) 2204 0 0 = _ by rw [g2204]; exact hth.2.2.1) (by omega) hi1, h2, h3, hn2, g2201, g2202, g2203, g2204, g2232, g2277, g2280, e2, nI_pred, bd_some, n10, n00, bv_eq, within_eq, in_eq, gd_T, gd_t, i00, i10, c_0, c_1, c_m1, ite10, ite01, setV_fn, setV_at, cntS, nI_pos, nI_clamp, nI_leI, nI_ltI, nI_eq, nI_1, if_true, if_false, not_true, not_false, and_self, and_true, true_and, false_and, and_false, or_false, false_or, or_true, true_or, not_false_eq_true, ite_self, ite_true, ite_false, reduceIte, Nat.reduceEqDiff, Nat.reduceMul, Nat.reduceAdd, Nat.reduceLT, Nat.reducePow, ne_eq]
            · have hF : Fr [2109, 2280, 2281, 2282, 2283, 2284, 2285, 1101, 1102, 1103, 1104, 1105] V (setV (setV (setV (setV (setV (setV (mkV V 2109 nK gv_1100 (F_1100 (nI i0) (nI i1) s w)) 2281 0 nK (nI i0)) 2282 0 nK (nI i1)) 2283 0 nK s) 2284 0 nK w) 2285 0 nK 1) 2280 0 0 (nI (nK + 1))) := (((((((Fr.refl _ V).mk (by decide) (by decide)).set (by decide)).set (by decide)).set (by decide)).set (by decide)).set (by decide)).set (by decide)
              refine ⟨nC, nD, nT, nM, nP, nK + 1, nS, nR, nL, nO, by omega, hmi.fr hF rfl, hta.fr hF rfl, hcl.fr hF rfl, hdr.fr hF rfl, hth.fr hF rfl, hla.fr hF rfl, hma.fr hF rfl, hor.fr hF rfl, hpe.fr hF rfl, ?_, hse.fr hF rfl, hru.fr hF rfl, hmk.fr hF rfl⟩
              obtain ⟨-, -, -, hx⟩ := hdo
              refine ⟨by omega, by simp (maxSteps := 1000000) (disch := first | omega | decide) only [setV_fn, setV_at, mkV_fn, mkV_at, mkV_cnt, n10], by simp (disch := omega) only [bd_some, n10, n00, bv_eq, within_eq, in_eq, gd_T, gd_t, i00, i10, c_0, c_1, c_m1, ite10, ite01, setV_fn, setV_at, cntS, nI_pos, nI_clamp, nI_leI, nI_ltI, nI_eq, nI_1, if_true, if_false, not_true, not_false, and_self, and_true, true_and, false_and, and_false, or_false, false_or, or_true, true_or, not_false_eq_true, ite_self, ite_true, ite_false, reduceIte, Nat.reduceEqDiff, Nat.reduceMul, Nat.reduceAdd, Nat.reduceLT, Nat.reducePow, ne_eq], fun o ho => ?_⟩
              simp (maxSteps := 1000000) (disch := first | omega | decide) only [setV_fn, setV_at, mkV_fn, mkV_at, mkV_cnt, F_1100]
              have := hx o; grind
theorem P_seen {fu k : Nat} {V : St} (hI : Inv k V) (x w n : Int32) : Step k (fun V => f_X11_seen fu V x w n) (fun V => f_X12_seen fu V x w n) V := by
  have hI' := hI
  obtain ⟨nC, nD, nT, nM, nP, nK, nS, nR, nL, nO, hL, hmi, hta, hcl, hdr, hth, hla, hma, hor, hpe, hdo, hse, hru, hmk⟩ := hI
  have hm := hmi.1
  have leThing : nT ≤ 1000 := by have := hth.1; omega
  have hn1 := hse.2.1
  have hn2 := hse.2.2.1
  have hle := hse.1
  rcases ix_or x (show nT < 2 ^ 31 by omega) with hv0 | ⟨i0, hi0, rfl⟩
  · refine Step.same (r := 0) ?_ ?_ hI'
    · simp (disch := omega) only [f_X11_seen, F_X11_seen_31, findThing_no hth.2.1 (by omega) hv0, bd_some, n10, n00, bv_eq, within_eq, in_eq, gd_T, gd_t, i00, i10, c_0, c_1, c_m1, ite10, ite01, setV_fn, setV_at, cntS, nI_pos, nI_clamp, nI_leI, nI_ltI, nI_eq, nI_1, if_true, if_false, not_true, not_false, and_self, and_true, true_and, false_and, and_false, or_false, false_or, or_true, true_or, not_false_eq_true, ite_self, ite_true, ite_false, reduceIte, Nat.reduceEqDiff, Nat.reduceMul, Nat.reduceAdd, Nat.reduceLT, Nat.reducePow, ne_eq]
    · simp (disch := omega) only [f_X12_seen, F_X12_seen_40, isThing_no hth.2.2.1 hv0, bd_some, n10, n00, bv_eq, within_eq, in_eq, gd_T, gd_t, i00, i10, c_0, c_1, c_m1, ite10, ite01, setV_fn, setV_at, cntS, nI_pos, nI_clamp, nI_leI, nI_ltI, nI_eq, nI_1, if_true, if_false, not_true, not_false, and_self, and_true, true_and, false_and, and_false, or_false, false_or, or_true, true_or, not_false_eq_true, ite_self, ite_true, ite_false, reduceIte, Nat.reduceEqDiff, Nat.reduceMul, Nat.reduceAdd, Nat.reduceLT, Nat.reducePow, ne_eq]
  · skip
    rcases (Decidable.em (0 ≤ w ∧ w ≤ V 2201 0 0)).symm with h1 | h1
    · refine Step.same (r := 0) ?_ ?_ hI'
      · simp (disch := omega) only [f_X11_seen, F_X11_seen_31, findThing_ok hth.2.1 (by omega) hi0, h1, hm, bd_some, n10, n00, bv_eq, within_eq, in_eq, gd_T, gd_t, i00, i10, c_0, c_1, c_m1, ite10, ite01, setV_fn, setV_at, cntS, nI_pos, nI_clamp, nI_leI, nI_ltI, nI_eq, nI_1, if_true, if_false, not_true, not_false, and_self, and_true, true_and, false_and, and_false, or_false, false_or, or_true, true_or, not_false_eq_true, ite_self, ite_true, ite_false, reduceIte, Nat.reduceEqDiff, Nat.reduceMul, Nat.reduceAdd, Nat.reduceLT, Nat.reducePow, ne_eq]
      · simp (disch := omega) only [f_X12_seen, F_X12_seen_40, isThing_ok hth.2.2.1 (by omega) hi0, h1, bd_some, n10, n00, bv_eq, within_eq, in_eq, gd_T, gd_t, i00, i10, c_0, c_1, c_m1, ite10, ite01, setV_fn, setV_at, cntS, nI_pos, nI_clamp, nI_leI, nI_ltI, nI_eq, nI_1, if_true, if_false, not_true, not_false, and_self, and_true, true_and, false_and, and_false, or_false, false_or, or_true, true_or, not_false_eq_true, ite_self, ite_true, ite_false, reduceIte, Nat.reduceEqDiff, Nat.reduceMul, Nat.reduceAdd, Nat.reduceLT, Nat.reducePow, ne_eq]
    · skip
      rcases (Decidable.em (1 ≤ n ∧ n ≤ 100000)).symm with h2 | h2
      · refine Step.same (r := 0) ?_ ?_ hI'
        · simp (disch := omega) only [f_X11_seen, F_X11_seen_31, findThing_ok hth.2.1 (by omega) hi0, hm, h1, h2, hm, bd_some, n10, n00, bv_eq, within_eq, in_eq, gd_T, gd_t, i00, i10, c_0, c_1, c_m1, ite10, ite01, setV_fn, setV_at, cntS, nI_pos, nI_clamp, nI_leI, nI_ltI, nI_eq, nI_1, if_true, if_false, not_true, not_false, and_self, and_true, true_and, false_and, and_false, or_false, false_or, or_true, true_or, not_false_eq_true, ite_self, ite_true, ite_false, reduceIte, Nat.reduceEqDiff, Nat.reduceMul, Nat.reduceAdd, Nat.reduceLT, Nat.reducePow, ne_eq]
        · simp (disch := omega) only [f_X12_seen, F_X12_seen_40, isThing_ok hth.2.2.1 (by omega) hi0, h1, h2, bd_some, n10, n00, bv_eq, within_eq, in_eq, gd_T, gd_t, i00, i10, c_0, c_1, c_m1, ite10, ite01, setV_fn, setV_at, cntS, nI_pos, nI_clamp, nI_leI, nI_ltI, nI_eq, nI_1, if_true, if_false, not_true, not_false, and_self, and_true, true_and, false_and, and_false, or_false, false_or, or_true, true_or, not_false_eq_true, ite_self, ite_true, ite_false, reduceIte, Nat.reduceEqDiff, Nat.reduceMul, Nat.reduceAdd, Nat.reduceLT, Nat.reducePow, ne_eq]
      · skip
        by_cases hmx : nS = 100
        · have e1 : ¬ nI nS < 100 := by rw [hmx]; decide
          have e2 : nI nS = 100 := by rw [hmx]; decide
          refine Step.same (r := 0) ?_ ?_ hI'
          · simp (disch := omega) only [f_X11_seen, F_X11_seen_31, findThing_ok hth.2.1 (by omega) hi0, hm, h1, hm, h2, hn1, e1, bd_some, n10, n00, bv_eq, within_eq, in_eq, gd_T, gd_t, i00, i10, c_0, c_1, c_m1, ite10, ite01, setV_fn, setV_at, cntS, nI_pos, nI_clamp, nI_leI, nI_ltI, nI_eq, nI_1, if_true, if_false, not_true, not_false, and_self, and_true, true_and, false_and, and_false, or_false, false_or, or_true, true_or, not_false_eq_true, ite_self, ite_true, ite_false, reduceIte, Nat.reduceEqDiff, Nat.reduceMul, Nat.reduceAdd, Nat.reduceLT, Nat.reducePow, ne_eq]
          · simp (disch := omega) only [f_X12_seen, F_X12_seen_40, isThing_ok hth.2.2.1 (by omega) hi0, h1, h2, hn2, e2, bd_some, n10, n00, bv_eq, within_eq, in_eq, gd_T, gd_t, i00, i10, c_0, c_1, c_m1, ite10, ite01, setV_fn, setV_at, cntS, nI_pos, nI_clamp, nI_leI, nI_ltI, nI_eq, nI_1, if_true, if_false, not_true, not_false, and_self, and_true, true_and, false_and, and_false, or_false, false_or, or_true, true_or, not_false_eq_true, ite_self, ite_true, ite_false, reduceIte, Nat.reduceEqDiff, Nat.reduceMul, Nat.reduceAdd, Nat.reduceLT, Nat.reducePow, ne_eq]
        · have e1 : nI nS < 100 := nI_lt (b := 100) (by omega) (by decide)
          have e2 : ¬ nI nS = 100 := fun q => hmx ((nI_eq (b := 100) (by omega) (by decide)).mp q)
          have hok := mkOK_I hcl hth hla hn1 (by omega)
          refine ⟨1, mkV V 2110 nS gv_1300 (F_1300 (nI i0) (-1) w n), setV (setV (setV (setV (mkV V 2110 nS gv_1300 (F_1300 (nI i0) (-1) w n)) 2289 0 nS (nI i0)) 2290 0 nS w) 2291 0 nS n) 2286 0 0 (nI (nS + 1)), ?_, ?_, ?_⟩
          · simp (disch := omega) only [f_X11_seen, F_X11_seen_31, findThing_ok hth.2.1 (by omega) hi0, hm, h1, hm, h2, hn1, e1, hok, mkV_cnt, nI_pred, bd_some, n10, n00, bv_eq, within_eq, in_eq, gd_T, gd_t, i00, i10, c_0, c_1, c_m1, ite10, ite01, setV_fn, setV_at, cntS, nI_pos, nI_clamp, nI_leI, nI_ltI, nI_eq, nI_1, if_true, if_false, not_true, not_false, and_self, and_true, true_and, false_and, and_false, or_false, false_or, or_true, true_or, not_false_eq_true, ite_self, ite_true, ite_false, reduceIte, Nat.reduceEqDiff, Nat.reduceMul, Nat.reduceAdd, Nat.reduceLT, Nat.reducePow, ne_eq]
          · have g : ∀ v, v ≠ 2110 → v ∉ gv_1300 → mkV V 2110 nS gv_1300 (F_1300 (nI i0) (-1) w n) v = V v := fun v q1 q2 => mkV_fn q1 q2
            have g2201 := g 2201 (by decide) (by decide)
            have g2202 := g 2202 (by decide) (by decide)
            have g2203 := g 2203 (by decide) (by decide)
            have g2204 := g 2204 (by decide) (by decide)
            have g2232 := g 2232 (by decide) (by decide)
            have g2277 := g 2277 (by decide) (by decide)
            have g2286 := g 2286 (by decide) (by decide)
            simp (disch := omega) only [f_X12_seen, F_X12_seen_40, isThing_ok (show mkV V 2110 nS gv_1300 (F_1300 (nI i0) (-1) w n) 2204 0 0 = _ by rw [g2204]; exact hth.2.2.1) (by omega) hi0, h1, h2, hn2, g2201, g2202, g2203, g2204, g2232, g2277, g2286, e2, nI_pred, bd_some, n10, n00, bv_eq, within_eq, in_eq, gd_T, gd_t, i00, i10, c_0, c_1, c_m1, ite10, ite01, setV_fn, setV_at, cntS, nI_pos, nI_clamp, nI_leI, nI_ltI, nI_eq, nI_1, if_true, if_false, not_true, not_false, and_self, and_true, true_and, false_and, and_false, or_false, false_or, or_true, true_or, not_false_eq_true, ite_self, ite_true, ite_false, reduceIte, Nat.reduceEqDiff, Nat.reduceMul, Nat.reduceAdd, Nat.reduceLT, Nat.reducePow, ne_eq]
          · have hF : Fr [2110, 2286, 2289, 2290, 2291, 1301, 1302, 1303, 1304] V (setV (setV (setV (setV (mkV V 2110 nS gv_1300 (F_1300 (nI i0) (-1) w n)) 2289 0 nS (nI i0)) 2290 0 nS w) 2291 0 nS n) 2286 0 0 (nI (nS + 1))) := (((((Fr.refl _ V).mk (by decide) (by decide)).set (by decide)).set (by decide)).set (by decide)).set (by decide)
            refine ⟨nC, nD, nT, nM, nP, nK, nS + 1, nR, nL, nO, by omega, hmi.fr hF rfl, hta.fr hF rfl, hcl.fr hF rfl, hdr.fr hF rfl, hth.fr hF rfl, hla.fr hF rfl, hma.fr hF rfl, hor.fr hF rfl, hpe.fr hF rfl, hdo.fr hF rfl, ?_, hru.fr hF rfl, hmk.fr hF rfl⟩
            obtain ⟨-, -, -, hx⟩ := hse
            have hmm := hmi.2.2.1
            refine ⟨by omega, by simp (maxSteps := 1000000) (disch := first | omega | decide) only [setV_fn, setV_at, mkV_fn, mkV_at, mkV_cnt, n10], by simp (disch := omega) only [bd_some, n10, n00, bv_eq, within_eq, in_eq, gd_T, gd_t, i00, i10, c_0, c_1, c_m1, ite10, ite01, setV_fn, setV_at, cntS, nI_pos, nI_clamp, nI_leI, nI_ltI, nI_eq, nI_1, if_true, if_false, not_true, not_false, and_self, and_true, true_and, false_and, and_false, or_false, false_or, or_true, true_or, not_false_eq_true, ite_self, ite_true, ite_false, reduceIte, Nat.reduceEqDiff, Nat.reduceMul, Nat.reduceAdd, Nat.reduceLT, Nat.reducePow, ne_eq], fun o ho => ?_⟩
            simp (maxSteps := 1000000) (disch := first | omega | decide) only [setV_fn, setV_at, mkV_fn, mkV_at, mkV_cnt, F_1300]
            have := hx o; grind
theorem P_drawing {fu k : Nat} {V : St} (hI : Inv k V) (j : Int32) : Step k (fun V => f_X11_drawing fu V j) (fun V => f_X12_drawing fu V j) V := by
  have hI' := hI
  obtain ⟨nC, nD, nT, nM, nP, nK, nS, nR, nL, nO, hL, hmi, hta, hcl, hdr, hth, hla, hma, hor, hpe, hdo, hse, hru, hmk⟩ := hI
  have hm := hmi.1
  have hn1 := hdr.2.1
  have hn2 := hdr.2.2.1
  have hle := hdr.1
  rcases (Decidable.em (2 ≤ j ∧ j ≤ 8)).symm with h0 | h0
  · refine Step.same (r := -1) ?_ ?_ hI'
    · simp (disch := omega) only [f_X11_drawing, F_X11_drawing_22, h0, hm, bd_some, n10, n00, bv_eq, within_eq, in_eq, gd_T, gd_t, i00, i10, c_0, c_1, c_m1, ite10, ite01, setV_fn, setV_at, cntS, nI_pos, nI_clamp, nI_leI, nI_ltI, nI_eq, nI_1, if_true, if_false, not_true, not_false, and_self, and_true, true_and, false_and, and_false, or_false, false_or, or_true, true_or, not_false_eq_true, ite_self, ite_true, ite_false, reduceIte, Nat.reduceEqDiff, Nat.reduceMul, Nat.reduceAdd, Nat.reduceLT, Nat.reducePow, ne_eq]
    · simp (disch := omega) only [f_X12_drawing, F_X12_drawing_19, h0, bd_some, n10, n00, bv_eq, within_eq, in_eq, gd_T, gd_t, i00, i10, c_0, c_1, c_m1, ite10, ite01, setV_fn, setV_at, cntS, nI_pos, nI_clamp, nI_leI, nI_ltI, nI_eq, nI_1, if_true, if_false, not_true, not_false, and_self, and_true, true_and, false_and, and_false, or_false, false_or, or_true, true_or, not_false_eq_true, ite_self, ite_true, ite_false, reduceIte, Nat.reduceEqDiff, Nat.reduceMul, Nat.reduceAdd, Nat.reduceLT, Nat.reducePow, ne_eq]
  · skip
    by_cases hmx : nD = 22
    · have e1 : ¬ nI nD < 22 := by rw [hmx]; decide
      have e2 : nI nD = 22 := by rw [hmx]; decide
      refine Step.same (r := -1) ?_ ?_ hI'
      · simp (disch := omega) only [f_X11_drawing, F_X11_drawing_22, hm, h0, hn1, e1, bd_some, n10, n00, bv_eq, within_eq, in_eq, gd_T, gd_t, i00, i10, c_0, c_1, c_m1, ite10, ite01, setV_fn, setV_at, cntS, nI_pos, nI_clamp, nI_leI, nI_ltI, nI_eq, nI_1, if_true, if_false, not_true, not_false, and_self, and_true, true_and, false_and, and_false, or_false, false_or, or_true, true_or, not_false_eq_true, ite_self, ite_true, ite_false, reduceIte, Nat.reduceEqDiff, Nat.reduceMul, Nat.reduceAdd, Nat.reduceLT, Nat.reducePow, ne_eq]
      · simp (disch := omega) only [f_X12_drawing, F_X12_drawing_19, h0, hn2, e2, bd_some, n10, n00, bv_eq, within_eq, in_eq, gd_T, gd_t, i00, i10, c_0, c_1, c_m1, ite10, ite01, setV_fn, setV_at, cntS, nI_pos, nI_clamp, nI_leI, nI_ltI, nI_eq, nI_1, if_true, if_false, not_true, not_false, and_self, and_true, true_and, false_and, and_false, or_false, false_or, or_true, true_or, not_false_eq_true, ite_self, ite_true, ite_false, reduceIte, Nat.reduceEqDiff, Nat.reduceMul, Nat.reduceAdd, Nat.reduceLT, Nat.reducePow, ne_eq]
    · have e1 : nI nD < 22 := nI_lt (b := 22) (by omega) (by decide)
      have e2 : ¬ nI nD = 22 := fun q => hmx ((nI_eq (b := 22) (by omega) (by decide)).mp q)
      have hok := mkOK_I hcl hth hla hn1 (by omega)
      refine ⟨nI nD, mkV V 2104 nD gv_1200 (F_1200 j), setV (setV (mkV V 2104 nD gv_1200 (F_1200 j)) 2208 0 nD j) 2203 0 0 (nI (nD + 1)), ?_, ?_, ?_⟩
      · simp (disch := omega) only [f_X11_drawing, F_X11_drawing_22, hm, h0, hn1, e1, hok, mkV_cnt, nI_pred, bd_some, n10, n00, bv_eq, within_eq, in_eq, gd_T, gd_t, i00, i10, c_0, c_1, c_m1, ite10, ite01, setV_fn, setV_at, cntS, nI_pos, nI_clamp, nI_leI, nI_ltI, nI_eq, nI_1, if_true, if_false, not_true, not_false, and_self, and_true, true_and, false_and, and_false, or_false, false_or, or_true, true_or, not_false_eq_true, ite_self, ite_true, ite_false, reduceIte, Nat.reduceEqDiff, Nat.reduceMul, Nat.reduceAdd, Nat.reduceLT, Nat.reducePow, ne_eq]
      · have g : ∀ v, v ≠ 2104 → v ∉ gv_1200 → mkV V 2104 nD gv_1200 (F_1200 j) v = V v := fun v q1 q2 => mkV_fn q1 q2
        have g2201 := g 2201 (by decide) (by decide)
        have g2202 := g 2202 (by decide) (by decide)
        have g2203 := g 2203 (by decide) (by decide)
        have g2204 := g 2204 (by decide) (by decide)
        have g2232 := g 2232 (by decide) (by decide)
        have g2277 := g 2277 (by decide) (by decide)
        simp (disch := omega) only [f_X12_drawing, F_X12_drawing_19, h0, hn2, g2201, g2202, g2203, g2204, g2232, g2277, e2, nI_pred, bd_some, n10, n00, bv_eq, within_eq, in_eq, gd_T, gd_t, i00, i10, c_0, c_1, c_m1, ite10, ite01, setV_fn, setV_at, cntS, nI_pos, nI_clamp, nI_leI, nI_ltI, nI_eq, nI_1, if_true, if_false, not_true, not_false, and_self, and_true, true_and, false_and, and_false, or_false, false_or, or_true, true_or, not_false_eq_true, ite_self, ite_true, ite_false, reduceIte, Nat.reduceEqDiff, Nat.reduceMul, Nat.reduceAdd, Nat.reduceLT, Nat.reducePow, ne_eq]
      · have hF : Fr [2104, 2203, 2208, 1201, 1202, 1203, 1204, 1205, 1206, 1207, 1208, 1209, 1210, 1211, 1212, 1213, 1214, 1215, 1216] V (setV (setV (mkV V 2104 nD gv_1200 (F_1200 j)) 2208 0 nD j) 2203 0 0 (nI (nD + 1))) := (((Fr.refl _ V).mk (by decide) (by decide)).set (by decide)).set (by decide)
        refine ⟨nC, nD + 1, nT, nM, nP, nK, nS, nR, nL, nO, by omega, hmi.fr hF rfl, hta.fr hF rfl, hcl.fr hF rfl, ?_, hth.fr hF rfl, hla.fr hF rfl, hma.fr hF rfl, hor.fr hF rfl, hpe.fr hF rfl, hdo.fr hF rfl, hse.fr hF rfl, hru.fr hF rfl, hmk.fr hF rfl⟩
        obtain ⟨-, -, -, hfr, hx⟩ := hdr
        refine ⟨by omega, by simp (maxSteps := 1000000) (disch := first | omega | decide) only [setV_fn, setV_at, mkV_fn, mkV_at, mkV_cnt, n10], by simp (disch := omega) only [bd_some, n10, n00, bv_eq, within_eq, in_eq, gd_T, gd_t, i00, i10, c_0, c_1, c_m1, ite10, ite01, setV_fn, setV_at, cntS, nI_pos, nI_clamp, nI_leI, nI_ltI, nI_eq, nI_1, if_true, if_false, not_true, not_false, and_self, and_true, true_and, false_and, and_false, or_false, false_or, or_true, true_or, not_false_eq_true, ite_self, ite_true, ite_false, reduceIte, Nat.reduceEqDiff, Nat.reduceMul, Nat.reduceAdd, Nat.reduceLT, Nat.reducePow, ne_eq], fun d hd => ?_, fun d hd => ?_⟩
        · simp (maxSteps := 1000000) (disch := first | omega | decide) only [setV_fn, setV_at, mkV_fn, mkV_at, mkV_cnt, n10]; exact hfr d (by omega)
        · by_cases hdn : d < nD
          · obtain ⟨j1, s, l, A, B, T, LJ, LP, hD⟩ := hx d hdn
            refine ⟨j1, s, l, A, B, T, LJ, LP, ?_⟩
            unfold DrawV at hD ⊢
            have e : ¬ d = nD := by omega
            have e' : mkV V 2104 nD gv_1200 (F_1200 j) 1211 d = V 1211 d := by funext q; rw [mkV_at (by decide) (by decide), if_neg e]
            simp (maxSteps := 1000000) (disch := first | omega | decide) only [setV_fn, setV_at, mkV_fn, mkV_at, mkV_cnt, e, e', if_false, and_false]; exact hD
          · have e : d = nD := by omega
            subst e
            obtain ⟨j1, hj1, hj2⟩ : ∃ j1 : Nat, j1 ≤ 8 ∧ j = nI j1 := nI_of2 (M := 8) (by decide) (by have := h0; grind) h0.2
            subst hj2
            have hj3 : 2 ≤ j1 := (nI_leI (a := 2) (by decide) (by omega)).mp h0.1
            refine ⟨j1, 0, 0, fun _ => 0, fun _ => 0, fun _ => 0, fun _ => 0, fun _ => 0, ?_⟩
            unfold DrawV
            simp (maxSteps := 1000000) (disch := first | omega | decide) only [setV_fn, setV_at, mkV_fn, mkV_at, mkV_cnt, F_1200, nI_0]
            have := hfr d (by omega)
            refine ⟨hj3, hj1, by omega, by omega, ?_, ?_, ?_, ?_, ?_, ?_, fun k hk => by omega, fun k hk => by omega, .inl ?_⟩ <;> simp [this]
