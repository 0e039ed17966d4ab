/-! rubbed, thing, cloth, maker (by program: mk.py) -/
theorem P_rubbed0 {fu k : Nat} {V : St} (hI : Inv k V) (c t : Int32) : Step k (fun V => f_X11_rubbed fu V c t 0) (fun V => f_X12_rubbed fu V c t 0) V := by
  have hI' := hI
  obtain ⟨nC, nD, nT, nM, nP, nK, nS, nR, nL, nO, hL, hmi, hta, hcl, hdr, hth, hla, hma, hor, hpe, hdo, hse, hru, hmk⟩ := hI
  have hm := hmi.1
  have leCloth : nC ≤ 1000 := by have := hcl.1; omega
  have hn1 := hru.2.1
  have hn2 := hru.2.2.1
  have hle := hru.1
  rcases ix_or c (show nC < 2 ^ 31 by omega) with hv0 | ⟨i0, hi0, rfl⟩
  · refine Step.same (r := 0) ?_ ?_ hI'
    · simp (disch := omega) only [f_X11_rubbed, F_X11_rubbed_31, findCloth_no hcl.2.1 (by omega) hv0, bd_some, n10, n00, bv_eq, within_eq, in_eq, gd_T, gd_t, i00, i10, c_0, c_1, c_m1, ite10, ite01, setV_fn, setV_at, cntS, nI_pos, nI_clamp, nI_leI, nI_ltI, nI_eq, nI_1, if_true, if_false, not_true, not_false, and_self, and_true, true_and, false_and, and_false, or_false, false_or, or_true, true_or, not_false_eq_true, ite_self, ite_true, ite_false, reduceIte, Nat.reduceEqDiff, Nat.reduceMul, Nat.reduceAdd, Nat.reduceLT, Nat.reducePow, ne_eq]
    · simp (disch := omega) only [f_X12_rubbed, F_X12_rubbed_28, isCloth_no hcl.2.2.1 hv0, bd_some, n10, n00, bv_eq, within_eq, in_eq, gd_T, gd_t, i00, i10, c_0, c_1, c_m1, ite10, ite01, setV_fn, setV_at, cntS, nI_pos, nI_clamp, nI_leI, nI_ltI, nI_eq, nI_1, if_true, if_false, not_true, not_false, and_self, and_true, true_and, false_and, and_false, or_false, false_or, or_true, true_or, not_false_eq_true, ite_self, ite_true, ite_false, reduceIte, Nat.reduceEqDiff, Nat.reduceMul, Nat.reduceAdd, Nat.reduceLT, Nat.reducePow, ne_eq]
  · skip
    rcases (Decidable.em (1 ≤ t ∧ t ≤ 100000)).symm with h1 | h1
    · refine Step.same (r := 0) ?_ ?_ hI'
      · simp (disch := omega) only [f_X11_rubbed, F_X11_rubbed_31, findCloth_ok hcl.2.1 (by omega) hi0, h1, hm, bd_some, n10, n00, bv_eq, within_eq, in_eq, gd_T, gd_t, i00, i10, c_0, c_1, c_m1, ite10, ite01, setV_fn, setV_at, cntS, nI_pos, nI_clamp, nI_leI, nI_ltI, nI_eq, nI_1, if_true, if_false, not_true, not_false, and_self, and_true, true_and, false_and, and_false, or_false, false_or, or_true, true_or, not_false_eq_true, ite_self, ite_true, ite_false, reduceIte, Nat.reduceEqDiff, Nat.reduceMul, Nat.reduceAdd, Nat.reduceLT, Nat.reducePow, ne_eq]
      · simp (disch := omega) only [f_X12_rubbed, F_X12_rubbed_28, isCloth_ok hcl.2.2.1 (by omega) hi0, h1, bd_some, n10, n00, bv_eq, within_eq, in_eq, gd_T, gd_t, i00, i10, c_0, c_1, c_m1, ite10, ite01, setV_fn, setV_at, cntS, nI_pos, nI_clamp, nI_leI, nI_ltI, nI_eq, nI_1, if_true, if_false, not_true, not_false, and_self, and_true, true_and, false_and, and_false, or_false, false_or, or_true, true_or, not_false_eq_true, ite_self, ite_true, ite_false, reduceIte, Nat.reduceEqDiff, Nat.reduceMul, Nat.reduceAdd, Nat.reduceLT, Nat.reducePow, ne_eq]
    · skip
      by_cases hmx : nR = 100
      · have e1 : ¬ nI nR < 100 := by rw [hmx]; decide
        have e2 : nI nR = 100 := by rw [hmx]; decide
        refine Step.same (r := 0) ?_ ?_ hI'
        · simp (disch := omega) only [f_X11_rubbed, F_X11_rubbed_31, findCloth_ok hcl.2.1 (by omega) hi0, hm, h1, hn1, e1, bd_some, n10, n00, bv_eq, within_eq, in_eq, gd_T, gd_t, i00, i10, c_0, c_1, c_m1, ite10, ite01, setV_fn, setV_at, cntS, nI_pos, nI_clamp, nI_leI, nI_ltI, nI_eq, nI_1, if_true, if_false, not_true, not_false, and_self, and_true, true_and, false_and, and_false, or_false, false_or, or_true, true_or, not_false_eq_true, ite_self, ite_true, ite_false, reduceIte, Nat.reduceEqDiff, Nat.reduceMul, Nat.reduceAdd, Nat.reduceLT, Nat.reducePow, ne_eq]
        · simp (disch := omega) only [f_X12_rubbed, F_X12_rubbed_28, isCloth_ok hcl.2.2.1 (by omega) hi0, h1, hn2, e2, bd_some, n10, n00, bv_eq, within_eq, in_eq, gd_T, gd_t, i00, i10, c_0, c_1, c_m1, ite10, ite01, setV_fn, setV_at, cntS, nI_pos, nI_clamp, nI_leI, nI_ltI, nI_eq, nI_1, if_true, if_false, not_true, not_false, and_self, and_true, true_and, false_and, and_false, or_false, false_or, or_true, true_or, not_false_eq_true, ite_self, ite_true, ite_false, reduceIte, Nat.reduceEqDiff, Nat.reduceMul, Nat.reduceAdd, Nat.reduceLT, Nat.reducePow, ne_eq]
      · have e1 : nI nR < 100 := nI_lt (b := 100) (by omega) (by decide)
        have e2 : ¬ nI nR = 100 := fun q => hmx ((nI_eq (b := 100) (by omega) (by decide)).mp q)
        have hok := mkOK_I hcl hth hla hn1 (by omega)
        refine ⟨1, mkV V 2111 nR gv_1330 (F_1330 (nI i0) 0 (V 2201 0 0) t), setV (setV (setV (setV (setV (mkV V 2111 nR gv_1330 (F_1330 (nI i0) 0 (V 2201 0 0) t)) 2292 0 nR (nI i0)) 2293 0 nR t) 2294 0 nR (V 2201 0 0)) 2295 0 nR 0) 2287 0 0 (nI (nR + 1)), ?_, ?_, ?_⟩
        · simp (disch := omega) only [f_X11_rubbed, F_X11_rubbed_31, findCloth_ok hcl.2.1 (by omega) hi0, hm, h1, hn1, e1, hok, mkV_cnt, nI_pred, bd_some, n10, n00, bv_eq, within_eq, in_eq, gd_T, gd_t, i00, i10, c_0, c_1, c_m1, ite10, ite01, setV_fn, setV_at, cntS, nI_pos, nI_clamp, nI_leI, nI_ltI, nI_eq, nI_1, if_true, if_false, not_true, not_false, and_self, and_true, true_and, false_and, and_false, or_false, false_or, or_true, true_or, not_false_eq_true, ite_self, ite_true, ite_false, reduceIte, Nat.reduceEqDiff, Nat.reduceMul, Nat.reduceAdd, Nat.reduceLT, Nat.reducePow, ne_eq]
        · have g : ∀ v, v ≠ 2111 → v ∉ gv_1330 → mkV V 2111 nR gv_1330 (F_1330 (nI i0) 0 (V 2201 0 0) t) v = V v := fun v q1 q2 => mkV_fn q1 q2
          have g2201 := g 2201 (by decide) (by decide)
          have g2202 := g 2202 (by decide) (by decide)
          have g2203 := g 2203 (by decide) (by decide)
          have g2204 := g 2204 (by decide) (by decide)
          have g2232 := g 2232 (by decide) (by decide)
          have g2277 := g 2277 (by decide) (by decide)
          have g2287 := g 2287 (by decide) (by decide)
          simp (disch := omega) only [f_X12_rubbed, F_X12_rubbed_28, isCloth_ok (show mkV V 2111 nR gv_1330 (F_1330 (nI i0) 0 (V 2201 0 0) t) 2202 0 0 = _ by rw [g2202]; exact hcl.2.2.1) (by omega) hi0, h1, hn2, g2201, g2202, g2203, g2204, g2232, g2277, g2287, e2, nI_pred, bd_some, n10, n00, bv_eq, within_eq, in_eq, gd_T, gd_t, i00, i10, c_0, c_1, c_m1, ite10, ite01, setV_fn, setV_at, cntS, nI_pos, nI_clamp, nI_leI, nI_ltI, nI_eq, nI_1, if_true, if_false, not_true, not_false, and_self, and_true, true_and, false_and, and_false, or_false, false_or, or_true, true_or, not_false_eq_true, ite_self, ite_true, ite_false, reduceIte, Nat.reduceEqDiff, Nat.reduceMul, Nat.reduceAdd, Nat.reduceLT, Nat.reducePow, ne_eq]
        · have hF : Fr [2111, 2287, 2292, 2293, 2294, 2295, 1331, 1332, 1333, 1334] V (setV (setV (setV (setV (setV (mkV V 2111 nR gv_1330 (F_1330 (nI i0) 0 (V 2201 0 0) t)) 2292 0 nR (nI i0)) 2293 0 nR t) 2294 0 nR (V 2201 0 0)) 2295 0 nR 0) 2287 0 0 (nI (nR + 1))) := ((((((Fr.refl _ V).mk (by decide) (by decide)).set (by decide)).set (by decide)).set (by decide)).set (by decide)).set (by decide)
          refine ⟨nC, nD, nT, nM, nP, nK, nS, nR + 1, nL, nO, by omega, hmi.fr hF rfl, hta.fr hF rfl, hcl.fr hF rfl, hdr.fr hF rfl, hth.fr hF rfl, hla.fr hF rfl, hma.fr hF rfl, hor.fr hF rfl, hpe.fr hF rfl, hdo.fr hF rfl, hse.fr hF rfl, ?_, hmk.fr hF rfl⟩
          obtain ⟨-, -, -, hx⟩ := hru
          refine ⟨by omega, by simp (maxSteps := 1000000) (disch := first | omega | decide) only [setV_fn, setV_at, mkV_fn, mkV_at, mkV_cnt, n10], by simp (disch := omega) only [bd_some, n10, n00, bv_eq, within_eq, in_eq, gd_T, gd_t, i00, i10, c_0, c_1, c_m1, ite10, ite01, setV_fn, setV_at, cntS, nI_pos, nI_clamp, nI_leI, nI_ltI, nI_eq, nI_1, if_true, if_false, not_true, not_false, and_self, and_true, true_and, false_and, and_false, or_false, false_or, or_true, true_or, not_false_eq_true, ite_self, ite_true, ite_false, reduceIte, Nat.reduceEqDiff, Nat.reduceMul, Nat.reduceAdd, Nat.reduceLT, Nat.reducePow, ne_eq], fun o ho => ?_⟩
          simp (maxSteps := 1000000) (disch := first | omega | decide) only [setV_fn, setV_at, mkV_fn, mkV_at, mkV_cnt, F_1330]
          have := hx o; grind
theorem P_rubbed1 {fu k : Nat} {V : St} (hI : Inv k V) (c t : Int32) : Step k (fun V => f_X11_rubbed fu V c t 1) (fun V => f_X12_rubbed fu V c t 1) V := by
  have hI' := hI
  obtain ⟨nC, nD, nT, nM, nP, nK, nS, nR, nL, nO, hL, hmi, hta, hcl, hdr, hth, hla, hma, hor, hpe, hdo, hse, hru, hmk⟩ := hI
  have hm := hmi.1
  have leCloth : nC ≤ 1000 := by have := hcl.1; omega
  have hn1 := hru.2.1
  have hn2 := hru.2.2.1
  have hle := hru.1
  rcases ix_or c (show nC < 2 ^ 31 by omega) with hv0 | ⟨i0, hi0, rfl⟩
  · refine Step.same (r := 0) ?_ ?_ hI'
    · simp (disch := omega) only [f_X11_rubbed, F_X11_rubbed_31, findCloth_no hcl.2.1 (by omega) hv0, bd_some, n10, n00, bv_eq, within_eq, in_eq, gd_T, gd_t, i00, i10, c_0, c_1, c_m1, ite10, ite01, setV_fn, setV_at, cntS, nI_pos, nI_clamp, nI_leI, nI_ltI, nI_eq, nI_1, if_true, if_false, not_true, not_false, and_self, and_true, true_and, false_and, and_false, or_false, false_or, or_true, true_or, not_false_eq_true, ite_self, ite_true, ite_false, reduceIte, Nat.reduceEqDiff, Nat.reduceMul, Nat.reduceAdd, Nat.reduceLT, Nat.reducePow, ne_eq]
    · simp (disch := omega) only [f_X12_rubbed, F_X12_rubbed_28, isCloth_no hcl.2.2.1 hv0, bd_some, n10, n00, bv_eq, within_eq, in_eq, gd_T, gd_t, i00, i10, c_0, c_1, c_m1, ite10, ite01, setV_fn, setV_at, cntS, nI_pos, nI_clamp, nI_leI, nI_ltI, nI_eq, nI_1, if_true, if_false, not_true, not_false, and_self, and_true, true_and, false_and, and_false, or_false, false_or, or_true, true_or, not_false_eq_true, ite_self, ite_true, ite_false, reduceIte, Nat.reduceEqDiff, Nat.reduceMul, Nat.reduceAdd, Nat.reduceLT, Nat.reducePow, ne_eq]
  · skip
    rcases (Decidable.em (1 ≤ t ∧ t ≤ 100000)).symm with h1 | h1
    · refine Step.same (r := 0) ?_ ?_ hI'
      · simp (disch := omega) only [f_X11_rubbed, F_X11_rubbed_31, findCloth_ok hcl.2.1 (by omega) hi0, h1, hm, bd_some, n10, n00, bv_eq, within_eq, in_eq, gd_T, gd_t, i00, i10, c_0, c_1, c_m1, ite10, ite01, setV_fn, setV_at, cntS, nI_pos, nI_clamp, nI_leI, nI_ltI, nI_eq, nI_1, if_true, if_false, not_true, not_false, and_self, and_true, true_and, false_and, and_false, or_false, false_or, or_true, true_or, not_false_eq_true, ite_self, ite_true, ite_false, reduceIte, Nat.reduceEqDiff, Nat.reduceMul, Nat.reduceAdd, Nat.reduceLT, Nat.reducePow, ne_eq]
      · simp (disch := omega) only [f_X12_rubbed, F_X12_rubbed_28, isCloth_ok hcl.2.2.1 (by omega) hi0, h1, bd_some, n10, n00, bv_eq, within_eq, in_eq, gd_T, gd_t, i00, i10, c_0, c_1, c_m1, ite10, ite01, setV_fn, setV_at, cntS, nI_pos, nI_clamp, nI_leI, nI_ltI, nI_eq, nI_1, if_true, if_false, not_true, not_false, and_self, and_true, true_and, false_and, and_false, or_false, false_or, or_true, true_or, not_false_eq_true, ite_self, ite_true, ite_false, reduceIte, Nat.reduceEqDiff, Nat.reduceMul, Nat.reduceAdd, Nat.reduceLT, Nat.reducePow, ne_eq]
    · skip
      by_cases hmx : nR = 100
      · have e1 : ¬ nI nR < 100 := by rw [hmx]; decide
        have e2 : nI nR = 100 := by rw [hmx]; decide
        refine Step.same (r := 0) ?_ ?_ hI'
        · simp (disch := omega) only [f_X11_rubbed, F_X11_rubbed_31, findCloth_ok hcl.2.1 (by omega) hi0, hm, h1, hn1, e1, bd_some, n10, n00, bv_eq, within_eq, in_eq, gd_T, gd_t, i00, i10, c_0, c_1, c_m1, ite10, ite01, setV_fn, setV_at, cntS, nI_pos, nI_clamp, nI_leI, nI_ltI, nI_eq, nI_1, if_true, if_false, not_true, not_false, and_self, and_true, true_and, false_and, and_false, or_false, false_or, or_true, true_or, not_false_eq_true, ite_self, ite_true, ite_false, reduceIte, Nat.reduceEqDiff, Nat.reduceMul, Nat.reduceAdd, Nat.reduceLT, Nat.reducePow, ne_eq]
        · simp (disch := omega) only [f_X12_rubbed, F_X12_rubbed_28, isCloth_ok hcl.2.2.1 (by omega) hi0, h1, hn2, e2, bd_some, n10, n00, bv_eq, within_eq, in_eq, gd_T, gd_t, i00, i10, c_0, c_1, c_m1, ite10, ite01, setV_fn, setV_at, cntS, nI_pos, nI_clamp, nI_leI, nI_ltI, nI_eq, nI_1, if_true, if_false, not_true, not_false, and_self, and_true, true_and, false_and, and_false, or_false, false_or, or_true, true_or, not_false_eq_true, ite_self, ite_true, ite_false, reduceIte, Nat.reduceEqDiff, Nat.reduceMul, Nat.reduceAdd, Nat.reduceLT, Nat.reducePow, ne_eq]
      · have e1 : nI nR < 100 := nI_lt (b := 100) (by omega) (by decide)
        have e2 : ¬ nI nR = 100 := fun q => hmx ((nI_eq (b := 100) (by omega) (by decide)).mp q)
        have hok := mkOK_I hcl hth hla hn1 (by omega)
        refine ⟨1, mkV V 2111 nR gv_1330 (F_1330 (nI i0) 1 (V 2201 0 0) t), setV (setV (setV (setV (setV (mkV V 2111 nR gv_1330 (F_1330 (nI i0) 1 (V 2201 0 0) t)) 2292 0 nR (nI i0)) 2293 0 nR t) 2294 0 nR (V 2201 0 0)) 2295 0 nR 1) 2287 0 0 (nI (nR + 1)), ?_, ?_, ?_⟩
        · simp (disch := omega) only [f_X11_rubbed, F_X11_rubbed_31, findCloth_ok hcl.2.1 (by omega) hi0, hm, h1, hn1, e1, hok, mkV_cnt, nI_pred, bd_some, n10, n00, bv_eq, within_eq, in_eq, gd_T, gd_t, i00, i10, c_0, c_1, c_m1, ite10, ite01, setV_fn, setV_at, cntS, nI_pos, nI_clamp, nI_leI, nI_ltI, nI_eq, nI_1, if_true, if_false, not_true, not_false, and_self, and_true, true_and, false_and, and_false, or_false, false_or, or_true, true_or, not_false_eq_true, ite_self, ite_true, ite_false, reduceIte, Nat.reduceEqDiff, Nat.reduceMul, Nat.reduceAdd, Nat.reduceLT, Nat.reducePow, ne_eq]
        · have g : ∀ v, v ≠ 2111 → v ∉ gv_1330 → mkV V 2111 nR gv_1330 (F_1330 (nI i0) 1 (V 2201 0 0) t) v = V v := fun v q1 q2 => mkV_fn q1 q2
          have g2201 := g 2201 (by decide) (by decide)
          have g2202 := g 2202 (by decide) (by decide)
          have g2203 := g 2203 (by decide) (by decide)
          have g2204 := g 2204 (by decide) (by decide)
          have g2232 := g 2232 (by decide) (by decide)
          have g2277 := g 2277 (by decide) (by decide)
          have g2287 := g 2287 (by decide) (by decide)
          simp (disch := omega) only [f_X12_rubbed, F_X12_rubbed_28, isCloth_ok (show mkV V 2111 nR gv_1330 (F_1330 (nI i0) 1 (V 2201 0 0) t) 2202 0 0 = _ by rw [g2202]; exact hcl.2.2.1) (by omega) hi0, h1, hn2, g2201, g2202, g2203, g2204, g2232, g2277, g2287, e2, nI_pred, bd_some, n10, n00, bv_eq, within_eq, in_eq, gd_T, gd_t, i00, i10, c_0, c_1, c_m1, ite10, ite01, setV_fn, setV_at, cntS, nI_pos, nI_clamp, nI_leI, nI_ltI, nI_eq, nI_1, if_true, if_false, not_true, not_false, and_self, and_true, true_and, false_and, and_false, or_false, false_or, or_true, true_or, not_false_eq_true, ite_self, ite_true, ite_false, reduceIte, Nat.reduceEqDiff, Nat.reduceMul, Nat.reduceAdd, Nat.reduceLT, Nat.reducePow, ne_eq]
        · have hF : Fr [2111, 2287, 2292, 2293, 2294, 2295, 1331, 1332, 1333, 1334] V (setV (setV (setV (setV (setV (mkV V 2111 nR gv_1330 (F_1330 (nI i0) 1 (V 2201 0 0) t)) 2292 0 nR (nI i0)) 2293 0 nR t) 2294 0 nR (V 2201 0 0)) 2295 0 nR 1) 2287 0 0 (nI (nR + 1))) := ((((((Fr.refl _ V).mk (by decide) (by decide)).set (by decide)).set (by decide)).set (by decide)).set (by decide)).set (by decide)
          refine ⟨nC, nD, nT, nM, nP, nK, nS, nR + 1, nL, nO, by omega, hmi.fr hF rfl, hta.fr hF rfl, hcl.fr hF rfl, hdr.fr hF rfl, hth.fr hF rfl, hla.fr hF rfl, hma.fr hF rfl, hor.fr hF rfl, hpe.fr hF rfl, hdo.fr hF rfl, hse.fr hF rfl, ?_, hmk.fr hF rfl⟩
          obtain ⟨-, -, -, hx⟩ := hru
          refine ⟨by omega, by simp (maxSteps := 1000000) (disch := first | omega | decide) only [setV_fn, setV_at, mkV_fn, mkV_at, mkV_cnt, n10], by simp (disch := omega) only [bd_some, n10, n00, bv_eq, within_eq, in_eq, gd_T, gd_t, i00, i10, c_0, c_1, c_m1, ite10, ite01, setV_fn, setV_at, cntS, nI_pos, nI_clamp, nI_leI, nI_ltI, nI_eq, nI_1, if_true, if_false, not_true, not_false, and_self, and_true, true_and, false_and, and_false, or_false, false_or, or_true, true_or, not_false_eq_true, ite_self, ite_true, ite_false, reduceIte, Nat.reduceEqDiff, Nat.reduceMul, Nat.reduceAdd, Nat.reduceLT, Nat.reducePow, ne_eq], fun o ho => ?_⟩
          simp (maxSteps := 1000000) (disch := first | omega | decide) only [setV_fn, setV_at, mkV_fn, mkV_at, mkV_cnt, F_1330]
          have := hx o; grind
theorem t10 : ((1 : Int32) = 0) = False := by decide
theorem le00 : ((0 : Int32) ≤ 0) = True := by decide
theorem le01 : ((0 : Int32) ≤ 1) = True := by decide
theorem le02 : ((0 : Int32) ≤ 2) = True := by decide
theorem le12 : ((1 : Int32) ≤ 2) = True := by decide
theorem le22 : ((2 : Int32) ≤ 2) = True := by decide
theorem t20 : ((2 : Int32) = 0) = False := by decide
theorem t21 : ((2 : Int32) = 1) = False := by decide
theorem I_lay.mono {V : St} {n n' : Nat} (h : I_lay V n) (hn : n ≤ n') : I_lay V n' := by
  rcases h with h | ⟨x, w, p, q, len, wid, hx, h⟩
  · exact .inl h
  · exact .inr ⟨x, w, p, q, len, wid, by omega, h⟩
theorem I_lay.of {V V' : St} {n n' : Nat} (h : I_lay V n) (hn : n ≤ n') (h1 : ∀ v, v ∈ [1504, 1505, 1506, 1507, 1508] → V' v = V v) (h2 : ∀ x, x < n → V' 2007 x = V 2007 x ∧ V' 2008 x = V 2008 x ∧ V' 2009 x = V 2009 x) : I_lay V' n' := by
  have e1 := h1 1504 (by decide); have e2 := h1 1505 (by decide); have e3 := h1 1506 (by decide); have e4 := h1 1507 (by decide); have e5 := h1 1508 (by decide)
  unfold I_lay at *
  rcases h with h | ⟨x, w, p, q, len, wid, hx, h⟩
  · rw [e3]; exact .inl h
  · obtain ⟨e6, e7, e8⟩ := h2 x hx
    refine .inr ⟨x, w, p, q, len, wid, by omega, ?_⟩
    rw [e1, e2, e3, e4, e5, e6, e7, e8]; exact h
theorem I_dock.mono {V : St} {t t' n : Nat} (h : I_dock V t n) (hn : t ≤ t') : I_dock V t' n := by
  obtain ⟨h1, h2, h3, h⟩ := h
  refine ⟨h1, h2, h3, fun k hk => ?_⟩
  obtain ⟨a, b, ⟨x, hx, c⟩, d⟩ := h k hk
  exact ⟨a, b, ⟨x, by omega, c⟩, d⟩
theorem I_marks.mono {V : St} {t t' m m' n : Nat} (h : I_marks V t m n) (hn : t ≤ t') (hm : m ≤ m') : I_marks V t' m' n := by
  obtain ⟨h1, h2, h3⟩ := h
  refine ⟨h1, fun e he => ?_, h3⟩
  obtain ⟨x, w, a, b, c, d, f⟩ := h2 e he
  refine ⟨x, w, by omega, b, c, d, ?_⟩
  rcases f with f | ⟨m, f, g⟩
  · exact .inl f
  · exact .inr ⟨m, by omega, g⟩
theorem I_thing.mono {V : St} {c c' n : Nat} (h : I_thing V c n) (hn : c ≤ c') : I_thing V c' n := by
  obtain ⟨h1, h2, h3, h4, h⟩ := h
  refine ⟨h1, h2, h3, h4, fun x hx => ?_⟩
  obtain ⟨p, len, wid, q1, q2, q3, q4, q5, q6, q7, q8, q9, q10, q11, q12, q13, q14, q15, q16, q17, q18⟩ := h x hx
  refine ⟨p, len, wid, q1, q2, q3, q4, q5, q6, q7, q8, q9, q10, q11, q12, q13, q14, q15, q16, ?_, q18⟩
  rcases q17 with ⟨a, b, c1, k, hk, e⟩ | q17
  · exact .inl ⟨a, b, c1, k, by omega, e⟩
  · exact .inr q17
theorem P_thing0 {fu k : Nat} {V : St} (hI : Inv k V) (x p n : Int32) : Step k (fun V => f_X11_thing fu V 0 x p n) (fun V => f_X12_thing fu V 0 x p n) V := by
  have hI' := hI
  obtain ⟨nC, nD, nT, nM, nP, nK, nS, nR, nL, nO, hL, hmi, hta, hcl, hdr, hth, hla, hma, hor, hpe, hdo, hse, hru, hmk⟩ := hI
  have hm := hmi.1
  have leCloth : nC ≤ 1000 := by have := hcl.1; omega
  have hn1 := hth.2.1
  have hn2 := hth.2.2.1
  have hle := hth.1
  rcases ix_or x (show nC < 2 ^ 31 by omega) with hv0 | ⟨i0, hi0, rfl⟩
  · refine Step.same (r := -1) ?_ ?_ hI'
    · simp (disch := omega) only [f_X11_thing, f_X11_isMadeOf, F_X11_isMadeOf_66, F_X11_isMadeOf_55, F_X11_isMadeOf_41, t10, t20, t21, F_X11_thing_60, F_X11_thing_31, findCloth_no hcl.2.1 (by omega) hv0, t10, t20, t21, le00, le01, le02, le12, le22, bd_some, n10, n00, bv_eq, within_eq, in_eq, gd_T, gd_t, i00, i10, c_0, c_1, c_m1, ite10, ite01, setV_fn, setV_at, cntS, nI_pos, nI_clamp, nI_leI, nI_ltI, nI_eq, nI_1, if_true, if_false, not_true, not_false, and_self, and_true, true_and, false_and, and_false, or_false, false_or, or_true, true_or, not_false_eq_true, ite_self, ite_true, ite_false, reduceIte, Nat.reduceEqDiff, Nat.reduceMul, Nat.reduceAdd, Nat.reduceLT, Nat.reducePow, ne_eq]
    · simp (disch := omega) only [f_X12_thing, F_X12_thing_80, F_X12_thing_78, F_X12_thing_40, isCloth_no hcl.2.2.1 hv0, t10, t20, t21, le00, le01, le02, le12, le22, bd_some, n10, n00, bv_eq, within_eq, in_eq, gd_T, gd_t, i00, i10, c_0, c_1, c_m1, ite10, ite01, setV_fn, setV_at, cntS, nI_pos, nI_clamp, nI_leI, nI_ltI, nI_eq, nI_1, if_true, if_false, not_true, not_false, and_self, and_true, true_and, false_and, and_false, or_false, false_or, or_true, true_or, not_false_eq_true, ite_self, ite_true, ite_false, reduceIte, Nat.reduceEqDiff, Nat.reduceMul, Nat.reduceAdd, Nat.reduceLT, Nat.reducePow, ne_eq]
  · skip
    rcases (Decidable.em (0 ≤ p ∧ p ≤ 9)).symm with h1 | h1
    · refine Step.same (r := -1) ?_ ?_ hI'
      · simp (disch := omega) only [f_X11_thing, f_X11_isMadeOf, F_X11_isMadeOf_66, F_X11_isMadeOf_55, F_X11_isMadeOf_41, t10, t20, t21, F_X11_thing_60, F_X11_thing_31, findCloth_ok hcl.2.1 (by omega) hi0, h1, hm, t10, t20, t21, le00, le01, le02, le12, le22, bd_some, n10, n00, bv_eq, within_eq, in_eq, gd_T, gd_t, i00, i10, c_0, c_1, c_m1, ite10, ite01, setV_fn, setV_at, cntS, nI_pos, nI_clamp, nI_leI, nI_ltI, nI_eq, nI_1, if_true, if_false, not_true, not_false, and_self, and_true, true_and, false_and, and_false, or_false, false_or, or_true, true_or, not_false_eq_true, ite_self, ite_true, ite_false, reduceIte, Nat.reduceEqDiff, Nat.reduceMul, Nat.reduceAdd, Nat.reduceLT, Nat.reducePow, ne_eq]
      · simp (disch := omega) only [f_X12_thing, F_X12_thing_80, F_X12_thing_78, F_X12_thing_40, isCloth_ok hcl.2.2.1 (by omega) hi0, h1, t10, t20, t21, le00, le01, le02, le12, le22, bd_some, n10, n00, bv_eq, within_eq, in_eq, gd_T, gd_t, i00, i10, c_0, c_1, c_m1, ite10, ite01, setV_fn, setV_at, cntS, nI_pos, nI_clamp, nI_leI, nI_ltI, nI_eq, nI_1, if_true, if_false, not_true, not_false, and_self, and_true, true_and, false_and, and_false, or_false, false_or, or_true, true_or, not_false_eq_true, ite_self, ite_true, ite_false, reduceIte, Nat.reduceEqDiff, Nat.reduceMul, Nat.reduceAdd, Nat.reduceLT, Nat.reducePow, ne_eq]
    · skip
      rcases (Decidable.em (1 ≤ n ∧ n ≤ 10000)).symm with h2 | h2
      · refine Step.same (r := -1) ?_ ?_ hI'
        · simp (disch := omega) only [f_X11_thing, f_X11_isMadeOf, F_X11_isMadeOf_66, F_X11_isMadeOf_55, F_X11_isMadeOf_41, t10, t20, t21, F_X11_thing_60, F_X11_thing_31, findCloth_ok hcl.2.1 (by omega) hi0, hm, h1, h2, hm, t10, t20, t21, le00, le01, le02, le12, le22, bd_some, n10, n00, bv_eq, within_eq, in_eq, gd_T, gd_t, i00, i10, c_0, c_1, c_m1, ite10, ite01, setV_fn, setV_at, cntS, nI_pos, nI_clamp, nI_leI, nI_ltI, nI_eq, nI_1, if_true, if_false, not_true, not_false, and_self, and_true, true_and, false_and, and_false, or_false, false_or, or_true, true_or, not_false_eq_true, ite_self, ite_true, ite_false, reduceIte, Nat.reduceEqDiff, Nat.reduceMul, Nat.reduceAdd, Nat.reduceLT, Nat.reducePow, ne_eq]
        · simp (disch := omega) only [f_X12_thing, F_X12_thing_80, F_X12_thing_78, F_X12_thing_40, isCloth_ok hcl.2.2.1 (by omega) hi0, h1, h2, t10, t20, t21, le00, le01, le02, le12, le22, bd_some, n10, n00, bv_eq, within_eq, in_eq, gd_T, gd_t, i00, i10, c_0, c_1, c_m1, ite10, ite01, setV_fn, setV_at, cntS, nI_pos, nI_clamp, nI_leI, nI_ltI, nI_eq, nI_1, if_true, if_false, not_true, not_false, and_self, and_true, true_and, false_and, and_false, or_false, false_or, or_true, true_or, not_false_eq_true, ite_self, ite_true, ite_false, reduceIte, Nat.reduceEqDiff, Nat.reduceMul, Nat.reduceAdd, Nat.reduceLT, Nat.reducePow, ne_eq]
      · skip
        by_cases hmx : nT = 30
        · have e1 : ¬ nI nT < 30 := by rw [hmx]; decide
          have e2 : nI nT = 30 := by rw [hmx]; decide
          refine Step.same (r := -1) ?_ ?_ hI'
          · simp (disch := omega) only [f_X11_thing, f_X11_isMadeOf, F_X11_isMadeOf_66, F_X11_isMadeOf_55, F_X11_isMadeOf_41, t10, t20, t21, F_X11_thing_60, F_X11_thing_31, findCloth_ok hcl.2.1 (by omega) hi0, hm, h1, hm, h2, hn1, e1, t10, t20, t21, le00, le01, le02, le12, le22, bd_some, n10, n00, bv_eq, within_eq, in_eq, gd_T, gd_t, i00, i10, c_0, c_1, c_m1, ite10, ite01, setV_fn, setV_at, cntS, nI_pos, nI_clamp, nI_leI, nI_ltI, nI_eq, nI_1, if_true, if_false, not_true, not_false, and_self, and_true, true_and, false_and, and_false, or_false, false_or, or_true, true_or, not_false_eq_true, ite_self, ite_true, ite_false, reduceIte, Nat.reduceEqDiff, Nat.reduceMul, Nat.reduceAdd, Nat.reduceLT, Nat.reducePow, ne_eq]
          · simp (disch := omega) only [f_X12_thing, F_X12_thing_80, F_X12_thing_78, F_X12_thing_40, isCloth_ok hcl.2.2.1 (by omega) hi0, h1, h2, hn2, e2, t10, t20, t21, le00, le01, le02, le12, le22, bd_some, n10, n00, bv_eq, within_eq, in_eq, gd_T, gd_t, i00, i10, c_0, c_1, c_m1, ite10, ite01, setV_fn, setV_at, cntS, nI_pos, nI_clamp, nI_leI, nI_ltI, nI_eq, nI_1, if_true, if_false, not_true, not_false, and_self, and_true, true_and, false_and, and_false, or_false, false_or, or_true, true_or, not_false_eq_true, ite_self, ite_true, ite_false, reduceIte, Nat.reduceEqDiff, Nat.reduceMul, Nat.reduceAdd, Nat.reduceLT, Nat.reducePow, ne_eq]
        · have e1 : nI nT < 30 := nI_lt (b := 30) (by omega) (by decide)
          have e2 : ¬ nI nT = 30 := fun q => hmx ((nI_eq (b := 30) (by omega) (by decide)).mp q)
          have hok := mkOK_I hcl hth hla hn1 (by omega)
          refine ⟨nI nT, mkV V 2105 nT gv_2000 (F_2000 0 (nI i0) (nI i0) p n), setV (setV (setV (setV (setV (setV (mkV V 2105 nT gv_2000 (F_2000 0 (nI i0) (nI i0) p n)) 2216 0 nT 0) 2217 0 nT (nI i0)) 2218 0 nT p) 2219 0 nT n) 2220 0 nT 1) 2204 0 0 (nI (nT + 1)), ?_, ?_, ?_⟩
          · simp (disch := omega) only [f_X11_thing, F_X11_thing_60, F_X11_thing_31, f_X11_isMadeOf, F_X11_isMadeOf_66, F_X11_isMadeOf_55, F_X11_isMadeOf_41, t10, t20, t21, findCloth_ok hcl.2.1 (by omega) hi0, hm, h1, hm, h2, hn1, e1, hok, mkV_cnt, nI_pred, t10, t20, t21, le00, le01, le02, le12, le22, bd_some, n10, n00, bv_eq, within_eq, in_eq, gd_T, gd_t, i00, i10, c_0, c_1, c_m1, ite10, ite01, setV_fn, setV_at, cntS, nI_pos, nI_clamp, nI_leI, nI_ltI, nI_eq, nI_1, if_true, if_false, not_true, not_false, and_self, and_true, true_and, false_and, and_false, or_false, false_or, or_true, true_or, not_false_eq_true, ite_self, ite_true, ite_false, reduceIte, Nat.reduceEqDiff, Nat.reduceMul, Nat.reduceAdd, Nat.reduceLT, Nat.reducePow, ne_eq]
          · have g : ∀ v, v ≠ 2105 → v ∉ gv_2000 → mkV V 2105 nT gv_2000 (F_2000 0 (nI i0) (nI i0) p n) v = V v := fun v q1 q2 => mkV_fn q1 q2
            have g2201 := g 2201 (by decide) (by decide)
            have g2202 := g 2202 (by decide) (by decide)
            have g2203 := g 2203 (by decide) (by decide)
            have g2204 := g 2204 (by decide) (by decide)
            have g2232 := g 2232 (by decide) (by decide)
            have g2277 := g 2277 (by decide) (by decide)
            simp (disch := omega) only [f_X12_thing, F_X12_thing_80, F_X12_thing_78, F_X12_thing_40, isCloth_ok (show mkV V 2105 nT gv_2000 (F_2000 0 (nI i0) (nI i0) p n) 2202 0 0 = _ by rw [g2202]; exact hcl.2.2.1) (by omega) hi0, h1, h2, hn2, g2201, g2202, g2203, g2204, g2232, g2277, e2, nI_pred, t10, t20, t21, le00, le01, le02, le12, le22, bd_some, n10, n00, bv_eq, within_eq, in_eq, gd_T, gd_t, i00, i10, c_0, c_1, c_m1, ite10, ite01, setV_fn, setV_at, cntS, nI_pos, nI_clamp, nI_leI, nI_ltI, nI_eq, nI_1, if_true, if_false, not_true, not_false, and_self, and_true, true_and, false_and, and_false, or_false, false_or, or_true, true_or, not_false_eq_true, ite_self, ite_true, ite_false, reduceIte, Nat.reduceEqDiff, Nat.reduceMul, Nat.reduceAdd, Nat.reduceLT, Nat.reducePow, ne_eq]
          · have hF : Fr [2105, 2204, 2216, 2217, 2218, 2219, 2220, 2001, 2002, 2003, 2004, 2005, 2006, 2007, 2008, 2009, 2010, 2090] V (setV (setV (setV (setV (setV (setV (mkV V 2105 nT gv_2000 (F_2000 0 (nI i0) (nI i0) p n)) 2216 0 nT 0) 2217 0 nT (nI i0)) 2218 0 nT p) 2219 0 nT n) 2220 0 nT 1) 2204 0 0 (nI (nT + 1))) := (((((((Fr.refl _ V).mk (by decide) (by decide)).set (by decide)).set (by decide)).set (by decide)).set (by decide)).set (by decide)).set (by decide)
            refine ⟨nC, nD, nT + 1, nM, nP, nK, nS, nR, nL, nO, by omega, hmi.fr hF rfl, hta.fr hF rfl, hcl.fr hF rfl, hdr.fr hF rfl, ?_, hla.of (by omega) (fun v hv => hF v (fun q => by revert q; revert v; decide)) (fun x hx => by have e : ¬ x = nT := (by omega); refine ⟨?_, ?_, ?_⟩ <;> funext q <;> simp (disch := first | omega | decide) only [setV_fn, mkV_at, e, if_false]), hma.fr hF rfl, hor.fr hF rfl, hpe.fr hF rfl, (hdo.fr hF rfl).mono (by omega), hse.fr hF rfl, hru.fr hF rfl, (hmk.fr hF rfl).mono (by omega) (by omega)⟩
            obtain ⟨-, -, -, hfr, hx⟩ := hth
            refine ⟨by omega, by simp (maxSteps := 1000000) (disch := first | omega | decide) only [setV_fn, setV_at, mkV_fn, mkV_at, mkV_cnt, n10], by simp (disch := omega) only [bd_some, n10, n00, bv_eq, within_eq, in_eq, gd_T, gd_t, i00, i10, c_0, c_1, c_m1, ite10, ite01, setV_fn, setV_at, cntS, nI_pos, nI_clamp, nI_leI, nI_ltI, nI_eq, nI_1, if_true, if_false, not_true, not_false, and_self, and_true, true_and, false_and, and_false, or_false, false_or, or_true, true_or, not_false_eq_true, ite_self, ite_true, ite_false, reduceIte, Nat.reduceEqDiff, Nat.reduceMul, Nat.reduceAdd, Nat.reduceLT, Nat.reducePow, ne_eq], fun x hx0 => ?_, fun x hx0 => ?_⟩
            · simp (maxSteps := 1000000) (disch := first | omega | decide) only [setV_fn, setV_at, mkV_fn, mkV_at, mkV_cnt, n10]; exact hfr x (by omega)
            · by_cases hxn : x < nT
              · obtain ⟨p1, len, wid, hT⟩ := hx x hxn
                refine ⟨p1, len, wid, ?_⟩
                unfold ThingV at hT ⊢
                have e : ¬ x = nT := by omega
                simp (maxSteps := 1000000) (disch := first | omega | decide) only [setV_fn, setV_at, mkV_fn, mkV_at, mkV_cnt, e, if_false, and_false]; exact hT
              · have e : x = nT := by omega
                subst e
                refine ⟨0, fun _ => 0, fun _ => 0, ?_⟩
                have hz := hfr x (by omega)
                unfold ThingV
                simp (maxSteps := 1000000) (disch := first | omega | decide) only [setV_fn, setV_at, mkV_fn, mkV_at, mkV_cnt, F_2000, nI_0]
                have hq : ∀ q : Nat, ¬ q < 0 := fun q => by omega
                simp [hz, hq]
                exact ⟨i0, hi0, rfl⟩
theorem P_thing1 {fu k : Nat} {V : St} (hI : Inv k V) (x p n : Int32) : Step k (fun V => f_X11_thing fu V 1 x p n) (fun V => f_X12_thing fu V 1 x p n) V := by
  have hI' := hI
  obtain ⟨nC, nD, nT, nM, nP, nK, nS, nR, nL, nO, hL, hmi, hta, hcl, hdr, hth, hla, hma, hor, hpe, hdo, hse, hru, hmk⟩ := hI
  have hm := hmi.1
  have leDrawing : nD ≤ 1000 := by have := hdr.1; omega
  have hn1 := hth.2.1
  have hn2 := hth.2.2.1
  have hle := hth.1
  rcases ix_or x (show nD < 2 ^ 31 by omega) with hv0 | ⟨i0, hi0, rfl⟩
  · refine Step.same (r := -1) ?_ ?_ hI'
    · simp (disch := omega) only [f_X11_thing, f_X11_isMadeOf, F_X11_isMadeOf_66, F_X11_isMadeOf_55, F_X11_isMadeOf_41, t10, t20, t21, F_X11_thing_60, F_X11_thing_31, findDrawing_no hdr.2.1 (by omega) hv0, t10, t20, t21, le00, le01, le02, le12, le22, bd_some, n10, n00, bv_eq, within_eq, in_eq, gd_T, gd_t, i00, i10, c_0, c_1, c_m1, ite10, ite01, setV_fn, setV_at, cntS, nI_pos, nI_clamp, nI_leI, nI_ltI, nI_eq, nI_1, if_true, if_false, not_true, not_false, and_self, and_true, true_and, false_and, and_false, or_false, false_or, or_true, true_or, not_false_eq_true, ite_self, ite_true, ite_false, reduceIte, Nat.reduceEqDiff, Nat.reduceMul, Nat.reduceAdd, Nat.reduceLT, Nat.reducePow, ne_eq]
    · simp (disch := omega) only [f_X12_thing, F_X12_thing_80, F_X12_thing_78, F_X12_thing_40, isDrawing_no hdr.2.2.1 hv0, t10, t20, t21, le00, le01, le02, le12, le22, bd_some, n10, n00, bv_eq, within_eq, in_eq, gd_T, gd_t, i00, i10, c_0, c_1, c_m1, ite10, ite01, setV_fn, setV_at, cntS, nI_pos, nI_clamp, nI_leI, nI_ltI, nI_eq, nI_1, if_true, if_false, not_true, not_false, and_self, and_true, true_and, false_and, and_false, or_false, false_or, or_true, true_or, not_false_eq_true, ite_self, ite_true, ite_false, reduceIte, Nat.reduceEqDiff, Nat.reduceMul, Nat.reduceAdd, Nat.reduceLT, Nat.reducePow, ne_eq]
  · skip
    rcases (Decidable.em (0 ≤ p ∧ p ≤ 9)).symm with h1 | h1
    · refine Step.same (r := -1) ?_ ?_ hI'
      · simp (disch := omega) only [f_X11_thing, f_X11_isMadeOf, F_X11_isMadeOf_66, F_X11_isMadeOf_55, F_X11_isMadeOf_41, t10, t20, t21, F_X11_thing_60, F_X11_thing_31, findDrawing_ok hdr.2.1 (by omega) hi0, h1, hm, t10, t20, t21, le00, le01, le02, le12, le22, bd_some, n10, n00, bv_eq, within_eq, in_eq, gd_T, gd_t, i00, i10, c_0, c_1, c_m1, ite10, ite01, setV_fn, setV_at, cntS, nI_pos, nI_clamp, nI_leI, nI_ltI, nI_eq, nI_1, if_true, if_false, not_true, not_false, and_self, and_true, true_and, false_and, and_false, or_false, false_or, or_true, true_or, not_false_eq_true, ite_self, ite_true, ite_false, reduceIte, Nat.reduceEqDiff, Nat.reduceMul, Nat.reduceAdd, Nat.reduceLT, Nat.reducePow, ne_eq]
      · simp (disch := omega) only [f_X12_thing, F_X12_thing_80, F_X12_thing_78, F_X12_thing_40, isDrawing_ok hdr.2.2.1 (by omega) hi0, h1, t10, t20, t21, le00, le01, le02, le12, le22, bd_some, n10, n00, bv_eq, within_eq, in_eq, gd_T, gd_t, i00, i10, c_0, c_1, c_m1, ite10, ite01, setV_fn, setV_at, cntS, nI_pos, nI_clamp, nI_leI, nI_ltI, nI_eq, nI_1, if_true, if_false, not_true, not_false, and_self, and_true, true_and, false_and, and_false, or_false, false_or, or_true, true_or, not_false_eq_true, ite_self, ite_true, ite_false, reduceIte, Nat.reduceEqDiff, Nat.reduceMul, Nat.reduceAdd, Nat.reduceLT, Nat.reducePow, ne_eq]
    · skip
      rcases (Decidable.em (1 ≤ n ∧ n ≤ 10000)).symm with h2 | h2
      · refine Step.same (r := -1) ?_ ?_ hI'
        · simp (disch := omega) only [f_X11_thing, f_X11_isMadeOf, F_X11_isMadeOf_66, F_X11_isMadeOf_55, F_X11_isMadeOf_41, t10, t20, t21, F_X11_thing_60, F_X11_thing_31, findDrawing_ok hdr.2.1 (by omega) hi0, hm, h1, h2, hm, t10, t20, t21, le00, le01, le02, le12, le22, bd_some, n10, n00, bv_eq, within_eq, in_eq, gd_T, gd_t, i00, i10, c_0, c_1, c_m1, ite10, ite01, setV_fn, setV_at, cntS, nI_pos, nI_clamp, nI_leI, nI_ltI, nI_eq, nI_1, if_true, if_false, not_true, not_false, and_self, and_true, true_and, false_and, and_false, or_false, false_or, or_true, true_or, not_false_eq_true, ite_self, ite_true, ite_false, reduceIte, Nat.reduceEqDiff, Nat.reduceMul, Nat.reduceAdd, Nat.reduceLT, Nat.reducePow, ne_eq]
        · simp (disch := omega) only [f_X12_thing, F_X12_thing_80, F_X12_thing_78, F_X12_thing_40, isDrawing_ok hdr.2.2.1 (by omega) hi0, h1, h2, t10, t20, t21, le00, le01, le02, le12, le22, bd_some, n10, n00, bv_eq, within_eq, in_eq, gd_T, gd_t, i00, i10, c_0, c_1, c_m1, ite10, ite01, setV_fn, setV_at, cntS, nI_pos, nI_clamp, nI_leI, nI_ltI, nI_eq, nI_1, if_true, if_false, not_true, not_false, and_self, and_true, true_and, false_and, and_false, or_false, false_or, or_true, true_or, not_false_eq_true, ite_self, ite_true, ite_false, reduceIte, Nat.reduceEqDiff, Nat.reduceMul, Nat.reduceAdd, Nat.reduceLT, Nat.reducePow, ne_eq]
      · skip
        by_cases hmx : nT = 30
        · have e1 : ¬ nI nT < 30 := by rw [hmx]; decide
          have e2 : nI nT = 30 := by rw [hmx]; decide
          refine Step.same (r := -1) ?_ ?_ hI'
          · simp (disch := omega) only [f_X11_thing, f_X11_isMadeOf, F_X11_isMadeOf_66, F_X11_isMadeOf_55, F_X11_isMadeOf_41, t10, t20, t21, F_X11_thing_60, F_X11_thing_31, findDrawing_ok hdr.2.1 (by omega) hi0, hm, h1, hm, h2, hn1, e1, t10, t20, t21, le00, le01, le02, le12, le22, bd_some, n10, n00, bv_eq, within_eq, in_eq, gd_T, gd_t, i00, i10, c_0, c_1, c_m1, ite10, ite01, setV_fn, setV_at, cntS, nI_pos, nI_clamp, nI_leI, nI_ltI, nI_eq, nI_1, if_true, if_false, not_true, not_false, and_self, and_true, true_and, false_and, and_false, or_false, false_or, or_true, true_or, not_false_eq_true, ite_self, ite_true, ite_false, reduceIte, Nat.reduceEqDiff, Nat.reduceMul, Nat.reduceAdd, Nat.reduceLT, Nat.reducePow, ne_eq]
          · simp (disch := omega) only [f_X12_thing, F_X12_thing_80, F_X12_thing_78, F_X12_thing_40, isDrawing_ok hdr.2.2.1 (by omega) hi0, h1, h2, hn2, e2, t10, t20, t21, le00, le01, le02, le12, le22, bd_some, n10, n00, bv_eq, within_eq, in_eq, gd_T, gd_t, i00, i10, c_0, c_1, c_m1, ite10, ite01, setV_fn, setV_at, cntS, nI_pos, nI_clamp, nI_leI, nI_ltI, nI_eq, nI_1, if_true, if_false, not_true, not_false, and_self, and_true, true_and, false_and, and_false, or_false, false_or, or_true, true_or, not_false_eq_true, ite_self, ite_true, ite_false, reduceIte, Nat.reduceEqDiff, Nat.reduceMul, Nat.reduceAdd, Nat.reduceLT, Nat.reducePow, ne_eq]
        · have e1 : nI nT < 30 := nI_lt (b := 30) (by omega) (by decide)
          have e2 : ¬ nI nT = 30 := fun q => hmx ((nI_eq (b := 30) (by omega) (by decide)).mp q)
          have hok := mkOK_I hcl hth hla hn1 (by omega)
          refine ⟨nI nT, mkV V 2105 nT gv_2000 (F_2000 1 (nI i0) (-1) p n), setV (setV (setV (setV (setV (setV (mkV V 2105 nT gv_2000 (F_2000 1 (nI i0) (-1) p n)) 2216 0 nT 1) 2217 0 nT (nI i0)) 2218 0 nT p) 2219 0 nT n) 2220 0 nT 1) 2204 0 0 (nI (nT + 1)), ?_, ?_, ?_⟩
          · simp (disch := omega) only [f_X11_thing, F_X11_thing_60, F_X11_thing_31, f_X11_isMadeOf, F_X11_isMadeOf_66, F_X11_isMadeOf_55, F_X11_isMadeOf_41, t10, t20, t21, findDrawing_ok hdr.2.1 (by omega) hi0, hm, h1, hm, h2, hn1, e1, hok, mkV_cnt, nI_pred, t10, t20, t21, le00, le01, le02, le12, le22, bd_some, n10, n00, bv_eq, within_eq, in_eq, gd_T, gd_t, i00, i10, c_0, c_1, c_m1, ite10, ite01, setV_fn, setV_at, cntS, nI_pos, nI_clamp, nI_leI, nI_ltI, nI_eq, nI_1, if_true, if_false, not_true, not_false, and_self, and_true, true_and, false_and, and_false, or_false, false_or, or_true, true_or, not_false_eq_true, ite_self, ite_true, ite_false, reduceIte, Nat.reduceEqDiff, Nat.reduceMul, Nat.reduceAdd, Nat.reduceLT, Nat.reducePow, ne_eq]
          · have g : ∀ v, v ≠ 2105 → v ∉ gv_2000 → mkV V 2105 nT gv_2000 (F_2000 1 (nI i0) (-1) p n) v = V v := fun v q1 q2 => mkV_fn q1 q2
            have g2201 := g 2201 (by decide) (by decide)
            have g2202 := g 2202 (by decide) (by decide)
            have g2203 := g 2203 (by decide) (by decide)
            have g2204 := g 2204 (by decide) (by decide)
            have g2232 := g 2232 (by decide) (by decide)
            have g2277 := g 2277 (by decide) (by decide)
            simp (disch := omega) only [f_X12_thing, F_X12_thing_80, F_X12_thing_78, F_X12_thing_40, isDrawing_ok (show mkV V 2105 nT gv_2000 (F_2000 1 (nI i0) (-1) p n) 2203 0 0 = _ by rw [g2203]; exact hdr.2.2.1) (by omega) hi0, h1, h2, hn2, g2201, g2202, g2203, g2204, g2232, g2277, e2, nI_pred, t10, t20, t21, le00, le01, le02, le12, le22, bd_some, n10, n00, bv_eq, within_eq, in_eq, gd_T, gd_t, i00, i10, c_0, c_1, c_m1, ite10, ite01, setV_fn, setV_at, cntS, nI_pos, nI_clamp, nI_leI, nI_ltI, nI_eq, nI_1, if_true, if_false, not_true, not_false, and_self, and_true, true_and, false_and, and_false, or_false, false_or, or_true, true_or, not_false_eq_true, ite_self, ite_true, ite_false, reduceIte, Nat.reduceEqDiff, Nat.reduceMul, Nat.reduceAdd, Nat.reduceLT, Nat.reducePow, ne_eq]
          · have hF : Fr [2105, 2204, 2216, 2217, 2218, 2219, 2220, 2001, 2002, 2003, 2004, 2005, 2006, 2007, 2008, 2009, 2010, 2090] V (setV (setV (setV (setV (setV (setV (mkV V 2105 nT gv_2000 (F_2000 1 (nI i0) (-1) p n)) 2216 0 nT 1) 2217 0 nT (nI i0)) 2218 0 nT p) 2219 0 nT n) 2220 0 nT 1) 2204 0 0 (nI (nT + 1))) := (((((((Fr.refl _ V).mk (by decide) (by decide)).set (by decide)).set (by decide)).set (by decide)).set (by decide)).set (by decide)).set (by decide)
            refine ⟨nC, nD, nT + 1, nM, nP, nK, nS, nR, nL, nO, by omega, hmi.fr hF rfl, hta.fr hF rfl, hcl.fr hF rfl, hdr.fr hF rfl, ?_, hla.of (by omega) (fun v hv => hF v (fun q => by revert q; revert v; decide)) (fun x hx => by have e : ¬ x = nT := (by omega); refine ⟨?_, ?_, ?_⟩ <;> funext q <;> simp (disch := first | omega | decide) only [setV_fn, mkV_at, e, if_false]), hma.fr hF rfl, hor.fr hF rfl, hpe.fr hF rfl, (hdo.fr hF rfl).mono (by omega), hse.fr hF rfl, hru.fr hF rfl, (hmk.fr hF rfl).mono (by omega) (by omega)⟩
            obtain ⟨-, -, -, hfr, hx⟩ := hth
            refine ⟨by omega, by simp (maxSteps := 1000000) (disch := first | omega | decide) only [setV_fn, setV_at, mkV_fn, mkV_at, mkV_cnt, n10], by simp (disch := omega) only [bd_some, n10, n00, bv_eq, within_eq, in_eq, gd_T, gd_t, i00, i10, c_0, c_1, c_m1, ite10, ite01, setV_fn, setV_at, cntS, nI_pos, nI_clamp, nI_leI, nI_ltI, nI_eq, nI_1, if_true, if_false, not_true, not_false, and_self, and_true, true_and, false_and, and_false, or_false, false_or, or_true, true_or, not_false_eq_true, ite_self, ite_true, ite_false, reduceIte, Nat.reduceEqDiff, Nat.reduceMul, Nat.reduceAdd, Nat.reduceLT, Nat.reducePow, ne_eq], fun x hx0 => ?_, fun x hx0 => ?_⟩
            · simp (maxSteps := 1000000) (disch := first | omega | decide) only [setV_fn, setV_at, mkV_fn, mkV_at, mkV_cnt, n10]; exact hfr x (by omega)
            · by_cases hxn : x < nT
              · obtain ⟨p1, len, wid, hT⟩ := hx x hxn
                refine ⟨p1, len, wid, ?_⟩
                unfold ThingV at hT ⊢
                have e : ¬ x = nT := by omega
                simp (maxSteps := 1000000) (disch := first | omega | decide) only [setV_fn, setV_at, mkV_fn, mkV_at, mkV_cnt, e, if_false, and_false]; exact hT
              · have e : x = nT := by omega
                subst e
                refine ⟨0, fun _ => 0, fun _ => 0, ?_⟩
                have hz := hfr x (by omega)
                unfold ThingV
                simp (maxSteps := 1000000) (disch := first | omega | decide) only [setV_fn, setV_at, mkV_fn, mkV_at, mkV_cnt, F_2000, nI_0]
                have hq : ∀ q : Nat, ¬ q < 0 := fun q => by omega
                simp [hz, hq]
theorem P_thing2 {fu k : Nat} {V : St} (hI : Inv k V) (x p n : Int32) : Step k (fun V => f_X11_thing fu V 2 x p n) (fun V => f_X12_thing fu V 2 x p n) V := by
  have hI' := hI
  obtain ⟨nC, nD, nT, nM, nP, nK, nS, nR, nL, nO, hL, hmi, hta, hcl, hdr, hth, hla, hma, hor, hpe, hdo, hse, hru, hmk⟩ := hI
  have hm := hmi.1
  have hn1 := hth.2.1
  have hn2 := hth.2.2.1
  have hle := hth.1
  rcases (Decidable.em (x = -1)).symm with h0 | rfl
  · refine Step.same (r := -1) ?_ ?_ hI'
    · simp (disch := omega) only [f_X11_thing, f_X11_isMadeOf, F_X11_isMadeOf_66, F_X11_isMadeOf_55, F_X11_isMadeOf_41, t10, t20, t21, F_X11_thing_60, F_X11_thing_31, h0, t10, t20, t21, le00, le01, le02, le12, le22, bd_some, n10, n00, bv_eq, within_eq, in_eq, gd_T, gd_t, i00, i10, c_0, c_1, c_m1, ite10, ite01, setV_fn, setV_at, cntS, nI_pos, nI_clamp, nI_leI, nI_ltI, nI_eq, nI_1, if_true, if_false, not_true, not_false, and_self, and_true, true_and, false_and, and_false, or_false, false_or, or_true, true_or, not_false_eq_true, ite_self, ite_true, ite_false, reduceIte, Nat.reduceEqDiff, Nat.reduceMul, Nat.reduceAdd, Nat.reduceLT, Nat.reducePow, ne_eq]
    · simp (disch := omega) only [f_X12_thing, F_X12_thing_80, F_X12_thing_78, F_X12_thing_40, h0, t10, t20, t21, le00, le01, le02, le12, le22, bd_some, n10, n00, bv_eq, within_eq, in_eq, gd_T, gd_t, i00, i10, c_0, c_1, c_m1, ite10, ite01, setV_fn, setV_at, cntS, nI_pos, nI_clamp, nI_leI, nI_ltI, nI_eq, nI_1, if_true, if_false, not_true, not_false, and_self, and_true, true_and, false_and, and_false, or_false, false_or, or_true, true_or, not_false_eq_true, ite_self, ite_true, ite_false, reduceIte, Nat.reduceEqDiff, Nat.reduceMul, Nat.reduceAdd, Nat.reduceLT, Nat.reducePow, ne_eq]
  · skip
    rcases (Decidable.em (0 ≤ p ∧ p ≤ 9)).symm with h1 | h1
    · refine Step.same (r := -1) ?_ ?_ hI'
      · simp (disch := omega) only [f_X11_thing, f_X11_isMadeOf, F_X11_isMadeOf_66, F_X11_isMadeOf_55, F_X11_isMadeOf_41, t10, t20, t21, F_X11_thing_60, F_X11_thing_31, h1, hm, t10, t20, t21, le00, le01, le02, le12, le22, bd_some, n10, n00, bv_eq, within_eq, in_eq, gd_T, gd_t, i00, i10, c_0, c_1, c_m1, ite10, ite01, setV_fn, setV_at, cntS, nI_pos, nI_clamp, nI_leI, nI_ltI, nI_eq, nI_1, if_true, if_false, not_true, not_false, and_self, and_true, true_and, false_and, and_false, or_false, false_or, or_true, true_or, not_false_eq_true, ite_self, ite_true, ite_false, reduceIte, Nat.reduceEqDiff, Nat.reduceMul, Nat.reduceAdd, Nat.reduceLT, Nat.reducePow, ne_eq]
      · simp (disch := omega) only [f_X12_thing, F_X12_thing_80, F_X12_thing_78, F_X12_thing_40, h1, t10, t20, t21, le00, le01, le02, le12, le22, bd_some, n10, n00, bv_eq, within_eq, in_eq, gd_T, gd_t, i00, i10, c_0, c_1, c_m1, ite10, ite01, setV_fn, setV_at, cntS, nI_pos, nI_clamp, nI_leI, nI_ltI, nI_eq, nI_1, if_true, if_false, not_true, not_false, and_self, and_true, true_and, false_and, and_false, or_false, false_or, or_true, true_or, not_false_eq_true, ite_self, ite_true, ite_false, reduceIte, Nat.reduceEqDiff, Nat.reduceMul, Nat.reduceAdd, Nat.reduceLT, Nat.reducePow, ne_eq]
    · skip
      rcases (Decidable.em (1 ≤ n ∧ n ≤ 10000)).symm with h2 | h2
      · refine Step.same (r := -1) ?_ ?_ hI'
        · simp (disch := omega) only [f_X11_thing, f_X11_isMadeOf, F_X11_isMadeOf_66, F_X11_isMadeOf_55, F_X11_isMadeOf_41, t10, t20, t21, F_X11_thing_60, F_X11_thing_31, hm, h1, h2, hm, t10, t20, t21, le00, le01, le02, le12, le22, bd_some, n10, n00, bv_eq, within_eq, in_eq, gd_T, gd_t, i00, i10, c_0, c_1, c_m1, ite10, ite01, setV_fn, setV_at, cntS, nI_pos, nI_clamp, nI_leI, nI_ltI, nI_eq, nI_1, if_true, if_false, not_true, not_false, and_self, and_true, true_and, false_and, and_false, or_false, false_or, or_true, true_or, not_false_eq_true, ite_self, ite_true, ite_false, reduceIte, Nat.reduceEqDiff, Nat.reduceMul, Nat.reduceAdd, Nat.reduceLT, Nat.reducePow, ne_eq]
        · simp (disch := omega) only [f_X12_thing, F_X12_thing_80, F_X12_thing_78, F_X12_thing_40, h1, h2, t10, t20, t21, le00, le01, le02, le12, le22, bd_some, n10, n00, bv_eq, within_eq, in_eq, gd_T, gd_t, i00, i10, c_0, c_1, c_m1, ite10, ite01, setV_fn, setV_at, cntS, nI_pos, nI_clamp, nI_leI, nI_ltI, nI_eq, nI_1, if_true, if_false, not_true, not_false, and_self, and_true, true_and, false_and, and_false, or_false, false_or, or_true, true_or, not_false_eq_true, ite_self, ite_true, ite_false, reduceIte, Nat.reduceEqDiff, Nat.reduceMul, Nat.reduceAdd, Nat.reduceLT, Nat.reducePow, ne_eq]
      · skip
        by_cases hmx : nT = 30
        · have e1 : ¬ nI nT < 30 := by rw [hmx]; decide
          have e2 : nI nT = 30 := by rw [hmx]; decide
          refine Step.same (r := -1) ?_ ?_ hI'
          · simp (disch := omega) only [f_X11_thing, f_X11_isMadeOf, F_X11_isMadeOf_66, F_X11_isMadeOf_55, F_X11_isMadeOf_41, t10, t20, t21, F_X11_thing_60, F_X11_thing_31, hm, h1, hm, h2, hn1, e1, t10, t20, t21, le00, le01, le02, le12, le22, bd_some, n10, n00, bv_eq, within_eq, in_eq, gd_T, gd_t, i00, i10, c_0, c_1, c_m1, ite10, ite01, setV_fn, setV_at, cntS, nI_pos, nI_clamp, nI_leI, nI_ltI, nI_eq, nI_1, if_true, if_false, not_true, not_false, and_self, and_true, true_and, false_and, and_false, or_false, false_or, or_true, true_or, not_false_eq_true, ite_self, ite_true, ite_false, reduceIte, Nat.reduceEqDiff, Nat.reduceMul, Nat.reduceAdd, Nat.reduceLT, Nat.reducePow, ne_eq]
          · simp (disch := omega) only [f_X12_thing, F_X12_thing_80, F_X12_thing_78, F_X12_thing_40, h1, h2, hn2, e2, t10, t20, t21, le00, le01, le02, le12, le22, bd_some, n10, n00, bv_eq, within_eq, in_eq, gd_T, gd_t, i00, i10, c_0, c_1, c_m1, ite10, ite01, setV_fn, setV_at, cntS, nI_pos, nI_clamp, nI_leI, nI_ltI, nI_eq, nI_1, if_true, if_false, not_true, not_false, and_self, and_true, true_and, false_and, and_false, or_false, false_or, or_true, true_or, not_false_eq_true, ite_self, ite_true, ite_false, reduceIte, Nat.reduceEqDiff, Nat.reduceMul, Nat.reduceAdd, Nat.reduceLT, Nat.reducePow, ne_eq]
        · have e1 : nI nT < 30 := nI_lt (b := 30) (by omega) (by decide)
          have e2 : ¬ nI nT = 30 := fun q => hmx ((nI_eq (b := 30) (by omega) (by decide)).mp q)
          have hok := mkOK_I hcl hth hla hn1 (by omega)
          refine ⟨nI nT, mkV V 2105 nT gv_2000 (F_2000 2 (-1) (-1) p n), setV (setV (setV (setV (setV (setV (mkV V 2105 nT gv_2000 (F_2000 2 (-1) (-1) p n)) 2216 0 nT 2) 2217 0 nT (-1)) 2218 0 nT p) 2219 0 nT n) 2220 0 nT 1) 2204 0 0 (nI (nT + 1)), ?_, ?_, ?_⟩
          · simp (disch := omega) only [f_X11_thing, F_X11_thing_60, F_X11_thing_31, f_X11_isMadeOf, F_X11_isMadeOf_66, F_X11_isMadeOf_55, F_X11_isMadeOf_41, t10, t20, t21, hm, h1, hm, h2, hn1, e1, hok, mkV_cnt, nI_pred, t10, t20, t21, le00, le01, le02, le12, le22, bd_some, n10, n00, bv_eq, within_eq, in_eq, gd_T, gd_t, i00, i10, c_0, c_1, c_m1, ite10, ite01, setV_fn, setV_at, cntS, nI_pos, nI_clamp, nI_leI, nI_ltI, nI_eq, nI_1, if_true, if_false, not_true, not_false, and_self, and_true, true_and, false_and, and_false, or_false, false_or, or_true, true_or, not_false_eq_true, ite_self, ite_true, ite_false, reduceIte, Nat.reduceEqDiff, Nat.reduceMul, Nat.reduceAdd, Nat.reduceLT, Nat.reducePow, ne_eq]
          · have g : ∀ v, v ≠ 2105 → v ∉ gv_2000 → mkV V 2105 nT gv_2000 (F_2000 2 (-1) (-1) p n) v = V v := fun v q1 q2 => mkV_fn q1 q2
            have g2201 := g 2201 (by decide) (by decide)
            have g2202 := g 2202 (by decide) (by decide)
            have g2203 := g 2203 (by decide) (by decide)
            have g2204 := g 2204 (by decide) (by decide)
            have g2232 := g 2232 (by decide) (by decide)
            have g2277 := g 2277 (by decide) (by decide)
            simp (disch := omega) only [f_X12_thing, F_X12_thing_80, F_X12_thing_78, F_X12_thing_40, h1, h2, hn2, g2201, g2202, g2203, g2204, g2232, g2277, e2, nI_pred, t10, t20, t21, le00, le01, le02, le12, le22, bd_some, n10, n00, bv_eq, within_eq, in_eq, gd_T, gd_t, i00, i10, c_0, c_1, c_m1, ite10, ite01, setV_fn, setV_at, cntS, nI_pos, nI_clamp, nI_leI, nI_ltI, nI_eq, nI_1, if_true, if_false, not_true, not_false, and_self, and_true, true_and, false_and, and_false, or_false, false_or, or_true, true_or, not_false_eq_true, ite_self, ite_true, ite_false, reduceIte, Nat.reduceEqDiff, Nat.reduceMul, Nat.reduceAdd, Nat.reduceLT, Nat.reducePow, ne_eq]
          · have hF : Fr [2105, 2204, 2216, 2217, 2218, 2219, 2220, 2001, 2002, 2003, 2004, 2005, 2006, 2007, 2008, 2009, 2010, 2090] V (setV (setV (setV (setV (setV (setV (mkV V 2105 nT gv_2000 (F_2000 2 (-1) (-1) p n)) 2216 0 nT 2) 2217 0 nT (-1)) 2218 0 nT p) 2219 0 nT n) 2220 0 nT 1) 2204 0 0 (nI (nT + 1))) := (((((((Fr.refl _ V).mk (by decide) (by decide)).set (by decide)).set (by decide)).set (by decide)).set (by decide)).set (by decide)).set (by decide)
            refine ⟨nC, nD, nT + 1, nM, nP, nK, nS, nR, nL, nO, by omega, hmi.fr hF rfl, hta.fr hF rfl, hcl.fr hF rfl, hdr.fr hF rfl, ?_, hla.of (by omega) (fun v hv => hF v (fun q => by revert q; revert v; decide)) (fun x hx => by have e : ¬ x = nT := (by omega); refine ⟨?_, ?_, ?_⟩ <;> funext q <;> simp (disch := first | omega | decide) only [setV_fn, mkV_at, e, if_false]), hma.fr hF rfl, hor.fr hF rfl, hpe.fr hF rfl, (hdo.fr hF rfl).mono (by omega), hse.fr hF rfl, hru.fr hF rfl, (hmk.fr hF rfl).mono (by omega) (by omega)⟩
            obtain ⟨-, -, -, hfr, hx⟩ := hth
            refine ⟨by omega, by simp (maxSteps := 1000000) (disch := first | omega | decide) only [setV_fn, setV_at, mkV_fn, mkV_at, mkV_cnt, n10], by simp (disch := omega) only [bd_some, n10, n00, bv_eq, within_eq, in_eq, gd_T, gd_t, i00, i10, c_0, c_1, c_m1, ite10, ite01, setV_fn, setV_at, cntS, nI_pos, nI_clamp, nI_leI, nI_ltI, nI_eq, nI_1, if_true, if_false, not_true, not_false, and_self, and_true, true_and, false_and, and_false, or_false, false_or, or_true, true_or, not_false_eq_true, ite_self, ite_true, ite_false, reduceIte, Nat.reduceEqDiff, Nat.reduceMul, Nat.reduceAdd, Nat.reduceLT, Nat.reducePow, ne_eq], fun x hx0 => ?_, fun x hx0 => ?_⟩
            · simp (maxSteps := 1000000) (disch := first | omega | decide) only [setV_fn, setV_at, mkV_fn, mkV_at, mkV_cnt, n10]; exact hfr x (by omega)
            · by_cases hxn : x < nT
              · obtain ⟨p1, len, wid, hT⟩ := hx x hxn
                refine ⟨p1, len, wid, ?_⟩
                unfold ThingV at hT ⊢
                have e : ¬ x = nT := by omega
                simp (maxSteps := 1000000) (disch := first | omega | decide) only [setV_fn, setV_at, mkV_fn, mkV_at, mkV_cnt, e, if_false, and_false]; exact hT
              · have e : x = nT := by omega
                subst e
                refine ⟨0, fun _ => 0, fun _ => 0, ?_⟩
                have hz := hfr x (by omega)
                unfold ThingV
                simp (maxSteps := 1000000) (disch := first | omega | decide) only [setV_fn, setV_at, mkV_fn, mkV_at, mkV_cnt, F_2000, nI_0]
                have hq : ∀ q : Nat, ¬ q < 0 := fun q => by omega
                simp [hz, hq]
