/-! count, look, named, yards (by program: set3.py) -/
theorem rg_20 (x y : Int32) (h1 : 20 ≤ x) (h2 : x ≤ 20 + y - 1) (h3 : 0 ≤ y) (h4 : y ≤ 30) : 0 ≤ x - 20 ∧ x - 20 ≤ y - 1 := by
  have h5 : x ≤ 50 := by grind
  constructor <;> grind
theorem rng_20 {x : Int32} {n : Nat} (hn : n ≤ 30) (h : 20 ≤ x ∧ x ≤ 20 + nI n - 1) : ∃ i, i < n ∧ x - 20 = nI i := by
  obtain ⟨i, -, hi, e⟩ := in_nI (x := x - 20) (a := 0) (n := n) (by rw [nI_0]; exact rg_20 x _ h.1 h.2 (nI_pos' (by omega)) (nI_le (b := 30) hn (by omega))) (by omega) (by omega)
  exact ⟨i, hi, e⟩
theorem rg_100 (x y : Int32) (h1 : 100 ≤ x) (h2 : x ≤ 100 + y - 1) (h3 : 0 ≤ y) (h4 : y ≤ 30) : 0 ≤ x - 100 ∧ x - 100 ≤ y - 1 := by
  have h5 : x ≤ 130 := by grind
  constructor <;> grind
theorem rng_100 {x : Int32} {n : Nat} (hn : n ≤ 30) (h : 100 ≤ x ∧ x ≤ 100 + nI n - 1) : ∃ i, i < n ∧ x - 100 = nI i := by
  obtain ⟨i, -, hi, e⟩ := in_nI (x := x - 100) (a := 0) (n := n) (by rw [nI_0]; exact rg_100 x _ h.1 h.2 (nI_pos' (by omega)) (nI_le (b := 30) hn (by omega))) (by omega) (by omega)
  exact ⟨i, hi, e⟩
theorem rg_200 (x y : Int32) (h1 : 200 ≤ x) (h2 : x ≤ 200 + y - 1) (h3 : 0 ≤ y) (h4 : y ≤ 30) : 0 ≤ x - 200 ∧ x - 200 ≤ y - 1 := by
  have h5 : x ≤ 230 := by grind
  constructor <;> grind
theorem rng_200 {x : Int32} {n : Nat} (hn : n ≤ 30) (h : 200 ≤ x ∧ x ≤ 200 + nI n - 1) : ∃ i, i < n ∧ x - 200 = nI i := by
  obtain ⟨i, -, hi, e⟩ := in_nI (x := x - 200) (a := 0) (n := n) (by rw [nI_0]; exact rg_200 x _ h.1 h.2 (nI_pos' (by omega)) (nI_le (b := 30) hn (by omega))) (by omega) (by omega)
  exact ⟨i, hi, e⟩
theorem P_count {fu k : Nat} {V : St} (hI : Inv k V) (x : Int32) : Step k (fun V => f_X11_count fu V x) (fun V => f_X12_count fu V x) V := by
  have hI' := hI
  obtain ⟨nC, nD, nT, nM, nP, nK, nS, nR, nL, nO, hL, hmi, hta, hcl, hdr, hth, hla, hma, hor, hpe, hdo, hse, hru, hmk⟩ := hI
  have c0 := hmi.1
  have c1 := hcl.2.1; have c1' := hcl.2.2.1
  have c2 := hdr.2.1; have c2' := hdr.2.2.1
  have c3 := hth.2.1; have c3' := hth.2.2.1
  have c4 := hma.2.1; have c4' := hma.2.2.1
  have c5 := hor.2.1; have c5' := hor.2.2.1
  have c6 := hpe.2.1; have c6' := hpe.2.2.1
  have c7 := hdo.2.1; have c7' := hdo.2.2.1
  have c8 := hse.2.1; have c8' := hse.2.2.1
  have c9 := hru.2.1; have c9' := hru.2.2.1
  have c10 := hta.2.1
  have t30 := hth.1
  have o30 := hor.1
  have hcT : cntV V 2105 = nT := cnt_n (by decide) (by omega) c3
  have hcO : cntV V 1401 = nO := cnt_n (by decide) (by omega) c5
  have bT := nI_le (a := nT) (b := 30) t30 (by omega)
  have bO := nI_le (a := nO) (b := 30) o30 (by omega)
  have pT := nI_pos' (n := nT) (by omega)
  have pO := nI_pos' (n := nO) (by omega)
  have k30 : nI 30 = 30 := rfl
  have f1 : 19 + nI nO = 20 + nI nO - 1 := by grind
  have f2 : 99 + nI nT = 100 + nI nT - 1 := by grind
  have f3 : 199 + nI nT = 200 + nI nT - 1 := by grind
  rcases (Decidable.em (20 ≤ x ∧ x ≤ 20 + nI nO - 1)) with h20 | h20
  · obtain ⟨i, hi, hy⟩ := rng_20 (n := nO) (by omega) h20
    have z0 : ¬ x = 0 := by grind
    have z1 : ¬ x = 1 := by grind
    have z2 : ¬ x = 2 := by grind
    have z3 : ¬ x = 3 := by grind
    have z4 : ¬ x = 4 := by grind
    have z5 : ¬ x = 5 := by grind
    have z6 : ¬ x = 6 := by grind
    have z7 : ¬ x = 7 := by grind
    have z8 : ¬ x = 8 := by grind
    have z9 : ¬ x = 9 := by grind
    have z10 : ¬ x = 10 := by grind
    obtain ⟨c, hO⟩ := hor.2.2.2 i hi
    have e1 := hO.2.2.2.2.1
    have e2 := hO.2.2.2.2.2.1
    refine Step.same (r := nI c) ?_ ?_ hI'
    · simp (disch := omega) only [f_X11_count, h20, c3, c5, hy, hcO, e1, e2, bd_some, n10, n00, bv_eq, within_eq, in_eq, gd_T, gd_t, i00, i10, c_0, c_1, c_m1, ite10, ite01, setV_fn, setV_at, cntS, nI_pos, nI_clamp, nI_leI, nI_ltI, nI_eq, nI_1, if_true, if_false, not_true, not_false, and_self, and_true, true_and, false_and, and_false, or_false, false_or, or_true, true_or, not_false_eq_true, ite_self, ite_true, ite_false, reduceIte, Nat.reduceEqDiff, Nat.reduceMul, Nat.reduceAdd, Nat.reduceLT, Nat.reducePow, ne_eq]
    · simp (disch := omega) only [f_X12_count, F_X12_count_199, c3', c5', f1, f2, f3, h20, hy, e1, e2, z0, z1, z2, z3, z4, z5, z6, z7, z8, z9, z10, bd_some, n10, n00, bv_eq, within_eq, in_eq, gd_T, gd_t, i00, i10, c_0, c_1, c_m1, ite10, ite01, setV_fn, setV_at, cntS, nI_pos, nI_clamp, nI_leI, nI_ltI, nI_eq, nI_1, if_true, if_false, not_true, not_false, and_self, and_true, true_and, false_and, and_false, or_false, false_or, or_true, true_or, not_false_eq_true, ite_self, ite_true, ite_false, reduceIte, Nat.reduceEqDiff, Nat.reduceMul, Nat.reduceAdd, Nat.reduceLT, Nat.reducePow, ne_eq]
  rcases (Decidable.em (100 ≤ x ∧ x ≤ 100 + nI nT - 1)) with h100 | h100
  · obtain ⟨i, hi, hy⟩ := rng_100 (n := nT) (by omega) h100
    have z0 : ¬ x = 0 := by grind
    have z1 : ¬ x = 1 := by grind
    have z2 : ¬ x = 2 := by grind
    have z3 : ¬ x = 3 := by grind
    have z4 : ¬ x = 4 := by grind
    have z5 : ¬ x = 5 := by grind
    have z6 : ¬ x = 6 := by grind
    have z7 : ¬ x = 7 := by grind
    have z8 : ¬ x = 8 := by grind
    have z9 : ¬ x = 9 := by grind
    have z10 : ¬ x = 10 := by grind
    obtain ⟨p, len, wid, hT⟩ := hth.2.2.2.2 i hi
    have e1 := hT.2.2.2.2.2.2.2.2.1
    have e2 : (1 : Nat) = 1 := rfl
    refine Step.same (r := V 2221 0 i) ?_ ?_ hI'
    · simp (disch := omega) only [f_X11_count, h20, h100, c3, c5, hy, hcT, e1, e2, bd_some, n10, n00, bv_eq, within_eq, in_eq, gd_T, gd_t, i00, i10, c_0, c_1, c_m1, ite10, ite01, setV_fn, setV_at, cntS, nI_pos, nI_clamp, nI_leI, nI_ltI, nI_eq, nI_1, if_true, if_false, not_true, not_false, and_self, and_true, true_and, false_and, and_false, or_false, false_or, or_true, true_or, not_false_eq_true, ite_self, ite_true, ite_false, reduceIte, Nat.reduceEqDiff, Nat.reduceMul, Nat.reduceAdd, Nat.reduceLT, Nat.reducePow, ne_eq]
    · simp (disch := omega) only [f_X12_count, F_X12_count_199, c3', c5', f1, f2, f3, h20, h100, hy, e1, e2, z0, z1, z2, z3, z4, z5, z6, z7, z8, z9, z10, bd_some, n10, n00, bv_eq, within_eq, in_eq, gd_T, gd_t, i00, i10, c_0, c_1, c_m1, ite10, ite01, setV_fn, setV_at, cntS, nI_pos, nI_clamp, nI_leI, nI_ltI, nI_eq, nI_1, if_true, if_false, not_true, not_false, and_self, and_true, true_and, false_and, and_false, or_false, false_or, or_true, true_or, not_false_eq_true, ite_self, ite_true, ite_false, reduceIte, Nat.reduceEqDiff, Nat.reduceMul, Nat.reduceAdd, Nat.reduceLT, Nat.reducePow, ne_eq]
  rcases (Decidable.em (200 ≤ x ∧ x ≤ 200 + nI nT - 1)) with h200 | h200
  · obtain ⟨i, hi, hy⟩ := rng_200 (n := nT) (by omega) h200
    have z0 : ¬ x = 0 := by grind
    have z1 : ¬ x = 1 := by grind
    have z2 : ¬ x = 2 := by grind
    have z3 : ¬ x = 3 := by grind
    have z4 : ¬ x = 4 := by grind
    have z5 : ¬ x = 5 := by grind
    have z6 : ¬ x = 6 := by grind
    have z7 : ¬ x = 7 := by grind
    have z8 : ¬ x = 8 := by grind
    have z9 : ¬ x = 9 := by grind
    have z10 : ¬ x = 10 := by grind
    obtain ⟨p, len, wid, hT⟩ := hth.2.2.2.2 i hi
    have e1 := hT.2.2.2.2.2.2.2.2.2.1
    have e2 : (1 : Nat) = 1 := rfl
    refine Step.same (r := V 2222 0 i) ?_ ?_ hI'
    · simp (disch := omega) only [f_X11_count, h20, h100, h200, c3, c5, hy, hcT, e1, e2, bd_some, n10, n00, bv_eq, within_eq, in_eq, gd_T, gd_t, i00, i10, c_0, c_1, c_m1, ite10, ite01, setV_fn, setV_at, cntS, nI_pos, nI_clamp, nI_leI, nI_ltI, nI_eq, nI_1, if_true, if_false, not_true, not_false, and_self, and_true, true_and, false_and, and_false, or_false, false_or, or_true, true_or, not_false_eq_true, ite_self, ite_true, ite_false, reduceIte, Nat.reduceEqDiff, Nat.reduceMul, Nat.reduceAdd, Nat.reduceLT, Nat.reducePow, ne_eq]
    · simp (disch := omega) only [f_X12_count, F_X12_count_199, c3', c5', f1, f2, f3, h20, h100, h200, hy, e1, e2, z0, z1, z2, z3, z4, z5, z6, z7, z8, z9, z10, bd_some, n10, n00, bv_eq, within_eq, in_eq, gd_T, gd_t, i00, i10, c_0, c_1, c_m1, ite10, ite01, setV_fn, setV_at, cntS, nI_pos, nI_clamp, nI_leI, nI_ltI, nI_eq, nI_1, if_true, if_false, not_true, not_false, and_self, and_true, true_and, false_and, and_false, or_false, false_or, or_true, true_or, not_false_eq_true, ite_self, ite_true, ite_false, reduceIte, Nat.reduceEqDiff, Nat.reduceMul, Nat.reduceAdd, Nat.reduceLT, Nat.reducePow, ne_eq]
  by_cases z0 : x = 0
  · subst z0
    refine Step.same (r := V 2201 0 0) ?_ ?_ hI'
    · simp (disch := omega) only [f_X11_count, f_X11_plainCount, h20, h100, h200, c0, c1, c2, c3, c4, c5, c6, c7, c8, c9, c10, c1', c2', c3', c4', c5', c6', c7', c8', c9', f1, f2, f3, bd_some, n10, n00, bv_eq, within_eq, in_eq, gd_T, gd_t, i00, i10, c_0, c_1, c_m1, ite10, ite01, setV_fn, setV_at, cntS, nI_pos, nI_clamp, nI_leI, nI_ltI, nI_eq, nI_1, if_true, if_false, not_true, not_false, and_self, and_true, true_and, false_and, and_false, or_false, false_or, or_true, true_or, not_false_eq_true, ite_self, ite_true, ite_false, reduceIte, Nat.reduceEqDiff, Nat.reduceMul, Nat.reduceAdd, Nat.reduceLT, Nat.reducePow, ne_eq]
    · simp (disch := omega) only [f_X12_count, F_X12_count_199, h20, h100, h200, c0, c1, c2, c3, c4, c5, c6, c7, c8, c9, c10, c1', c2', c3', c4', c5', c6', c7', c8', c9', f1, f2, f3, bd_some, n10, n00, bv_eq, within_eq, in_eq, gd_T, gd_t, i00, i10, c_0, c_1, c_m1, ite10, ite01, setV_fn, setV_at, cntS, nI_pos, nI_clamp, nI_leI, nI_ltI, nI_eq, nI_1, if_true, if_false, not_true, not_false, and_self, and_true, true_and, false_and, and_false, or_false, false_or, or_true, true_or, not_false_eq_true, ite_self, ite_true, ite_false, reduceIte, Nat.reduceEqDiff, Nat.reduceMul, Nat.reduceAdd, Nat.reduceLT, Nat.reducePow, ne_eq]
  by_cases z1 : x = 1
  · subst z1
    refine Step.same (r := nI nC) ?_ ?_ hI'
    · simp (disch := omega) only [f_X11_count, f_X11_plainCount, h20, h100, h200, c0, c1, c2, c3, c4, c5, c6, c7, c8, c9, c10, c1', c2', c3', c4', c5', c6', c7', c8', c9', f1, f2, f3, z0, bd_some, n10, n00, bv_eq, within_eq, in_eq, gd_T, gd_t, i00, i10, c_0, c_1, c_m1, ite10, ite01, setV_fn, setV_at, cntS, nI_pos, nI_clamp, nI_leI, nI_ltI, nI_eq, nI_1, if_true, if_false, not_true, not_false, and_self, and_true, true_and, false_and, and_false, or_false, false_or, or_true, true_or, not_false_eq_true, ite_self, ite_true, ite_false, reduceIte, Nat.reduceEqDiff, Nat.reduceMul, Nat.reduceAdd, Nat.reduceLT, Nat.reducePow, ne_eq]
    · simp (disch := omega) only [f_X12_count, F_X12_count_199, h20, h100, h200, c0, c1, c2, c3, c4, c5, c6, c7, c8, c9, c10, c1', c2', c3', c4', c5', c6', c7', c8', c9', f1, f2, f3, z0, bd_some, n10, n00, bv_eq, within_eq, in_eq, gd_T, gd_t, i00, i10, c_0, c_1, c_m1, ite10, ite01, setV_fn, setV_at, cntS, nI_pos, nI_clamp, nI_leI, nI_ltI, nI_eq, nI_1, if_true, if_false, not_true, not_false, and_self, and_true, true_and, false_and, and_false, or_false, false_or, or_true, true_or, not_false_eq_true, ite_self, ite_true, ite_false, reduceIte, Nat.reduceEqDiff, Nat.reduceMul, Nat.reduceAdd, Nat.reduceLT, Nat.reducePow, ne_eq]
  by_cases z2 : x = 2
  · subst z2
    refine Step.same (r := nI nD) ?_ ?_ hI'
    · simp (disch := omega) only [f_X11_count, f_X11_plainCount, h20, h100, h200, c0, c1, c2, c3, c4, c5, c6, c7, c8, c9, c10, c1', c2', c3', c4', c5', c6', c7', c8', c9', f1, f2, f3, z0, z1, bd_some, n10, n00, bv_eq, within_eq, in_eq, gd_T, gd_t, i00, i10, c_0, c_1, c_m1, ite10, ite01, setV_fn, setV_at, cntS, nI_pos, nI_clamp, nI_leI, nI_ltI, nI_eq, nI_1, if_true, if_false, not_true, not_false, and_self, and_true, true_and, false_and, and_false, or_false, false_or, or_true, true_or, not_false_eq_true, ite_self, ite_true, ite_false, reduceIte, Nat.reduceEqDiff, Nat.reduceMul, Nat.reduceAdd, Nat.reduceLT, Nat.reducePow, ne_eq]
    · simp (disch := omega) only [f_X12_count, F_X12_count_199, h20, h100, h200, c0, c1, c2, c3, c4, c5, c6, c7, c8, c9, c10, c1', c2', c3', c4', c5', c6', c7', c8', c9', f1, f2, f3, z0, z1, bd_some, n10, n00, bv_eq, within_eq, in_eq, gd_T, gd_t, i00, i10, c_0, c_1, c_m1, ite10, ite01, setV_fn, setV_at, cntS, nI_pos, nI_clamp, nI_leI, nI_ltI, nI_eq, nI_1, if_true, if_false, not_true, not_false, and_self, and_true, true_and, false_and, and_false, or_false, false_or, or_true, true_or, not_false_eq_true, ite_self, ite_true, ite_false, reduceIte, Nat.reduceEqDiff, Nat.reduceMul, Nat.reduceAdd, Nat.reduceLT, Nat.reducePow, ne_eq]
  by_cases z3 : x = 3
  · subst z3
    refine Step.same (r := nI nT) ?_ ?_ hI'
    · simp (disch := omega) only [f_X11_count, f_X11_plainCount, h20, h100, h200, c0, c1, c2, c3, c4, c5, c6, c7, c8, c9, c10, c1', c2', c3', c4', c5', c6', c7', c8', c9', f1, f2, f3, z0, z1, z2, bd_some, n10, n00, bv_eq, within_eq, in_eq, gd_T, gd_t, i00, i10, c_0, c_1, c_m1, ite10, ite01, setV_fn, setV_at, cntS, nI_pos, nI_clamp, nI_leI, nI_ltI, nI_eq, nI_1, if_true, if_false, not_true, not_false, and_self, and_true, true_and, false_and, and_false, or_false, false_or, or_true, true_or, not_false_eq_true, ite_self, ite_true, ite_false, reduceIte, Nat.reduceEqDiff, Nat.reduceMul, Nat.reduceAdd, Nat.reduceLT, Nat.reducePow, ne_eq]
    · simp (disch := omega) only [f_X12_count, F_X12_count_199, h20, h100, h200, c0, c1, c2, c3, c4, c5, c6, c7, c8, c9, c10, c1', c2', c3', c4', c5', c6', c7', c8', c9', f1, f2, f3, z0, z1, z2, bd_some, n10, n00, bv_eq, within_eq, in_eq, gd_T, gd_t, i00, i10, c_0, c_1, c_m1, ite10, ite01, setV_fn, setV_at, cntS, nI_pos, nI_clamp, nI_leI, nI_ltI, nI_eq, nI_1, if_true, if_false, not_true, not_false, and_self, and_true, true_and, false_and, and_false, or_false, false_or, or_true, true_or, not_false_eq_true, ite_self, ite_true, ite_false, reduceIte, Nat.reduceEqDiff, Nat.reduceMul, Nat.reduceAdd, Nat.reduceLT, Nat.reducePow, ne_eq]
  by_cases z4 : x = 4
  · subst z4
    refine Step.same (r := nI nM) ?_ ?_ hI'
    · simp (disch := omega) only [f_X11_count, f_X11_plainCount, h20, h100, h200, c0, c1, c2, c3, c4, c5, c6, c7, c8, c9, c10, c1', c2', c3', c4', c5', c6', c7', c8', c9', f1, f2, f3, z0, z1, z2, z3, bd_some, n10, n00, bv_eq, within_eq, in_eq, gd_T, gd_t, i00, i10, c_0, c_1, c_m1, ite10, ite01, setV_fn, setV_at, cntS, nI_pos, nI_clamp, nI_leI, nI_ltI, nI_eq, nI_1, if_true, if_false, not_true, not_false, and_self, and_true, true_and, false_and, and_false, or_false, false_or, or_true, true_or, not_false_eq_true, ite_self, ite_true, ite_false, reduceIte, Nat.reduceEqDiff, Nat.reduceMul, Nat.reduceAdd, Nat.reduceLT, Nat.reducePow, ne_eq]
    · simp (disch := omega) only [f_X12_count, F_X12_count_199, h20, h100, h200, c0, c1, c2, c3, c4, c5, c6, c7, c8, c9, c10, c1', c2', c3', c4', c5', c6', c7', c8', c9', f1, f2, f3, z0, z1, z2, z3, bd_some, n10, n00, bv_eq, within_eq, in_eq, gd_T, gd_t, i00, i10, c_0, c_1, c_m1, ite10, ite01, setV_fn, setV_at, cntS, nI_pos, nI_clamp, nI_leI, nI_ltI, nI_eq, nI_1, if_true, if_false, not_true, not_false, and_self, and_true, true_and, false_and, and_false, or_false, false_or, or_true, true_or, not_false_eq_true, ite_self, ite_true, ite_false, reduceIte, Nat.reduceEqDiff, Nat.reduceMul, Nat.reduceAdd, Nat.reduceLT, Nat.reducePow, ne_eq]
  by_cases z5 : x = 5
  · subst z5
    refine Step.same (r := nI nO) ?_ ?_ hI'
    · simp (disch := omega) only [f_X11_count, f_X11_plainCount, h20, h100, h200, c0, c1, c2, c3, c4, c5, c6, c7, c8, c9, c10, c1', c2', c3', c4', c5', c6', c7', c8', c9', f1, f2, f3, z0, z1, z2, z3, z4, bd_some, n10, n00, bv_eq, within_eq, in_eq, gd_T, gd_t, i00, i10, c_0, c_1, c_m1, ite10, ite01, setV_fn, setV_at, cntS, nI_pos, nI_clamp, nI_leI, nI_ltI, nI_eq, nI_1, if_true, if_false, not_true, not_false, and_self, and_true, true_and, false_and, and_false, or_false, false_or, or_true, true_or, not_false_eq_true, ite_self, ite_true, ite_false, reduceIte, Nat.reduceEqDiff, Nat.reduceMul, Nat.reduceAdd, Nat.reduceLT, Nat.reducePow, ne_eq]
    · simp (disch := omega) only [f_X12_count, F_X12_count_199, h20, h100, h200, c0, c1, c2, c3, c4, c5, c6, c7, c8, c9, c10, c1', c2', c3', c4', c5', c6', c7', c8', c9', f1, f2, f3, z0, z1, z2, z3, z4, bd_some, n10, n00, bv_eq, within_eq, in_eq, gd_T, gd_t, i00, i10, c_0, c_1, c_m1, ite10, ite01, setV_fn, setV_at, cntS, nI_pos, nI_clamp, nI_leI, nI_ltI, nI_eq, nI_1, if_true, if_false, not_true, not_false, and_self, and_true, true_and, false_and, and_false, or_false, false_or, or_true, true_or, not_false_eq_true, ite_self, ite_true, ite_false, reduceIte, Nat.reduceEqDiff, Nat.reduceMul, Nat.reduceAdd, Nat.reduceLT, Nat.reducePow, ne_eq]
  by_cases z6 : x = 6
  · subst z6
    refine Step.same (r := nI nP) ?_ ?_ hI'
    · simp (disch := omega) only [f_X11_count, f_X11_plainCount, h20, h100, h200, c0, c1, c2, c3, c4, c5, c6, c7, c8, c9, c10, c1', c2', c3', c4', c5', c6', c7', c8', c9', f1, f2, f3, z0, z1, z2, z3, z4, z5, bd_some, n10, n00, bv_eq, within_eq, in_eq, gd_T, gd_t, i00, i10, c_0, c_1, c_m1, ite10, ite01, setV_fn, setV_at, cntS, nI_pos, nI_clamp, nI_leI, nI_ltI, nI_eq, nI_1, if_true, if_false, not_true, not_false, and_self, and_true, true_and, false_and, and_false, or_false, false_or, or_true, true_or, not_false_eq_true, ite_self, ite_true, ite_false, reduceIte, Nat.reduceEqDiff, Nat.reduceMul, Nat.reduceAdd, Nat.reduceLT, Nat.reducePow, ne_eq]
    · simp (disch := omega) only [f_X12_count, F_X12_count_199, h20, h100, h200, c0, c1, c2, c3, c4, c5, c6, c7, c8, c9, c10, c1', c2', c3', c4', c5', c6', c7', c8', c9', f1, f2, f3, z0, z1, z2, z3, z4, z5, bd_some, n10, n00, bv_eq, within_eq, in_eq, gd_T, gd_t, i00, i10, c_0, c_1, c_m1, ite10, ite01, setV_fn, setV_at, cntS, nI_pos, nI_clamp, nI_leI, nI_ltI, nI_eq, nI_1, if_true, if_false, not_true, not_false, and_self, and_true, true_and, false_and, and_false, or_false, false_or, or_true, true_or, not_false_eq_true, ite_self, ite_true, ite_false, reduceIte, Nat.reduceEqDiff, Nat.reduceMul, Nat.reduceAdd, Nat.reduceLT, Nat.reducePow, ne_eq]
  by_cases z7 : x = 7
  · subst z7
    refine Step.same (r := nI nK) ?_ ?_ hI'
    · simp (disch := omega) only [f_X11_count, f_X11_plainCount, h20, h100, h200, c0, c1, c2, c3, c4, c5, c6, c7, c8, c9, c10, c1', c2', c3', c4', c5', c6', c7', c8', c9', f1, f2, f3, z0, z1, z2, z3, z4, z5, z6, bd_some, n10, n00, bv_eq, within_eq, in_eq, gd_T, gd_t, i00, i10, c_0, c_1, c_m1, ite10, ite01, setV_fn, setV_at, cntS, nI_pos, nI_clamp, nI_leI, nI_ltI, nI_eq, nI_1, if_true, if_false, not_true, not_false, and_self, and_true, true_and, false_and, and_false, or_false, false_or, or_true, true_or, not_false_eq_true, ite_self, ite_true, ite_false, reduceIte, Nat.reduceEqDiff, Nat.reduceMul, Nat.reduceAdd, Nat.reduceLT, Nat.reducePow, ne_eq]
    · simp (disch := omega) only [f_X12_count, F_X12_count_199, h20, h100, h200, c0, c1, c2, c3, c4, c5, c6, c7, c8, c9, c10, c1', c2', c3', c4', c5', c6', c7', c8', c9', f1, f2, f3, z0, z1, z2, z3, z4, z5, z6, bd_some, n10, n00, bv_eq, within_eq, in_eq, gd_T, gd_t, i00, i10, c_0, c_1, c_m1, ite10, ite01, setV_fn, setV_at, cntS, nI_pos, nI_clamp, nI_leI, nI_ltI, nI_eq, nI_1, if_true, if_false, not_true, not_false, and_self, and_true, true_and, false_and, and_false, or_false, false_or, or_true, true_or, not_false_eq_true, ite_self, ite_true, ite_false, reduceIte, Nat.reduceEqDiff, Nat.reduceMul, Nat.reduceAdd, Nat.reduceLT, Nat.reducePow, ne_eq]
  by_cases z8 : x = 8
  · subst z8
    refine Step.same (r := nI nS) ?_ ?_ hI'
    · simp (disch := omega) only [f_X11_count, f_X11_plainCount, h20, h100, h200, c0, c1, c2, c3, c4, c5, c6, c7, c8, c9, c10, c1', c2', c3', c4', c5', c6', c7', c8', c9', f1, f2, f3, z0, z1, z2, z3, z4, z5, z6, z7, bd_some, n10, n00, bv_eq, within_eq, in_eq, gd_T, gd_t, i00, i10, c_0, c_1, c_m1, ite10, ite01, setV_fn, setV_at, cntS, nI_pos, nI_clamp, nI_leI, nI_ltI, nI_eq, nI_1, if_true, if_false, not_true, not_false, and_self, and_true, true_and, false_and, and_false, or_false, false_or, or_true, true_or, not_false_eq_true, ite_self, ite_true, ite_false, reduceIte, Nat.reduceEqDiff, Nat.reduceMul, Nat.reduceAdd, Nat.reduceLT, Nat.reducePow, ne_eq]
    · simp (disch := omega) only [f_X12_count, F_X12_count_199, h20, h100, h200, c0, c1, c2, c3, c4, c5, c6, c7, c8, c9, c10, c1', c2', c3', c4', c5', c6', c7', c8', c9', f1, f2, f3, z0, z1, z2, z3, z4, z5, z6, z7, bd_some, n10, n00, bv_eq, within_eq, in_eq, gd_T, gd_t, i00, i10, c_0, c_1, c_m1, ite10, ite01, setV_fn, setV_at, cntS, nI_pos, nI_clamp, nI_leI, nI_ltI, nI_eq, nI_1, if_true, if_false, not_true, not_false, and_self, and_true, true_and, false_and, and_false, or_false, false_or, or_true, true_or, not_false_eq_true, ite_self, ite_true, ite_false, reduceIte, Nat.reduceEqDiff, Nat.reduceMul, Nat.reduceAdd, Nat.reduceLT, Nat.reducePow, ne_eq]
  by_cases z9 : x = 9
  · subst z9
    refine Step.same (r := nI nR) ?_ ?_ hI'
    · simp (disch := omega) only [f_X11_count, f_X11_plainCount, h20, h100, h200, c0, c1, c2, c3, c4, c5, c6, c7, c8, c9, c10, c1', c2', c3', c4', c5', c6', c7', c8', c9', f1, f2, f3, z0, z1, z2, z3, z4, z5, z6, z7, z8, bd_some, n10, n00, bv_eq, within_eq, in_eq, gd_T, gd_t, i00, i10, c_0, c_1, c_m1, ite10, ite01, setV_fn, setV_at, cntS, nI_pos, nI_clamp, nI_leI, nI_ltI, nI_eq, nI_1, if_true, if_false, not_true, not_false, and_self, and_true, true_and, false_and, and_false, or_false, false_or, or_true, true_or, not_false_eq_true, ite_self, ite_true, ite_false, reduceIte, Nat.reduceEqDiff, Nat.reduceMul, Nat.reduceAdd, Nat.reduceLT, Nat.reducePow, ne_eq]
    · simp (disch := omega) only [f_X12_count, F_X12_count_199, h20, h100, h200, c0, c1, c2, c3, c4, c5, c6, c7, c8, c9, c10, c1', c2', c3', c4', c5', c6', c7', c8', c9', f1, f2, f3, z0, z1, z2, z3, z4, z5, z6, z7, z8, bd_some, n10, n00, bv_eq, within_eq, in_eq, gd_T, gd_t, i00, i10, c_0, c_1, c_m1, ite10, ite01, setV_fn, setV_at, cntS, nI_pos, nI_clamp, nI_leI, nI_ltI, nI_eq, nI_1, if_true, if_false, not_true, not_false, and_self, and_true, true_and, false_and, and_false, or_false, false_or, or_true, true_or, not_false_eq_true, ite_self, ite_true, ite_false, reduceIte, Nat.reduceEqDiff, Nat.reduceMul, Nat.reduceAdd, Nat.reduceLT, Nat.reducePow, ne_eq]
  by_cases z10 : x = 10
  · subst z10
    refine Step.same (r := V 2242 0 0) ?_ ?_ hI'
    · simp (disch := omega) only [f_X11_count, f_X11_plainCount, h20, h100, h200, c0, c1, c2, c3, c4, c5, c6, c7, c8, c9, c10, c1', c2', c3', c4', c5', c6', c7', c8', c9', f1, f2, f3, z0, z1, z2, z3, z4, z5, z6, z7, z8, z9, bd_some, n10, n00, bv_eq, within_eq, in_eq, gd_T, gd_t, i00, i10, c_0, c_1, c_m1, ite10, ite01, setV_fn, setV_at, cntS, nI_pos, nI_clamp, nI_leI, nI_ltI, nI_eq, nI_1, if_true, if_false, not_true, not_false, and_self, and_true, true_and, false_and, and_false, or_false, false_or, or_true, true_or, not_false_eq_true, ite_self, ite_true, ite_false, reduceIte, Nat.reduceEqDiff, Nat.reduceMul, Nat.reduceAdd, Nat.reduceLT, Nat.reducePow, ne_eq]
    · simp (disch := omega) only [f_X12_count, F_X12_count_199, h20, h100, h200, c0, c1, c2, c3, c4, c5, c6, c7, c8, c9, c10, c1', c2', c3', c4', c5', c6', c7', c8', c9', f1, f2, f3, z0, z1, z2, z3, z4, z5, z6, z7, z8, z9, bd_some, n10, n00, bv_eq, within_eq, in_eq, gd_T, gd_t, i00, i10, c_0, c_1, c_m1, ite10, ite01, setV_fn, setV_at, cntS, nI_pos, nI_clamp, nI_leI, nI_ltI, nI_eq, nI_1, if_true, if_false, not_true, not_false, and_self, and_true, true_and, false_and, and_false, or_false, false_or, or_true, true_or, not_false_eq_true, ite_self, ite_true, ite_false, reduceIte, Nat.reduceEqDiff, Nat.reduceMul, Nat.reduceAdd, Nat.reduceLT, Nat.reducePow, ne_eq]
  refine Step.same (r := -1) ?_ ?_ hI'
  · simp (disch := omega) only [f_X11_count, f_X11_plainCount, h20, h100, h200, c0, c1, c2, c3, c4, c5, c6, c7, c8, c9, c10, c1', c2', c3', c4', c5', c6', c7', c8', c9', f1, f2, f3, z0, z1, z2, z3, z4, z5, z6, z7, z8, z9, z10, bd_some, n10, n00, bv_eq, within_eq, in_eq, gd_T, gd_t, i00, i10, c_0, c_1, c_m1, ite10, ite01, setV_fn, setV_at, cntS, nI_pos, nI_clamp, nI_leI, nI_ltI, nI_eq, nI_1, if_true, if_false, not_true, not_false, and_self, and_true, true_and, false_and, and_false, or_false, false_or, or_true, true_or, not_false_eq_true, ite_self, ite_true, ite_false, reduceIte, Nat.reduceEqDiff, Nat.reduceMul, Nat.reduceAdd, Nat.reduceLT, Nat.reducePow, ne_eq]
  · simp (disch := omega) only [f_X12_count, F_X12_count_199, h20, h100, h200, c0, c1, c2, c3, c4, c5, c6, c7, c8, c9, c10, c1', c2', c3', c4', c5', c6', c7', c8', c9', f1, f2, f3, z0, z1, z2, z3, z4, z5, z6, z7, z8, z9, z10, bd_some, n10, n00, bv_eq, within_eq, in_eq, gd_T, gd_t, i00, i10, c_0, c_1, c_m1, ite10, ite01, setV_fn, setV_at, cntS, nI_pos, nI_clamp, nI_leI, nI_ltI, nI_eq, nI_1, if_true, if_false, not_true, not_false, and_self, and_true, true_and, false_and, and_false, or_false, false_or, or_true, true_or, not_false_eq_true, ite_self, ite_true, ite_false, reduceIte, Nat.reduceEqDiff, Nat.reduceMul, Nat.reduceAdd, Nat.reduceLT, Nat.reducePow, ne_eq]
theorem MakV.of {V V' : St} {m : Nat} (h : MakV V m) (h1 : ∀ v, v ∈ [1601, 1602, 1603, 1604, 1605, 1606, 1607, 1608] → V' v m = V v m) (h2 : ∀ v, v ∈ [2233, 2234, 2235, 2236, 2237, 2239, 2240] → V' v 0 m = V v 0 m) (h3 : ∀ c, c < 20 → V' 2238 0 (20 * m + c) = V 2238 0 (20 * m + c)) : MakV V' m := by
  have a1601 := h1 1601 (by decide)
  have a1602 := h1 1602 (by decide)
  have a1603 := h1 1603 (by decide)
  have a1604 := h1 1604 (by decide)
  have a1605 := h1 1605 (by decide)
  have a1606 := h1 1606 (by decide)
  have a1607 := h1 1607 (by decide)
  have a1608 := h1 1608 (by decide)
  have a2233 := h2 2233 (by decide)
  have a2234 := h2 2234 (by decide)
  have a2235 := h2 2235 (by decide)
  have a2236 := h2 2236 (by decide)
  have a2237 := h2 2237 (by decide)
  have a2239 := h2 2239 (by decide)
  have a2240 := h2 2240 (by decide)
  unfold MakV at h ⊢
  simp only [a1601, a1602, a1603, a1604, a1605, a1606, a1607, a1608, a2233, a2234, a2235, a2236, a2237, a2239, a2240]
  obtain ⟨q1, q2, q3, q4, q5, q6, q7, q8, q9, q10, q11⟩ := h
  exact ⟨q1, q2, q3, q4, q5, q6, q7, q8, q9, fun c hc => by rw [h3 c hc]; exact q10 c hc, q11⟩
theorem P_named {fu k : Nat} {V : St} (hI : Inv k V) (xm b : Int32) (hb : b = 0 ∨ b = 1) : Step k (fun V => f_X11_named fu V xm b) (fun V => f_X12_named fu V xm b) V := by
  have hI' := hI
  obtain ⟨nC, nD, nT, nM, nP, nK, nS, nR, nL, nO, hL, hmi, hta, hcl, hdr, hth, hla, hma, hor, hpe, hdo, hse, hru, hmk⟩ := hI
  obtain ⟨h12, hn1, hn2, hfr, hfr2, hx, hR⟩ := hma
  have hc : cntV V 2106 = nM := cnt_n (by decide) (by omega) hn1
  rcases ix_or xm (show nM < 2 ^ 31 by omega) with hv | ⟨m, hm, rfl⟩
  · refine Step.same (r := 0) ?_ ?_ hI'
    · simp (disch := omega) only [f_X11_named, F_X11_named_18, findMaker_no hn1 (by omega) hv, bd_some, n10, n00, bv_eq, within_eq, in_eq, gd_T, gd_t, i00, i10, c_0, c_1, c_m1, ite10, ite01, setV_fn, setV_at, cntS, nI_pos, nI_clamp, nI_leI, nI_ltI, nI_eq, nI_1, if_true, if_false, not_true, not_false, and_self, and_true, true_and, false_and, and_false, or_false, false_or, or_true, true_or, not_false_eq_true, ite_self, ite_true, ite_false, reduceIte, Nat.reduceEqDiff, Nat.reduceMul, Nat.reduceAdd, Nat.reduceLT, Nat.reducePow, ne_eq]
    · simp (disch := omega) only [f_X12_named, F_X12_named_18, isMaker_no hn2 hv, bd_some, n10, n00, bv_eq, within_eq, in_eq, gd_T, gd_t, i00, i10, c_0, c_1, c_m1, ite10, ite01, setV_fn, setV_at, cntS, nI_pos, nI_clamp, nI_leI, nI_ltI, nI_eq, nI_1, if_true, if_false, not_true, not_false, and_self, and_true, true_and, false_and, and_false, or_false, false_or, or_true, true_or, not_false_eq_true, ite_self, ite_true, ite_false, reduceIte, Nat.reduceEqDiff, Nat.reduceMul, Nat.reduceAdd, Nat.reduceLT, Nat.reducePow, ne_eq]
  have hM := hx m hm
  have e1 := hM.2.2.2.2.2.2.2.2.2.2.2.1
  rcases (Decidable.em (V 2240 0 m = b)) with h | h
  · refine Step.same (r := 0) ?_ ?_ hI'
    · simp (disch := omega) only [f_X11_named, F_X11_named_18, findMaker_ok hn1 (by omega) hm, e1, h, hc, bd_some, n10, n00, bv_eq, within_eq, in_eq, gd_T, gd_t, i00, i10, c_0, c_1, c_m1, ite10, ite01, setV_fn, setV_at, cntS, nI_pos, nI_clamp, nI_leI, nI_ltI, nI_eq, nI_1, if_true, if_false, not_true, not_false, and_self, and_true, true_and, false_and, and_false, or_false, false_or, or_true, true_or, not_false_eq_true, ite_self, ite_true, ite_false, reduceIte, Nat.reduceEqDiff, Nat.reduceMul, Nat.reduceAdd, Nat.reduceLT, Nat.reducePow, ne_eq]
    · simp (disch := omega) only [f_X12_named, F_X12_named_18, isMaker_ok hn2 (by omega) hm, h, bd_some, n10, n00, bv_eq, within_eq, in_eq, gd_T, gd_t, i00, i10, c_0, c_1, c_m1, ite10, ite01, setV_fn, setV_at, cntS, nI_pos, nI_clamp, nI_leI, nI_ltI, nI_eq, nI_1, if_true, if_false, not_true, not_false, and_self, and_true, true_and, false_and, and_false, or_false, false_or, or_true, true_or, not_false_eq_true, ite_self, ite_true, ite_false, reduceIte, Nat.reduceEqDiff, Nat.reduceMul, Nat.reduceAdd, Nat.reduceLT, Nat.reducePow, ne_eq]
  refine ⟨1, setV (V) 1607 m 0 b, setV (setV (V) 1607 m 0 b) 2240 0 m b, ?_, ?_, ?_⟩
  · simp (disch := omega) only [f_X11_named, findMaker_ok hn1 (by omega) hm, e1, h, hc, hb, bd_some, n10, n00, bv_eq, within_eq, in_eq, gd_T, gd_t, i00, i10, c_0, c_1, c_m1, ite10, ite01, setV_fn, setV_at, cntS, nI_pos, nI_clamp, nI_leI, nI_ltI, nI_eq, nI_1, if_true, if_false, not_true, not_false, and_self, and_true, true_and, false_and, and_false, or_false, false_or, or_true, true_or, not_false_eq_true, ite_self, ite_true, ite_false, reduceIte, Nat.reduceEqDiff, Nat.reduceMul, Nat.reduceAdd, Nat.reduceLT, Nat.reducePow, ne_eq]
  · have hid : ∀ fu W, W 2232 0 0 = nI nM → f_X12_isMaker fu W (nI m) = some (1, W) := fun fu W hW => isMaker_ok hW (by omega) hm
    show f_X12_named fu _ _ _ = _
    unfold f_X12_named
    rw [hid _ _ (by simp (disch := omega) only [setV_fn]; exact hn2)]
    simp (disch := omega) only [h, hb, bd_some, n10, n00, bv_eq, within_eq, in_eq, gd_T, gd_t, i00, i10, c_0, c_1, c_m1, ite10, ite01, setV_fn, setV_at, cntS, nI_pos, nI_clamp, nI_leI, nI_ltI, nI_eq, nI_1, if_true, if_false, not_true, not_false, and_self, and_true, true_and, false_and, and_false, or_false, false_or, or_true, true_or, not_false_eq_true, ite_self, ite_true, ite_false, reduceIte, Nat.reduceEqDiff, Nat.reduceMul, Nat.reduceAdd, Nat.reduceLT, Nat.reducePow, ne_eq]
  · have hF : Fr [1607, 2240] V (setV (setV (V) 1607 m 0 b) 2240 0 m b) := (((Fr.refl _ V)).set (by decide)).set (by decide)
    refine ⟨nC, nD, nT, nM, nP, nK, nS, nR, nL, nO, by omega, hmi.fr hF rfl, hta.fr hF rfl, hcl.fr hF rfl, hdr.fr hF rfl, hth.fr hF rfl, hla.fr hF rfl, ?_, hor.fr hF rfl, hpe.fr hF rfl, hdo.fr hF rfl, hse.fr hF rfl, hru.fr hF rfl, hmk.fr hF rfl⟩
    refine ⟨h12, by simp (disch := omega) only [setV_fn]; exact hn1, by simp (disch := omega) only [setV_fn]; exact hn2, fun m' hm' => ?_, fun j hj => by simp (disch := omega) only [setV_fn]; exact hfr2 j hj, fun m' hm' => ?_, by simp (disch := omega) only [setV_fn]; exact hR⟩
    · have hne : ¬ m' = m := by omega
      simp (disch := omega) only [setV_fn, setV_at, hne, and_false, if_false]; exact hfr m' hm'
    by_cases hne : m' = m
    · subst hne
      have hM := hx m' hm'
      unfold MakV at hM ⊢
      simp (disch := omega) only [setV_fn, setV_at, true_and, and_self, if_true]
      obtain ⟨q1, q2, q3, q4, q5, q6, q7, q8, q9, q10, q11, q12, q13⟩ := hM
      exact ⟨q1, q2, q3, q4, q5, q6, q7, q8, q9, q10, q11, hb⟩
    · refine (hx m' hm').of (fun v hv => ?_) (fun v hv => ?_) (fun c hc => ?_)
      · funext q; revert v; simp only [List.mem_cons, List.not_mem_nil, or_false]; rintro v hv; rcases hv with rfl | rfl | rfl | rfl | rfl | rfl | rfl | rfl <;> simp (disch := omega) only [setV_fn, setV_at, hne, false_and, if_false]
      · revert v; simp only [List.mem_cons, List.not_mem_nil, or_false]; rintro v hv; rcases hv with rfl | rfl | rfl | rfl | rfl | rfl | rfl <;> simp (disch := omega) only [setV_fn, setV_at, hne, and_false, if_false]
      · simp (disch := omega) only [setV_fn]
theorem P_yards {fu k : Nat} {V : St} (hI : Inv k V) (xm xc n : Int32) : Step k (fun V => f_X11_yards fu V xm xc n) (fun V => f_X12_yards fu V xm xc n) V := by
  have hI' := hI
  obtain ⟨nC, nD, nT, nM, nP, nK, nS, nR, nL, nO, hL, hmi, hta, hcl, hdr, hth, hla, hma, hor, hpe, hdo, hse, hru, hmk⟩ := hI
  have hc20 := hcl.1
  obtain ⟨h12, hn1, hn2, hfr, hfr2, hx, hR⟩ := hma
  have hc : cntV V 2106 = nM := cnt_n (by decide) (by omega) hn1
  rcases ix_or xm (show nM < 2 ^ 31 by omega) with hv | ⟨m, hm, rfl⟩
  · refine Step.same (r := -1) ?_ ?_ hI'
    · simp (disch := omega) only [f_X11_yards, F_X11_yards_31, findMaker_no hn1 (by omega) hv, bd_some, n10, n00, bv_eq, within_eq, in_eq, gd_T, gd_t, i00, i10, c_0, c_1, c_m1, ite10, ite01, setV_fn, setV_at, cntS, nI_pos, nI_clamp, nI_leI, nI_ltI, nI_eq, nI_1, if_true, if_false, not_true, not_false, and_self, and_true, true_and, false_and, and_false, or_false, false_or, or_true, true_or, not_false_eq_true, ite_self, ite_true, ite_false, reduceIte, Nat.reduceEqDiff, Nat.reduceMul, Nat.reduceAdd, Nat.reduceLT, Nat.reducePow, ne_eq]
    · simp (disch := omega) only [f_X12_yards, F_X12_yards_46, isMaker_no hn2 hv, bd_some, n10, n00, bv_eq, within_eq, in_eq, gd_T, gd_t, i00, i10, c_0, c_1, c_m1, ite10, ite01, setV_fn, setV_at, cntS, nI_pos, nI_clamp, nI_leI, nI_ltI, nI_eq, nI_1, if_true, if_false, not_true, not_false, and_self, and_true, true_and, false_and, and_false, or_false, false_or, or_true, true_or, not_false_eq_true, ite_self, ite_true, ite_false, reduceIte, Nat.reduceEqDiff, Nat.reduceMul, Nat.reduceAdd, Nat.reduceLT, Nat.reducePow, ne_eq]
  rcases ix_or xc (show nC < 2 ^ 31 by omega) with hv | ⟨c, hcc, rfl⟩
  · refine Step.same (r := -1) ?_ ?_ hI'
    · simp (disch := omega) only [f_X11_yards, F_X11_yards_31, findMaker_ok hn1 (by omega) hm, findCloth_no hcl.2.1 (by omega) hv, bd_some, n10, n00, bv_eq, within_eq, in_eq, gd_T, gd_t, i00, i10, c_0, c_1, c_m1, ite10, ite01, setV_fn, setV_at, cntS, nI_pos, nI_clamp, nI_leI, nI_ltI, nI_eq, nI_1, if_true, if_false, not_true, not_false, and_self, and_true, true_and, false_and, and_false, or_false, false_or, or_true, true_or, not_false_eq_true, ite_self, ite_true, ite_false, reduceIte, Nat.reduceEqDiff, Nat.reduceMul, Nat.reduceAdd, Nat.reduceLT, Nat.reducePow, ne_eq]
    · simp (disch := omega) only [f_X12_yards, F_X12_yards_46, isMaker_ok hn2 (by omega) hm, isCloth_no hcl.2.2.1 hv, bd_some, n10, n00, bv_eq, within_eq, in_eq, gd_T, gd_t, i00, i10, c_0, c_1, c_m1, ite10, ite01, setV_fn, setV_at, cntS, nI_pos, nI_clamp, nI_leI, nI_ltI, nI_eq, nI_1, if_true, if_false, not_true, not_false, and_self, and_true, true_and, false_and, and_false, or_false, false_or, or_true, true_or, not_false_eq_true, ite_self, ite_true, ite_false, reduceIte, Nat.reduceEqDiff, Nat.reduceMul, Nat.reduceAdd, Nat.reduceLT, Nat.reducePow, ne_eq]
  have hM := hx m hm
  have e1 := hM.2.2.2.2.2.2.2.2.2.1 c (by omega)
  rcases (Decidable.em (1 ≤ n ∧ n ≤ 10000)).symm with h | h
  · refine Step.same (r := -1) ?_ ?_ hI'
    · simp (disch := omega) only [f_X11_yards, F_X11_yards_31, findMaker_ok hn1 (by omega) hm, findCloth_ok hcl.2.1 (by omega) hcc, h, bd_some, n10, n00, bv_eq, within_eq, in_eq, gd_T, gd_t, i00, i10, c_0, c_1, c_m1, ite10, ite01, setV_fn, setV_at, cntS, nI_pos, nI_clamp, nI_leI, nI_ltI, nI_eq, nI_1, if_true, if_false, not_true, not_false, and_self, and_true, true_and, false_and, and_false, or_false, false_or, or_true, true_or, not_false_eq_true, ite_self, ite_true, ite_false, reduceIte, Nat.reduceEqDiff, Nat.reduceMul, Nat.reduceAdd, Nat.reduceLT, Nat.reducePow, ne_eq]
    · simp (disch := omega) only [f_X12_yards, F_X12_yards_46, isMaker_ok hn2 (by omega) hm, isCloth_ok hcl.2.2.1 (by omega) hcc, h, bd_some, n10, n00, bv_eq, within_eq, in_eq, gd_T, gd_t, i00, i10, c_0, c_1, c_m1, ite10, ite01, setV_fn, setV_at, cntS, nI_pos, nI_clamp, nI_leI, nI_ltI, nI_eq, nI_1, if_true, if_false, not_true, not_false, and_self, and_true, true_and, false_and, and_false, or_false, false_or, or_true, true_or, not_false_eq_true, ite_self, ite_true, ite_false, reduceIte, Nat.reduceEqDiff, Nat.reduceMul, Nat.reduceAdd, Nat.reduceLT, Nat.reducePow, ne_eq]
  rcases (Decidable.em (V 2238 0 (20 * m + c) + n ≤ 1000000)).symm with h2 | h2
  · refine Step.same (r := -1) ?_ ?_ hI'
    · simp (disch := omega) only [f_X11_yards, F_X11_yards_31, findMaker_ok hn1 (by omega) hm, findCloth_ok hcl.2.1 (by omega) hcc, h, e1, h2, hc, bd_some, n10, n00, bv_eq, within_eq, in_eq, gd_T, gd_t, i00, i10, c_0, c_1, c_m1, ite10, ite01, setV_fn, setV_at, cntS, nI_pos, nI_clamp, nI_leI, nI_ltI, nI_eq, nI_1, if_true, if_false, not_true, not_false, and_self, and_true, true_and, false_and, and_false, or_false, false_or, or_true, true_or, not_false_eq_true, ite_self, ite_true, ite_false, reduceIte, Nat.reduceEqDiff, Nat.reduceMul, Nat.reduceAdd, Nat.reduceLT, Nat.reducePow, ne_eq]
    · simp (disch := omega) only [f_X12_yards, F_X12_yards_46, isMaker_ok hn2 (by omega) hm, isCloth_ok hcl.2.2.1 (by omega) hcc, h, ix20, h2, bd_some, n10, n00, bv_eq, within_eq, in_eq, gd_T, gd_t, i00, i10, c_0, c_1, c_m1, ite10, ite01, setV_fn, setV_at, cntS, nI_pos, nI_clamp, nI_leI, nI_ltI, nI_eq, nI_1, if_true, if_false, not_true, not_false, and_self, and_true, true_and, false_and, and_false, or_false, false_or, or_true, true_or, not_false_eq_true, ite_self, ite_true, ite_false, reduceIte, Nat.reduceEqDiff, Nat.reduceMul, Nat.reduceAdd, Nat.reduceLT, Nat.reducePow, ne_eq]
  refine ⟨V 2238 0 (20 * m + c) + n, setV (V) 1606 m c (V 2238 0 (20 * m + c) + n), setV (setV (V) 1606 m c (V 2238 0 (20 * m + c) + n)) 2238 0 (20 * m + c) (V 2238 0 (20 * m + c) + n), ?_, ?_, ?_⟩
  · simp (disch := omega) only [f_X11_yards, findMaker_ok hn1 (by omega) hm, findCloth_ok hcl.2.1 (by omega) hcc, e1, h, h2, hc, bd_some, n10, n00, bv_eq, within_eq, in_eq, gd_T, gd_t, i00, i10, c_0, c_1, c_m1, ite10, ite01, setV_fn, setV_at, cntS, nI_pos, nI_clamp, nI_leI, nI_ltI, nI_eq, nI_1, if_true, if_false, not_true, not_false, and_self, and_true, true_and, false_and, and_false, or_false, false_or, or_true, true_or, not_false_eq_true, ite_self, ite_true, ite_false, reduceIte, Nat.reduceEqDiff, Nat.reduceMul, Nat.reduceAdd, Nat.reduceLT, Nat.reducePow, ne_eq]
  · have hid : ∀ fu W, W 2232 0 0 = nI nM → f_X12_isMaker fu W (nI m) = some (1, W) := fun fu W hW => isMaker_ok hW (by omega) hm
    have hid2 : ∀ fu W, W 2202 0 0 = nI nC → f_X12_isCloth fu W (nI c) = some (1, W) := fun fu W hW => isCloth_ok hW (by omega) hcc
    show f_X12_yards fu _ _ _ _ = _
    unfold f_X12_yards
    rw [hid _ _ (by simp (disch := omega) only [setV_fn]; exact hn2), bd_some, if_neg (by decide), hid2 _ _ (by simp (disch := omega) only [setV_fn]; exact hcl.2.2.1)]
    simp (disch := omega) only [h, h2, ix20, bd_some, n10, n00, bv_eq, within_eq, in_eq, gd_T, gd_t, i00, i10, c_0, c_1, c_m1, ite10, ite01, setV_fn, setV_at, cntS, nI_pos, nI_clamp, nI_leI, nI_ltI, nI_eq, nI_1, if_true, if_false, not_true, not_false, and_self, and_true, true_and, false_and, and_false, or_false, false_or, or_true, true_or, not_false_eq_true, ite_self, ite_true, ite_false, reduceIte, Nat.reduceEqDiff, Nat.reduceMul, Nat.reduceAdd, Nat.reduceLT, Nat.reducePow, ne_eq]
  · have hF : Fr [1606, 2238] V (setV (setV (V) 1606 m c (V 2238 0 (20 * m + c) + n)) 2238 0 (20 * m + c) (V 2238 0 (20 * m + c) + n)) := (((Fr.refl _ V)).set (by decide)).set (by decide)
    refine ⟨nC, nD, nT, nM, nP, nK, nS, nR, nL, nO, by omega, hmi.fr hF rfl, hta.fr hF rfl, hcl.fr hF rfl, hdr.fr hF rfl, hth.fr hF rfl, hla.fr hF rfl, ?_, hor.fr hF rfl, hpe.fr hF rfl, hdo.fr hF rfl, hse.fr hF rfl, hru.fr hF rfl, hmk.fr hF rfl⟩
    refine ⟨h12, by simp (disch := omega) only [setV_fn]; exact hn1, by simp (disch := omega) only [setV_fn]; exact hn2, fun m' hm' => by simp (disch := omega) only [setV_fn]; exact hfr m' hm', fun j hj => ?_, fun m' hm' => ?_, by simp (disch := omega) only [setV_fn]; exact hR⟩
    · have hne : ¬ j = 20 * m + c := by omega
      simp (disch := omega) only [setV_fn, setV_at, hne, and_false, if_false]; exact hfr2 j hj
    by_cases hne : m' = m
    · subst hne
      have hM := hx m' hm'
      unfold MakV at hM ⊢
      simp (disch := omega) only [setV_fn, setV_at, true_and, and_self, if_true]
      obtain ⟨q1, q2, q3, q4, q5, q6, q7, q8, q9, q10, q11, q12, q13⟩ := hM
      refine ⟨q1, q2, q3, q4, q5, q6, q7, q8, q9, fun c' hc' => ?_, q11, q12, q13⟩
      by_cases hce : c' = c
      · simp only [hce, if_true]
      · have hz : ¬ 20 * m' + c' = 20 * m' + c := by omega
        simp only [hce, hz, if_false]; exact q10 c' hc'
    · refine (hx m' hm').of (fun v hv => ?_) (fun v hv => ?_) (fun c'' hc'' => ?_)
      · funext q; revert v; simp only [List.mem_cons, List.not_mem_nil, or_false]; rintro v hv; rcases hv with rfl | rfl | rfl | rfl | rfl | rfl | rfl | rfl <;> simp (disch := omega) only [setV_fn, setV_at, hne, false_and, if_false]
      · revert v; simp only [List.mem_cons, List.not_mem_nil, or_false]; rintro v hv; rcases hv with rfl | rfl | rfl | rfl | rfl | rfl | rfl <;> simp (disch := omega) only [setV_fn, setV_at, hne, and_false, if_false]
      · have hz : ¬ 20 * m' + c'' = 20 * m + c := by omega
        simp (disch := omega) only [setV_fn, setV_at, hz, and_false, if_false]
