/-! why, loses -/
theorem P_why {fu k : Nat} {V : St} (hfu : 1000 ≤ fu) (hI : Inv k V) (x m b : Int32) : Step k (fun V => f_X11_why fu V x m b) (fun V => f_X12_why fu V x m b) V := by
  have hI' := hI
  obtain ⟨nC, nD, nT, nM, nP, nK, nS, nR, nL, nO, hL, hmi, hta, hcl, hdr, hth, hla, hma, hor, hpe, hdo, hse, hru, hmk⟩ := hI
  have hwo := hmi.2.2.2.2
  have hnow := hmi.1
  have hA : Ask V nC nT nM nO := ⟨hcl, hth, hma, hor⟩
  have h30 := hth.1
  have h12 := hma.1
  rcases ix_or x (show nT < 2 ^ 31 by omega) with hv | ⟨i, hi, rfl⟩
  · obtain ⟨rM, eM, -⟩ := findMaker_gen (fu := fu) (V := V) m hma.2.1 (by omega)
    refine Step.same (r := -1) ?_ ?_ hI'
    · simp only [f_X11_why, F_X11_why_33, findThing_no hth.2.1 (show nT ≤ 1000 by omega) hv, eM, bd_some, n10, n00, bv_eq, within_eq, in_eq, gd_T, gd_t, i00, i10, c_0, c_1, c_m1, ite10, ite01, setV_fn, setV_at, cntS, nI_pos, nI_clamp, nI_leI, nI_ltI, nI_eq, nI_1, if_true, if_false, not_true, not_false, and_self, and_true, true_and, false_and, and_false, or_false, false_or, or_true, true_or, not_false_eq_true, ite_self, ite_true, ite_false, reduceIte, Nat.reduceEqDiff, Nat.reduceMul, Nat.reduceAdd, Nat.reduceLT, Nat.reducePow, ne_eq]
    · simp only [f_X12_why, F_X12_why_44, isThing_no hth.2.2.1 hv, bd_some, n10, n00, bv_eq, within_eq, in_eq, gd_T, gd_t, i00, i10, c_0, c_1, c_m1, ite10, ite01, setV_fn, setV_at, cntS, nI_pos, nI_clamp, nI_leI, nI_ltI, nI_eq, nI_1, if_true, if_false, not_true, not_false, and_self, and_true, true_and, false_and, and_false, or_false, false_or, or_true, true_or, not_false_eq_true, ite_self, ite_true, ite_false, reduceIte, Nat.reduceEqDiff, Nat.reduceMul, Nat.reduceAdd, Nat.reduceLT, Nat.reducePow, ne_eq]
  rcases ix_or m (show nM < 2 ^ 31 by omega) with hv | ⟨j, hj, rfl⟩
  · refine Step.same (r := -1) ?_ ?_ hI'
    · simp (disch := omega) only [f_X11_why, F_X11_why_33, findThing_ok hth.2.1 (show nT ≤ 1000 by omega) hi, findMaker_no hma.2.1 (show nM ≤ 1000 by omega) hv, bd_some, n10, n00, bv_eq, within_eq, in_eq, gd_T, gd_t, i00, i10, c_0, c_1, c_m1, ite10, ite01, setV_fn, setV_at, cntS, nI_pos, nI_clamp, nI_leI, nI_ltI, nI_eq, nI_1, if_true, if_false, not_true, not_false, and_self, and_true, true_and, false_and, and_false, or_false, false_or, or_true, true_or, not_false_eq_true, ite_self, ite_true, ite_false, reduceIte, Nat.reduceEqDiff, Nat.reduceMul, Nat.reduceAdd, Nat.reduceLT, Nat.reducePow, ne_eq]
    · simp (disch := omega) only [f_X12_why, F_X12_why_44, isThing_ok hth.2.2.1 (show nT ≤ 1000 by omega) hi, isMaker_no hma.2.2.1 hv, bd_some, n10, n00, bv_eq, within_eq, in_eq, gd_T, gd_t, i00, i10, c_0, c_1, c_m1, ite10, ite01, setV_fn, setV_at, cntS, nI_pos, nI_clamp, nI_leI, nI_ltI, nI_eq, nI_1, if_true, if_false, not_true, not_false, and_self, and_true, true_and, false_and, and_false, or_false, false_or, or_true, true_or, not_false_eq_true, ite_self, ite_true, ite_false, reduceIte, Nat.reduceEqDiff, Nat.reduceMul, Nat.reduceAdd, Nat.reduceLT, Nat.reducePow, ne_eq]
  rcases (Decidable.em (0 ≤ b ∧ b ≤ 1)).symm with h1 | h1
  · refine Step.same (r := -1) ?_ ?_ hI'
    · simp (disch := omega) only [f_X11_why, F_X11_why_33, findThing_ok hth.2.1 (show nT ≤ 1000 by omega) hi, findMaker_ok hma.2.1 (show nM ≤ 1000 by omega) hj, h1, bd_some, n10, n00, bv_eq, within_eq, in_eq, gd_T, gd_t, i00, i10, c_0, c_1, c_m1, ite10, ite01, setV_fn, setV_at, cntS, nI_pos, nI_clamp, nI_leI, nI_ltI, nI_eq, nI_1, if_true, if_false, not_true, not_false, and_self, and_true, true_and, false_and, and_false, or_false, false_or, or_true, true_or, not_false_eq_true, ite_self, ite_true, ite_false, reduceIte, Nat.reduceEqDiff, Nat.reduceMul, Nat.reduceAdd, Nat.reduceLT, Nat.reducePow, ne_eq]
    · simp (disch := omega) only [f_X12_why, F_X12_why_44, isThing_ok hth.2.2.1 (show nT ≤ 1000 by omega) hi, isMaker_ok hma.2.2.1 (show nM ≤ 1000 by omega) hj, h1, bd_some, n10, n00, bv_eq, within_eq, in_eq, gd_T, gd_t, i00, i10, c_0, c_1, c_m1, ite10, ite01, setV_fn, setV_at, cntS, nI_pos, nI_clamp, nI_leI, nI_ltI, nI_eq, nI_1, if_true, if_false, not_true, not_false, and_self, and_true, true_and, false_and, and_false, or_false, false_or, or_true, true_or, not_false_eq_true, ite_self, ite_true, ite_false, reduceIte, Nat.reduceEqDiff, Nat.reduceMul, Nat.reduceAdd, Nat.reduceLT, Nat.reducePow, ne_eq]
  obtain ⟨Va, e1, e2, e3⟩ := ask_cs (fu := fu) (wk := V 2101 0 0) (t := V 2101 0 0) (wo := -1) hfu hcl hth hma hor
  obtain ⟨Vb, g1, g2⟩ := e3 Va (nI i) (nI j) (.inr rfl) (okT_nI hi) (okT_nI hj)
  obtain ⟨V1, c1, c2⟩ := bar_eq (fu := fu) (b := if b = 0 then 1 else 0) hfu hor g2
  have hA1 := hA.fr c2 (by decide) (by decide) (by decide) (by decide)
  obtain ⟨V2, d2, d1, d3⟩ := isSome_eq (fu := fu) (L := 98) (wk := V1 2201 0 0) (t := V1 2201 0 0) hfu hA1.1 hA1.2.1 hA1.2.2.1 hA1.2.2.2 (okT_nI hi) (okT_nI hj) (by decide)
  have u1 : V1 2201 0 0 = V 2101 0 0 := by rw [c2 2201 (by decide), hnow]
  rw [u1, c2 2259 (by decide), hwo, firstV_ag (av_fr c2 (by decide))] at d1 d3
  have hb : b = 0 ∨ b = 1 := by grind
  refine ⟨match firstV V (-1) (V 2101 0 0) (V 2101 0 0) nO 98 (nI i) (nI j) with
    | some q => if b = 0 then nI q.1 else nI q.2
    | none => -1, V1, V2, ?_, ?_, hI'.scr ((c2.weak (by decide)).trans (d2.weak (by decide)))⟩
  · have hn2 := e2 2101 (by decide)
    have : f_X11_why fu V (nI i) (nI j) b = bd (f_X4_lowestBar fu Vb (if b = 0 then 1 else 0)) fun r1 V2 => some (r1, V2) := by
      simp (disch := omega) only [f_X11_why, F_X11_why_79, findThing_ok hth.2.1 (show nT ≤ 1000 by omega) hi, findMaker_ok hma.2.1 (show nM ≤ 1000 by omega) hj, h1, e1, hn2, g1, bd_some, n10, n00, bv_eq, within_eq, in_eq, gd_T, gd_t, i00, i10, c_0, c_1, c_m1, ite10, ite01, setV_fn, setV_at, cntS, nI_pos, nI_clamp, nI_leI, nI_ltI, nI_eq, nI_1, if_true, if_false, not_true, not_false, and_self, and_true, true_and, false_and, and_false, or_false, false_or, or_true, true_or, not_false_eq_true, ite_self, ite_true, ite_false, reduceIte, Nat.reduceEqDiff, Nat.reduceMul, Nat.reduceAdd, Nat.reduceLT, Nat.reducePow, ne_eq]
      rcases hb with rfl | rfl <;> rfl
    refine this.trans ?_
    rw [c1, bd_some]
    cases firstV V (-1) (V 2101 0 0) (V 2101 0 0) nO 98 (nI i) (nI j) with
    | none => rfl
    | some q => rcases hb with rfl | rfl <;> rfl
  · have p1 := isThing_ok (fu := fu) (show V1 2204 0 0 = nI nT by rw [c2 2204 (by decide)]; exact hth.2.2.1) (show nT ≤ 1000 by omega) hi
    have p2 := isMaker_ok (fu := fu) (show V1 2232 0 0 = nI nM by rw [c2 2232 (by decide)]; exact hma.2.2.1) (show nM ≤ 1000 by omega) hj
    show f_X12_why fu V1 (nI i) (nI j) b = _
    simp (disch := omega) only [f_X12_why, F_X12_why_44, F_X12_why_61, p1, p2, h1, u1, d1, bd_some, n10, n00, bv_eq, within_eq, in_eq, gd_T, gd_t, i00, i10, c_0, c_1, c_m1, ite10, ite01, setV_fn, setV_at, cntS, nI_pos, nI_clamp, nI_leI, nI_ltI, nI_eq, nI_1, if_true, if_false, not_true, not_false, and_self, and_true, true_and, false_and, and_false, or_false, false_or, or_true, true_or, not_false_eq_true, ite_self, ite_true, ite_false, reduceIte, Nat.reduceEqDiff, Nat.reduceMul, Nat.reduceAdd, Nat.reduceLT, Nat.reducePow, ne_eq]
    cases hq : firstV V (-1) (V 2101 0 0) (V 2101 0 0) nO 98 (nI i) (nI j) with
    | none => rfl
    | some q =>
      obtain ⟨z1, z2⟩ := d3 q hq
      rw [if_neg (by simp), z1, z2]
      rcases hb with rfl | rfl <;> rfl
noncomputable def paidV (V : St) (n i : Nat) : Int32 := if lastV V (-1) (V 2201 0 0) (V 2201 0 0) n 99 (nI i) (-1) = -1 then V 2220 0 i else if lastV V (-1) (V 2201 0 0) (V 2201 0 0) n 99 (nI i) (-1) < V 2220 0 i then lastV V (-1) (V 2201 0 0) (V 2201 0 0) n 99 (nI i) (-1) else V 2220 0 i
theorem paidNow_eq {fu nC nT nM nO i : Nat} {V : St} (hfu : 1000 ≤ fu) (hA : Ask V nC nT nM nO) (hn : V 2101 0 0 = V 2201 0 0) (hi : i < nT) : ∃ V1, f_X11_paidNow fu V (nI i) = some (paidV V nO i, V1) ∧ Fr scr V V1 := by
  obtain ⟨V1, e1, e2⟩ := askNow_eq (fu := fu) (L := 99) hfu hA (okT_nI hi) (okT_m1 _) (by decide)
  have h30 := hA.2.1.1
  have hc : cntV V1 2105 = nT := cnt_n (by decide) (by omega) (by rw [e2 2105 (by decide)]; exact hA.2.1.2.1)
  obtain ⟨p, len, wid, q⟩ := hA.2.1.2.2.2.2 i hi
  have q8 := q.2.2.2.2.2.2.2.1
  refine ⟨V1, ?_, e2⟩
  rw [hn] at e1
  simp (disch := omega) only [f_X11_paidNow, F_X11_paidNow_29, e1, hc, e2 2010 (by decide), q8, bd_some, n10, n00, bv_eq, within_eq, in_eq, gd_T, gd_t, i00, i10, c_0, c_1, c_m1, ite10, ite01, setV_fn, setV_at, cntS, nI_pos, nI_clamp, nI_leI, nI_ltI, nI_eq, nI_1, if_true, if_false, not_true, not_false, and_self, and_true, true_and, false_and, and_false, or_false, false_or, or_true, true_or, not_false_eq_true, ite_self, ite_true, ite_false, reduceIte, Nat.reduceEqDiff, Nat.reduceMul, Nat.reduceAdd, Nat.reduceLT, Nat.reducePow, ne_eq]
  unfold paidV
  split <;> rfl
theorem paidFor_eq {fu nC nT nM nO i : Nat} {V : St} (hfu : 1000 ≤ fu) (hA : Ask V nC nT nM nO) (hwo : V 2259 0 0 = -1) (hi : i < nT) : ∃ V1, f_X12_paidFor fu V (nI i) = some (paidV V nO i, V1) ∧ Fr rsc V V1 := by
  obtain ⟨V1, e1, e2⟩ := numberBy_eq (fu := fu) (L := 99) (wk := V 2201 0 0) (t := V 2201 0 0) hfu hA.1 hA.2.1 hA.2.2.1 hA.2.2.2 (okT_nI hi) (okT_m1 _) (by decide)
  have h30 := hA.2.1.1
  refine ⟨V1, ?_, e2⟩
  rw [hwo] at e1
  simp (disch := omega) only [f_X12_paidFor, F_X12_paidFor_36, F_X12_paidFor_42, e1, e2 2220 (by decide), bd_some, n10, n00, bv_eq, within_eq, in_eq, gd_T, gd_t, i00, i10, c_0, c_1, c_m1, ite10, ite01, setV_fn, setV_at, cntS, nI_pos, nI_clamp, nI_leI, nI_ltI, nI_eq, nI_1, if_true, if_false, not_true, not_false, and_self, and_true, true_and, false_and, and_false, or_false, false_or, or_true, true_or, not_false_eq_true, ite_self, ite_true, ite_false, reduceIte, Nat.reduceEqDiff, Nat.reduceMul, Nat.reduceAdd, Nat.reduceLT, Nat.reducePow, ne_eq]
  unfold paidV
  split
  · rfl
  · by_cases h : V 2220 0 i ≤ lastV V (-1) (V 2201 0 0) (V 2201 0 0) nO 99 (nI i) (-1)
    · rw [if_pos h, if_neg (by grind)]
    · rw [if_neg h, if_pos (by grind)]
theorem paidV_ag {V U : St} {n i : Nat} (h : ∀ v, v ∈ av → U v = V v) (h1 : U 2201 = V 2201) (h2 : U 2220 = V 2220) : paidV U n i = paidV V n i := by
  unfold paidV; rw [h1, h2, lastV_ag h]
theorem P_loses {fu k : Nat} {V : St} (hfu : 1000 ≤ fu) (hI : Inv k V) (m x : Int32) : Step k (fun V => f_X11_loses fu V m x) (fun V => f_X12_loses fu V m x) V := by
  have hI' := hI
  obtain ⟨nC, nD, nT, nM, nP, nK, nS, nR, nL, nO, hL, hmi, hta, hcl, hdr, hth, hla, hma, hor, hpe, hdo, hse, hru, hmk⟩ := hI
  have hwo := hmi.2.2.2.2
  have hnow := hmi.1
  have hA : Ask V nC nT nM nO := ⟨hcl, hth, hma, hor⟩
  have h30 := hth.1
  have h12 := hma.1
  have h20 := hcl.1
  rcases ix_or m (show nM < 2 ^ 31 by omega) with hv | ⟨j, hj, rfl⟩
  · obtain ⟨rT, eT, -⟩ := findThing_gen (fu := fu) (V := V) x hth.2.1 (by omega)
    refine Step.same (r := -1000000000) ?_ ?_ hI'
    · simp only [f_X11_loses, F_X11_loses_22, findMaker_no hma.2.1 (show nM ≤ 1000 by omega) hv, eT, bd_some, n10, n00, bv_eq, within_eq, in_eq, gd_T, gd_t, i00, i10, c_0, c_1, c_m1, ite10, ite01, setV_fn, setV_at, cntS, nI_pos, nI_clamp, nI_leI, nI_ltI, nI_eq, nI_1, if_true, if_false, not_true, not_false, and_self, and_true, true_and, false_and, and_false, or_false, false_or, or_true, true_or, not_false_eq_true, ite_self, ite_true, ite_false, reduceIte, Nat.reduceEqDiff, Nat.reduceMul, Nat.reduceAdd, Nat.reduceLT, Nat.reducePow, ne_eq]
    · simp only [f_X12_loses, F_X12_loses_16, isMaker_no hma.2.2.1 hv, bd_some, n10, n00, bv_eq, within_eq, in_eq, gd_T, gd_t, i00, i10, c_0, c_1, c_m1, ite10, ite01, setV_fn, setV_at, cntS, nI_pos, nI_clamp, nI_leI, nI_ltI, nI_eq, nI_1, if_true, if_false, not_true, not_false, and_self, and_true, true_and, false_and, and_false, or_false, false_or, or_true, true_or, not_false_eq_true, ite_self, ite_true, ite_false, reduceIte, Nat.reduceEqDiff, Nat.reduceMul, Nat.reduceAdd, Nat.reduceLT, Nat.reducePow, ne_eq]
  rcases ix_or x (show nT < 2 ^ 31 by omega) with hv | ⟨i, hi, rfl⟩
  · refine Step.same (r := -1000000000) ?_ ?_ hI'
    · simp (disch := omega) only [f_X11_loses, F_X11_loses_22, findThing_no hth.2.1 (show nT ≤ 1000 by omega) hv, findMaker_ok hma.2.1 (show nM ≤ 1000 by omega) hj, bd_some, n10, n00, bv_eq, within_eq, in_eq, gd_T, gd_t, i00, i10, c_0, c_1, c_m1, ite10, ite01, setV_fn, setV_at, cntS, nI_pos, nI_clamp, nI_leI, nI_ltI, nI_eq, nI_1, if_true, if_false, not_true, not_false, and_self, and_true, true_and, false_and, and_false, or_false, false_or, or_true, true_or, not_false_eq_true, ite_self, ite_true, ite_false, reduceIte, Nat.reduceEqDiff, Nat.reduceMul, Nat.reduceAdd, Nat.reduceLT, Nat.reducePow, ne_eq]
    · simp (disch := omega) only [f_X12_loses, F_X12_loses_16, isThing_no hth.2.2.1 hv, isMaker_ok hma.2.2.1 (show nM ≤ 1000 by omega) hj, bd_some, n10, n00, bv_eq, within_eq, in_eq, gd_T, gd_t, i00, i10, c_0, c_1, c_m1, ite10, ite01, setV_fn, setV_at, cntS, nI_pos, nI_clamp, nI_leI, nI_ltI, nI_eq, nI_1, if_true, if_false, not_true, not_false, and_self, and_true, true_and, false_and, and_false, or_false, false_or, or_true, true_or, not_false_eq_true, ite_self, ite_true, ite_false, reduceIte, Nat.reduceEqDiff, Nat.reduceMul, Nat.reduceAdd, Nat.reduceLT, Nat.reducePow, ne_eq]
  obtain ⟨V1, a1, a2⟩ := paidNow_eq (fu := fu) hfu hA hnow hi
  have hA1 := hA.fr a2 (by decide) (by decide) (by decide) (by decide)
  obtain ⟨V2, b1, b2⟩ := askNow_eq (fu := fu) (L := 100) hfu hA1 (okT_nI hi) (okT_m1 _) (by decide)
  have hA2 := hA1.fr b2 (by decide) (by decide) (by decide) (by decide)
  rw [a2 2101 (by decide), hnow, lastV_ag (av_fr a2 (by decide))] at b1
  have hF2 : Fr scr V V2 := a2.trans b2
  obtain ⟨V3, c1, c2⟩ := paidFor_eq (fu := fu) (V := V2) hfu hA2 (by rw [hF2 2259 (by decide)]; exact hwo) hi
  rw [paidV_ag (av_fr hF2 (by decide)) (hF2 2201 (by decide)) (hF2 2220 (by decide))] at c1
  have hA3 := hA2.fr c2 (by decide) (by decide) (by decide) (by decide)
  have hF3 : Fr [1402, 1403, 1404, 1405, 1406, 1407, 1408, 2270, 2271, 2272, 2273, 2274] V V3 := (hF2.weak (by decide)).trans (c2.weak (by decide))
  obtain ⟨V4, d1, d2⟩ := orNothing_eq (fu := fu) (L := 100) (wk := V3 2201 0 0) (t := V3 2201 0 0) hfu hA3 (okT_nI hi) (okT_m1 _) (by decide)
  rw [hF3 2259 (by decide), hF3 2201 (by decide), hwo, lastV_ag (av_fr hF3 (by decide))] at d1
  have hF4 := hF3.trans (d2.weak (by decide))
  obtain ⟨p, len, wid, q⟩ := hth.2.2.2.2 i hi
  obtain ⟨-, q2, q3, q4, q5, q6, q7, -, -, -, -, -, -, -, -, -, q17, -⟩ := q
  obtain ⟨k1, k2, k3, k4, k5, k6, k7, k8, k9, -⟩ := hma.2.2.2.2.2.1 j hj
  have hr0 : 0 < V 2236 0 j := by grind
  have ct2 : cntV V2 2105 = nT := cnt_n (by decide) (by omega) (by rw [hF2 2105 (by decide)]; exact hth.2.1)
  have cm2 : cntV V2 2106 = nM := cnt_n (by decide) (by omega) (by rw [hF2 2106 (by decide)]; exact hma.2.1)
  have cc2 : cntV V2 2103 = nC := cnt_n (by decide) (by omega) (by rw [hF2 2103 (by decide)]; exact hcl.2.1)
  have hmx := max0 (wo := -1) (wk := V 2201 0 0) (t := V 2201 0 0) (x := nI i) (m := -1) (L := 100) hor
  have key : ∀ cost : Int32, f_X10_stuffCost fu V2 (nI i) = some (cost, V2) → f_X12_loses fu V2 (nI j) (nI i) = F_X12_loses_75 fu V2 (nI j) (nI i) cost → Step k (fun V => f_X11_loses fu V (nI j) (nI i)) (fun V => f_X12_loses fu V (nI j) (nI i)) V := by
    intro cost hs hr
    refine ⟨(cost + (V 2237 0 j + V 2236 0 j - 1) / V 2236 0 j) - (paidV V nO i - paidV V nO i * (if lastV V (-1) (V 2201 0 0) (V 2201 0 0) nO 100 (nI i) (-1) = -1 then 0 else lastV V (-1) (V 2201 0 0) (V 2201 0 0) nO 100 (nI i) (-1)) / 100), V2, V4, ?_, ?_, hI'.scr hF4⟩
    · simp (disch := omega) only [f_X11_loses, findThing_ok hth.2.1 (show nT ≤ 1000 by omega) hi, findMaker_ok hma.2.1 (show nM ≤ 1000 by omega) hj, a1, b1, hs, ct2, cm2, hF2 1605 (by decide), hF2 1604 (by decide), k9, k6, roundedUp_eq hr0, hmx, bd_some, n10, n00, bv_eq, within_eq, in_eq, gd_T, gd_t, i00, i10, c_0, c_1, c_m1, ite10, ite01, setV_fn, setV_at, cntS, nI_pos, nI_clamp, nI_leI, nI_ltI, nI_eq, nI_1, if_true, if_false, not_true, not_false, and_self, and_true, true_and, false_and, and_false, or_false, false_or, or_true, true_or, not_false_eq_true, ite_self, ite_true, ite_false, reduceIte, Nat.reduceEqDiff, Nat.reduceMul, Nat.reduceAdd, Nat.reduceLT, Nat.reducePow, ne_eq]
    · refine hr.trans ?_
      have w1 := hF3 2201 (by decide)
      have w2 := hF4 2237 (by decide)
      have w3 := hF4 2236 (by decide)
      simp (disch := omega) only [F_X12_loses_75, c1, w1, w2, w3, d1, up_eq hr0, bd_some, n10, n00, bv_eq, within_eq, in_eq, gd_T, gd_t, i00, i10, c_0, c_1, c_m1, ite10, ite01, setV_fn, setV_at, cntS, nI_pos, nI_clamp, nI_leI, nI_ltI, nI_eq, nI_1, if_true, if_false, not_true, not_false, and_self, and_true, true_and, false_and, and_false, or_false, false_or, or_true, true_or, not_false_eq_true, ite_self, ite_true, ite_false, reduceIte, Nat.reduceEqDiff, Nat.reduceMul, Nat.reduceAdd, Nat.reduceLT, Nat.reducePow, ne_eq]
  have p1 := isThing_ok (fu := fu) (show V2 2204 0 0 = nI nT by rw [hF2 2204 (by decide)]; exact hth.2.2.1) (show nT ≤ 1000 by omega) hi
  have p2 := isMaker_ok (fu := fu) (show V2 2232 0 0 = nI nM by rw [hF2 2232 (by decide)]; exact hma.2.2.1) (show nM ≤ 1000 by omega) hj
  have w1 := hF2 2216 (by decide); have w2 := hF2 2217 (by decide); have w3 := hF2 2219 (by decide); have w4 := hF2 2207 (by decide)
  have w5 := hF2 2003 (by decide); have w6 := hF2 2001 (by decide); have w7 := hF2 2005 (by decide); have w8 := hF2 1003 (by decide)
  rcases q17 with ⟨z0, -, z1, c, hc, z2⟩ | ⟨z0, -, z1, -⟩
  · have g := (hcl.2.2.2 c hc).2.2
    refine key ((V 2219 0 i * V 2207 0 c + 36 - 1) / 36) ?_ ?_
    · simp (disch := omega) only [f_X10_stuffCost, ct2, cc2, w5, w7, w8, z1, z2, q7, g, roundedUp_eq (show (0 : Int32) < 36 by decide), bd_some, n10, n00, bv_eq, within_eq, in_eq, gd_T, gd_t, i00, i10, c_0, c_1, c_m1, ite10, ite01, setV_fn, setV_at, cntS, nI_pos, nI_clamp, nI_leI, nI_ltI, nI_eq, nI_1, if_true, if_false, not_true, not_false, and_self, and_true, true_and, false_and, and_false, or_false, false_or, or_true, true_or, not_false_eq_true, ite_self, ite_true, ite_false, reduceIte, Nat.reduceEqDiff, Nat.reduceMul, Nat.reduceAdd, Nat.reduceLT, Nat.reducePow, ne_eq]
    · simp (disch := omega) only [f_X12_loses, p1, p2, w1, w2, w3, w4, z0, z2, up_eq (show (0 : Int32) < 36 by decide), bd_some, n10, n00, bv_eq, within_eq, in_eq, gd_T, gd_t, i00, i10, c_0, c_1, c_m1, ite10, ite01, setV_fn, setV_at, cntS, nI_pos, nI_clamp, nI_leI, nI_ltI, nI_eq, nI_1, if_true, if_false, not_true, not_false, and_self, and_true, true_and, false_and, and_false, or_false, false_or, or_true, true_or, not_false_eq_true, ite_self, ite_true, ite_false, reduceIte, Nat.reduceEqDiff, Nat.reduceMul, Nat.reduceAdd, Nat.reduceLT, Nat.reducePow, ne_eq]
  · by_cases z3 : V 2216 0 i = 1
    · refine key (V 2219 0 i) ?_ ?_
      · simp (disch := omega) only [f_X10_stuffCost, F_X10_stuffCost_41, ct2, w5, w6, w7, z1, z3, q2, q7, bd_some, n10, n00, bv_eq, within_eq, in_eq, gd_T, gd_t, i00, i10, c_0, c_1, c_m1, ite10, ite01, setV_fn, setV_at, cntS, nI_pos, nI_clamp, nI_leI, nI_ltI, nI_eq, nI_1, if_true, if_false, not_true, not_false, and_self, and_true, true_and, false_and, and_false, or_false, false_or, or_true, true_or, not_false_eq_true, ite_self, ite_true, ite_false, reduceIte, Nat.reduceEqDiff, Nat.reduceMul, Nat.reduceAdd, Nat.reduceLT, Nat.reducePow, ne_eq]
      · simp (disch := omega) only [f_X12_loses, p1, p2, w1, w3, z3, bd_some, n10, n00, bv_eq, within_eq, in_eq, gd_T, gd_t, i00, i10, c_0, c_1, c_m1, ite10, ite01, setV_fn, setV_at, cntS, nI_pos, nI_clamp, nI_leI, nI_ltI, nI_eq, nI_1, if_true, if_false, not_true, not_false, and_self, and_true, true_and, false_and, and_false, or_false, false_or, or_true, true_or, not_false_eq_true, ite_self, ite_true, ite_false, reduceIte, Nat.reduceEqDiff, Nat.reduceMul, Nat.reduceAdd, Nat.reduceLT, Nat.reducePow, ne_eq]
    · refine key 0 ?_ ?_
      · simp (disch := omega) only [f_X10_stuffCost, F_X10_stuffCost_41, ct2, w5, w6, z1, z3, q2, bd_some, n10, n00, bv_eq, within_eq, in_eq, gd_T, gd_t, i00, i10, c_0, c_1, c_m1, ite10, ite01, setV_fn, setV_at, cntS, nI_pos, nI_clamp, nI_leI, nI_ltI, nI_eq, nI_1, if_true, if_false, not_true, not_false, and_self, and_true, true_and, false_and, and_false, or_false, false_or, or_true, true_or, not_false_eq_true, ite_self, ite_true, ite_false, reduceIte, Nat.reduceEqDiff, Nat.reduceMul, Nat.reduceAdd, Nat.reduceLT, Nat.reducePow, ne_eq]
      · simp (disch := omega) only [f_X12_loses, p1, p2, w1, z0, z3, bd_some, n10, n00, bv_eq, within_eq, in_eq, gd_T, gd_t, i00, i10, c_0, c_1, c_m1, ite10, ite01, setV_fn, setV_at, cntS, nI_pos, nI_clamp, nI_leI, nI_ltI, nI_eq, nI_1, if_true, if_false, not_true, not_false, and_self, and_true, true_and, false_and, and_false, or_false, false_or, or_true, true_or, not_false_eq_true, ite_self, ite_true, ite_false, reduceIte, Nat.reduceEqDiff, Nat.reduceMul, Nat.reduceAdd, Nat.reduceLT, Nat.reducePow, ne_eq]
