/-! piece, price, named, yards (by program: set2.py) -/
theorem ThingV.of {V V' : St} {nC x p : Nat} {len wid : Nat → Nat} (h : ThingV V nC x p len wid) (h1 : ∀ v, v ∈ [2001, 2002, 2003, 2004, 2005, 2006, 2007, 2008, 2009, 2010, 2090] → V' v x = V v x) (h2 : ∀ v, v ∈ [2216, 2217, 2218, 2219, 2220, 2221, 2222, 2223] → V' v 0 x = V v 0 x) (h3 : ∀ v, v ∈ [2224, 2225] → ∀ k, k < 9 → V' v 0 (9 * x + k) = V v 0 (9 * x + k)) : ThingV V' nC x p len wid := by
  have a2001 := h1 2001 (by decide)
  have a2002 := h1 2002 (by decide)
  have a2003 := h1 2003 (by decide)
  have a2004 := h1 2004 (by decide)
  have a2005 := h1 2005 (by decide)
  have a2006 := h1 2006 (by decide)
  have a2007 := h1 2007 (by decide)
  have a2008 := h1 2008 (by decide)
  have a2009 := h1 2009 (by decide)
  have a2010 := h1 2010 (by decide)
  have a2090 := h1 2090 (by decide)
  have a2216 := h2 2216 (by decide)
  have a2217 := h2 2217 (by decide)
  have a2218 := h2 2218 (by decide)
  have a2219 := h2 2219 (by decide)
  have a2220 := h2 2220 (by decide)
  have a2221 := h2 2221 (by decide)
  have a2222 := h2 2222 (by decide)
  have a2223 := h2 2223 (by decide)
  have a2224 := h3 2224 (by decide)
  have a2225 := h3 2225 (by decide)
  unfold ThingV at h ⊢
  have h9 := h.1
  simp only [a2001, a2002, a2003, a2004, a2005, a2006, a2007, a2008, a2009, a2010, a2090, a2216, a2217, a2218, a2219, a2220, a2221, a2222, a2223] 
  obtain ⟨q1, q2, q3, q4, q5, q6, q7, q8, q9, q10, q11, q12, q13, q14, q15, q16, q17, q18⟩ := h
  refine ⟨q1, q2, q3, q4, q5, q6, q7, q8, q9, q10, q11, q12, q13, q14, q15, q16, q17, fun k hk => ?_⟩
  rw [a2224 k (by omega), a2225 k (by omega)]; exact q18 k hk
theorem findCoat_ok {fu : Nat} {V : St} {n i : Nat} (hn : V 2105 0 0 = nI n) (hm : n ≤ 1000) (hi : i < n) (hk : V 2001 i 0 = 0) : f_X11_findCoat fu V (nI i) = some (nI i, V) := by
  have hc : cntV V 2105 = n := cnt_n (by decide) (by omega) hn
  simp (disch := omega) only [f_X11_findCoat, F_X11_findCoat_22, findThing_ok hn hm hi, hc, hk, bd_some, n10, n00, bv_eq, within_eq, in_eq, gd_T, gd_t, i00, i10, c_0, c_1, c_m1, ite10, ite01, setV_fn, setV_at, cntS, nI_pos, nI_clamp, nI_leI, nI_ltI, nI_eq, nI_1, if_true, if_false, not_true, not_false, and_self, and_true, true_and, false_and, and_false, or_false, false_or, or_true, true_or, not_false_eq_true, ite_self, ite_true, ite_false, reduceIte, Nat.reduceEqDiff, Nat.reduceMul, Nat.reduceAdd, Nat.reduceLT, Nat.reducePow, ne_eq]
theorem findCoat_nk {fu : Nat} {V : St} {n i : Nat} (hn : V 2105 0 0 = nI n) (hm : n ≤ 1000) (hi : i < n) (hk : ¬ V 2001 i 0 = 0) : f_X11_findCoat fu V (nI i) = some (-1, V) := by
  have hc : cntV V 2105 = n := cnt_n (by decide) (by omega) hn
  simp (disch := omega) only [f_X11_findCoat, F_X11_findCoat_21, F_X11_findCoat_22, findThing_ok hn hm hi, hc, hk, bd_some, n10, n00, bv_eq, within_eq, in_eq, gd_T, gd_t, i00, i10, c_0, c_1, c_m1, ite10, ite01, setV_fn, setV_at, cntS, nI_pos, nI_clamp, nI_leI, nI_ltI, nI_eq, nI_1, if_true, if_false, not_true, not_false, and_self, and_true, true_and, false_and, and_false, or_false, false_or, or_true, true_or, not_false_eq_true, ite_self, ite_true, ite_false, reduceIte, Nat.reduceEqDiff, Nat.reduceMul, Nat.reduceAdd, Nat.reduceLT, Nat.reducePow, ne_eq]
theorem findCoat_no {fu : Nat} {V : St} {n : Nat} {x : Int32} (hn : V 2105 0 0 = nI n) (hm : n ≤ 1000) (hx : x < 0 ∨ nI n ≤ x) : f_X11_findCoat fu V x = some (-1, V) := by
  simp (disch := omega) only [f_X11_findCoat, F_X11_findCoat_21, F_X11_findCoat_22, findThing_no hn hm hx, bd_some, n10, n00, bv_eq, within_eq, in_eq, gd_T, gd_t, i00, i10, c_0, c_1, c_m1, ite10, ite01, setV_fn, setV_at, cntS, nI_pos, nI_clamp, nI_leI, nI_ltI, nI_eq, nI_1, if_true, if_false, not_true, not_false, and_self, and_true, true_and, false_and, and_false, or_false, false_or, or_true, true_or, not_false_eq_true, ite_self, ite_true, ite_false, reduceIte, Nat.reduceEqDiff, Nat.reduceMul, Nat.reduceAdd, Nat.reduceLT, Nat.reducePow, ne_eq]
theorem P_price {fu k : Nat} {V : St} (hI : Inv k V) (x n : Int32) : Step k (fun V => f_X11_price fu V x n) (fun V => f_X12_price fu V x n) V := by
  have hI' := hI
  obtain ⟨nC, nD, nT, nM, nP, nK, nS, nR, nL, nO, hL, hmi, hta, hcl, hdr, hth, hla, hma, hor, hpe, hdo, hse, hru, hmk⟩ := hI
  obtain ⟨h30, hn1, hn2, hfr, hx⟩ := hth
  have hc : cntV V 2105 = nT := cnt_n (by decide) (by omega) hn1
  rcases ix_or x (show nT < 2 ^ 31 by omega) with hv | ⟨i, hi, rfl⟩
  · refine Step.same (r := 0) ?_ ?_ hI'
    · simp (disch := omega) only [f_X11_price, F_X11_price_21, findThing_no hn1 (by omega) hv, bd_some, n10, n00, bv_eq, within_eq, in_eq, gd_T, gd_t, i00, i10, c_0, c_1, c_m1, ite10, ite01, setV_fn, setV_at, cntS, nI_pos, nI_clamp, nI_leI, nI_ltI, nI_eq, nI_1, if_true, if_false, not_true, not_false, and_self, and_true, true_and, false_and, and_false, or_false, false_or, or_true, true_or, not_false_eq_true, ite_self, ite_true, ite_false, reduceIte, Nat.reduceEqDiff, Nat.reduceMul, Nat.reduceAdd, Nat.reduceLT, Nat.reducePow, ne_eq]
    · simp (disch := omega) only [f_X12_price, F_X12_price_19, isThing_no hn2 hv, bd_some, n10, n00, bv_eq, within_eq, in_eq, gd_T, gd_t, i00, i10, c_0, c_1, c_m1, ite10, ite01, setV_fn, setV_at, cntS, nI_pos, nI_clamp, nI_leI, nI_ltI, nI_eq, nI_1, if_true, if_false, not_true, not_false, and_self, and_true, true_and, false_and, and_false, or_false, false_or, or_true, true_or, not_false_eq_true, ite_self, ite_true, ite_false, reduceIte, Nat.reduceEqDiff, Nat.reduceMul, Nat.reduceAdd, Nat.reduceLT, Nat.reducePow, ne_eq]
  rcases (Decidable.em (1 ≤ n ∧ n ≤ 100000)).symm with h | h
  · refine Step.same (r := 0) ?_ ?_ hI'
    · simp (disch := omega) only [f_X11_price, F_X11_price_21, findThing_ok hn1 (by omega) hi, h, bd_some, n10, n00, bv_eq, within_eq, in_eq, gd_T, gd_t, i00, i10, c_0, c_1, c_m1, ite10, ite01, setV_fn, setV_at, cntS, nI_pos, nI_clamp, nI_leI, nI_ltI, nI_eq, nI_1, if_true, if_false, not_true, not_false, and_self, and_true, true_and, false_and, and_false, or_false, false_or, or_true, true_or, not_false_eq_true, ite_self, ite_true, ite_false, reduceIte, Nat.reduceEqDiff, Nat.reduceMul, Nat.reduceAdd, Nat.reduceLT, Nat.reducePow, ne_eq]
    · simp (disch := omega) only [f_X12_price, F_X12_price_19, isThing_ok hn2 (by omega) hi, h, bd_some, n10, n00, bv_eq, within_eq, in_eq, gd_T, gd_t, i00, i10, c_0, c_1, c_m1, ite10, ite01, setV_fn, setV_at, cntS, nI_pos, nI_clamp, nI_leI, nI_ltI, nI_eq, nI_1, if_true, if_false, not_true, not_false, and_self, and_true, true_and, false_and, and_false, or_false, false_or, or_true, true_or, not_false_eq_true, ite_self, ite_true, ite_false, reduceIte, Nat.reduceEqDiff, Nat.reduceMul, Nat.reduceAdd, Nat.reduceLT, Nat.reducePow, ne_eq]
  refine ⟨1, setV (V) 2010 i 0 n, setV (setV (V) 2010 i 0 n) 2220 0 i n, ?_, ?_, ?_⟩
  · simp (disch := omega) only [f_X11_price, findThing_ok hn1 (by omega) hi, h, hc, bd_some, n10, n00, bv_eq, within_eq, in_eq, gd_T, gd_t, i00, i10, c_0, c_1, c_m1, ite10, ite01, setV_fn, setV_at, cntS, nI_pos, nI_clamp, nI_leI, nI_ltI, nI_eq, nI_1, if_true, if_false, not_true, not_false, and_self, and_true, true_and, false_and, and_false, or_false, false_or, or_true, true_or, not_false_eq_true, ite_self, ite_true, ite_false, reduceIte, Nat.reduceEqDiff, Nat.reduceMul, Nat.reduceAdd, Nat.reduceLT, Nat.reducePow, ne_eq]
  · have hid : ∀ fu W, W 2204 0 0 = nI nT → f_X12_isThing fu W (nI i) = some (1, W) := fun fu W hW => isThing_ok hW (by omega) hi
    show f_X12_price fu _ _ _ = _
    unfold f_X12_price
    rw [hid _ _ (by simp (disch := omega) only [setV_fn]; exact hn2)]
    simp (disch := omega) only [h, bd_some, n10, n00, bv_eq, within_eq, in_eq, gd_T, gd_t, i00, i10, c_0, c_1, c_m1, ite10, ite01, setV_fn, setV_at, cntS, nI_pos, nI_clamp, nI_leI, nI_ltI, nI_eq, nI_1, if_true, if_false, not_true, not_false, and_self, and_true, true_and, false_and, and_false, or_false, false_or, or_true, true_or, not_false_eq_true, ite_self, ite_true, ite_false, reduceIte, Nat.reduceEqDiff, Nat.reduceMul, Nat.reduceAdd, Nat.reduceLT, Nat.reducePow, ne_eq]
  · have hF : Fr [2010, 2220] V (setV (setV (V) 2010 i 0 n) 2220 0 i n) := (((Fr.refl _ V)).set (by decide)).set (by decide)
    refine ⟨nC, nD, nT, nM, nP, nK, nS, nR, nL, nO, by omega, hmi.fr hF rfl, hta.fr hF rfl, hcl.fr hF rfl, hdr.fr hF rfl, ?_, hla.fr hF rfl, hma.fr hF rfl, hor.fr hF rfl, hpe.fr hF rfl, hdo.fr hF rfl, hse.fr hF rfl, hru.fr hF rfl, hmk.fr hF rfl⟩
    refine ⟨h30, by simp (disch := omega) only [setV_fn]; exact hn1, by simp (disch := omega) only [setV_fn]; exact hn2, fun x' hx' => by simp (disch := omega) only [setV_fn]; exact hfr x' hx', fun x' hx' => ?_⟩
    by_cases hne : x' = i
    · subst hne
      obtain ⟨p', len', wid', hT'⟩ := hx x' hx'
      refine ⟨p', len', wid', ?_⟩
      unfold ThingV at hT' ⊢
      simp (disch := omega) only [setV_fn, setV_at, true_and, and_self, if_true]
      obtain ⟨q1, q2, q3, q4, q5, q6, q7, q8, q9⟩ := hT'
      exact ⟨q1, q2, q3, q4, q5, q6, q7, q9⟩
    · obtain ⟨p', len', wid', hT'⟩ := hx x' hx'
      refine ⟨p', len', wid', hT'.of (fun v hv => ?_) (fun v hv => ?_) (fun v hv k hk => ?_)⟩
      · funext q; revert v; simp only [List.mem_cons, List.not_mem_nil, or_false]; rintro v hv; rcases hv with rfl | rfl | rfl | rfl | rfl | rfl | rfl | rfl | rfl | rfl | rfl <;> simp (disch := omega) only [setV_fn, setV_at, hne, false_and, if_false]
      · revert v; simp only [List.mem_cons, List.not_mem_nil, or_false]; rintro v hv; rcases hv with rfl | rfl | rfl | rfl | rfl | rfl | rfl | rfl <;> simp (disch := omega) only [setV_fn, setV_at, hne, and_false, if_false]
      · revert v; simp only [List.mem_cons, List.not_mem_nil, or_false]; rintro v hv; rcases hv with rfl | rfl <;> simp (disch := omega) only [setV_fn, setV_at, and_false, if_false]
theorem P_piece {fu k : Nat} {V : St} (hI : Inv k V) (x xa xb : Int32) : Step k (fun V => f_X11_piece fu V x xa xb) (fun V => f_X12_piece fu V x xa xb) V := by
  have hI' := hI
  obtain ⟨nC, nD, nT, nM, nP, nK, nS, nR, nL, nO, hL, hmi, hta, hcl, hdr, hth, hla, hma, hor, hpe, hdo, hse, hru, hmk⟩ := hI
  obtain ⟨h30, hn1, hn2, hfr, hx⟩ := hth
  have hc : cntV V 2105 = nT := cnt_n (by decide) (by omega) hn1
  rcases ix_or x (show nT < 2 ^ 31 by omega) with hv | ⟨i, hi, rfl⟩
  · refine Step.same (r := -1) ?_ ?_ hI'
    · simp (disch := omega) only [f_X11_piece, F_X11_piece_23, findCoat_no hn1 (by omega) hv, bd_some, n10, n00, bv_eq, within_eq, in_eq, gd_T, gd_t, i00, i10, c_0, c_1, c_m1, ite10, ite01, setV_fn, setV_at, cntS, nI_pos, nI_clamp, nI_leI, nI_ltI, nI_eq, nI_1, if_true, if_false, not_true, not_false, and_self, and_true, true_and, false_and, and_false, or_false, false_or, or_true, true_or, not_false_eq_true, ite_self, ite_true, ite_false, reduceIte, Nat.reduceEqDiff, Nat.reduceMul, Nat.reduceAdd, Nat.reduceLT, Nat.reducePow, ne_eq]
    · simp (disch := omega) only [f_X12_piece, F_X12_piece_48, isThing_no hn2 hv, bd_some, n10, n00, bv_eq, within_eq, in_eq, gd_T, gd_t, i00, i10, c_0, c_1, c_m1, ite10, ite01, setV_fn, setV_at, cntS, nI_pos, nI_clamp, nI_leI, nI_ltI, nI_eq, nI_1, if_true, if_false, not_true, not_false, and_self, and_true, true_and, false_and, and_false, or_false, false_or, or_true, true_or, not_false_eq_true, ite_self, ite_true, ite_false, reduceIte, Nat.reduceEqDiff, Nat.reduceMul, Nat.reduceAdd, Nat.reduceLT, Nat.reducePow, ne_eq]
  obtain ⟨p, len, wid, hT⟩ := hx i hi
  have hT0 := hT
  unfold ThingV at hT
  obtain ⟨q1, q2, q3, q4, q5, q6, q7, q8, q9, q10, q11, q12, q13, q14, q15, q16, q17, q18⟩ := hT
  have hit : ∀ fu, f_X12_isThing fu V (nI i) = some (1, V) := fun fu => isThing_ok hn2 (by omega) hi
  rcases q17.symm with ⟨hk, -, -, -⟩ | ⟨hk, hl, hcl2, c, hcc, hc2⟩
  · refine Step.same (r := -1) ?_ ?_ hI'
    · simp (disch := omega) only [f_X11_piece, F_X11_piece_23, findCoat_nk hn1 (by omega) hi (by rw [q2]; exact hk), bd_some, n10, n00, bv_eq, within_eq, in_eq, gd_T, gd_t, i00, i10, c_0, c_1, c_m1, ite10, ite01, setV_fn, setV_at, cntS, nI_pos, nI_clamp, nI_leI, nI_ltI, nI_eq, nI_1, if_true, if_false, not_true, not_false, and_self, and_true, true_and, false_and, and_false, or_false, false_or, or_true, true_or, not_false_eq_true, ite_self, ite_true, ite_false, reduceIte, Nat.reduceEqDiff, Nat.reduceMul, Nat.reduceAdd, Nat.reduceLT, Nat.reducePow, ne_eq]
    · simp (disch := omega) only [f_X12_piece, F_X12_piece_48, hit, hk, bd_some, n10, n00, bv_eq, within_eq, in_eq, gd_T, gd_t, i00, i10, c_0, c_1, c_m1, ite10, ite01, setV_fn, setV_at, cntS, nI_pos, nI_clamp, nI_leI, nI_ltI, nI_eq, nI_1, if_true, if_false, not_true, not_false, and_self, and_true, true_and, false_and, and_false, or_false, false_or, or_true, true_or, not_false_eq_true, ite_self, ite_true, ite_false, reduceIte, Nat.reduceEqDiff, Nat.reduceMul, Nat.reduceAdd, Nat.reduceLT, Nat.reducePow, ne_eq]
  have hfc : ∀ fu, f_X11_findCoat fu V (nI i) = some (nI i, V) := fun fu => findCoat_ok hn1 (by omega) hi (by rw [q2]; exact hk)
  have hlen : ∀ W : St, W 2090 i 0 = 9 → lenV W 1002090 i = 9 := fun W hW => by show (W 2090 i 0).toNatClampNeg = 9; rw [hW]; rfl
  rcases (Decidable.em (1 ≤ xa ∧ xa ≤ 60)).symm with ha | ha
  · refine Step.same (r := -1) ?_ ?_ hI'
    · simp (disch := omega) only [f_X11_piece, F_X11_piece_23, f_X10_addPiece, F_X10_addPiece_32, hfc, hc, ha, bd_some, n10, n00, bv_eq, within_eq, in_eq, gd_T, gd_t, i00, i10, c_0, c_1, c_m1, ite10, ite01, setV_fn, setV_at, cntS, nI_pos, nI_clamp, nI_leI, nI_ltI, nI_eq, nI_1, if_true, if_false, not_true, not_false, and_self, and_true, true_and, false_and, and_false, or_false, false_or, or_true, true_or, not_false_eq_true, ite_self, ite_true, ite_false, reduceIte, Nat.reduceEqDiff, Nat.reduceMul, Nat.reduceAdd, Nat.reduceLT, Nat.reducePow, ne_eq]
    · simp (disch := omega) only [f_X12_piece, F_X12_piece_48, hit, hk, ha, bd_some, n10, n00, bv_eq, within_eq, in_eq, gd_T, gd_t, i00, i10, c_0, c_1, c_m1, ite10, ite01, setV_fn, setV_at, cntS, nI_pos, nI_clamp, nI_leI, nI_ltI, nI_eq, nI_1, if_true, if_false, not_true, not_false, and_self, and_true, true_and, false_and, and_false, or_false, false_or, or_true, true_or, not_false_eq_true, ite_self, ite_true, ite_false, reduceIte, Nat.reduceEqDiff, Nat.reduceMul, Nat.reduceAdd, Nat.reduceLT, Nat.reducePow, ne_eq]
  rcases (Decidable.em (1 ≤ xb ∧ xb ≤ 60)).symm with hb | hb
  · refine Step.same (r := -1) ?_ ?_ hI'
    · simp (disch := omega) only [f_X11_piece, F_X11_piece_23, f_X10_addPiece, F_X10_addPiece_32, hfc, hc, ha, hb, bd_some, n10, n00, bv_eq, within_eq, in_eq, gd_T, gd_t, i00, i10, c_0, c_1, c_m1, ite10, ite01, setV_fn, setV_at, cntS, nI_pos, nI_clamp, nI_leI, nI_ltI, nI_eq, nI_1, if_true, if_false, not_true, not_false, and_self, and_true, true_and, false_and, and_false, or_false, false_or, or_true, true_or, not_false_eq_true, ite_self, ite_true, ite_false, reduceIte, Nat.reduceEqDiff, Nat.reduceMul, Nat.reduceAdd, Nat.reduceLT, Nat.reducePow, ne_eq]
    · simp (disch := omega) only [f_X12_piece, F_X12_piece_48, hit, hk, ha, hb, bd_some, n10, n00, bv_eq, within_eq, in_eq, gd_T, gd_t, i00, i10, c_0, c_1, c_m1, ite10, ite01, setV_fn, setV_at, cntS, nI_pos, nI_clamp, nI_leI, nI_ltI, nI_eq, nI_1, if_true, if_false, not_true, not_false, and_self, and_true, true_and, false_and, and_false, or_false, false_or, or_true, true_or, not_false_eq_true, ite_self, ite_true, ite_false, reduceIte, Nat.reduceEqDiff, Nat.reduceMul, Nat.reduceAdd, Nat.reduceLT, Nat.reducePow, ne_eq]
  rcases (Decidable.em (p = 9)) with h8 | h8
  · have z1 : ¬ nI p < nI 9 := by rw [h8]; decide
    have z2 : nI p = 9 := by rw [h8]; decide
    refine Step.same (r := -1) ?_ ?_ hI'
    · simp (disch := omega) only [f_X11_piece, F_X11_piece_23, f_X10_addPiece, F_X10_addPiece_32, hfc, hc, ha, hb, hlen V hl, q15, z1, bd_some, n10, n00, bv_eq, within_eq, in_eq, gd_T, gd_t, i00, i10, c_0, c_1, c_m1, ite10, ite01, setV_fn, setV_at, cntS, nI_pos, nI_clamp, nI_leI, nI_ltI, nI_eq, nI_1, if_true, if_false, not_true, not_false, and_self, and_true, true_and, false_and, and_false, or_false, false_or, or_true, true_or, not_false_eq_true, ite_self, ite_true, ite_false, reduceIte, Nat.reduceEqDiff, Nat.reduceMul, Nat.reduceAdd, Nat.reduceLT, Nat.reducePow, ne_eq]
    · simp (disch := omega) only [f_X12_piece, F_X12_piece_48, hit, hk, ha, hb, q16, z2, bd_some, n10, n00, bv_eq, within_eq, in_eq, gd_T, gd_t, i00, i10, c_0, c_1, c_m1, ite10, ite01, setV_fn, setV_at, cntS, nI_pos, nI_clamp, nI_leI, nI_ltI, nI_eq, nI_1, if_true, if_false, not_true, not_false, and_self, and_true, true_and, false_and, and_false, or_false, false_or, or_true, true_or, not_false_eq_true, ite_self, ite_true, ite_false, reduceIte, Nat.reduceEqDiff, Nat.reduceMul, Nat.reduceAdd, Nat.reduceLT, Nat.reducePow, ne_eq]
  have z1 : nI p < nI 9 := nI_lt (by omega) (by decide)
  have z2 : ¬ nI p = 9 := fun q => h8 ((nI_eq (b := 9) (by omega) (by decide)).mp q)
  obtain ⟨a, ha1, ha2, rfl⟩ := in_nI (a := 1) (n := 61) (x := xa) ha (by omega) (by omega)
  obtain ⟨b, hb1, hb2, rfl⟩ := in_nI (a := 1) (n := 61) (x := xb) hb (by omega) (by omega)
  refine ⟨nI p, setV (setV (setV (V) 2007 i p (nI a)) 2008 i p (nI b)) 2009 i 0 (nI (p + 1)), setV (setV (setV (setV (setV (setV (V) 2007 i p (nI a)) 2008 i p (nI b)) 2009 i 0 (nI (p + 1))) 2224 0 (9 * i + p) (nI a)) 2225 0 (9 * i + p) (nI b)) 2223 0 i (nI (p + 1)), ?_, ?_, ?_⟩
  · have hlen2 : lenV (setV V 2007 i p (nI a)) 1002090 i = 9 := hlen _ (by simp (disch := omega) only [setV_fn]; exact hl)
    simp (disch := omega) only [f_X11_piece, F_X11_piece_23, f_X10_addPiece, F_X10_addPiece_32, hfc, hc, ha, hb, hlen V hl, hlen2, q15, z1, nI_pred, bd_some, n10, n00, bv_eq, within_eq, in_eq, gd_T, gd_t, i00, i10, c_0, c_1, c_m1, ite10, ite01, setV_fn, setV_at, cntS, nI_pos, nI_clamp, nI_leI, nI_ltI, nI_eq, nI_1, if_true, if_false, not_true, not_false, and_self, and_true, true_and, false_and, and_false, or_false, false_or, or_true, true_or, not_false_eq_true, ite_self, ite_true, ite_false, reduceIte, Nat.reduceEqDiff, Nat.reduceMul, Nat.reduceAdd, Nat.reduceLT, Nat.reducePow, ne_eq]
  · have hid : ∀ fu W, W 2204 0 0 = nI nT → f_X12_isThing fu W (nI i) = some (1, W) := fun fu W hW => isThing_ok hW (by omega) hi
    show f_X12_piece fu _ _ _ _ = _
    unfold f_X12_piece
    rw [hid _ _ (by simp (disch := omega) only [setV_fn]; exact hn2)]
    simp (disch := omega) only [F_X12_piece_48, hk, q16, ix9, ha, hb, z2, nI_pred, bd_some, n10, n00, bv_eq, within_eq, in_eq, gd_T, gd_t, i00, i10, c_0, c_1, c_m1, ite10, ite01, setV_fn, setV_at, cntS, nI_pos, nI_clamp, nI_leI, nI_ltI, nI_eq, nI_1, if_true, if_false, not_true, not_false, and_self, and_true, true_and, false_and, and_false, or_false, false_or, or_true, true_or, not_false_eq_true, ite_self, ite_true, ite_false, reduceIte, Nat.reduceEqDiff, Nat.reduceMul, Nat.reduceAdd, Nat.reduceLT, Nat.reducePow, ne_eq]
  · have hF : Fr [2007, 2008, 2009, 2224, 2225, 2223] V (setV (setV (setV (setV (setV (setV (V) 2007 i p (nI a)) 2008 i p (nI b)) 2009 i 0 (nI (p + 1))) 2224 0 (9 * i + p) (nI a)) 2225 0 (9 * i + p) (nI b)) 2223 0 i (nI (p + 1))) := (((((((Fr.refl _ V)).set (by decide)).set (by decide)).set (by decide)).set (by decide)).set (by decide)).set (by decide)
    refine ⟨nC, nD, nT, nM, nP, nK, nS, nR, nL, nO, by omega, hmi.fr hF rfl, hta.fr hF rfl, hcl.fr hF rfl, hdr.fr hF rfl, ?_, ?_, hma.fr hF rfl, hor.fr hF rfl, hpe.fr hF rfl, hdo.fr hF rfl, hse.fr hF rfl, hru.fr hF rfl, hmk.fr hF rfl⟩
    · refine ⟨h30, by simp (disch := omega) only [setV_fn]; exact hn1, by simp (disch := omega) only [setV_fn]; exact hn2, fun x' hx' => ?_, fun x' hx' => ?_⟩
      · have hne : ¬ x' = i := by omega
        simp (disch := omega) only [setV_fn, setV_at, hne, and_false, if_false]; exact hfr x' hx'
      by_cases hne : x' = i
      · subst hne
        refine ⟨p + 1, fun k => if k = p then a else len k, fun k => if k = p then b else wid k, ?_⟩
        unfold ThingV
        simp (disch := omega) only [setV_fn, setV_at, true_and, and_self, if_true]
        refine ⟨by omega, q2, q3, q4, q5, q6, q7, q8, q9, q10, q11, q12, q13, q14, .inl ⟨hk, hl, hcl2, c, hcc, hc2⟩, fun k hk => ?_⟩
        by_cases hks : k = p
        · simp only [hks, if_true]; exact ⟨ha1, by omega, hb1, by omega, trivial, trivial, trivial, trivial⟩
        · have hq : ¬ 9 * x' + k = 9 * x' + p := by omega
          simp only [hks, hq, if_false]; exact q18 k (by omega)
      · obtain ⟨p', len', wid', hT'⟩ := hx x' hx'
        refine ⟨p', len', wid', hT'.of (fun v hv => ?_) (fun v hv => ?_) (fun v hv k hk => ?_)⟩
        · funext q; revert v; simp only [List.mem_cons, List.not_mem_nil, or_false]; rintro v hv; rcases hv with rfl | rfl | rfl | rfl | rfl | rfl | rfl | rfl | rfl | rfl | rfl <;> simp (disch := omega) only [setV_fn, setV_at, hne, false_and, if_false]
        · revert v; simp only [List.mem_cons, List.not_mem_nil, or_false]; rintro v hv; rcases hv with rfl | rfl | rfl | rfl | rfl | rfl | rfl | rfl <;> simp (disch := omega) only [setV_fn, setV_at, hne, and_false, if_false]
        · have hq : ¬ 9 * x' + k = 9 * i + p := by omega
          revert v; simp only [List.mem_cons, List.not_mem_nil, or_false]; rintro v hv; rcases hv with rfl | rfl <;> simp (disch := omega) only [setV_fn, setV_at, hq, and_false, if_false]
    · unfold I_lay at hla ⊢
      simp (disch := omega) only [setV_fn, setV_at]
      rcases hla with hla | ⟨x', w, p', q', len', wid', c1, c2, c3, c4, c5, c6, c7, c8, c9, c10, c11⟩
      · exact .inl hla
      · by_cases hne : x' = i
        · have hpq : p = q' := by
            rw [hne, q15] at c9; exact (nI_eq (by omega) (by omega)).mp c9
          refine .inr ⟨x', w, p', p + 1, len', wid', c1, by omega, by omega, c4, c5, c6, c7, c8, by simp only [hne, and_self, if_true], fun k hk => ?_, c11⟩
          have hkp : ¬ k = p := by omega
          simp only [hkp, and_false, if_false]; exact c10 k hk
        · refine .inr ⟨x', w, p', q', len', wid', c1, c2, c3, c4, c5, c6, c7, c8, by simp only [hne, false_and, if_false]; exact c9, fun k hk => ?_, c11⟩
          simp only [hne, false_and, if_false]; exact c10 k hk
