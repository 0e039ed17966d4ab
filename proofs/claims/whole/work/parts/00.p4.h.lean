/-! dockets -/
theorem ahead_eq {fu n t i k : Nat} {V : St} (hD : I_dock V t n) (hi : i < n) (hk : k < n) : ∃ b : Int32, (b = 0 ∨ b = 1) ∧ f_X1_goesBefore fu V (nI i) (nI k) (if k ≤ i then 0 else 1) = some (b, V) ∧ f_X12_isAhead fu V (nI i) (nI k) = some (b, V) := by
  obtain ⟨h60, hn1, hn2, hx⟩ := hD
  have hc : cntV V 2109 = n := cnt_n (by decide) (by omega) hn1
  obtain ⟨a1, a2, -, a3, a4, a5, -⟩ := hx i (by omega)
  obtain ⟨b1, b2, -, b3, b4, b5, -⟩ := hx k hk
  clear hx
  simp (disch := omega) only [f_X1_goesBefore, F_X1_goesBefore_59, F_X1_goesBefore_27, f_X12_isAhead, F_X12_isAhead_82, F_X12_isAhead_71, F_X12_isAhead_35, hc, a2, a3, a4, b2, b3, b4, bd_some, n10, n00, bv_eq, within_eq, in_eq, gd_T, gd_t, i00, i10, c_0, c_1, c_m1, ite10, ite01, setV_fn, setV_at, cntS, nI_pos, nI_clamp, nI_leI, nI_ltI, nI_eq, nI_1, if_true, if_false, not_true, not_false, and_self, and_true, true_and, false_and, and_false, or_false, false_or, or_true, true_or, not_false_eq_true, ite_self, ite_true, ite_false, reduceIte, Nat.reduceEqDiff, Nat.reduceMul, Nat.reduceAdd, Nat.reduceLT, Nat.reducePow, ne_eq]
  generalize V 2284 0 i = w1
  generalize V 2284 0 k = w2
  generalize V 2283 0 i = d1
  generalize V 2283 0 k = d2
  by_cases c4 : w1 = w2
  · by_cases c5 : d1 = d2
    · by_cases c8 : k ≤ i
      · exact ⟨0, .inl rfl, by simp [c4, c5, c8, gd], by simp [c4, c5, c8, gd]⟩
      · exact ⟨1, .inr rfl, by simp [c4, c5, c8, gd], by simp [c4, c5, c8, gd]⟩
    · by_cases c6 : d2 ≤ d1
      · exact ⟨0, .inl rfl, by simp [c4, c5, c6, gd], by simp [c4, c5, c6, gd]⟩
      · exact ⟨1, .inr rfl, by simp [c4, c5, c6, gd], by simp [c4, c5, c6, gd]⟩
  · by_cases c7 : w1 ≤ w2
    · exact ⟨0, .inl rfl, by simp [c4, c7, gd], by simp [c4, c7, gd]⟩
    · exact ⟨1, .inr rfl, by simp [c4, c7, gd], by simp [c4, c7, gd]⟩
theorem lp_hmb {fu n t k : Nat} {V : St} (hD : I_dock V t n) (hk : k < n) : ∀ (N i c : Nat), i ≤ n → n < i + N → c ≤ i → ∃ r, r ≤ n ∧ Lp_X11_howManyBefore_17 (F_X11_howManyBefore_98 fu) fu N V (nI k) (nI k) (nI c) (nI i) = some (nI r, V) ∧ Lp_X12_aheadOf_4 (F_X12_aheadOf_64 fu) fu N V (nI k) (nI c) (nI i) = some (nI r, V) := by
  obtain ⟨h60, hn1, hn2, hx⟩ := hD
  have hc : cntV V 2109 = n := cnt_n (by decide) (by omega) hn1
  intro N
  induction N with
  | zero => intro i c h0 h; omega
  | succ N ih =>
    intro i c h0 h hci
    by_cases hi : n ≤ i
    · refine ⟨c, by omega, ?_, ?_⟩
      · simp (disch := omega) only [Lp_X11_howManyBefore_17, F_X11_howManyBefore_17, F_X11_howManyBefore_98, hn1, hi, bd_some, n10, n00, bv_eq, within_eq, in_eq, gd_T, gd_t, i00, i10, c_0, c_1, c_m1, ite10, ite01, setV_fn, setV_at, cntS, nI_pos, nI_clamp, nI_leI, nI_ltI, nI_eq, nI_1, if_true, if_false, not_true, not_false, and_self, and_true, true_and, false_and, and_false, or_false, false_or, or_true, true_or, not_false_eq_true, ite_self, ite_true, ite_false, reduceIte, Nat.reduceEqDiff, Nat.reduceMul, Nat.reduceAdd, Nat.reduceLT, Nat.reducePow, ne_eq]
      · simp (disch := omega) only [Lp_X12_aheadOf_4, F_X12_aheadOf_4, F_X12_aheadOf_64, hn2, hi, bd_some, n10, n00, bv_eq, within_eq, in_eq, gd_T, gd_t, i00, i10, c_0, c_1, c_m1, ite10, ite01, setV_fn, setV_at, cntS, nI_pos, nI_clamp, nI_leI, nI_ltI, nI_eq, nI_1, if_true, if_false, not_true, not_false, and_self, and_true, true_and, false_and, and_false, or_false, false_or, or_true, true_or, not_false_eq_true, ite_self, ite_true, ite_false, reduceIte, Nat.reduceEqDiff, Nat.reduceMul, Nat.reduceAdd, Nat.reduceLT, Nat.reducePow, ne_eq]
    · obtain ⟨a1, a2, -, a3, a4, a5, -⟩ := hx i (by omega)
      obtain ⟨b1, b2, -, b3, b4, b5, -⟩ := hx k hk
      obtain ⟨r0, r1, r2, r3⟩ := ih (i + 1) c (by omega) (by omega) (by omega)
      obtain ⟨s0, s1, s2, s3⟩ := ih (i + 1) (c + 1) (by omega) (by omega) (by omega)
      obtain ⟨b, hb, g1, g2⟩ := ahead_eq (fu := fu) ⟨h60, hn1, hn2, hx⟩ (show i < n by omega) hk
      have zz : ∀ q : Int32, q + 0 = q := fun q => by grind
      have U : Lp_X11_howManyBefore_17 (F_X11_howManyBefore_98 fu) fu (N + 1) V (nI k) (nI k) (nI c) (nI i) = if i = k then some (nI r0, V) else if V 2285 0 i = 0 then some (nI r0, V) else if V 2282 0 i = V 2282 0 k then (if b = 0 then some (nI r0, V) else some (nI s0, V)) else some (nI r0, V) := by
        simp (disch := omega) only [Lp_X11_howManyBefore_17, F_X11_howManyBefore_17, F_X11_howManyBefore_83, F_X11_howManyBefore_92, hn1, hc, hi, a2, a5, b2, r2, s2, bd_some, n10, n00, bv_eq, within_eq, in_eq, gd_T, gd_t, i00, i10, c_0, c_1, c_m1, ite10, ite01, setV_fn, setV_at, cntS, nI_pos, nI_clamp, nI_leI, nI_ltI, nI_eq, nI_1, if_true, if_false, not_true, not_false, and_self, and_true, true_and, false_and, and_false, or_false, false_or, or_true, true_or, not_false_eq_true, ite_self, ite_true, ite_false, reduceIte, Nat.reduceEqDiff, Nat.reduceMul, Nat.reduceAdd, Nat.reduceLT, Nat.reducePow, ne_eq]
        by_cases c8 : k ≤ i
        · rw [if_pos c8] at g1; simp only [c8, g1, r2, s2, bd_some, n10, n00, bv_eq, within_eq, in_eq, gd_T, gd_t, i00, i10, c_0, c_1, c_m1, ite10, ite01, setV_fn, setV_at, cntS, nI_pos, nI_clamp, nI_leI, nI_ltI, nI_eq, nI_1, if_true, if_false, not_true, not_false, and_self, and_true, true_and, false_and, and_false, or_false, false_or, or_true, true_or, not_false_eq_true, ite_self, ite_true, ite_false, reduceIte, Nat.reduceEqDiff, Nat.reduceMul, Nat.reduceAdd, Nat.reduceLT, Nat.reducePow, ne_eq]
        · rw [if_neg c8] at g1; simp only [c8, g1, r2, s2, bd_some, n10, n00, bv_eq, within_eq, in_eq, gd_T, gd_t, i00, i10, c_0, c_1, c_m1, ite10, ite01, setV_fn, setV_at, cntS, nI_pos, nI_clamp, nI_leI, nI_ltI, nI_eq, nI_1, if_true, if_false, not_true, not_false, and_self, and_true, true_and, false_and, and_false, or_false, false_or, or_true, true_or, not_false_eq_true, ite_self, ite_true, ite_false, reduceIte, Nat.reduceEqDiff, Nat.reduceMul, Nat.reduceAdd, Nat.reduceLT, Nat.reducePow, ne_eq]
      have W : Lp_X12_aheadOf_4 (F_X12_aheadOf_64 fu) fu (N + 1) V (nI k) (nI c) (nI i) = if i = k then some (nI r0, V) else if V 2285 0 i = 0 then some (nI r0, V) else if V 2282 0 i = V 2282 0 k then (if b = 0 then some (nI r0, V) else some (nI s0, V)) else some (nI r0, V) := by
        simp (disch := omega) only [Lp_X12_aheadOf_4, F_X12_aheadOf_4, F_X12_aheadOf_55, F_X12_aheadOf_56, hn2, hi, zz, g2, r3, s3, bd_some, n10, n00, bv_eq, within_eq, in_eq, gd_T, gd_t, i00, i10, c_0, c_1, c_m1, ite10, ite01, setV_fn, setV_at, cntS, nI_pos, nI_clamp, nI_leI, nI_ltI, nI_eq, nI_1, if_true, if_false, not_true, not_false, and_self, and_true, true_and, false_and, and_false, or_false, false_or, or_true, true_or, not_false_eq_true, ite_self, ite_true, ite_false, reduceIte, Nat.reduceEqDiff, Nat.reduceMul, Nat.reduceAdd, Nat.reduceLT, Nat.reducePow, ne_eq]
      rw [U, W]
      clear U W ih hx
      split
      · exact ⟨r0, r1, rfl, rfl⟩
      · split
        · exact ⟨r0, r1, rfl, rfl⟩
        · split
          · split
            · exact ⟨r0, r1, rfl, rfl⟩
            · exact ⟨s0, s1, rfl, rfl⟩
          · exact ⟨r0, r1, rfl, rfl⟩
theorem hmb_eq {fu n t k : Nat} {V : St} (hfu : 1000 ≤ fu) (hD : I_dock V t n) (hk : k < n) : ∃ r, r ≤ n ∧ f_X11_howManyBefore fu V (nI k) = some (nI r, V) ∧ f_X12_aheadOf fu V (nI k) = some (nI r, V) := by
  have h60 := hD.1
  have hc : cntV V 2109 = n := cnt_n (by decide) (by omega) hD.2.1
  obtain ⟨r, h0, h1, h2⟩ := lp_hmb (fu := fu) hD hk fu 0 0 (by omega) (by omega) (by omega)
  refine ⟨r, h0, ?_, ?_⟩
  · simp (disch := omega) only [f_X11_howManyBefore, hc, bd_some, n10, n00, bv_eq, within_eq, in_eq, gd_T, gd_t, i00, i10, c_0, c_1, c_m1, ite10, ite01, setV_fn, setV_at, cntS, nI_pos, nI_clamp, nI_leI, nI_ltI, nI_eq, nI_1, if_true, if_false, not_true, not_false, and_self, and_true, true_and, false_and, and_false, or_false, false_or, or_true, true_or, not_false_eq_true, ite_self, ite_true, ite_false, reduceIte, Nat.reduceEqDiff, Nat.reduceMul, Nat.reduceAdd, Nat.reduceLT, Nat.reducePow, ne_eq]; exact h1
  · exact h2
theorem lp_first {fu n t x : Nat} {V : St} (hfu : 1000 ≤ fu) (hD : I_dock V t n) (j : Int32) : ∀ (N i : Nat), i ≤ n → n < i + N → ∃ r, Lp_X11_first_2 (F_X11_first_52 fu) (F_X11_first_60 fu) fu N V (nI x) j (nI i) = some (r, V) ∧ Lp_X12_first_16 (F_X12_first_52 fu) (F_X12_first_60 fu) fu N V (nI x) j (nI i) = some (r, V) ∧ (j < 0 → r = -1) := by
  have hD' := hD
  obtain ⟨h60, hn1, hn2, hx⟩ := hD
  have hc : cntV V 2109 = n := cnt_n (by decide) (by omega) hn1
  intro N
  induction N with
  | zero => intro i h0 h; omega
  | succ N ih =>
    intro i h0 h
    by_cases hi : n ≤ i
    · refine ⟨-1, ?_, ?_, fun _ => rfl⟩
      · simp (disch := omega) only [Lp_X11_first_2, F_X11_first_2, F_X11_first_60, hn1, hi, bd_some, n10, n00, bv_eq, within_eq, in_eq, gd_T, gd_t, i00, i10, c_0, c_1, c_m1, ite10, ite01, setV_fn, setV_at, cntS, nI_pos, nI_clamp, nI_leI, nI_ltI, nI_eq, nI_1, if_true, if_false, not_true, not_false, and_self, and_true, true_and, false_and, and_false, or_false, false_or, or_true, true_or, not_false_eq_true, ite_self, ite_true, ite_false, reduceIte, Nat.reduceEqDiff, Nat.reduceMul, Nat.reduceAdd, Nat.reduceLT, Nat.reducePow, ne_eq]
      · simp (disch := omega) only [Lp_X12_first_16, F_X12_first_16, F_X12_first_60, hn2, hi, bd_some, n10, n00, bv_eq, within_eq, in_eq, gd_T, gd_t, i00, i10, c_0, c_1, c_m1, ite10, ite01, setV_fn, setV_at, cntS, nI_pos, nI_clamp, nI_leI, nI_ltI, nI_eq, nI_1, if_true, if_false, not_true, not_false, and_self, and_true, true_and, false_and, and_false, or_false, false_or, or_true, true_or, not_false_eq_true, ite_self, ite_true, ite_false, reduceIte, Nat.reduceEqDiff, Nat.reduceMul, Nat.reduceAdd, Nat.reduceLT, Nat.reducePow, ne_eq]
    · obtain ⟨a1, a2, -, a3, a4, a5, -⟩ := hx i (by omega)
      obtain ⟨r0, r2, r3, r4⟩ := ih (i + 1) (by omega) (by omega)
      obtain ⟨c, g0, g1, g2⟩ := hmb_eq hfu hD' (show i < n by omega)
      simp (disch := omega) only [Lp_X11_first_2, F_X11_first_2, F_X11_first_54, F_X11_first_52, Lp_X12_first_16, F_X12_first_16, F_X12_first_54, F_X12_first_52, hn1, hn2, hc, hi, a2, a5, r2, r3, g1, g2, bd_some, n10, n00, bv_eq, within_eq, in_eq, gd_T, gd_t, i00, i10, c_0, c_1, c_m1, ite10, ite01, setV_fn, setV_at, cntS, nI_pos, nI_clamp, nI_leI, nI_ltI, nI_eq, nI_1, if_true, if_false, not_true, not_false, and_self, and_true, true_and, false_and, and_false, or_false, false_or, or_true, true_or, not_false_eq_true, ite_self, ite_true, ite_false, reduceIte, Nat.reduceEqDiff, Nat.reduceMul, Nat.reduceAdd, Nat.reduceLT, Nat.reducePow, ne_eq]
      have gp := nI_pos (n := c) (by omega)
      clear ih hx
      by_cases c1 : V 2285 0 i = 0
      · exact ⟨r0, by simp [c1], by simp [c1], r4⟩
      · by_cases c2 : V 2282 0 i = nI x
        · by_cases c3 : nI c = j
          · exact ⟨nI i, by simp [c1, c2, c3], by simp [c1, c2, c3], fun q => absurd (c3 ▸ q) gp⟩
          · exact ⟨r0, by simp [c1, c2, c3], by simp [c1, c2, c3], r4⟩
        · exact ⟨r0, by simp [c1, c2], by simp [c1, c2], r4⟩
theorem lp_firstNo {fu n t : Nat} {V : St} {x : Int32} (hD : I_dock V t n) (j : Int32) (hno : ∀ i, i < n → ¬ V 2282 0 i = x) : ∀ (N i : Nat), i ≤ n → n < i + N → Lp_X11_first_2 (F_X11_first_52 fu) (F_X11_first_60 fu) fu N V x j (nI i) = some (-1, V) := by
  obtain ⟨h60, hn1, hn2, hx⟩ := hD
  have hc : cntV V 2109 = n := cnt_n (by decide) (by omega) hn1
  intro N
  induction N with
  | zero => intro i h0 h; omega
  | succ N ih =>
    intro i h0 h
    by_cases hi : n ≤ i
    · simp (disch := omega) only [Lp_X11_first_2, F_X11_first_2, F_X11_first_60, hn1, hi, bd_some, n10, n00, bv_eq, within_eq, in_eq, gd_T, gd_t, i00, i10, c_0, c_1, c_m1, ite10, ite01, setV_fn, setV_at, cntS, nI_pos, nI_clamp, nI_leI, nI_ltI, nI_eq, nI_1, if_true, if_false, not_true, not_false, and_self, and_true, true_and, false_and, and_false, or_false, false_or, or_true, true_or, not_false_eq_true, ite_self, ite_true, ite_false, reduceIte, Nat.reduceEqDiff, Nat.reduceMul, Nat.reduceAdd, Nat.reduceLT, Nat.reducePow, ne_eq]
    · obtain ⟨a1, a2, -, a3, a4, a5, -⟩ := hx i (by omega)
      have := hno i (by omega)
      have r2 := ih (i + 1) (by omega) (by omega)
      simp (disch := omega) only [Lp_X11_first_2, F_X11_first_2, F_X11_first_54, F_X11_first_52, hn1, hc, hi, a2, a5, r2, this, bd_some, n10, n00, bv_eq, within_eq, in_eq, gd_T, gd_t, i00, i10, c_0, c_1, c_m1, ite10, ite01, setV_fn, setV_at, cntS, nI_pos, nI_clamp, nI_leI, nI_ltI, nI_eq, nI_1, if_true, if_false, not_true, not_false, and_self, and_true, true_and, false_and, and_false, or_false, false_or, or_true, true_or, not_false_eq_true, ite_self, ite_true, ite_false, reduceIte, Nat.reduceEqDiff, Nat.reduceMul, Nat.reduceAdd, Nat.reduceLT, Nat.reducePow, ne_eq]
theorem P_first {fu k : Nat} {V : St} (hfu : 1000 ≤ fu) (hI : Inv k V) (x j : Int32) : Step k (fun V => f_X11_first fu V x j) (fun V => f_X12_first fu V x j) V := by
  have hI' := hI
  obtain ⟨nC, nD, nT, nM, nP, nK, nS, nR, nL, nO, hL, hmi, hta, hcl, hdr, hth, hla, hma, hor, hpe, hdo, hse, hru, hmk⟩ := hI
  have h30 := hth.1
  have h60 := hdo.1
  rcases ix_or x (show nT < 2 ^ 31 by omega) with hv | ⟨i, hi, rfl⟩
  · refine Step.same (r := -1) ?_ ?_ hI'
    · refine lp_firstNo hdo j (fun i hi q => ?_) fu 0 (by omega) (by omega)
      obtain ⟨-, -, ⟨x', hx', e⟩, -⟩ := hdo.2.2.2 i hi
      rw [← q, e] at hv
      rcases hv with hv | hv
      · exact nI_pos (by omega) hv
      · exact nI_ge hx' (by omega) hv
    · simp only [f_X12_first, F_X12_first_12, isThing_no hth.2.2.1 hv, bd_some, n10, n00, bv_eq, within_eq, in_eq, gd_T, gd_t, i00, i10, c_0, c_1, c_m1, ite10, ite01, setV_fn, setV_at, cntS, nI_pos, nI_clamp, nI_leI, nI_ltI, nI_eq, nI_1, if_true, if_false, not_true, not_false, and_self, and_true, true_and, false_and, and_false, or_false, false_or, or_true, true_or, not_false_eq_true, ite_self, ite_true, ite_false, reduceIte, Nat.reduceEqDiff, Nat.reduceMul, Nat.reduceAdd, Nat.reduceLT, Nat.reducePow, ne_eq]
  · obtain ⟨r, h1, h2, h3⟩ := lp_first (fu := fu) (x := i) hfu hdo j fu 0 (by omega) (by omega)
    refine Step.same (r := r) h1 ?_ hI'
    simp (disch := omega) only [f_X12_first, F_X12_first_12, isThing_ok hth.2.2.1 (by omega) hi, bd_some, n10, n00, bv_eq, within_eq, in_eq, gd_T, gd_t, i00, i10, c_0, c_1, c_m1, ite10, ite01, setV_fn, setV_at, cntS, nI_pos, nI_clamp, nI_leI, nI_ltI, nI_eq, nI_1, if_true, if_false, not_true, not_false, and_self, and_true, true_and, false_and, and_false, or_false, false_or, or_true, true_or, not_false_eq_true, ite_self, ite_true, ite_false, reduceIte, Nat.reduceEqDiff, Nat.reduceMul, Nat.reduceAdd, Nat.reduceLT, Nat.reducePow, ne_eq]
    by_cases hj : 0 ≤ j
    · simp only [hj, if_true]; exact h2
    · simp only [hj, if_false]; rw [h3 (by grind)]
theorem P_waits {fu k : Nat} {V : St} (hfu : 1000 ≤ fu) (hI : Inv k V) (x n : Int32) : Step k (fun V => f_X11_waits fu V x n) (fun V => f_X12_waits fu V x n) V := by
  have hI' := hI
  obtain ⟨nC, nD, nT, nM, nP, nK, nS, nR, nL, nO, hL, hmi, hta, hcl, hdr, hth, hla, hma, hor, hpe, hdo, hse, hru, hmk⟩ := hI
  have h60 := hdo.1
  have hn1 := hdo.2.1
  have hn2 := hdo.2.2.1
  have hc : cntV V 2109 = nK := cnt_n (by decide) (by omega) hn1
  rcases ix_or x (show nK < 2 ^ 31 by omega) with hv | ⟨i, hi, rfl⟩
  · refine Step.same (r := -1) ?_ ?_ hI'
    · have := no_nI hv (by omega)
      simp (disch := omega) only [f_X11_waits, F_X11_waits_27, hn1, this, bd_some, n10, n00, bv_eq, within_eq, in_eq, gd_T, gd_t, i00, i10, c_0, c_1, c_m1, ite10, ite01, setV_fn, setV_at, cntS, nI_pos, nI_clamp, nI_leI, nI_ltI, nI_eq, nI_1, if_true, if_false, not_true, not_false, and_self, and_true, true_and, false_and, and_false, or_false, false_or, or_true, true_or, not_false_eq_true, ite_self, ite_true, ite_false, reduceIte, Nat.reduceEqDiff, Nat.reduceMul, Nat.reduceAdd, Nat.reduceLT, Nat.reducePow, ne_eq]
    · simp (disch := omega) only [f_X12_waits, F_X12_waits_41, F_X12_waits_42, hn2, bd_some, n10, n00, bv_eq, within_eq, in_eq, gd_T, gd_t, i00, i10, c_0, c_1, c_m1, ite10, ite01, setV_fn, setV_at, cntS, nI_pos, nI_clamp, nI_leI, nI_ltI, nI_eq, nI_1, if_true, if_false, not_true, not_false, and_self, and_true, true_and, false_and, and_false, or_false, false_or, or_true, true_or, not_false_eq_true, ite_self, ite_true, ite_false, reduceIte, Nat.reduceEqDiff, Nat.reduceMul, Nat.reduceAdd, Nat.reduceLT, Nat.reducePow, ne_eq]
      by_cases h0 : x < 0
      · simp only [h0, if_true]
      · have := hv.resolve_left h0
        simp only [h0, this, if_true, if_false]
  · have hl := lt_nI (x := 0) hi (by omega)
    obtain ⟨a1, a2, -, a3, a4, a5, -⟩ := hdo.2.2.2 i hi
    obtain ⟨c, g0, g1, g2⟩ := hmb_eq hfu hdo hi
    by_cases ho : V 2285 0 i = 0
    · refine Step.same (r := -1) ?_ ?_ hI'
      · simp (disch := omega) only [f_X11_waits, F_X11_waits_27, F_X11_waits_57, hn1, hc, hl, a5, ho, bd_some, n10, n00, bv_eq, within_eq, in_eq, gd_T, gd_t, i00, i10, c_0, c_1, c_m1, ite10, ite01, setV_fn, setV_at, cntS, nI_pos, nI_clamp, nI_leI, nI_ltI, nI_eq, nI_1, if_true, if_false, not_true, not_false, and_self, and_true, true_and, false_and, and_false, or_false, false_or, or_true, true_or, not_false_eq_true, ite_self, ite_true, ite_false, reduceIte, Nat.reduceEqDiff, Nat.reduceMul, Nat.reduceAdd, Nat.reduceLT, Nat.reducePow, ne_eq]
      · simp (disch := omega) only [f_X12_waits, F_X12_waits_41, F_X12_waits_42, hn2, hi, ho, bd_some, n10, n00, bv_eq, within_eq, in_eq, gd_T, gd_t, i00, i10, c_0, c_1, c_m1, ite10, ite01, setV_fn, setV_at, cntS, nI_pos, nI_clamp, nI_leI, nI_ltI, nI_eq, nI_1, if_true, if_false, not_true, not_false, and_self, and_true, true_and, false_and, and_false, or_false, false_or, or_true, true_or, not_false_eq_true, ite_self, ite_true, ite_false, reduceIte, Nat.reduceEqDiff, Nat.reduceMul, Nat.reduceAdd, Nat.reduceLT, Nat.reducePow, ne_eq]
    · by_cases h : 1 ≤ n ∧ n ≤ 100
      · have hz : ¬ n = 0 := by grind
        refine Step.same (r := nI c / n) ?_ ?_ hI'
        · simp (disch := omega) only [f_X11_waits, F_X11_waits_27, F_X11_waits_57, hn1, hc, hl, a5, ho, h, g1, hz, bd_some, n10, n00, bv_eq, within_eq, in_eq, gd_T, gd_t, i00, i10, c_0, c_1, c_m1, ite10, ite01, setV_fn, setV_at, cntS, nI_pos, nI_clamp, nI_leI, nI_ltI, nI_eq, nI_1, if_true, if_false, not_true, not_false, and_self, and_true, true_and, false_and, and_false, or_false, false_or, or_true, true_or, not_false_eq_true, ite_self, ite_true, ite_false, reduceIte, Nat.reduceEqDiff, Nat.reduceMul, Nat.reduceAdd, Nat.reduceLT, Nat.reducePow, ne_eq]
        · have hq : ¬ nK ≤ i := by omega
          simp (disch := omega) only [f_X12_waits, F_X12_waits_41, F_X12_waits_42, hn2, hq, ho, h, g2, hz, bd_some, n10, n00, bv_eq, within_eq, in_eq, gd_T, gd_t, i00, i10, c_0, c_1, c_m1, ite10, ite01, setV_fn, setV_at, cntS, nI_pos, nI_clamp, nI_leI, nI_ltI, nI_eq, nI_1, if_true, if_false, not_true, not_false, and_self, and_true, true_and, false_and, and_false, or_false, false_or, or_true, true_or, not_false_eq_true, ite_self, ite_true, ite_false, reduceIte, Nat.reduceEqDiff, Nat.reduceMul, Nat.reduceAdd, Nat.reduceLT, Nat.reducePow, ne_eq]
      · refine Step.same (r := -1) ?_ ?_ hI'
        · simp (disch := omega) only [f_X11_waits, F_X11_waits_27, F_X11_waits_57, hn1, hc, hl, h, bd_some, n10, n00, bv_eq, within_eq, in_eq, gd_T, gd_t, i00, i10, c_0, c_1, c_m1, ite10, ite01, setV_fn, setV_at, cntS, nI_pos, nI_clamp, nI_leI, nI_ltI, nI_eq, nI_1, if_true, if_false, not_true, not_false, and_self, and_true, true_and, false_and, and_false, or_false, false_or, or_true, true_or, not_false_eq_true, ite_self, ite_true, ite_false, reduceIte, Nat.reduceEqDiff, Nat.reduceMul, Nat.reduceAdd, Nat.reduceLT, Nat.reducePow, ne_eq]
        · have hq : ¬ nK ≤ i := by omega
          simp (disch := omega) only [f_X12_waits, F_X12_waits_41, F_X12_waits_42, hn2, hq, ho, h, bd_some, n10, n00, bv_eq, within_eq, in_eq, gd_T, gd_t, i00, i10, c_0, c_1, c_m1, ite10, ite01, setV_fn, setV_at, cntS, nI_pos, nI_clamp, nI_leI, nI_ltI, nI_eq, nI_1, if_true, if_false, not_true, not_false, and_self, and_true, true_and, false_and, and_false, or_false, false_or, or_true, true_or, not_false_eq_true, ite_self, ite_true, ite_false, reduceIte, Nat.reduceEqDiff, Nat.reduceMul, Nat.reduceAdd, Nat.reduceLT, Nat.reducePow, ne_eq]
