/-! makes, the reference's side -/
def cws : List Nat := [1606, 1608, 2006, 2112, 1361, 1362, 1363, 1364, 1402, 1403, 1404, 1405, 1406, 1407, 1408]
theorem refMakes {fu nC nT nM nO m x c : Nat} {V U : St} {n b s0 : Int32} {kd : Bool} (hfu : 1000 ≤ fu) (hA : Ask V nC nT nM nO) (hwo : V 2259 0 0 = -1) (hF : Fr cws V U) (hs : s0 + n ≤ 1000000) (hm : m < nM) (hx : x < nT) (hb : b = 0 ∨ b = 1) (hkd : kd = true → V 2216 0 x = 0 ∧ c < nC ∧ V 2217 0 x = nI c) (hkd2 : kd = false → ¬ V 2216 0 x = 0) : ∃ U1, Fr rsc U U1 ∧ F_X12_makes_47 fu U (nI m) (nI x) n b s0 = if mkRef V nO m x n b kd c = 0 then (if kd = true then F_X12_makes_245 fu (setV U1 2238 0 (20 * m + c) (V 2238 0 (20 * m + c) - (V 2219 0 x * n + 36 - 1) / 36)) (nI m) (nI x) n b else F_X12_makes_245 fu U1 (nI m) (nI x) n b) else some (mkRef V nO m x n b kd c, U1) := by
  have h30 := hA.2.1.1
  have h12 := hA.2.2.1.1
  have h20 := hA.1.1
  have hnw := hF 2201 (by decide)
  obtain ⟨Ua, a2, a1⟩ := isSome_B (fu := fu) (L := 98) (wk := V 2201 0 0) (wo := -1) hfu hA hF (by decide) (by decide) (by rw [hF 2259 (by decide)]; exact hwo) (okT_nI hx) (okT_nI hm) (by decide)
  have fin : ∀ W : St, Fr rsc U W → F_X12_makes_106 fu W (nI m) (nI x) n b = if kd = true ∧ ¬ (V 2219 0 x * n + 36 - 1) / 36 ≤ V 2238 0 (20 * m + c) then some (-4, W) else
        if V 2234 0 m < V 2239 0 m + n ∨ ¬ V 2239 0 m + n ≤ V 2235 0 m * V 2236 0 m then some (-5, W) else (if kd = true then F_X12_makes_245 fu (setV W 2238 0 (20 * m + c) (V 2238 0 (20 * m + c) - (V 2219 0 x * n + 36 - 1) / 36)) (nI m) (nI x) n b else F_X12_makes_245 fu W (nI m) (nI x) n b) := by
    intro W hW
    have g : ∀ v, v ∈ [2216, 2217, 2219, 2234, 2235, 2236, 2238, 2239] → W v = V v := fun v hv => by
      rw [hW v ((show ∀ v, v ∈ [2216, 2217, 2219, 2234, 2235, 2236, 2238, 2239] → v ∉ rsc by decide) v hv)]
      exact hF v ((show ∀ v, v ∈ [2216, 2217, 2219, 2234, 2235, 2236, 2238, 2239] → v ∉ cws by decide) v hv)
    have w1 := g 2216 (by decide); have w2 := g 2217 (by decide); have w3 := g 2219 (by decide); have w4 := g 2234 (by decide); have w5 := g 2235 (by decide); have w6 := g 2236 (by decide); have w7 := g 2238 (by decide); have w8 := g 2239 (by decide)
    have hcm : n * V 2219 0 x = V 2219 0 x * n := Int32.mul_comm _ _
    cases hk : kd with
    | true =>
      obtain ⟨g1, g2, g3⟩ := hkd hk
      have hne := ifneg_nI (20 * m + c) (by omega)
      simp (disch := omega) only [F_X12_makes_106, F_X12_makes_130, F_X12_makes_155, F_X12_makes_178, F_X12_makes_219, w1, w2, w3, w4, w5, w6, w7, w8, g1, g3, ix20, hne, hcm, up_eq (show (0 : Int32) < 36 by decide), bd_some, n10, n00, bv_eq, within_eq, in_eq, gd_T, gd_t, i00, i10, c_0, c_1, c_m1, ite10, ite01, setV_fn, setV_at, cntS, nI_pos, nI_clamp, nI_leI, nI_ltI, nI_eq, nI_1, if_true, if_false, not_true, not_false, and_self, and_true, true_and, false_and, and_false, or_false, false_or, or_true, true_or, not_false_eq_true, ite_self, ite_true, ite_false, reduceIte, Nat.reduceEqDiff, Nat.reduceMul, Nat.reduceAdd, Nat.reduceLT, Nat.reducePow, ne_eq]
      by_cases z : (V 2219 0 x * n + 36 - 1) / 36 ≤ V 2238 0 (20 * m + c)
      · by_cases z1 : V 2234 0 m < V 2239 0 m + n
        · simp [z, z1]
        · by_cases z2 : V 2239 0 m + n ≤ V 2235 0 m * V 2236 0 m
          · simp [z, z1, z2]
          · simp [z, z1, z2]
      · simp [z]
    | false =>
      have g1 := hkd2 hk
      simp (disch := omega) only [F_X12_makes_106, F_X12_makes_130, F_X12_makes_155, F_X12_makes_178, F_X12_makes_219, w1, w4, w5, w6, w8, g1, bd_some, n10, n00, bv_eq, within_eq, in_eq, gd_T, gd_t, i00, i10, c_0, c_1, c_m1, ite10, ite01, setV_fn, setV_at, cntS, nI_pos, nI_clamp, nI_leI, nI_ltI, nI_eq, nI_1, if_true, if_false, not_true, not_false, and_self, and_true, true_and, false_and, and_false, or_false, false_or, or_true, true_or, not_false_eq_true, ite_self, ite_true, ite_false, reduceIte, Nat.reduceEqDiff, Nat.reduceMul, Nat.reduceAdd, Nat.reduceLT, Nat.reducePow, ne_eq]
      by_cases z1 : V 2234 0 m < V 2239 0 m + n
      · simp [z1]
      · by_cases z2 : V 2239 0 m + n ≤ V 2235 0 m * V 2236 0 m
        · simp [z1, z2]
        · simp [z1, z2]
  have comb : ∀ W : St, (if kd = true ∧ ¬ (V 2219 0 x * n + 36 - 1) / 36 ≤ V 2238 0 (20 * m + c) then some (-4, W) else
        if V 2234 0 m < V 2239 0 m + n ∨ ¬ V 2239 0 m + n ≤ V 2235 0 m * V 2236 0 m then some (-5, W) else (if kd = true then F_X12_makes_245 fu (setV W 2238 0 (20 * m + c) (V 2238 0 (20 * m + c) - (V 2219 0 x * n + 36 - 1) / 36)) (nI m) (nI x) n b else F_X12_makes_245 fu W (nI m) (nI x) n b)) = if (if kd = true ∧ ¬ (V 2219 0 x * n + 36 - 1) / 36 ≤ V 2238 0 (20 * m + c) then (-4 : Int32) else
        if V 2234 0 m < V 2239 0 m + n ∨ ¬ V 2239 0 m + n ≤ V 2235 0 m * V 2236 0 m then -5 else 0) = 0 then (if kd = true then F_X12_makes_245 fu (setV W 2238 0 (20 * m + c) (V 2238 0 (20 * m + c) - (V 2219 0 x * n + 36 - 1) / 36)) (nI m) (nI x) n b else F_X12_makes_245 fu W (nI m) (nI x) n b) else some ((if kd = true ∧ ¬ (V 2219 0 x * n + 36 - 1) / 36 ≤ V 2238 0 (20 * m + c) then (-4 : Int32) else
        if V 2234 0 m < V 2239 0 m + n ∨ ¬ V 2239 0 m + n ≤ V 2235 0 m * V 2236 0 m then -5 else 0), W) := by
    intro W
    by_cases z : kd = true ∧ ¬ (V 2219 0 x * n + 36 - 1) / 36 ≤ V 2238 0 (20 * m + c)
    · rw [if_pos z, if_pos z, if_neg (by decide)]
    · rw [if_neg z, if_neg z]
      by_cases z1 : V 2234 0 m < V 2239 0 m + n ∨ ¬ V 2239 0 m + n ≤ V 2235 0 m * V 2236 0 m
      · rw [if_pos z1, if_pos z1, if_neg (by decide)]
      · rw [if_neg z1, if_neg z1, if_pos rfl]
  unfold mkRef
  by_cases h1 : lastV V (-1) (V 2201 0 0) (V 2201 0 0) nO 98 (nI x) (nI m) = -1
  · rw [if_pos h1] at a1
    rw [if_pos h1]
    rcases hb with rfl | rfl
    · refine ⟨Ua, a2, ?_⟩
      rw [if_pos (Or.inl rfl), ← comb, ← fin Ua a2]
      simp only [F_X12_makes_47, hs, if_true, hnw, a1, bd_some, n00]
    · have hF1 : Fr [1606, 1608, 2006, 2112, 1361, 1362, 1363, 1364, 1402, 1403, 1404, 1405, 1406, 1407, 1408, 2270, 2271, 2272, 2273, 2274] V Ua := (hF.weak (by decide)).trans (a2.weak (by decide))
      obtain ⟨Ub, b2, b1⟩ := isSome_B (fu := fu) (L := 109) (wk := V 2201 0 0) (wo := -1) hfu hA hF1 (by decide) (by decide) (by rw [hF1 2259 (by decide)]; exact hwo) (okT_nI hx) (okT_nI hm) (by decide)
      refine ⟨Ub, a2.trans b2, ?_⟩
      have hnw2 := hF1 2201 (by decide)
      by_cases h2 : lastV V (-1) (V 2201 0 0) (V 2201 0 0) nO 109 (nI x) (nI m) = -1
      · rw [if_pos h2] at b1
        have hno : ¬ ((1 : Int32) = 0 ∨ ¬ lastV V (-1) (V 2201 0 0) (V 2201 0 0) nO 109 (nI x) (nI m) = -1) := fun q => q.elim (by decide) (fun q => q h2)
        rw [if_neg hno, if_neg (show ¬ (-3 : Int32) = 0 by decide)]
        simp only [F_X12_makes_47, hs, if_true, hnw, hnw2, a1, b1, bd_some, n00, n10, if_false]
      · rw [if_neg h2] at b1
        rw [if_pos (Or.inr h2), ← comb, ← fin Ub (a2.trans b2)]
        simp only [F_X12_makes_47, hs, if_true, hnw, hnw2, a1, b1, bd_some, n00, n10, if_false]
  · rw [if_neg h1] at a1
    refine ⟨Ua, a2, ?_⟩
    rw [if_neg h1, if_neg (by decide)]
    simp only [F_X12_makes_47, hs, if_true, hnw, a1, bd_some, n10, if_false]
/-! makes, whole -/
theorem I_thing.put {V V' : St} {nC nT x b : Nat} {v : Int32} (h : I_thing V nC nT) (hb : b = 0 ∨ b = 1) (h0 : 0 ≤ v) (h1 : v ≤ 1000000) (hx : x < nT) (hF : Fr [2006, 2221 + b] V V') (hc : ∀ i j, V' 2006 i j = if i = x ∧ j = b then v else V 2006 i j) (hr : ∀ q, V' (2221 + b) 0 q = if q = x then v else V (2221 + b) 0 q) : I_thing V' nC nT := by
  obtain ⟨a1, a2, a3, a4, a5⟩ := h
  have hf : ∀ w, w ≠ 2006 → w ≠ 2221 + b → V' w = V w := fun w h1 h2 => hF w (by intro q; simp at q; omega)
  refine ⟨a1, by rw [hf 2105 (by omega) (by omega)]; exact a2, by rw [hf 2204 (by omega) (by omega)]; exact a3, fun q hq => ?_, fun q hq => ?_⟩
  · have := a4 q hq
    rcases hb with rfl | rfl
    · rw [show V' 2221 0 q = _ from hr q, if_neg (by omega), hf 2222 (by omega) (by omega), hf 2223 (by omega) (by omega)]; exact this
    · rw [show V' 2222 0 q = _ from hr q, if_neg (by omega), hf 2221 (by omega) (by omega), hf 2223 (by omega) (by omega)]; exact this
  · obtain ⟨p, len, wid, q1, q2, q3, q4, q5, q6, q7, q8, q9, q10, q11, q12, q13, q14, q15, q16, q17, q18⟩ := a5 q hq
    refine ⟨p, len, wid, ?_⟩
    unfold ThingV
    rw [hf 2001 (by omega) (by omega), hf 2216 (by omega) (by omega), hf 2002 (by omega) (by omega), hf 2217 (by omega) (by omega), hf 2004 (by omega) (by omega), hf 2218 (by omega) (by omega), hf 2005 (by omega) (by omega), hf 2219 (by omega) (by omega), hf 2010 (by omega) (by omega), hf 2220 (by omega) (by omega), hf 2009 (by omega) (by omega), hf 2223 (by omega) (by omega), hf 2090 (by omega) (by omega), hf 2003 (by omega) (by omega), hf 2007 (by omega) (by omega), hf 2008 (by omega) (by omega), hf 2224 (by omega) (by omega), hf 2225 (by omega) (by omega), hc q 0, hc q 1]
    have e1 : V' 2221 0 q = if b = 0 ∧ q = x then v else V 2221 0 q := by
      rcases hb with rfl | rfl
      · rw [show V' 2221 0 q = _ from hr q]; simp
      · rw [hf 2221 (by omega) (by omega)]; simp
    have e2 : V' 2222 0 q = if b = 1 ∧ q = x then v else V 2222 0 q := by
      rcases hb with rfl | rfl
      · rw [hf 2222 (by omega) (by omega)]; simp
      · rw [show V' 2222 0 q = _ from hr q]; simp
    rw [e1, e2]
    refine ⟨q1, q2, q3, q4, q5, q6, q7, q8, ?_, ?_, ?_, ?_, ?_, ?_, q15, q16, q17, q18⟩ <;> rcases hb with rfl | rfl <;> by_cases hqx : q = x <;> simp [hqx] <;> (try subst hqx) <;> assumption
