/-! buys (by program: buys.py) -/
theorem I_pers.ag {V V' : St} {n : Nat} (h : I_pers V n) (e : ∀ v, v ∈ vI_pers → V' v = V v) : I_pers V' n := by
  have e1801 : V' 1801 = V 1801 := e 1801 (by decide)
  have e1802 : V' 1802 = V 1802 := e 1802 (by decide)
  have e2108 : V' 2108 = V 2108 := e 2108 (by decide)
  have e2277 : V' 2277 = V 2277 := e 2277 (by decide)
  have e2278 : V' 2278 = V 2278 := e 2278 (by decide)
  have e2279 : V' 2279 = V 2279 := e 2279 (by decide)
  simp only [I_pers] at h ⊢
  simp only [e1801, e1802, e2108, e2277, e2278, e2279]
  exact h
theorem I_dock.ag {V V' : St} {t n : Nat} (h : I_dock V t n) (e : ∀ v, v ∈ vI_dock → V' v = V v) : I_dock V' t n := by
  have e1101 : V' 1101 = V 1101 := e 1101 (by decide)
  have e1102 : V' 1102 = V 1102 := e 1102 (by decide)
  have e1103 : V' 1103 = V 1103 := e 1103 (by decide)
  have e1104 : V' 1104 = V 1104 := e 1104 (by decide)
  have e1105 : V' 1105 = V 1105 := e 1105 (by decide)
  have e2109 : V' 2109 = V 2109 := e 2109 (by decide)
  have e2280 : V' 2280 = V 2280 := e 2280 (by decide)
  have e2281 : V' 2281 = V 2281 := e 2281 (by decide)
  have e2282 : V' 2282 = V 2282 := e 2282 (by decide)
  have e2283 : V' 2283 = V 2283 := e 2283 (by decide)
  have e2284 : V' 2284 = V 2284 := e 2284 (by decide)
  have e2285 : V' 2285 = V 2285 := e 2285 (by decide)
  simp only [I_dock] at h ⊢
  simp only [e1101, e1102, e1103, e1104, e1105, e2109, e2280, e2281, e2282, e2283, e2284, e2285]
  exact h
theorem I_marks.ag {V V' : St} {t m n : Nat} (h : I_marks V t m n) (e : ∀ v, v ∈ vI_marks → V' v = V v) : I_marks V' t m n := by
  have e1361 : V' 1361 = V 1361 := e 1361 (by decide)
  have e1362 : V' 1362 = V 1362 := e 1362 (by decide)
  have e1363 : V' 1363 = V 1363 := e 1363 (by decide)
  have e1364 : V' 1364 = V 1364 := e 1364 (by decide)
  have e2112 : V' 2112 = V 2112 := e 2112 (by decide)
  have e2275 : V' 2275 = V 2275 := e 2275 (by decide)
  have e2276 : V' 2276 = V 2276 := e 2276 (by decide)
  simp only [I_marks] at h ⊢
  simp only [e1361, e1362, e1363, e1364, e2112, e2275, e2276]
  exact h
theorem I_pers.put {V V' : St} {n o : Nat} {a b : Int32} (h : I_pers V n) (ho : o < n) (h0 : V' 2108 = V 2108) (h1 : V' 2277 = V 2277) (h2 : ∀ i, V' 1801 i 0 = if i = o then a else V 1801 i 0) (h3 : ∀ i, V' 1802 i 0 = if i = o then b else V 1802 i 0) (h4 : ∀ i, V' 2278 0 i = if i = o then a else V 2278 0 i) (h5 : ∀ i, V' 2279 0 i = if i = o then b else V 2279 0 i) : I_pers V' n := by
  obtain ⟨a1, a2, a3, a4, a5⟩ := h
  refine ⟨a1, by rw [h0]; exact a2, by rw [h1]; exact a3, fun i hi => ?_, fun i hi => ?_⟩
  · rw [h4 i, if_neg (by omega)]; exact a4 i hi
  · rw [h2, h3, h4, h5]
    by_cases hz : i = o
    · simp [hz]
    · simp only [hz, if_false]; exact a5 i hi
theorem I_dock.close {V V' : St} {t n : Nat} {xo xt : Int32} (h : I_dock V t n) (hg : ∀ v, v ∈ [1101, 1102, 1103, 1104, 2109, 2280, 2281, 2282, 2283, 2284] → V' v = V v) (h1 : ∀ k, V' 1105 k 0 = if 0 ≤ k ∧ k < n ∧ V 1101 k 0 = xo ∧ V 1102 k 0 = xt then 0 else V 1105 k 0) (h2 : ∀ k, V' 2285 0 k = if 0 ≤ k ∧ k < n ∧ V 2281 0 k = xo ∧ V 2282 0 k = xt then 0 else V 2285 0 k) : I_dock V' t n := by
  obtain ⟨a1, a2, a3, a4⟩ := h
  refine ⟨a1, by rw [hg 2109 (by decide)]; exact a2, by rw [hg 2280 (by decide)]; exact a3, fun k hk => ?_⟩
  obtain ⟨b1, b2, b3, b4, b5, b6, b7⟩ := a4 k hk
  rw [hg 1101 (by decide), hg 2281 (by decide), hg 1102 (by decide), hg 2282 (by decide), hg 1103 (by decide), hg 2283 (by decide), hg 1104 (by decide), hg 2284 (by decide), h1 k, h2 k, b1, b2, b6]
  refine ⟨rfl, rfl, b3, b4, b5, rfl, ?_⟩
  split
  · exact .inl rfl
  · exact b7
noncomputable def ptV (V : St) (n x : Nat) : Int32 := if lastV V (-1) (V 2201 0 0) (V 2201 0 0) n 112 (nI x) (-1) = -1 then 0 else lastV V (-1) (V 2201 0 0) (V 2201 0 0) n 112 (nI x) (-1)
def bws2 : List Nat := [1801, 1802, 2006, 2112, 1361, 1362, 1363, 1364, 1105, 1402, 1403, 1404, 1405, 1406, 1407, 1408]
theorem refBuys {fu nC nT nM nO o x nP : Nat} {V U : St} {b s0 : Int32} (hfu : 1000 ≤ fu) (hA : Ask V nC nT nM nO) (hwo : V 2259 0 0 = -1) (hF : Fr bws2 V U) (hs : ¬ s0 = 0) (ho : o < nP) (hP : nP ≤ 40) (hx : x < nT) : ∃ U1, Fr rsc U U1 ∧ F_X12_buys_37 fu U (nI o) (nI x) b s0 = if ptV V nO x ≤ V 2278 0 o then (if paidV V nO x ≤ V 2279 0 o then (if b = 0 then F_X12_buys_193 fu (setV (setV (setV U1 2278 0 o (V 2278 0 o - ptV V nO x)) 2279 0 o (V 2279 0 o - paidV V nO x)) 2221 0 x (V 2221 0 x - 1)) (nI o) (nI x) (paidV V nO x) else (gd (¬ ((500 * nI x) + (V 2201 0 0) < 0 ∨ 15000 ≤ ((500 * nI x) + (V 2201 0 0)).toNatClampNeg)) <| F_X12_buys_193 fu (setV (setV (setV (setV U1 2278 0 o (V 2278 0 o - ptV V nO x)) 2279 0 o (V 2279 0 o - paidV V nO x)) 2222 0 x (V 2222 0 x - 1)) 2276 0 ((500 * nI x) + (V 2201 0 0)).toNatClampNeg (V 2276 0 ((500 * nI x) + (V 2201 0 0)).toNatClampNeg + 1)) (nI o) (nI x) (paidV V nO x))) else some (-4, U1)) else some (-3, U1) := by
  have h30 := hA.2.1.1
  have hnw := hF 2201 (by decide)
  obtain ⟨Ua, a2, a1⟩ := numberBy_B (fu := fu) (L := 112) (wk := V 2201 0 0) (wo := -1) hfu hA hF (by decide) (by decide) (by rw [hF 2259 (by decide)]; exact hwo) (okT_nI hx) (okT_m1 _) (by decide)
  have ho1 : f_X12_orNothing fu U 112 (nI x) (-1) (V 2201 0 0) (V 2201 0 0) = some (ptV V nO x, Ua) := by
    simp only [f_X12_orNothing, F_X12_orNothing_25, a1, bd_some]
    unfold ptV; split <;> rfl
  have hF1 : Fr [1801, 1802, 2006, 2112, 1361, 1362, 1363, 1364, 1105, 1402, 1403, 1404, 1405, 1406, 1407, 1408, 2270, 2271, 2272, 2273, 2274] V Ua := (hF.weak (by decide)).trans (a2.weak (by decide))
  have w1 := hF1 2278 (by decide)
  by_cases h1 : ptV V nO x ≤ V 2278 0 o
  · obtain ⟨Ub, b2, b1⟩ := numberBy_B (fu := fu) (L := 99) (wk := V 2201 0 0) (wo := -1) hfu hA hF1 (by decide) (by decide) (by rw [hF1 2259 (by decide)]; exact hwo) (okT_nI hx) (okT_m1 _) (by decide)
    have hF2 : Fr [1801, 1802, 2006, 2112, 1361, 1362, 1363, 1364, 1105, 1402, 1403, 1404, 1405, 1406, 1407, 1408, 2270, 2271, 2272, 2273, 2274] V Ub := hF1.trans (b2.weak (by decide))
    have hpd : f_X12_paidFor fu Ua (nI x) = some (paidV V nO x, Ub) := by
      simp (disch := omega) only [f_X12_paidFor, F_X12_paidFor_36, F_X12_paidFor_42, hF1 2201 (by decide), b1, hF2 2220 (by decide), bd_some, n10, n00, bv_eq, within_eq, in_eq, gd_T, gd_t, i00, i10, c_0, c_1, c_m1, ite10, ite01, setV_fn, setV_at, cntS, nI_pos, nI_clamp, nI_leI, nI_ltI, nI_eq, nI_1, if_true, if_false, not_true, not_false, and_self, and_true, true_and, false_and, and_false, or_false, false_or, or_true, true_or, not_false_eq_true, ite_self, ite_true, ite_false, reduceIte, Nat.reduceEqDiff, Nat.reduceMul, Nat.reduceAdd, Nat.reduceLT, Nat.reducePow, ne_eq]
      unfold paidV
      split
      · rfl
      · by_cases h : V 2220 0 x ≤ lastV V (-1) (V 2201 0 0) (V 2201 0 0) nO 99 (nI x) (-1)
        · rw [if_pos h, if_neg (by grind)]
        · rw [if_neg h, if_pos (by grind)]
    have w2 := hF2 2279 (by decide); have w3 := hF2 2278 (by decide); have w4 := hF2 2221 (by decide); have w5 := hF2 2222 (by decide); have w6 := hF2 2276 (by decide); have w7 := hF2 2201 (by decide)
    refine ⟨Ub, a2.trans b2, ?_⟩
    by_cases h2 : paidV V nO x ≤ V 2279 0 o
    · by_cases hb : b = 0
      · simp (disch := omega) only [F_X12_buys_37, hs, hnw, ho1, w1, h1, hpd, w2, w3, w4, h2, hb, bd_some, n10, n00, bv_eq, within_eq, in_eq, gd_T, gd_t, i00, i10, c_0, c_1, c_m1, ite10, ite01, setV_fn, setV_at, cntS, nI_pos, nI_clamp, nI_leI, nI_ltI, nI_eq, nI_1, if_true, if_false, not_true, not_false, and_self, and_true, true_and, false_and, and_false, or_false, false_or, or_true, true_or, not_false_eq_true, ite_self, ite_true, ite_false, reduceIte, Nat.reduceEqDiff, Nat.reduceMul, Nat.reduceAdd, Nat.reduceLT, Nat.reducePow, ne_eq]
      · rw [if_pos h1, if_pos h2, if_neg hb]
        simp only [F_X12_buys_37, hs, if_false, hnw, ho1, bd_some, nI_clamp (show o < 2 ^ 31 by omega), nI_clamp (show x < 2 ^ 31 by omega), w1, h1, if_true, hpd, w2, h2, hb, bv_eq, setV_at, and_self]
        simp (disch := omega) only [setV_fn, w3, w2, w5, w6, w7, nI_pos, false_or, gd_t]
        unfold gd
        by_cases hc : ¬ ((500 * nI x) + (V 2201 0 0) < 0 ∨ 15000 ≤ ((500 * nI x) + (V 2201 0 0)).toNatClampNeg)
        · simp only [hc, not_false_eq_true, if_true]
        · simp only [hc, if_false]
    · simp (disch := omega) only [F_X12_buys_37, hs, hnw, ho1, w1, h1, hpd, w2, h2, bd_some, n10, n00, bv_eq, within_eq, in_eq, gd_T, gd_t, i00, i10, c_0, c_1, c_m1, ite10, ite01, setV_fn, setV_at, cntS, nI_pos, nI_clamp, nI_leI, nI_ltI, nI_eq, nI_1, if_true, if_false, not_true, not_false, and_self, and_true, true_and, false_and, and_false, or_false, false_or, or_true, true_or, not_false_eq_true, ite_self, ite_true, ite_false, reduceIte, Nat.reduceEqDiff, Nat.reduceMul, Nat.reduceAdd, Nat.reduceLT, Nat.reducePow, ne_eq]
  · refine ⟨Ua, a2, ?_⟩
    simp (disch := omega) only [F_X12_buys_37, hs, hnw, ho1, w1, h1, bd_some, n10, n00, bv_eq, within_eq, in_eq, gd_T, gd_t, i00, i10, c_0, c_1, c_m1, ite10, ite01, setV_fn, setV_at, cntS, nI_pos, nI_clamp, nI_leI, nI_ltI, nI_eq, nI_1, if_true, if_false, not_true, not_false, and_self, and_true, true_and, false_and, and_false, or_false, false_or, or_true, true_or, not_false_eq_true, ite_self, ite_true, ite_false, reduceIte, Nat.reduceEqDiff, Nat.reduceMul, Nat.reduceAdd, Nat.reduceLT, Nat.reducePow, ne_eq]
