/-! the same of the reference; the first -/
def RSv : List Nat := [2258, 2260, 2261, 2262, 2263, 2264, 2265, 2266, 2267, 2268, 2269]
def RS (U V V' : St) (wo wk t : Int32) (n : Nat) (fs : Nat → Int32) : Prop := (∀ v, v ∈ RSv → V' v = V v) ∧ V' 2259 0 0 = wo ∧ RefS V' (fin V wo wk t n) n ∧ (∀ k, k < 9 → V' 2272 0 k = fs k) ∧ Fr [2270, 2271, 2272, 2273, 2274] U V'
theorem RS.holds {U V V' V1 : St} {wo wk t : Int32} {n : Nat} {fs : Nat → Int32} (h : RS U V V' wo wk t n fs) (hF : Fr [2271] V' V1) : RS U V V1 wo wk t n fs := by
  refine ⟨fun v hv => ?_, by rw [hF 2259 (by decide)]; exact h.2.1, ?_, ?_, h.2.2.2.2.trans (hF.weak (by decide))⟩
  · rw [hF v (by intro q; rw [List.mem_singleton] at q; subst q; revert hv; decide)]; exact h.1 v hv
  · have := h.2.2.1; unfold RefS at this ⊢; rw [hF 2270 (by decide)]; exact this
  · rw [hF 2272 (by decide)]; exact h.2.2.2.1
theorem RS.force {fu i n : Nat} {U V V' : St} {wo wk t : Int32} {fs : Nat → Int32} (h : RS U V V' wo wk t n fs) (hi : i < 30) : f_X12_isForce fu V' (nI i) wk t = some (if fcV V wo wk t i = true then 1 else 0, V') := by
  rw [force_eq hi]; unfold fcV; rw [h.2.1, h.1 2263 (by decide), h.1 2261 (by decide), h.1 2262 (by decide)]
theorem TV_off {V : St} {wo wk t L : Int32} {n i : Nat} {fs : Nat → Int32} (h : ¬ fcV V wo wk t i = true) (j : Nat) : TV V wo wk t n L fs i j = false := by
  unfold TV; simp [h]
theorem fdJ_off {T : Nat → Nat → Bool} {i : Nat} (h : ∀ j, T i j = false) : ∀ j, fdJ T i j = none := by
  intro j
  induction j with
  | zero => rfl
  | succ j ih => unfold fdJ; rw [h j]; simpa using ih
theorem faJ_off {T : Nat → Nat → Bool} {i : Nat} (h : ∀ j, T i j = false) : ∀ m j, faJ T i m j = none := by
  intro m
  induction m with
  | zero => intro j; rfl
  | succ m ih => intro j; unfold faJ; rw [h j]; simpa using ih (j + 1)
theorem r_one {fu n i j : Nat} {U V V' : St} {wo wk t L : Int32} {fs : Nat → Int32} (hfu : 1000 ≤ fu) (hO : I_ord V n) (hL : L ≠ 120) (hS : RS U V V' wo wk t n fs) (hi : i < n) (hj : j < cV V i) (hf : fcV V wo wk t i = true) (kY kN : St → RR) :
    ∃ V1, RS U V V1 wo wk t n fs ∧ (if V' 2265 0 (12 * i + j) = L then (if V' 2270 0 (12 * i + j) = 0 then (bd (f_X12_holds fu V' (nI (12 * i + j))) fun r10 V11 => if r10 = 0 then kN V11 else kY V11) else kN V') else kN V') = if TV V wo wk t n L fs i j = true then kY V1 else kN V1 := by
  obtain ⟨c, hc⟩ := hO.2.2.2 i hi
  have h30 := hO.1
  have hcc := hc.at (by omega)
  have hc12 := hc.1
  have f1 := hS.1 2265 (by decide)
  have hs := hS.2.2.1 (12 * i + j) (by omega)
  rw [f1]
  by_cases hl : V 2265 0 (12 * i + j) = L
  · by_cases hσ : fin V wo wk t n (12 * i + j) = true
    · refine ⟨V', hS, ?_⟩
      rw [if_pos hl, hs, if_pos hσ, if_neg (by decide), if_neg (fun q => by unfold TV at q; rw [hσ] at q; simp at q)]
    · have hH := (hc.2.2.2.2.2.2 j (by omega)).2.2.2.2 (by rw [hl]; exact hL)
      obtain ⟨g1, -, g2⟩ := hG_ok hH
      obtain ⟨V1, e1, e2⟩ := g2 fu V' hfu (fun q _ _ => by rw [hS.1 2260 (by decide)]) (by rw [hS.1 2266 (by decide)]) (by rw [hS.1 2267 (by decide)])
      rw [g1 (V' 2272 0) fs hS.2.2.2.1] at e1
      refine ⟨V1, hS.holds e2, ?_⟩
      rw [if_pos hl, hs, if_neg hσ, if_pos rfl, e1, bd_some]
      have hT : TV V wo wk t n L fs i j = hG V i j fs := by unfold TV; rw [hf, hl]; simp [hσ]
      rw [hT]
      by_cases hg : hG V i j fs = true
      · rw [if_pos hg, if_pos hg, if_neg (by decide)]
      · rw [if_neg hg, if_neg hg, if_pos rfl]
  · refine ⟨V', hS, ?_⟩
    rw [if_neg hl, if_neg (fun q => by unfold TV at q; simp [hl] at q)]
theorem lpB_in {fu n i : Nat} {U V : St} {wo wk t L : Int32} {fs : Nat → Int32} {kx : St → Int32 → Int32 → Int32 → Int32 → RR} (hfu : 1000 ≤ fu) (hO : I_ord V n) (hL : L ≠ 120) (hi : i < n) : ∀ (j N : Nat) (V' : St), j ≤ cV V i → j < N → RS U V V' wo wk t n fs → ∃ V1, RS U V V1 wo wk t n fs ∧ Lp_X12_numberBy_40 (F_X12_numberBy_98 fu) kx fu N V' L wk t (nI i) (nI j - 1) = match fdJ (TV V wo wk t n L fs) i j with
    | some q => some (V 2268 0 (12 * q.1 + q.2), V1)
    | none => kx V1 L wk t (nI i) := by
  have h30 := hO.1
  obtain ⟨c, hc⟩ := hO.2.2.2 i hi
  have hcc := hc.at (by omega)
  have hc12 := hc.1
  intro j
  induction j with
  | zero =>
    intro N V' hj hN hS
    obtain ⟨N, rfl⟩ : ∃ N', N = N' + 1 := ⟨N - 1, by omega⟩
    have e : nI 0 - 1 < 0 := by decide
    exact ⟨V', hS, by simp only [Lp_X12_numberBy_40, F_X12_numberBy_40, e, if_true, fdJ]⟩
  | succ j ih =>
    intro N V' hj hN hS
    obtain ⟨N, rfl⟩ : ∃ N', N = N' + 1 := ⟨N - 1, by omega⟩
    have e : nI (j + 1) - 1 = nI j := nI_pred j
    have e2 : nI j + (-1) = nI j - 1 := by grind
    have hfe := hS.force (fu := fu) (i := i) (by omega)
    by_cases hf : fcV V wo wk t i = true
    · rw [if_pos hf] at hfe
      obtain ⟨V1, h1, h2⟩ := r_one (fu := fu) hfu hO hL hS hi (show j < cV V i by omega) hf (fun W => F_X12_numberBy_98 fu W (nI (12 * i + j))) (fun W => Lp_X12_numberBy_40 (F_X12_numberBy_98 fu) kx fu N W L wk t (nI i) (nI j + (-1)))
      have hst : Lp_X12_numberBy_40 (F_X12_numberBy_98 fu) kx fu (N + 1) V' L wk t (nI i) (nI (j + 1) - 1) = if TV V wo wk t n L fs i j = true then F_X12_numberBy_98 fu V1 (nI (12 * i + j)) else Lp_X12_numberBy_40 (F_X12_numberBy_98 fu) kx fu N V1 L wk t (nI i) (nI j + (-1)) := by
        rw [← h2, e]
        simp (disch := omega) only [Lp_X12_numberBy_40, F_X12_numberBy_40, F_X12_numberBy_106, hfe, ix12, bd_some, n10, n00, bv_eq, within_eq, in_eq, gd_T, gd_t, i00, i10, c_0, c_1, c_m1, ite10, ite01, setV_fn, setV_at, cntS, nI_pos, nI_clamp, nI_leI, nI_ltI, nI_eq, nI_1, if_true, if_false, not_true, not_false, and_self, and_true, true_and, false_and, and_false, or_false, false_or, or_true, true_or, not_false_eq_true, ite_self, ite_true, ite_false, reduceIte, Nat.reduceEqDiff, Nat.reduceMul, Nat.reduceAdd, Nat.reduceLT, Nat.reducePow, ne_eq]
      by_cases hT : TV V wo wk t n L fs i j = true
      · refine ⟨V1, h1, ?_⟩
        rw [hst, if_pos hT, fdJ, if_pos hT]
        have e3 := h1.1 2268 (by decide)
        simp (disch := omega) only [F_X12_numberBy_98, e3, bd_some, n10, n00, bv_eq, within_eq, in_eq, gd_T, gd_t, i00, i10, c_0, c_1, c_m1, ite10, ite01, setV_fn, setV_at, cntS, nI_pos, nI_clamp, nI_leI, nI_ltI, nI_eq, nI_1, if_true, if_false, not_true, not_false, and_self, and_true, true_and, false_and, and_false, or_false, false_or, or_true, true_or, not_false_eq_true, ite_self, ite_true, ite_false, reduceIte, Nat.reduceEqDiff, Nat.reduceMul, Nat.reduceAdd, Nat.reduceLT, Nat.reducePow, ne_eq]
      · obtain ⟨V2, s1, s2⟩ := ih N V1 (by omega) (by omega) h1
        refine ⟨V2, s1, ?_⟩
        rw [hst, if_neg hT, e2, s2, fdJ, if_neg hT]
    · rw [if_neg hf] at hfe
      refine ⟨V', hS, ?_⟩
      rw [fdJ_off (fun j => TV_off hf j), e]
      simp (disch := omega) only [Lp_X12_numberBy_40, F_X12_numberBy_40, hfe, bd_some, n10, n00, bv_eq, within_eq, in_eq, gd_T, gd_t, i00, i10, c_0, c_1, c_m1, ite10, ite01, setV_fn, setV_at, cntS, nI_pos, nI_clamp, nI_leI, nI_ltI, nI_eq, nI_1, if_true, if_false, not_true, not_false, and_self, and_true, true_and, false_and, and_false, or_false, false_or, or_true, true_or, not_false_eq_true, ite_self, ite_true, ite_false, reduceIte, Nat.reduceEqDiff, Nat.reduceMul, Nat.reduceAdd, Nat.reduceLT, Nat.reducePow, ne_eq]
theorem lpB_out {fu n : Nat} {U V : St} {wo wk t L : Int32} {fs : Nat → Int32} (hfu : 1000 ≤ fu) (hO : I_ord V n) (hL : L ≠ 120) : ∀ (i N : Nat) (V' : St), i ≤ n → i < N → RS U V V' wo wk t n fs → ∃ V1, RS U V V1 wo wk t n fs ∧ Lp_X12_numberBy_24 (F_X12_numberBy_98 fu) (F_X12_numberBy_118 fu) fu N V' L wk t (nI i - 1) = match fdI (TV V wo wk t n L fs) (cV V) i with
    | some q => some (V 2268 0 (12 * q.1 + q.2), V1)
    | none => some (-1, V1) := by
  have h30 := hO.1
  intro i
  induction i with
  | zero =>
    intro N V' hj hN hS
    obtain ⟨N, rfl⟩ : ∃ N', N = N' + 1 := ⟨N - 1, by omega⟩
    have e : nI 0 - 1 < 0 := by decide
    exact ⟨V', hS, by simp only [Lp_X12_numberBy_24, F_X12_numberBy_24, F_X12_numberBy_118, e, if_true, fdI]⟩
  | succ i ih =>
    intro N V' hj hN hS
    obtain ⟨N, rfl⟩ : ∃ N', N = N' + 1 := ⟨N - 1, by omega⟩
    obtain ⟨c, hc⟩ := hO.2.2.2 i (by omega)
    have hcc := hc.at (by omega)
    have hc12 := hc.1
    have e : nI (i + 1) - 1 = nI i := nI_pred i
    have e2 : nI i + (-1) = nI i - 1 := by grind
    have f1 := hS.1 2264 (by decide)
    obtain ⟨V1, h1, h2⟩ := lpB_in (fu := fu) (L := L) (kx := F_X12_numberBy_112 (Lp_X12_numberBy_24 (F_X12_numberBy_98 fu) (F_X12_numberBy_118 fu) fu N) (F_X12_numberBy_98 fu) (F_X12_numberBy_118 fu) fu) hfu hO hL (show i < n by omega) (cV V i) fu V' (Nat.le_refl _) (by omega) hS
    have hst : Lp_X12_numberBy_24 (F_X12_numberBy_98 fu) (F_X12_numberBy_118 fu) fu (N + 1) V' L wk t (nI (i + 1) - 1) = Lp_X12_numberBy_40 (F_X12_numberBy_98 fu) (F_X12_numberBy_112 (Lp_X12_numberBy_24 (F_X12_numberBy_98 fu) (F_X12_numberBy_118 fu) fu N) (F_X12_numberBy_98 fu) (F_X12_numberBy_118 fu) fu) fu fu V' L wk t (nI i) (nI (cV V i) - 1) := by
      rw [e, hcc, ← hc.2.2.2.2.2.1]
      simp (disch := omega) only [Lp_X12_numberBy_24, F_X12_numberBy_24, f1, bd_some, n10, n00, bv_eq, within_eq, in_eq, gd_T, gd_t, i00, i10, c_0, c_1, c_m1, ite10, ite01, setV_fn, setV_at, cntS, nI_pos, nI_clamp, nI_leI, nI_ltI, nI_eq, nI_1, if_true, if_false, not_true, not_false, and_self, and_true, true_and, false_and, and_false, or_false, false_or, or_true, true_or, not_false_eq_true, ite_self, ite_true, ite_false, reduceIte, Nat.reduceEqDiff, Nat.reduceMul, Nat.reduceAdd, Nat.reduceLT, Nat.reducePow, ne_eq]
    rw [hst, h2]
    cases hq : fdJ (TV V wo wk t n L fs) i (cV V i) with
    | some q => exact ⟨V1, h1, by rw [fdI, hq]⟩
    | none =>
      obtain ⟨V2, s1, s2⟩ := ih N V1 (by omega) (by omega) h1
      refine ⟨V2, s1, ?_⟩
      rw [fdI, hq]
      show F_X12_numberBy_112 _ _ _ _ _ _ _ _ _ = _
      rw [F_X12_numberBy_112, e2]; exact s2
theorem lpA_in {fu n i : Nat} {U V : St} {wo wk t L : Int32} {fs : Nat → Int32} {kx : St → Int32 → Int32 → Int32 → Int32 → RR} (hfu : 1000 ≤ fu) (hO : I_ord V n) (hL : L ≠ 120) (hi : i < n) : ∀ (m N j : Nat) (V' : St), j + m = cV V i → m < N → RS U V V' wo wk t n fs → ∃ V1, RS U V V1 wo wk t n fs ∧ Lp_X12_isSome_31 (F_X12_isSome_99 fu) kx fu N V' L wk t (nI i) (nI j) = match faJ (TV V wo wk t n L fs) i m j with
    | some q => some (1, setV (setV V1 2273 0 0 (nI q.1)) 2274 0 0 (nI q.2))
    | none => kx V1 L wk t (nI i) := by
  have h30 := hO.1
  obtain ⟨c, hc⟩ := hO.2.2.2 i hi
  have hcc := hc.at (by omega)
  have hc12 := hc.1
  have hcn := hc.2.2.2.2.2.1
  intro m
  induction m with
  | zero =>
    intro N j V' hj hN hS
    obtain ⟨N, rfl⟩ : ∃ N', N = N' + 1 := ⟨N - 1, by omega⟩
    have f1 := hS.1 2264 (by decide)
    have hle : c ≤ j := by omega
    exact ⟨V', hS, by simp (disch := omega) only [Lp_X12_isSome_31, F_X12_isSome_31, f1, hcn, hle, faJ, bd_some, n10, n00, bv_eq, within_eq, in_eq, gd_T, gd_t, i00, i10, c_0, c_1, c_m1, ite10, ite01, setV_fn, setV_at, cntS, nI_pos, nI_clamp, nI_leI, nI_ltI, nI_eq, nI_1, if_true, if_false, not_true, not_false, and_self, and_true, true_and, false_and, and_false, or_false, false_or, or_true, true_or, not_false_eq_true, ite_self, ite_true, ite_false, reduceIte, Nat.reduceEqDiff, Nat.reduceMul, Nat.reduceAdd, Nat.reduceLT, Nat.reducePow, ne_eq]⟩
  | succ m ih =>
    intro N j V' hj hN hS
    obtain ⟨N, rfl⟩ : ∃ N', N = N' + 1 := ⟨N - 1, by omega⟩
    have f1 := hS.1 2264 (by decide)
    have hle : ¬ c ≤ j := by omega
    have hfe := hS.force (fu := fu) (i := i) (by omega)
    by_cases hf : fcV V wo wk t i = true
    · rw [if_pos hf] at hfe
      obtain ⟨V1, h1, h2⟩ := r_one (fu := fu) hfu hO hL hS hi (show j < cV V i by omega) hf (fun W => F_X12_isSome_99 fu W (nI i) (nI j)) (fun W => Lp_X12_isSome_31 (F_X12_isSome_99 fu) kx fu N W L wk t (nI i) (nI (j + 1)))
      have hst : Lp_X12_isSome_31 (F_X12_isSome_99 fu) kx fu (N + 1) V' L wk t (nI i) (nI j) = if TV V wo wk t n L fs i j = true then F_X12_isSome_99 fu V1 (nI i) (nI j) else Lp_X12_isSome_31 (F_X12_isSome_99 fu) kx fu N V1 L wk t (nI i) (nI (j + 1)) := by
        rw [← h2]
        simp (disch := omega) only [Lp_X12_isSome_31, F_X12_isSome_31, F_X12_isSome_113, hfe, ix12, f1, hcn, hle, bd_some, n10, n00, bv_eq, within_eq, in_eq, gd_T, gd_t, i00, i10, c_0, c_1, c_m1, ite10, ite01, setV_fn, setV_at, cntS, nI_pos, nI_clamp, nI_leI, nI_ltI, nI_eq, nI_1, if_true, if_false, not_true, not_false, and_self, and_true, true_and, false_and, and_false, or_false, false_or, or_true, true_or, not_false_eq_true, ite_self, ite_true, ite_false, reduceIte, Nat.reduceEqDiff, Nat.reduceMul, Nat.reduceAdd, Nat.reduceLT, Nat.reducePow, ne_eq]
      by_cases hT : TV V wo wk t n L fs i j = true
      · refine ⟨V1, h1, ?_⟩
        rw [hst, if_pos hT, faJ, if_pos hT]
        simp only [F_X12_isSome_99, bv_eq]
      · obtain ⟨V2, s1, s2⟩ := ih N (j + 1) V1 (by omega) (by omega) h1
        refine ⟨V2, s1, ?_⟩
        rw [hst, if_neg hT, s2, faJ, if_neg hT]
    · rw [if_neg hf] at hfe
      refine ⟨V', hS, ?_⟩
      rw [faJ_off (fun j => TV_off hf j)]
      simp (disch := omega) only [Lp_X12_isSome_31, F_X12_isSome_31, hfe, f1, hcn, hle, bd_some, n10, n00, bv_eq, within_eq, in_eq, gd_T, gd_t, i00, i10, c_0, c_1, c_m1, ite10, ite01, setV_fn, setV_at, cntS, nI_pos, nI_clamp, nI_leI, nI_ltI, nI_eq, nI_1, if_true, if_false, not_true, not_false, and_self, and_true, true_and, false_and, and_false, or_false, false_or, or_true, true_or, not_false_eq_true, ite_self, ite_true, ite_false, reduceIte, Nat.reduceEqDiff, Nat.reduceMul, Nat.reduceAdd, Nat.reduceLT, Nat.reducePow, ne_eq]
theorem lpA_out {fu n : Nat} {U V : St} {wo wk t L : Int32} {fs : Nat → Int32} (hfu : 1000 ≤ fu) (hO : I_ord V n) (hL : L ≠ 120) : ∀ (m N i : Nat) (V' : St), i + m = n → m < N → RS U V V' wo wk t n fs → ∃ V1, RS U V V1 wo wk t n fs ∧ Lp_X12_isSome_19 (F_X12_isSome_99 fu) (F_X12_isSome_125 fu) fu N V' L wk t (nI i) = match faI (TV V wo wk t n L fs) (cV V) m i with
    | some q => some (1, setV (setV V1 2273 0 0 (nI q.1)) 2274 0 0 (nI q.2))
    | none => some (0, V1) := by
  have h30 := hO.1
  intro m
  induction m with
  | zero =>
    intro N i V' hj hN hS
    obtain ⟨N, rfl⟩ : ∃ N', N = N' + 1 := ⟨N - 1, by omega⟩
    have f1 : V' 2258 0 0 = nI n := by rw [hS.1 2258 (by decide)]; exact hO.2.2.1
    have hle : n ≤ i := by omega
    exact ⟨V', hS, by simp (disch := omega) only [Lp_X12_isSome_19, F_X12_isSome_19, F_X12_isSome_125, f1, hle, faI, bd_some, n10, n00, bv_eq, within_eq, in_eq, gd_T, gd_t, i00, i10, c_0, c_1, c_m1, ite10, ite01, setV_fn, setV_at, cntS, nI_pos, nI_clamp, nI_leI, nI_ltI, nI_eq, nI_1, if_true, if_false, not_true, not_false, and_self, and_true, true_and, false_and, and_false, or_false, false_or, or_true, true_or, not_false_eq_true, ite_self, ite_true, ite_false, reduceIte, Nat.reduceEqDiff, Nat.reduceMul, Nat.reduceAdd, Nat.reduceLT, Nat.reducePow, ne_eq]⟩
  | succ m ih =>
    intro N i V' hj hN hS
    obtain ⟨N, rfl⟩ : ∃ N', N = N' + 1 := ⟨N - 1, by omega⟩
    obtain ⟨c, hc⟩ := hO.2.2.2 i (by omega)
    have hcc := hc.at (by omega)
    have hc12 := hc.1
    have f1 : V' 2258 0 0 = nI n := by rw [hS.1 2258 (by decide)]; exact hO.2.2.1
    have hle : ¬ n ≤ i := by omega
    obtain ⟨V1, h1, h2⟩ := lpA_in (fu := fu) (L := L) (kx := F_X12_isSome_119 (Lp_X12_isSome_19 (F_X12_isSome_99 fu) (F_X12_isSome_125 fu) fu N) (F_X12_isSome_99 fu) (F_X12_isSome_125 fu) fu) hfu hO hL (show i < n by omega) (cV V i) fu 0 V' (by omega) (by omega) hS
    have hst : Lp_X12_isSome_19 (F_X12_isSome_99 fu) (F_X12_isSome_125 fu) fu (N + 1) V' L wk t (nI i) = Lp_X12_isSome_31 (F_X12_isSome_99 fu) (F_X12_isSome_119 (Lp_X12_isSome_19 (F_X12_isSome_99 fu) (F_X12_isSome_125 fu) fu N) (F_X12_isSome_99 fu) (F_X12_isSome_125 fu) fu) fu fu V' L wk t (nI i) (nI 0) := by
      rw [nI_0]
      simp (disch := omega) only [Lp_X12_isSome_19, F_X12_isSome_19, f1, hle, bd_some, n10, n00, bv_eq, within_eq, in_eq, gd_T, gd_t, i00, i10, c_0, c_1, c_m1, ite10, ite01, setV_fn, setV_at, cntS, nI_pos, nI_clamp, nI_leI, nI_ltI, nI_eq, nI_1, if_true, if_false, not_true, not_false, and_self, and_true, true_and, false_and, and_false, or_false, false_or, or_true, true_or, not_false_eq_true, ite_self, ite_true, ite_false, reduceIte, Nat.reduceEqDiff, Nat.reduceMul, Nat.reduceAdd, Nat.reduceLT, Nat.reducePow, ne_eq]
    rw [hst, h2]
    cases hq : faJ (TV V wo wk t n L fs) i (cV V i) 0 with
    | some q => exact ⟨V1, h1, by rw [faI, hq]⟩
    | none =>
      obtain ⟨V2, s1, s2⟩ := ih N (i + 1) V1 (by omega) (by omega) h1
      refine ⟨V2, s1, ?_⟩
      rw [faI, hq]
      show F_X12_isSome_119 _ _ _ _ _ _ _ _ _ = _
      rw [F_X12_isSome_119, nI_1]; exact s2
theorem lpL_in {fu n i : Nat} {V : St} {wo wk t b : Int32} {fs : Nat → Int32} {kx : St → Int32 → Int32 → RR} (hfu : 1000 ≤ fu) (hO : I_ord V n) (hi : i < n) : ∀ (m N j : Nat) (V' : St), j + m = cV V i → m < N → CS V V' wo wk t n fs → ∃ V1, CS V V1 wo wk t n fs ∧ Lp_X4_lowestBar_28 (F_X4_lowestBar_59 fu) kx fu N V' b (nI i) (nI i) (nI j) = match faJ (TV V wo wk t n 98 fs) i m j with
    | some q => some (if b = 0 then nI q.2 else nI q.1, V1)
    | none => kx V1 b (nI i) := by
  have h30 := hO.1
  obtain ⟨c, hc⟩ := hO.2.2.2 i hi
  have hcc := hc.at (by omega)
  have hc12 := hc.1
  have hcn := hc.2.2.2.2.1
  intro m
  induction m with
  | zero =>
    intro N j V' hj hN hS
    obtain ⟨N, rfl⟩ : ∃ N', N = N' + 1 := ⟨N - 1, by omega⟩
    have f1 := hS.1 1704 (by decide)
    have hct : cntV V' 1401 = n := cnt_n (by decide) (by omega) (by rw [hS.1 1401 (by decide)]; exact hO.2.1)
    have hle : c ≤ j := by omega
    exact ⟨V', hS, by simp (disch := omega) only [Lp_X4_lowestBar_28, F_X4_lowestBar_28, hct, f1, hcn, hle, faJ, bd_some, n10, n00, bv_eq, within_eq, in_eq, gd_T, gd_t, i00, i10, c_0, c_1, c_m1, ite10, ite01, setV_fn, setV_at, cntS, nI_pos, nI_clamp, nI_leI, nI_ltI, nI_eq, nI_1, if_true, if_false, not_true, not_false, and_self, and_true, true_and, false_and, and_false, or_false, false_or, or_true, true_or, not_false_eq_true, ite_self, ite_true, ite_false, reduceIte, Nat.reduceEqDiff, Nat.reduceMul, Nat.reduceAdd, Nat.reduceLT, Nat.reducePow, ne_eq]⟩
  | succ m ih =>
    intro N j V' hj hN hS
    obtain ⟨N, rfl⟩ : ∃ N', N = N' + 1 := ⟨N - 1, by omega⟩
    have f1 := hS.1 1704 (by decide)
    have hct : cntV V' 1401 = n := cnt_n (by decide) (by omega) (by rw [hS.1 1401 (by decide)]; exact hO.2.1)
    have hle : ¬ c ≤ j := by omega
    obtain ⟨V1, h1, h2⟩ := c_one (fu := fu) (L := 98) hfu hO (by decide) hS hi (show j < cV V i by omega) (fun W => F_X4_lowestBar_59 fu W b (nI i) (nI j)) (fun W => Lp_X4_lowestBar_28 (F_X4_lowestBar_59 fu) kx fu N W b (nI i) (nI i) (nI j + 1))
    have hst : Lp_X4_lowestBar_28 (F_X4_lowestBar_59 fu) kx fu (N + 1) V' b (nI i) (nI i) (nI j) = if TV V wo wk t n 98 fs i j = true then F_X4_lowestBar_59 fu V1 b (nI i) (nI j) else Lp_X4_lowestBar_28 (F_X4_lowestBar_59 fu) kx fu N V1 b (nI i) (nI i) (nI j + 1) := by
      rw [← h2]
      simp (disch := omega) only [Lp_X4_lowestBar_28, F_X4_lowestBar_28, F_X4_lowestBar_70, hct, f1, hcn, hle, nI_leI, nI_pos, nI_clamp, not_false_eq_true, true_and, gd_t, if_false]
    by_cases hT : TV V wo wk t n 98 fs i j = true
    · refine ⟨V1, h1, ?_⟩
      rw [hst, if_pos hT, faJ, if_pos hT]
      simp only [F_X4_lowestBar_59, F_X4_lowestBar_69]
      split <;> rfl
    · obtain ⟨V2, s1, s2⟩ := ih N (j + 1) V1 (by omega) (by omega) h1
      refine ⟨V2, s1, ?_⟩
      rw [hst, if_neg hT, nI_1, s2, faJ, if_neg hT]
theorem lpL_out {fu n : Nat} {V : St} {wo wk t b : Int32} {fs : Nat → Int32} (hfu : 1000 ≤ fu) (hO : I_ord V n) : ∀ (m N i : Nat) (V' : St), i + m = n → m < N → CS V V' wo wk t n fs → ∃ V1, CS V V1 wo wk t n fs ∧ Lp_X4_lowestBar_2 (F_X4_lowestBar_59 fu) (F_X4_lowestBar_82 fu) fu N V' b (nI i) = match faI (TV V wo wk t n 98 fs) (cV V) m i with
    | some q => some (if b = 0 then nI q.2 else nI q.1, V1)
    | none => some (-1, V1) := by
  have h30 := hO.1
  intro m
  induction m with
  | zero =>
    intro N i V' hj hN hS
    obtain ⟨N, rfl⟩ : ∃ N', N = N' + 1 := ⟨N - 1, by omega⟩
    have f1 : V' 1401 0 0 = nI n := by rw [hS.1 1401 (by decide)]; exact hO.2.1
    have hle : n ≤ i := by omega
    exact ⟨V', hS, by simp (disch := omega) only [Lp_X4_lowestBar_2, F_X4_lowestBar_2, F_X4_lowestBar_82, f1, hle, faI, bd_some, n10, n00, bv_eq, within_eq, in_eq, gd_T, gd_t, i00, i10, c_0, c_1, c_m1, ite10, ite01, setV_fn, setV_at, cntS, nI_pos, nI_clamp, nI_leI, nI_ltI, nI_eq, nI_1, if_true, if_false, not_true, not_false, and_self, and_true, true_and, false_and, and_false, or_false, false_or, or_true, true_or, not_false_eq_true, ite_self, ite_true, ite_false, reduceIte, Nat.reduceEqDiff, Nat.reduceMul, Nat.reduceAdd, Nat.reduceLT, Nat.reducePow, ne_eq]⟩
  | succ m ih =>
    intro N i V' hj hN hS
    obtain ⟨N, rfl⟩ : ∃ N', N = N' + 1 := ⟨N - 1, by omega⟩
    obtain ⟨c, hc⟩ := hO.2.2.2 i (by omega)
    have hcc := hc.at (by omega)
    have hc12 := hc.1
    have f1 : V' 1401 0 0 = nI n := by rw [hS.1 1401 (by decide)]; exact hO.2.1
    have hct : cntV V' 1401 = n := cnt_n (by decide) (by omega) f1
    have hle : ¬ n ≤ i := by omega
    obtain ⟨V1, h1, h2⟩ := lpL_in (fu := fu) (b := b) (kx := F_X4_lowestBar_76 (Lp_X4_lowestBar_2 (F_X4_lowestBar_59 fu) (F_X4_lowestBar_82 fu) fu N) (F_X4_lowestBar_59 fu) (F_X4_lowestBar_82 fu) fu) hfu hO (show i < n by omega) (cV V i) fu 0 V' (by omega) (by omega) hS
    have hst : Lp_X4_lowestBar_2 (F_X4_lowestBar_59 fu) (F_X4_lowestBar_82 fu) fu (N + 1) V' b (nI i) = Lp_X4_lowestBar_28 (F_X4_lowestBar_59 fu) (F_X4_lowestBar_76 (Lp_X4_lowestBar_2 (F_X4_lowestBar_59 fu) (F_X4_lowestBar_82 fu) fu N) (F_X4_lowestBar_59 fu) (F_X4_lowestBar_82 fu) fu) fu fu V' b (nI i) (nI i) (nI 0) := by
      rw [nI_0]
      simp (disch := omega) only [Lp_X4_lowestBar_2, F_X4_lowestBar_2, f1, hct, hle, bd_some, n10, n00, bv_eq, within_eq, in_eq, gd_T, gd_t, i00, i10, c_0, c_1, c_m1, ite10, ite01, setV_fn, setV_at, cntS, nI_pos, nI_clamp, nI_leI, nI_ltI, nI_eq, nI_1, if_true, if_false, not_true, not_false, and_self, and_true, true_and, false_and, and_false, or_false, false_or, or_true, true_or, not_false_eq_true, ite_self, ite_true, ite_false, reduceIte, Nat.reduceEqDiff, Nat.reduceMul, Nat.reduceAdd, Nat.reduceLT, Nat.reducePow, ne_eq]
    rw [hst, h2]
    cases hq : faJ (TV V wo wk t n 98 fs) i (cV V i) 0 with
    | some q => exact ⟨V1, h1, by rw [faI, hq]⟩
    | none =>
      obtain ⟨V2, s1, s2⟩ := ih N (i + 1) V1 (by omega) (by omega) h1
      refine ⟨V2, s1, ?_⟩
      rw [faI, hq]
      show F_X4_lowestBar_76 _ _ _ _ _ _ _ = _
      rw [F_X4_lowestBar_76, nI_1]; exact s2
