/-! what counts: strikes and weigh, against one picture -/
def fcV (V : St) (wo wk t : Int32) (i : Nat) : Bool := decide (¬ nI i = wo ∧ V 2263 0 i ≤ t ∧ V 2261 0 i ≤ wk ∧ wk ≤ V 2262 0 i)
def cV (V : St) (i : Nat) : Nat := (V 2264 0 i).toNatClampNeg
def strS (fc : Nat → Bool) (ix : Nat → Bool) (a b : Nat → Nat) (i j : Nat) (σ : Nat → Bool) : Nat → Bool :=
  if (fc i && ix (12 * i + j) && !σ (12 * i + j) && decide (a (12 * i + j) < i) && fc (a (12 * i + j))) = true then fun q => if q = 12 * a (12 * i + j) + b (12 * i + j) then true else σ q else σ
def strJ (fc : Nat → Bool) (ix : Nat → Bool) (a b : Nat → Nat) (i : Nat) : Nat → Nat → (Nat → Bool) → Nat → Bool
  | 0, _, σ => σ
  | m + 1, j, σ => strJ fc ix a b i m (j + 1) (strS fc ix a b i j σ)
def strI (fc : Nat → Bool) (ix : Nat → Bool) (a b c : Nat → Nat) : Nat → (Nat → Bool) → Nat → Bool
  | 0, σ => σ
  | i + 1, σ => strI fc ix a b c i (strJ fc ix a b i (c i) 0 σ)
theorem strJ_off {fc ix : Nat → Bool} {a b : Nat → Nat} {i : Nat} (h : fc i = false) : ∀ m j σ, strJ fc ix a b i m j σ = σ := by
  intro m
  induction m with
  | zero => intro j σ; rfl
  | succ m ih => intro j σ; unfold strJ; rw [ih]; unfold strS; simp [h]
def ixV (V : St) (q : Nat) : Bool := decide (V 2265 0 q = 120)
def aV (V : St) (q : Nat) : Nat := (V 2268 0 q).toNatClampNeg
def bV (V : St) (q : Nat) : Nat := (V 2269 0 q).toNatClampNeg
def RefS (V : St) (σ : Nat → Bool) (n : Nat) : Prop := ∀ q, q < 12 * n → V 2270 0 q = if σ q = true then 1 else 0
theorem force_eq {fu : Nat} {V : St} {i : Nat} {wk t : Int32} (hi : i < 30) : f_X12_isForce fu V (nI i) wk t = some (if fcV V (V 2259 0 0) wk t i = true then 1 else 0, V) := by
  simp (disch := omega) only [f_X12_isForce, F_X12_isForce_41, F_X12_isForce_42, bd_some, n10, n00, bv_eq, within_eq, in_eq, gd_T, gd_t, i00, i10, c_0, c_1, c_m1, ite10, ite01, setV_fn, setV_at, cntS, nI_pos, nI_clamp, nI_leI, nI_ltI, nI_eq, nI_1, if_true, if_false, not_true, not_false, and_self, and_true, true_and, false_and, and_false, or_false, false_or, or_true, true_or, not_false_eq_true, ite_self, ite_true, ite_false, reduceIte, Nat.reduceEqDiff, Nat.reduceMul, Nat.reduceAdd, Nat.reduceLT, Nat.reducePow, ne_eq]
  unfold fcV
  by_cases h1 : nI i = V 2259 0 0
  · simp [h1, gd]
  · by_cases h2 : t < V 2263 0 i
    · have h2' : ¬ V 2263 0 i ≤ t := by grind
      simp [h1, h2, h2', gd]
    · have h2' : V 2263 0 i ≤ t := by grind
      by_cases h3 : V 2261 0 i ≤ wk ∧ wk ≤ V 2262 0 i
      · simp [h1, h2, h2', h3, gd]
      · simp [h1, h2, h2', h3, gd]
theorem lpS_clear {fu n : Nat} {wk t : Int32} {kx : St → Int32 → Int32 → RR} (h30 : n ≤ 30) : ∀ (m N j : Nat) (V : St), V 2258 0 0 = nI n → j + m = 12 * n → m < N → ∃ V1, Lp_X12_strikes_2 kx fu N V wk t (nI j) = kx V1 wk t ∧ Fr [2270] V V1 ∧ ∀ q, q < 12 * n → V1 2270 0 q = if j ≤ q then 0 else V 2270 0 q := by
  intro m
  induction m with
  | zero =>
    intro N j V hn hj hN
    obtain ⟨N, rfl⟩ : ∃ N', N = N' + 1 := ⟨N - 1, by omega⟩
    have e : (12 : Int32) * nI n = nI (12 * n) := by rw [← pk_mul]; rfl
    have hni : 12 * n ≤ j := by omega
    refine ⟨V, ?_, Fr.refl _ V, fun q hq => by rw [if_neg (by omega)]⟩
    simp (disch := omega) only [Lp_X12_strikes_2, F_X12_strikes_2, hn, e, hni, bd_some, n10, n00, bv_eq, within_eq, in_eq, gd_T, gd_t, i00, i10, c_0, c_1, c_m1, ite10, ite01, setV_fn, setV_at, cntS, nI_pos, nI_clamp, nI_leI, nI_ltI, nI_eq, nI_1, if_true, if_false, not_true, not_false, and_self, and_true, true_and, false_and, and_false, or_false, false_or, or_true, true_or, not_false_eq_true, ite_self, ite_true, ite_false, reduceIte, Nat.reduceEqDiff, Nat.reduceMul, Nat.reduceAdd, Nat.reduceLT, Nat.reducePow, ne_eq]
  | succ m ih =>
    intro N j V hn hj hN
    obtain ⟨N, rfl⟩ : ∃ N', N = N' + 1 := ⟨N - 1, by omega⟩
    have e : (12 : Int32) * nI n = nI (12 * n) := by rw [← pk_mul]; rfl
    have hni : ¬ 12 * n ≤ j := by omega
    obtain ⟨V1, e1, e2, e3⟩ := ih N (j + 1) (setV V 2270 0 j 0) (by simp (disch := omega) only [setV_fn]; exact hn) (by omega) (by omega)
    refine ⟨V1, ?_, (show Fr [2270] V (setV V 2270 0 j 0) from (Fr.refl _ V).set (by decide)).trans e2, fun q hq => ?_⟩
    · simp (disch := omega) only [Lp_X12_strikes_2, F_X12_strikes_2, hn, e, hni, bd_some, n10, n00, bv_eq, within_eq, in_eq, gd_T, gd_t, i00, i10, c_0, c_1, c_m1, ite10, ite01, setV_fn, setV_at, cntS, nI_pos, nI_clamp, nI_leI, nI_ltI, nI_eq, nI_1, if_true, if_false, not_true, not_false, and_self, and_true, true_and, false_and, and_false, or_false, false_or, or_true, true_or, not_false_eq_true, ite_self, ite_true, ite_false, reduceIte, Nat.reduceEqDiff, Nat.reduceMul, Nat.reduceAdd, Nat.reduceLT, Nat.reducePow, ne_eq]; exact e1
    · rw [e3 q hq, setV_at]; clear e3 ih; by_cases hk : q = j <;> grind
theorem OrdV.at {V : St} {i c : Nat} (h : OrdV V i c) (hi : i < 30) : cV V i = c := by
  unfold cV; rw [h.2.2.2.2.2.1, nI_clamp (by have := h.1; omega)]
theorem lpS_in {fu n i : Nat} {V : St} {wk t : Int32} {kx : St → Int32 → Int32 → Int32 → RR} (hO : I_ord V n) (hi : i < n) : ∀ (m N j : Nat) (V' : St) (σ : Nat → Bool), j + m = cV V i → m < N → Fr [2270] V V' → RefS V' σ n → ∃ V'', Lp_X12_strikes_40 kx fu N V' wk t (nI i) (nI j) = kx V'' wk t (nI i) ∧ Fr [2270] V V'' ∧ RefS V'' (strJ (fcV V (V 2259 0 0) wk t) (ixV V) (aV V) (bV V) i m j σ) n := by
  obtain ⟨h30, hn1, hn2, hx⟩ := hO
  obtain ⟨c, hc⟩ := hx i hi
  have hcc := hc.at (by omega)
  have hc12 := hc.1
  have hcn := hc.2.2.2.2.2.1
  intro m
  induction m with
  | zero =>
    intro N j V' σ hj hN hF hS
    obtain ⟨N, rfl⟩ : ∃ N', N = N' + 1 := ⟨N - 1, by omega⟩
    have hni : c ≤ j := by omega
    have e1 := hF 2264 (by decide)
    exact ⟨V', by simp (disch := omega) only [Lp_X12_strikes_40, F_X12_strikes_40, e1, hcn, hni, bd_some, n10, n00, bv_eq, within_eq, in_eq, gd_T, gd_t, i00, i10, c_0, c_1, c_m1, ite10, ite01, setV_fn, setV_at, cntS, nI_pos, nI_clamp, nI_leI, nI_ltI, nI_eq, nI_1, if_true, if_false, not_true, not_false, and_self, and_true, true_and, false_and, and_false, or_false, false_or, or_true, true_or, not_false_eq_true, ite_self, ite_true, ite_false, reduceIte, Nat.reduceEqDiff, Nat.reduceMul, Nat.reduceAdd, Nat.reduceLT, Nat.reducePow, ne_eq], hF, hS⟩
  | succ m ih =>
    intro N j V' σ hj hN hF hS
    obtain ⟨N, rfl⟩ : ∃ N', N = N' + 1 := ⟨N - 1, by omega⟩
    have hni : ¬ c ≤ j := by omega
    have e1 := hF 2264 (by decide)
    have e2 := hF 2265 (by decide)
    have e3 := hF 2268 (by decide)
    have e4 := hF 2269 (by decide)
    have hfe : ∀ i, i < 30 → f_X12_isForce fu V' (nI i) wk t = some (if fcV V (V 2259 0 0) wk t i = true then 1 else 0, V') := fun i hi => by
      rw [force_eq hi]; unfold fcV; rw [hF 2259 (by decide), hF 2263 (by decide), hF 2261 (by decide), hF 2262 (by decide)]
    obtain ⟨d1, d2, d3, d4, d5⟩ := hc.2.2.2.2.2.2 j (by omega)
    by_cases hf : fcV V (V 2259 0 0) wk t i = true
    · by_cases hl : V 2265 0 (12 * i + j) = 120
      · obtain ⟨a, b, ha, hb, g1, g2, g3⟩ := d4 hl
        have hs := hS (12 * i + j) (by omega)
        have ea : aV V (12 * i + j) = a := by unfold aV; rw [g1, nI_clamp (by omega)]
        have eb : bV V (12 * i + j) = b := by unfold bV; rw [g3, nI_clamp (by omega)]
        have ex : ixV V (12 * i + j) = true := by unfold ixV; rw [hl]; rfl
        by_cases hσ : σ (12 * i + j) = true
        · obtain ⟨V'', r1, r2, r3⟩ := ih N (j + 1) V' σ (by omega) (by omega) hF hS
          refine ⟨V'', ?_, r2, ?_⟩
          · rw [hσ, if_pos rfl] at hs
            simp (disch := omega) only [Lp_X12_strikes_40, F_X12_strikes_40, F_X12_strikes_143, e1, e2, hcn, hni, hfe i (by omega), hf, hl, hs, ix12, bd_some, n10, n00, bv_eq, within_eq, in_eq, gd_T, gd_t, i00, i10, c_0, c_1, c_m1, ite10, ite01, setV_fn, setV_at, cntS, nI_pos, nI_clamp, nI_leI, nI_ltI, nI_eq, nI_1, if_true, if_false, not_true, not_false, and_self, and_true, true_and, false_and, and_false, or_false, false_or, or_true, true_or, not_false_eq_true, ite_self, ite_true, ite_false, reduceIte, Nat.reduceEqDiff, Nat.reduceMul, Nat.reduceAdd, Nat.reduceLT, Nat.reducePow, ne_eq]; exact r1
          · rw [strJ]; have : strS (fcV V (V 2259 0 0) wk t) (ixV V) (aV V) (bV V) i j σ = σ := by unfold strS; simp [hσ]
            rw [this]; exact r3
        · rw [if_neg hσ] at hs
          by_cases hai : a < i
          · have hai' : ¬ i ≤ a := by omega
            by_cases hfa : fcV V (V 2259 0 0) wk t a = true
            · have hstr : strS (fcV V (V 2259 0 0) wk t) (ixV V) (aV V) (bV V) i j σ = fun q => if q = 12 * a + b then true else σ q := by unfold strS; rw [ea, eb]; simp [hσ, hf, ex, hai, hfa]
              obtain ⟨V'', r1, r2, r3⟩ := ih N (j + 1) (setV V' 2270 0 (12 * a + b) 1) (fun q => if q = 12 * a + b then true else σ q) (by omega) (by omega) (hF.set (by decide)) (fun q hq => by
                rw [setV_at]; have := hS q hq; by_cases hq2 : q = 12 * a + b <;> simp [hq2, this])
              refine ⟨V'', ?_, r2, by rw [strJ, hstr]; exact r3⟩
              simp (disch := omega) only [Lp_X12_strikes_40, F_X12_strikes_40, F_X12_strikes_143, e1, e2, e3, e4, hcn, hni, hfe i (by omega), hfe a (by omega), hf, hfa, hl, hs, g1, g3, hai', ix12, bd_some, n10, n00, bv_eq, within_eq, in_eq, gd_T, gd_t, i00, i10, c_0, c_1, c_m1, ite10, ite01, setV_fn, setV_at, cntS, nI_pos, nI_clamp, nI_leI, nI_ltI, nI_eq, nI_1, if_true, if_false, not_true, not_false, and_self, and_true, true_and, false_and, and_false, or_false, false_or, or_true, true_or, not_false_eq_true, ite_self, ite_true, ite_false, reduceIte, Nat.reduceEqDiff, Nat.reduceMul, Nat.reduceAdd, Nat.reduceLT, Nat.reducePow, ne_eq]; exact r1
            · obtain ⟨V'', r1, r2, r3⟩ := ih N (j + 1) V' σ (by omega) (by omega) hF hS
              refine ⟨V'', ?_, r2, ?_⟩
              · simp (disch := omega) only [Lp_X12_strikes_40, F_X12_strikes_40, F_X12_strikes_143, e1, e2, e3, e4, hcn, hni, hfe i (by omega), hfe a (by omega), hf, hfa, hl, hs, g1, g3, hai', ix12, bd_some, n10, n00, bv_eq, within_eq, in_eq, gd_T, gd_t, i00, i10, c_0, c_1, c_m1, ite10, ite01, setV_fn, setV_at, cntS, nI_pos, nI_clamp, nI_leI, nI_ltI, nI_eq, nI_1, if_true, if_false, not_true, not_false, and_self, and_true, true_and, false_and, and_false, or_false, false_or, or_true, true_or, not_false_eq_true, ite_self, ite_true, ite_false, reduceIte, Nat.reduceEqDiff, Nat.reduceMul, Nat.reduceAdd, Nat.reduceLT, Nat.reducePow, ne_eq]; exact r1
              · rw [strJ]; have : strS (fcV V (V 2259 0 0) wk t) (ixV V) (aV V) (bV V) i j σ = σ := by unfold strS; rw [ea]; simp [hfa]
                rw [this]; exact r3
          · have hai' : i ≤ a := by omega
            obtain ⟨V'', r1, r2, r3⟩ := ih N (j + 1) V' σ (by omega) (by omega) hF hS
            refine ⟨V'', ?_, r2, ?_⟩
            · simp (disch := omega) only [Lp_X12_strikes_40, F_X12_strikes_40, F_X12_strikes_143, e1, e2, e3, e4, hcn, hni, hfe i (by omega), hf, hl, hs, g1, g3, hai', ix12, bd_some, n10, n00, bv_eq, within_eq, in_eq, gd_T, gd_t, i00, i10, c_0, c_1, c_m1, ite10, ite01, setV_fn, setV_at, cntS, nI_pos, nI_clamp, nI_leI, nI_ltI, nI_eq, nI_1, if_true, if_false, not_true, not_false, and_self, and_true, true_and, false_and, and_false, or_false, false_or, or_true, true_or, not_false_eq_true, ite_self, ite_true, ite_false, reduceIte, Nat.reduceEqDiff, Nat.reduceMul, Nat.reduceAdd, Nat.reduceLT, Nat.reducePow, ne_eq]; exact r1
            · rw [strJ]; have : strS (fcV V (V 2259 0 0) wk t) (ixV V) (aV V) (bV V) i j σ = σ := by unfold strS; rw [ea]; simp [hai]
              rw [this]; exact r3
      · obtain ⟨V'', r1, r2, r3⟩ := ih N (j + 1) V' σ (by omega) (by omega) hF hS
        refine ⟨V'', ?_, r2, ?_⟩
        · simp (disch := omega) only [Lp_X12_strikes_40, F_X12_strikes_40, F_X12_strikes_143, e1, e2, hcn, hni, hfe i (by omega), hf, hl, ix12, bd_some, n10, n00, bv_eq, within_eq, in_eq, gd_T, gd_t, i00, i10, c_0, c_1, c_m1, ite10, ite01, setV_fn, setV_at, cntS, nI_pos, nI_clamp, nI_leI, nI_ltI, nI_eq, nI_1, if_true, if_false, not_true, not_false, and_self, and_true, true_and, false_and, and_false, or_false, false_or, or_true, true_or, not_false_eq_true, ite_self, ite_true, ite_false, reduceIte, Nat.reduceEqDiff, Nat.reduceMul, Nat.reduceAdd, Nat.reduceLT, Nat.reducePow, ne_eq]; exact r1
        · rw [strJ]; have : strS (fcV V (V 2259 0 0) wk t) (ixV V) (aV V) (bV V) i j σ = σ := by unfold strS ixV; simp [hl]
          rw [this]; exact r3
    · refine ⟨V', ?_, hF, by rw [strJ_off (by simpa using hf)]; exact hS⟩
      simp (disch := omega) only [Lp_X12_strikes_40, F_X12_strikes_40, F_X12_strikes_143, e1, e2, hcn, hni, hfe i (by omega), hf, bd_some, n10, n00, bv_eq, within_eq, in_eq, gd_T, gd_t, i00, i10, c_0, c_1, c_m1, ite10, ite01, setV_fn, setV_at, cntS, nI_pos, nI_clamp, nI_leI, nI_ltI, nI_eq, nI_1, if_true, if_false, not_true, not_false, and_self, and_true, true_and, false_and, and_false, or_false, false_or, or_true, true_or, not_false_eq_true, ite_self, ite_true, ite_false, reduceIte, Nat.reduceEqDiff, Nat.reduceMul, Nat.reduceAdd, Nat.reduceLT, Nat.reducePow, ne_eq]
      rfl
