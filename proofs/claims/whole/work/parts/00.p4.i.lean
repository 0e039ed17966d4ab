/-! bombed, dockets closed, isTrue, look -/
def cF (p : Nat → Bool) : Nat → Nat → Nat
  | 0, _ => 0
  | m + 1, i => (if p i = true then 1 else 0) + cF p m (i + 1)
theorem cF_le (p : Nat → Bool) : ∀ m i, cF p m i ≤ m := by
  intro m
  induction m with
  | zero => intro i; exact Nat.le_refl 0
  | succ m ih => intro i; have := ih (i + 1); unfold cF; split <;> omega
theorem lp_bomb1 {fu n o : Nat} {p : Nat → Bool} : ∀ (m N i c : Nat) (V : St), n ≤ 60 → V 2109 0 0 = nI n → i + m = n → m < N → (∀ k, i ≤ k → k < n → (p k = true ↔ ¬ V 1105 k 0 = 0 ∧ V 1101 k 0 = nI o ∧ ¬ V 1104 k 0 = 99)) → ∃ V1, Lp_X11_bombed_14 (F_X11_bombed_81 fu) fu N V (nI o) (nI c) (nI i) = some (nI (c + cF p m i), V1) ∧ Fr [1104] V V1 ∧ ∀ k, V1 1104 k 0 = if i ≤ k ∧ k < n ∧ p k = true then 99 else V 1104 k 0 := by
  intro m
  induction m with
  | zero =>
    intro N i c V h60 hn1 hi hN hp
    obtain ⟨N, rfl⟩ : ∃ N', N = N' + 1 := ⟨N - 1, by omega⟩
    have hni : n ≤ i := by omega
    refine ⟨V, ?_, Fr.refl _ V, fun k => ?_⟩
    · simp (disch := omega) only [Lp_X11_bombed_14, F_X11_bombed_14, F_X11_bombed_81, hn1, hni, cF, Nat.add_zero, bd_some, n10, n00, bv_eq, within_eq, in_eq, gd_T, gd_t, i00, i10, c_0, c_1, c_m1, ite10, ite01, setV_fn, setV_at, cntS, nI_pos, nI_clamp, nI_leI, nI_ltI, nI_eq, nI_1, if_true, if_false, not_true, not_false, and_self, and_true, true_and, false_and, and_false, or_false, false_or, or_true, true_or, not_false_eq_true, ite_self, ite_true, ite_false, reduceIte, Nat.reduceEqDiff, Nat.reduceMul, Nat.reduceAdd, Nat.reduceLT, Nat.reducePow, ne_eq]
    · rw [if_neg (by omega)]
  | succ m ih =>
    intro N i c V h60 hn1 hi hN hp
    obtain ⟨N, rfl⟩ : ∃ N', N = N' + 1 := ⟨N - 1, by omega⟩
    have hni : ¬ n ≤ i := by omega
    have hc : cntV V 2109 = n := cnt_n (by decide) (by omega) hn1
    have hpi := hp i (by omega) (by omega)
    by_cases hb : p i = true
    · obtain ⟨b1, b2, b3⟩ := hpi.mp hb
      obtain ⟨V1, e1, e2, e3⟩ := ih N (i + 1) (c + 1) (setV V 1104 i 0 99) h60 (by simp (disch := omega) only [setV_fn]; exact hn1) (by omega) (by omega) (fun k hk hk2 => by
        have hne : ¬ k = i := by omega
        simp (disch := omega) only [setV_fn, setV_at, hne, false_and, if_false]; exact hp k (by omega) hk2)
      refine ⟨V1, ?_, (show Fr [1104] V (setV V 1104 i 0 99) from (Fr.refl _ V).set (by decide)).trans e2, fun k => ?_⟩
      · simp (disch := omega) only [Lp_X11_bombed_14, F_X11_bombed_14, F_X11_bombed_75, hn1, hni, hc, b1, b2, b3, bd_some, n10, n00, bv_eq, within_eq, in_eq, gd_T, gd_t, i00, i10, c_0, c_1, c_m1, ite10, ite01, setV_fn, setV_at, cntS, nI_pos, nI_clamp, nI_leI, nI_ltI, nI_eq, nI_1, if_true, if_false, not_true, not_false, and_self, and_true, true_and, false_and, and_false, or_false, false_or, or_true, true_or, not_false_eq_true, ite_self, ite_true, ite_false, reduceIte, Nat.reduceEqDiff, Nat.reduceMul, Nat.reduceAdd, Nat.reduceLT, Nat.reducePow, ne_eq]
        rw [e1, cF, if_pos hb]; congr 3; omega
      · rw [e3 k, setV_at]
        clear ih hp hpi e3
        by_cases hk : k = i <;> grind
    · obtain ⟨V1, e1, e2, e3⟩ := ih N (i + 1) c V h60 hn1 (by omega) (by omega) (fun k hk hk2 => hp k (by omega) hk2)
      refine ⟨V1, ?_, e2, fun k => ?_⟩
      · rw [cF, if_neg hb, Nat.zero_add]
        by_cases b1 : V 1105 i 0 = 0
        · simp (disch := omega) only [Lp_X11_bombed_14, F_X11_bombed_14, F_X11_bombed_75, hn1, hni, hc, b1, bd_some, n10, n00, bv_eq, within_eq, in_eq, gd_T, gd_t, i00, i10, c_0, c_1, c_m1, ite10, ite01, setV_fn, setV_at, cntS, nI_pos, nI_clamp, nI_leI, nI_ltI, nI_eq, nI_1, if_true, if_false, not_true, not_false, and_self, and_true, true_and, false_and, and_false, or_false, false_or, or_true, true_or, not_false_eq_true, ite_self, ite_true, ite_false, reduceIte, Nat.reduceEqDiff, Nat.reduceMul, Nat.reduceAdd, Nat.reduceLT, Nat.reducePow, ne_eq]; exact e1
        · by_cases b2 : V 1101 i 0 = nI o
          · have b3 : V 1104 i 0 = 99 := Decidable.byContradiction (fun q => hb (hpi.mpr ⟨b1, b2, q⟩))
            simp (disch := omega) only [Lp_X11_bombed_14, F_X11_bombed_14, F_X11_bombed_75, hn1, hni, hc, b1, b2, b3, bd_some, n10, n00, bv_eq, within_eq, in_eq, gd_T, gd_t, i00, i10, c_0, c_1, c_m1, ite10, ite01, setV_fn, setV_at, cntS, nI_pos, nI_clamp, nI_leI, nI_ltI, nI_eq, nI_1, if_true, if_false, not_true, not_false, and_self, and_true, true_and, false_and, and_false, or_false, false_or, or_true, true_or, not_false_eq_true, ite_self, ite_true, ite_false, reduceIte, Nat.reduceEqDiff, Nat.reduceMul, Nat.reduceAdd, Nat.reduceLT, Nat.reducePow, ne_eq]; exact e1
          · simp (disch := omega) only [Lp_X11_bombed_14, F_X11_bombed_14, F_X11_bombed_75, hn1, hni, hc, b1, b2, bd_some, n10, n00, bv_eq, within_eq, in_eq, gd_T, gd_t, i00, i10, c_0, c_1, c_m1, ite10, ite01, setV_fn, setV_at, cntS, nI_pos, nI_clamp, nI_leI, nI_ltI, nI_eq, nI_1, if_true, if_false, not_true, not_false, and_self, and_true, true_and, false_and, and_false, or_false, false_or, or_true, true_or, not_false_eq_true, ite_self, ite_true, ite_false, reduceIte, Nat.reduceEqDiff, Nat.reduceMul, Nat.reduceAdd, Nat.reduceLT, Nat.reducePow, ne_eq]; exact e1
      · rw [e3 k]
        clear ih hp hpi e3
        by_cases hk : k = i <;> grind
theorem lp_bomb2 {fu n o : Nat} {p : Nat → Bool} : ∀ (m N i c : Nat) (V : St), n ≤ 60 → V 2280 0 0 = nI n → i + m = n → m < N → (∀ k, i ≤ k → k < n → (p k = true ↔ ¬ V 2285 0 k = 0 ∧ V 2281 0 k = nI o ∧ ¬ V 2284 0 k = 99)) → ∃ V1, Lp_X12_bombed_14 (F_X12_bombed_73 fu) fu N V (nI o) (nI c) (nI i) = some (nI (c + cF p m i), V1) ∧ Fr [2284] V V1 ∧ ∀ k, V1 2284 0 k = if i ≤ k ∧ k < n ∧ p k = true then 99 else V 2284 0 k := by
  intro m
  induction m with
  | zero =>
    intro N i c V h60 hn1 hi hN hp
    obtain ⟨N, rfl⟩ : ∃ N', N = N' + 1 := ⟨N - 1, by omega⟩
    have hni : n ≤ i := by omega
    refine ⟨V, ?_, Fr.refl _ V, fun k => ?_⟩
    · simp (disch := omega) only [Lp_X12_bombed_14, F_X12_bombed_14, F_X12_bombed_73, hn1, hni, cF, Nat.add_zero, bd_some, n10, n00, bv_eq, within_eq, in_eq, gd_T, gd_t, i00, i10, c_0, c_1, c_m1, ite10, ite01, setV_fn, setV_at, cntS, nI_pos, nI_clamp, nI_leI, nI_ltI, nI_eq, nI_1, if_true, if_false, not_true, not_false, and_self, and_true, true_and, false_and, and_false, or_false, false_or, or_true, true_or, not_false_eq_true, ite_self, ite_true, ite_false, reduceIte, Nat.reduceEqDiff, Nat.reduceMul, Nat.reduceAdd, Nat.reduceLT, Nat.reducePow, ne_eq]
    · rw [if_neg (by omega)]
  | succ m ih =>
    intro N i c V h60 hn1 hi hN hp
    obtain ⟨N, rfl⟩ : ∃ N', N = N' + 1 := ⟨N - 1, by omega⟩
    have hni : ¬ n ≤ i := by omega
    have hpi := hp i (by omega) (by omega)
    by_cases hb : p i = true
    · obtain ⟨b1, b2, b3⟩ := hpi.mp hb
      obtain ⟨V1, e1, e2, e3⟩ := ih N (i + 1) (c + 1) (setV V 2284 0 i 99) h60 (by simp (disch := omega) only [setV_fn]; exact hn1) (by omega) (by omega) (fun k hk hk2 => by
        have hne : ¬ k = i := by omega
        simp (disch := omega) only [setV_fn, setV_at, hne, and_false, if_false]; exact hp k (by omega) hk2)
      refine ⟨V1, ?_, (show Fr [2284] V (setV V 2284 0 i 99) from (Fr.refl _ V).set (by decide)).trans e2, fun k => ?_⟩
      · simp (disch := omega) only [Lp_X12_bombed_14, F_X12_bombed_14, F_X12_bombed_67, hn1, hni, b1, b2, b3, bd_some, n10, n00, bv_eq, within_eq, in_eq, gd_T, gd_t, i00, i10, c_0, c_1, c_m1, ite10, ite01, setV_fn, setV_at, cntS, nI_pos, nI_clamp, nI_leI, nI_ltI, nI_eq, nI_1, if_true, if_false, not_true, not_false, and_self, and_true, true_and, false_and, and_false, or_false, false_or, or_true, true_or, not_false_eq_true, ite_self, ite_true, ite_false, reduceIte, Nat.reduceEqDiff, Nat.reduceMul, Nat.reduceAdd, Nat.reduceLT, Nat.reducePow, ne_eq]
        rw [e1, cF, if_pos hb]; congr 3; omega
      · rw [e3 k, setV_at]
        clear ih hp hpi e3
        by_cases hk : k = i <;> grind
    · obtain ⟨V1, e1, e2, e3⟩ := ih N (i + 1) c V h60 hn1 (by omega) (by omega) (fun k hk hk2 => hp k (by omega) hk2)
      refine ⟨V1, ?_, e2, fun k => ?_⟩
      · rw [cF, if_neg hb, Nat.zero_add]
        by_cases b2 : V 2281 0 i = nI o
        · by_cases b1 : V 2285 0 i = 0
          · simp (disch := omega) only [Lp_X12_bombed_14, F_X12_bombed_14, F_X12_bombed_67, hn1, hni, b1, b2, bd_some, n10, n00, bv_eq, within_eq, in_eq, gd_T, gd_t, i00, i10, c_0, c_1, c_m1, ite10, ite01, setV_fn, setV_at, cntS, nI_pos, nI_clamp, nI_leI, nI_ltI, nI_eq, nI_1, if_true, if_false, not_true, not_false, and_self, and_true, true_and, false_and, and_false, or_false, false_or, or_true, true_or, not_false_eq_true, ite_self, ite_true, ite_false, reduceIte, Nat.reduceEqDiff, Nat.reduceMul, Nat.reduceAdd, Nat.reduceLT, Nat.reducePow, ne_eq]; exact e1
          · have b3 : V 2284 0 i = 99 := Decidable.byContradiction (fun q => hb (hpi.mpr ⟨b1, b2, q⟩))
            simp (disch := omega) only [Lp_X12_bombed_14, F_X12_bombed_14, F_X12_bombed_67, hn1, hni, b1, b2, b3, bd_some, n10, n00, bv_eq, within_eq, in_eq, gd_T, gd_t, i00, i10, c_0, c_1, c_m1, ite10, ite01, setV_fn, setV_at, cntS, nI_pos, nI_clamp, nI_leI, nI_ltI, nI_eq, nI_1, if_true, if_false, not_true, not_false, and_self, and_true, true_and, false_and, and_false, or_false, false_or, or_true, true_or, not_false_eq_true, ite_self, ite_true, ite_false, reduceIte, Nat.reduceEqDiff, Nat.reduceMul, Nat.reduceAdd, Nat.reduceLT, Nat.reducePow, ne_eq]; exact e1
        · simp (disch := omega) only [Lp_X12_bombed_14, F_X12_bombed_14, F_X12_bombed_67, hn1, hni, b2, bd_some, n10, n00, bv_eq, within_eq, in_eq, gd_T, gd_t, i00, i10, c_0, c_1, c_m1, ite10, ite01, setV_fn, setV_at, cntS, nI_pos, nI_clamp, nI_leI, nI_ltI, nI_eq, nI_1, if_true, if_false, not_true, not_false, and_self, and_true, true_and, false_and, and_false, or_false, false_or, or_true, true_or, not_false_eq_true, ite_self, ite_true, ite_false, reduceIte, Nat.reduceEqDiff, Nat.reduceMul, Nat.reduceAdd, Nat.reduceLT, Nat.reducePow, ne_eq]; exact e1
      · rw [e3 k]
        clear ih hp hpi e3
        by_cases hk : k = i <;> grind
theorem P_bombed {fu k : Nat} {V : St} (hfu : 1000 ≤ fu) (hI : Inv k V) (x : Int32) : Step k (fun V => f_X11_bombed fu V x) (fun V => f_X12_bombed fu V x) V := by
  have hI' := hI
  obtain ⟨nC, nD, nT, nM, nP, nK, nS, nR, nL, nO, hL, hmi, hta, hcl, hdr, hth, hla, hma, hor, hpe, hdo, hse, hru, hmk⟩ := hI
  have h40 := hpe.1
  obtain ⟨h60, hn1, hn2, hx⟩ := hdo
  rcases ix_or x (show nP < 2 ^ 31 by omega) with hv | ⟨o, ho, rfl⟩
  · refine Step.same (r := -1) ?_ ?_ hI'
    · simp only [f_X11_bombed, findPerson_no hpe.2.1 (by omega) hv, bd_some, n10, n00, bv_eq, within_eq, in_eq, gd_T, gd_t, i00, i10, c_0, c_1, c_m1, ite10, ite01, setV_fn, setV_at, cntS, nI_pos, nI_clamp, nI_leI, nI_ltI, nI_eq, nI_1, if_true, if_false, not_true, not_false, and_self, and_true, true_and, false_and, and_false, or_false, false_or, or_true, true_or, not_false_eq_true, ite_self, ite_true, ite_false, reduceIte, Nat.reduceEqDiff, Nat.reduceMul, Nat.reduceAdd, Nat.reduceLT, Nat.reducePow, ne_eq]
    · simp only [f_X12_bombed, isPerson_no hpe.2.2.1 hv, bd_some, n10, n00, bv_eq, within_eq, in_eq, gd_T, gd_t, i00, i10, c_0, c_1, c_m1, ite10, ite01, setV_fn, setV_at, cntS, nI_pos, nI_clamp, nI_leI, nI_ltI, nI_eq, nI_1, if_true, if_false, not_true, not_false, and_self, and_true, true_and, false_and, and_false, or_false, false_or, or_true, true_or, not_false_eq_true, ite_self, ite_true, ite_false, reduceIte, Nat.reduceEqDiff, Nat.reduceMul, Nat.reduceAdd, Nat.reduceLT, Nat.reducePow, ne_eq]
  · have hp : ∀ q, q < nK → (decide (¬ V 2285 0 q = 0 ∧ V 2281 0 q = nI o ∧ ¬ V 2284 0 q = 99) = true ↔ ¬ V 2285 0 q = 0 ∧ V 2281 0 q = nI o ∧ ¬ V 2284 0 q = 99) := fun q hq => by rw [decide_eq_true_eq]
    obtain ⟨V1, e1, e2, e3⟩ := lp_bomb1 (fu := fu) (o := o) (p := fun q => decide (¬ V 2285 0 q = 0 ∧ V 2281 0 q = nI o ∧ ¬ V 2284 0 q = 99)) nK fu 0 0 V h60 hn1 (by omega) (by omega) (fun q _ hq => by
      obtain ⟨a1, a2, -, a3, a4, a5, -⟩ := hx q hq
      rw [a1, a4, a5]; exact hp q hq)
    obtain ⟨V2, g1, g2, g3⟩ := lp_bomb2 (fu := fu) (o := o) (p := fun q => decide (¬ V 2285 0 q = 0 ∧ V 2281 0 q = nI o ∧ ¬ V 2284 0 q = 99)) nK fu 0 0 V1 h60 (by rw [e2 2280 (by decide)]; exact hn2) (by omega) (by omega) (fun q _ hq => by
      rw [e2 2285 (by decide), e2 2281 (by decide), e2 2284 (by decide)]; exact hp q hq)
    have hF : Fr [1104, 2284] V V2 := (e2.weak (by decide)).trans (g2.weak (by decide))
    refine ⟨nI (0 + cF (fun q => decide (¬ V 2285 0 q = 0 ∧ V 2281 0 q = nI o ∧ ¬ V 2284 0 q = 99)) nK 0), V1, V2, ?_, ?_, ?_⟩
    · simp (disch := omega) only [f_X11_bombed, findPerson_ok hpe.2.1 (show nP ≤ 1000 by omega) ho, bd_some, n10, n00, bv_eq, within_eq, in_eq, gd_T, gd_t, i00, i10, c_0, c_1, c_m1, ite10, ite01, setV_fn, setV_at, cntS, nI_pos, nI_clamp, nI_leI, nI_ltI, nI_eq, nI_1, if_true, if_false, not_true, not_false, and_self, and_true, true_and, false_and, and_false, or_false, false_or, or_true, true_or, not_false_eq_true, ite_self, ite_true, ite_false, reduceIte, Nat.reduceEqDiff, Nat.reduceMul, Nat.reduceAdd, Nat.reduceLT, Nat.reducePow, ne_eq]; exact e1
    · simp (disch := omega) only [f_X12_bombed, isPerson_ok (show V1 2277 0 0 = nI nP by rw [e2 2277 (by decide)]; exact hpe.2.2.1) (show nP ≤ 1000 by omega) ho, bd_some, n10, n00, bv_eq, within_eq, in_eq, gd_T, gd_t, i00, i10, c_0, c_1, c_m1, ite10, ite01, setV_fn, setV_at, cntS, nI_pos, nI_clamp, nI_leI, nI_ltI, nI_eq, nI_1, if_true, if_false, not_true, not_false, and_self, and_true, true_and, false_and, and_false, or_false, false_or, or_true, true_or, not_false_eq_true, ite_self, ite_true, ite_false, reduceIte, Nat.reduceEqDiff, Nat.reduceMul, Nat.reduceAdd, Nat.reduceLT, Nat.reducePow, ne_eq]; exact g1
    · refine ⟨nC, nD, nT, nM, nP, nK, nS, nR, nL, nO, by omega, hmi.fr hF rfl, hta.fr hF rfl, hcl.fr hF rfl, hdr.fr hF rfl, hth.fr hF rfl, hla.fr hF rfl, hma.fr hF rfl, hor.fr hF rfl, hpe.fr hF rfl, ?_, hse.fr hF rfl, hru.fr hF rfl, hmk.fr hF rfl⟩
      refine ⟨h60, by rw [hF 2109 (by decide)]; exact hn1, by rw [hF 2280 (by decide)]; exact hn2, fun q hq => ?_⟩
      obtain ⟨a1, a2, a6, a3, a4, a5, a7⟩ := hx q hq
      have k1 := e3 q
      have k2 := g3 q
      rw [hF 1101 (by decide), hF 2281 (by decide), hF 1102 (by decide), hF 2282 (by decide), hF 1103 (by decide), hF 2283 (by decide), hF 1105 (by decide), hF 2285 (by decide), g2 1104 (by decide), k1, k2, e2 2284 (by decide), a4]
      exact ⟨a1, a2, a6, a3, rfl, a5, a7⟩
theorem lp_close1 {fu n : Nat} {xo xt : Int32} : ∀ (m N i : Nat) (V : St), n ≤ 60 → V 2109 0 0 = nI n → i + m = n → m < N → ∃ V1, Lp_X11_closeDockets_2 (F_X11_closeDockets_56 fu) fu N V xo xt (nI i) = some (0, V1) ∧ Fr [1105] V V1 ∧ ∀ k, V1 1105 k 0 = if i ≤ k ∧ k < n ∧ V 1101 k 0 = xo ∧ V 1102 k 0 = xt then 0 else V 1105 k 0 := by
  intro m
  induction m with
  | zero =>
    intro N i V h60 hn1 hi hN
    obtain ⟨N, rfl⟩ : ∃ N', N = N' + 1 := ⟨N - 1, by omega⟩
    have hni : n ≤ i := by omega
    refine ⟨V, ?_, Fr.refl _ V, fun k => ?_⟩
    · simp (disch := omega) only [Lp_X11_closeDockets_2, F_X11_closeDockets_2, F_X11_closeDockets_50, F_X11_closeDockets_56, hn1, hni, bd_some, n10, n00, bv_eq, within_eq, in_eq, gd_T, gd_t, i00, i10, c_0, c_1, c_m1, ite10, ite01, setV_fn, setV_at, cntS, nI_pos, nI_clamp, nI_leI, nI_ltI, nI_eq, nI_1, if_true, if_false, not_true, not_false, and_self, and_true, true_and, false_and, and_false, or_false, false_or, or_true, true_or, not_false_eq_true, ite_self, ite_true, ite_false, reduceIte, Nat.reduceEqDiff, Nat.reduceMul, Nat.reduceAdd, Nat.reduceLT, Nat.reducePow, ne_eq]
    · rw [if_neg (by omega)]
  | succ m ih =>
    intro N i V h60 hn1 hi hN
    obtain ⟨N, rfl⟩ : ∃ N', N = N' + 1 := ⟨N - 1, by omega⟩
    have hni : ¬ n ≤ i := by omega
    have hc : cntV V 2109 = n := cnt_n (by decide) (by omega) hn1
    by_cases b1 : V 1101 i 0 = xo
    · by_cases b2 : V 1102 i 0 = xt
      · obtain ⟨V1, e1, e2, e3⟩ := ih N (i + 1) (setV V 1105 i 0 0) h60 (by simp (disch := omega) only [setV_fn]; exact hn1) (by omega) (by omega)
        refine ⟨V1, ?_, (show Fr [1105] V (setV V 1105 i 0 0) from (Fr.refl _ V).set (by decide)).trans e2, fun k => ?_⟩
        · simp (disch := omega) only [Lp_X11_closeDockets_2, F_X11_closeDockets_2, F_X11_closeDockets_50, F_X11_closeDockets_56, hn1, hni, hc, b1, b2, bd_some, n10, n00, bv_eq, within_eq, in_eq, gd_T, gd_t, i00, i10, c_0, c_1, c_m1, ite10, ite01, setV_fn, setV_at, cntS, nI_pos, nI_clamp, nI_leI, nI_ltI, nI_eq, nI_1, if_true, if_false, not_true, not_false, and_self, and_true, true_and, false_and, and_false, or_false, false_or, or_true, true_or, not_false_eq_true, ite_self, ite_true, ite_false, reduceIte, Nat.reduceEqDiff, Nat.reduceMul, Nat.reduceAdd, Nat.reduceLT, Nat.reducePow, ne_eq]; exact e1
        · rw [e3 k]
          simp (disch := omega) only [setV_fn, setV_at]
          clear ih e3
          by_cases hk : k = i <;> grind
      · obtain ⟨V1, e1, e2, e3⟩ := ih N (i + 1) V h60 hn1 (by omega) (by omega)
        refine ⟨V1, ?_, e2, fun k => ?_⟩
        · simp (disch := omega) only [Lp_X11_closeDockets_2, F_X11_closeDockets_2, F_X11_closeDockets_50, F_X11_closeDockets_56, hn1, hni, hc, b1, b2, bd_some, n10, n00, bv_eq, within_eq, in_eq, gd_T, gd_t, i00, i10, c_0, c_1, c_m1, ite10, ite01, setV_fn, setV_at, cntS, nI_pos, nI_clamp, nI_leI, nI_ltI, nI_eq, nI_1, if_true, if_false, not_true, not_false, and_self, and_true, true_and, false_and, and_false, or_false, false_or, or_true, true_or, not_false_eq_true, ite_self, ite_true, ite_false, reduceIte, Nat.reduceEqDiff, Nat.reduceMul, Nat.reduceAdd, Nat.reduceLT, Nat.reducePow, ne_eq]; exact e1
        · rw [e3 k]
          clear ih e3
          by_cases hk : k = i <;> grind
    · obtain ⟨V1, e1, e2, e3⟩ := ih N (i + 1) V h60 hn1 (by omega) (by omega)
      refine ⟨V1, ?_, e2, fun k => ?_⟩
      · simp (disch := omega) only [Lp_X11_closeDockets_2, F_X11_closeDockets_2, F_X11_closeDockets_50, F_X11_closeDockets_56, hn1, hni, hc, b1, bd_some, n10, n00, bv_eq, within_eq, in_eq, gd_T, gd_t, i00, i10, c_0, c_1, c_m1, ite10, ite01, setV_fn, setV_at, cntS, nI_pos, nI_clamp, nI_leI, nI_ltI, nI_eq, nI_1, if_true, if_false, not_true, not_false, and_self, and_true, true_and, false_and, and_false, or_false, false_or, or_true, true_or, not_false_eq_true, ite_self, ite_true, ite_false, reduceIte, Nat.reduceEqDiff, Nat.reduceMul, Nat.reduceAdd, Nat.reduceLT, Nat.reducePow, ne_eq]; exact e1
      · rw [e3 k]
        clear ih e3
        by_cases hk : k = i <;> grind
theorem lp_close2 {fu n : Nat} {xo xt : Int32} {xp : Int32} : ∀ (m N i : Nat) (V : St), n ≤ 60 → V 2280 0 0 = nI n → i + m = n → m < N → ∃ V1, Lp_X12_buys_196 (F_X12_buys_241 fu) fu N V xo xt xp (nI i) = some (xp, V1) ∧ Fr [2285] V V1 ∧ ∀ k, V1 2285 0 k = if i ≤ k ∧ k < n ∧ V 2281 0 k = xo ∧ V 2282 0 k = xt then 0 else V 2285 0 k := by
  intro m
  induction m with
  | zero =>
    intro N i V h60 hn1 hi hN
    obtain ⟨N, rfl⟩ : ∃ N', N = N' + 1 := ⟨N - 1, by omega⟩
    have hni : n ≤ i := by omega
    refine ⟨V, ?_, Fr.refl _ V, fun k => ?_⟩
    · simp (disch := omega) only [Lp_X12_buys_196, F_X12_buys_196, F_X12_buys_235, F_X12_buys_241, hn1, hni, bd_some, n10, n00, bv_eq, within_eq, in_eq, gd_T, gd_t, i00, i10, c_0, c_1, c_m1, ite10, ite01, setV_fn, setV_at, cntS, nI_pos, nI_clamp, nI_leI, nI_ltI, nI_eq, nI_1, if_true, if_false, not_true, not_false, and_self, and_true, true_and, false_and, and_false, or_false, false_or, or_true, true_or, not_false_eq_true, ite_self, ite_true, ite_false, reduceIte, Nat.reduceEqDiff, Nat.reduceMul, Nat.reduceAdd, Nat.reduceLT, Nat.reducePow, ne_eq]
    · rw [if_neg (by omega)]
  | succ m ih =>
    intro N i V h60 hn1 hi hN
    obtain ⟨N, rfl⟩ : ∃ N', N = N' + 1 := ⟨N - 1, by omega⟩
    have hni : ¬ n ≤ i := by omega
    by_cases b1 : V 2281 0 i = xo
    · by_cases b2 : V 2282 0 i = xt
      · obtain ⟨V1, e1, e2, e3⟩ := ih N (i + 1) (setV V 2285 0 i 0) h60 (by simp (disch := omega) only [setV_fn]; exact hn1) (by omega) (by omega)
        refine ⟨V1, ?_, (show Fr [2285] V (setV V 2285 0 i 0) from (Fr.refl _ V).set (by decide)).trans e2, fun k => ?_⟩
        · simp (disch := omega) only [Lp_X12_buys_196, F_X12_buys_196, F_X12_buys_235, F_X12_buys_241, hn1, hni, b1, b2, bd_some, n10, n00, bv_eq, within_eq, in_eq, gd_T, gd_t, i00, i10, c_0, c_1, c_m1, ite10, ite01, setV_fn, setV_at, cntS, nI_pos, nI_clamp, nI_leI, nI_ltI, nI_eq, nI_1, if_true, if_false, not_true, not_false, and_self, and_true, true_and, false_and, and_false, or_false, false_or, or_true, true_or, not_false_eq_true, ite_self, ite_true, ite_false, reduceIte, Nat.reduceEqDiff, Nat.reduceMul, Nat.reduceAdd, Nat.reduceLT, Nat.reducePow, ne_eq]; exact e1
        · rw [e3 k]
          simp (disch := omega) only [setV_fn, setV_at]
          clear ih e3
          by_cases hk : k = i <;> grind
      · obtain ⟨V1, e1, e2, e3⟩ := ih N (i + 1) V h60 hn1 (by omega) (by omega)
        refine ⟨V1, ?_, e2, fun k => ?_⟩
        · simp (disch := omega) only [Lp_X12_buys_196, F_X12_buys_196, F_X12_buys_235, F_X12_buys_241, hn1, hni, b1, b2, bd_some, n10, n00, bv_eq, within_eq, in_eq, gd_T, gd_t, i00, i10, c_0, c_1, c_m1, ite10, ite01, setV_fn, setV_at, cntS, nI_pos, nI_clamp, nI_leI, nI_ltI, nI_eq, nI_1, if_true, if_false, not_true, not_false, and_self, and_true, true_and, false_and, and_false, or_false, false_or, or_true, true_or, not_false_eq_true, ite_self, ite_true, ite_false, reduceIte, Nat.reduceEqDiff, Nat.reduceMul, Nat.reduceAdd, Nat.reduceLT, Nat.reducePow, ne_eq]; exact e1
        · rw [e3 k]
          clear ih e3
          by_cases hk : k = i <;> grind
    · obtain ⟨V1, e1, e2, e3⟩ := ih N (i + 1) V h60 hn1 (by omega) (by omega)
      refine ⟨V1, ?_, e2, fun k => ?_⟩
      · simp (disch := omega) only [Lp_X12_buys_196, F_X12_buys_196, F_X12_buys_235, F_X12_buys_241, hn1, hni, b1, bd_some, n10, n00, bv_eq, within_eq, in_eq, gd_T, gd_t, i00, i10, c_0, c_1, c_m1, ite10, ite01, setV_fn, setV_at, cntS, nI_pos, nI_clamp, nI_leI, nI_ltI, nI_eq, nI_1, if_true, if_false, not_true, not_false, and_self, and_true, true_and, false_and, and_false, or_false, false_or, or_true, true_or, not_false_eq_true, ite_self, ite_true, ite_false, reduceIte, Nat.reduceEqDiff, Nat.reduceMul, Nat.reduceAdd, Nat.reduceLT, Nat.reducePow, ne_eq]; exact e1
      · rw [e3 k]
        clear ih e3
        by_cases hk : k = i <;> grind
theorem week_eq (fu : Nat) (V : St) (x : Int32) : f_X12_isWeek fu V x = some (if 0 ≤ x ∧ x ≤ 499 then 1 else 0, V) := by
  simp only [f_X12_isWeek, F_X12_isWeek_16, F_X12_isWeek_15, gd]
  grind
theorem lp_true {fu n : Nat} {V : St} {x t l : Int32} (hD : I_rub V n) : ∀ (N i : Nat) (a b : Int32), i ≤ n → n < i + N → ∃ r, Lp_X11_isTrue_53 (F_X11_isTrue_125 fu) (F_X11_isTrue_133 fu) fu N V x t l a b (nI i) = some (r, V) ∧ Lp_X12_isTrue_46 (F_X12_isTrue_102 fu) (F_X12_isTrue_138 fu) fu N V x t l a b (nI i) = some (r, V) := by
  obtain ⟨h60, hn1, hn2, hx⟩ := hD
  have hc : cntV V 2111 = n := cnt_n (by decide) (by omega) hn1
  intro N
  induction N with
  | zero => intro i a b h0 h; omega
  | succ N ih =>
    intro i a b h0 h
    by_cases hi : n ≤ i
    · refine ⟨if a < 2 then 2 else if b = a then 1 else 2, ?_, ?_⟩
      · simp (disch := omega) only [Lp_X11_isTrue_53, F_X11_isTrue_53, F_X11_isTrue_133, F_X11_isTrue_150, F_X11_isTrue_151, hn1, hi, bd_some, n10, n00, bv_eq, within_eq, in_eq, gd_T, gd_t, i00, i10, c_0, c_1, c_m1, ite10, ite01, setV_fn, setV_at, cntS, nI_pos, nI_clamp, nI_leI, nI_ltI, nI_eq, nI_1, if_true, if_false, not_true, not_false, and_self, and_true, true_and, false_and, and_false, or_false, false_or, or_true, true_or, not_false_eq_true, ite_self, ite_true, ite_false, reduceIte, Nat.reduceEqDiff, Nat.reduceMul, Nat.reduceAdd, Nat.reduceLT, Nat.reducePow, ne_eq]
        split; rfl; split <;> rfl
      · simp (disch := omega) only [Lp_X12_isTrue_46, F_X12_isTrue_46, F_X12_isTrue_138, F_X12_isTrue_155, F_X12_isTrue_156, hn2, hi, bd_some, n10, n00, bv_eq, within_eq, in_eq, gd_T, gd_t, i00, i10, c_0, c_1, c_m1, ite10, ite01, setV_fn, setV_at, cntS, nI_pos, nI_clamp, nI_leI, nI_ltI, nI_eq, nI_1, if_true, if_false, not_true, not_false, and_self, and_true, true_and, false_and, and_false, or_false, false_or, or_true, true_or, not_false_eq_true, ite_self, ite_true, ite_false, reduceIte, Nat.reduceEqDiff, Nat.reduceMul, Nat.reduceAdd, Nat.reduceLT, Nat.reducePow, ne_eq]
        split; rfl; split <;> rfl
    · obtain ⟨a1, a2, a3, a4, a5⟩ := hx i (by omega)
      obtain ⟨r0, r2, r3⟩ := ih (i + 1) a b (by omega) (by omega)
      obtain ⟨s0, s2, s3⟩ := ih (i + 1) (a + 1) b (by omega) (by omega)
      obtain ⟨t0, t2, t3⟩ := ih (i + 1) (a + 1) (b + 1) (by omega) (by omega)
      have zz : ∀ q : Int32, q + 0 = q := fun q => by grind
      simp (disch := omega) only [Lp_X11_isTrue_53, F_X11_isTrue_53, F_X11_isTrue_127, F_X11_isTrue_125, Lp_X12_isTrue_46, F_X12_isTrue_46, F_X12_isTrue_132, F_X12_isTrue_129, F_X12_isTrue_104, F_X12_isTrue_102, hn1, hn2, hc, hi, a1, a2, a3, a4, zz, r2, r3, s2, s3, t2, t3, bd_some, n10, n00, bv_eq, within_eq, in_eq, gd_T, gd_t, i00, i10, c_0, c_1, c_m1, ite10, ite01, setV_fn, setV_at, cntS, nI_pos, nI_clamp, nI_leI, nI_ltI, nI_eq, nI_1, if_true, if_false, not_true, not_false, and_self, and_true, true_and, false_and, and_false, or_false, false_or, or_true, true_or, not_false_eq_true, ite_self, ite_true, ite_false, reduceIte, Nat.reduceEqDiff, Nat.reduceMul, Nat.reduceAdd, Nat.reduceLT, Nat.reducePow, ne_eq]
      clear ih hx
      by_cases c1 : V 2292 0 i = x
      · by_cases c2 : V 2294 0 i ≤ t
        · have c2' : ¬ t < V 2294 0 i := by grind
          by_cases c3 : V 2293 0 i < l
          · have c3' : ¬ l ≤ V 2293 0 i := by grind
            rcases a5 with a5 | a5
            · exact ⟨s0, by simp [c1, c2', c3, a5], by simp [c1, c2, c3, a5]⟩
            · exact ⟨0, by simp [c1, c2', c3, a5], by simp [c1, c2, c3', a5]⟩
          · have c3' : l ≤ V 2293 0 i := by grind
            exact ⟨t0, by simp [c1, c2', c3], by simp [c1, c2, c3, c3']⟩
        · have c2' : t < V 2294 0 i := by grind
          exact ⟨r0, by simp [c1, c2'], by simp [c1, c2]⟩
      · exact ⟨r0, by simp [c1], by simp [c1]⟩
theorem P_isTrue {fu k : Nat} {V : St} (hfu : 1000 ≤ fu) (hI : Inv k V) (x t : Int32) : Step k (fun V => f_X11_isTrue fu V x t) (fun V => f_X12_isTrue fu V x t) V := by
  have hI' := hI
  obtain ⟨nC, nD, nT, nM, nP, nK, nS, nR, nL, nO, hL, hmi, hta, hcl, hdr, hth, hla, hma, hor, hpe, hdo, hse, hru, hmk⟩ := hI
  have h20 := hcl.1
  have h100 := hru.1
  have hc : cntV V 2103 = nC := cnt_n (by decide) (by omega) hcl.2.1
  rcases ix_or x (show nC < 2 ^ 31 by omega) with hv | ⟨c, hcc, rfl⟩
  · refine Step.same (r := -1) ?_ ?_ hI'
    · simp only [f_X11_isTrue, F_X11_isTrue_21, findCloth_no hcl.2.1 (by omega) hv, bd_some, n10, n00, bv_eq, within_eq, in_eq, gd_T, gd_t, i00, i10, c_0, c_1, c_m1, ite10, ite01, setV_fn, setV_at, cntS, nI_pos, nI_clamp, nI_leI, nI_ltI, nI_eq, nI_1, if_true, if_false, not_true, not_false, and_self, and_true, true_and, false_and, and_false, or_false, false_or, or_true, true_or, not_false_eq_true, ite_self, ite_true, ite_false, reduceIte, Nat.reduceEqDiff, Nat.reduceMul, Nat.reduceAdd, Nat.reduceLT, Nat.reducePow, ne_eq]
    · simp only [f_X12_isTrue, F_X12_isTrue_15, isCloth_no hcl.2.2.1 hv, bd_some, n10, n00, bv_eq, within_eq, in_eq, gd_T, gd_t, i00, i10, c_0, c_1, c_m1, ite10, ite01, setV_fn, setV_at, cntS, nI_pos, nI_clamp, nI_leI, nI_ltI, nI_eq, nI_1, if_true, if_false, not_true, not_false, and_self, and_true, true_and, false_and, and_false, or_false, false_or, or_true, true_or, not_false_eq_true, ite_self, ite_true, ite_false, reduceIte, Nat.reduceEqDiff, Nat.reduceMul, Nat.reduceAdd, Nat.reduceLT, Nat.reducePow, ne_eq]
  · by_cases h : 0 ≤ t ∧ t ≤ 499
    · obtain ⟨r, e1, e2⟩ := lp_true (fu := fu) (x := nI c) (t := t) (l := V 2206 0 c * V 2288 0 0 - V 2206 0 c * V 2288 0 0 / 10) hru fu 0 0 0 (by omega) (by omega)
      have g1 := (hcl.2.2.2 c hcc).2.1
      have g2 := hmi.2.2.2.1
      refine Step.same (r := r) ?_ ?_ hI'
      · simp (disch := omega) only [f_X11_isTrue, findCloth_ok hcl.2.1 (show nC ≤ 1000 by omega) hcc, hc, h, g1, g2, bd_some, n10, n00, bv_eq, within_eq, in_eq, gd_T, gd_t, i00, i10, c_0, c_1, c_m1, ite10, ite01, setV_fn, setV_at, cntS, nI_pos, nI_clamp, nI_leI, nI_ltI, nI_eq, nI_1, if_true, if_false, not_true, not_false, and_self, and_true, true_and, false_and, and_false, or_false, false_or, or_true, true_or, not_false_eq_true, ite_self, ite_true, ite_false, reduceIte, Nat.reduceEqDiff, Nat.reduceMul, Nat.reduceAdd, Nat.reduceLT, Nat.reducePow, ne_eq]; exact e1
      · simp (disch := omega) only [f_X12_isTrue, isCloth_ok hcl.2.2.1 (show nC ≤ 1000 by omega) hcc, week_eq, h, bd_some, n10, n00, bv_eq, within_eq, in_eq, gd_T, gd_t, i00, i10, c_0, c_1, c_m1, ite10, ite01, setV_fn, setV_at, cntS, nI_pos, nI_clamp, nI_leI, nI_ltI, nI_eq, nI_1, if_true, if_false, not_true, not_false, and_self, and_true, true_and, false_and, and_false, or_false, false_or, or_true, true_or, not_false_eq_true, ite_self, ite_true, ite_false, reduceIte, Nat.reduceEqDiff, Nat.reduceMul, Nat.reduceAdd, Nat.reduceLT, Nat.reducePow, ne_eq]; exact e2
    · refine Step.same (r := -1) ?_ ?_ hI'
      · simp (disch := omega) only [f_X11_isTrue, F_X11_isTrue_21, findCloth_ok hcl.2.1 (show nC ≤ 1000 by omega) hcc, h, bd_some, n10, n00, bv_eq, within_eq, in_eq, gd_T, gd_t, i00, i10, c_0, c_1, c_m1, ite10, ite01, setV_fn, setV_at, cntS, nI_pos, nI_clamp, nI_leI, nI_ltI, nI_eq, nI_1, if_true, if_false, not_true, not_false, and_self, and_true, true_and, false_and, and_false, or_false, false_or, or_true, true_or, not_false_eq_true, ite_self, ite_true, ite_false, reduceIte, Nat.reduceEqDiff, Nat.reduceMul, Nat.reduceAdd, Nat.reduceLT, Nat.reducePow, ne_eq]
      · simp (disch := omega) only [f_X12_isTrue, F_X12_isTrue_15, isCloth_ok hcl.2.2.1 (show nC ≤ 1000 by omega) hcc, week_eq, h, bd_some, n10, n00, bv_eq, within_eq, in_eq, gd_T, gd_t, i00, i10, c_0, c_1, c_m1, ite10, ite01, setV_fn, setV_at, cntS, nI_pos, nI_clamp, nI_leI, nI_ltI, nI_eq, nI_1, if_true, if_false, not_true, not_false, and_self, and_true, true_and, false_and, and_false, or_false, false_or, or_true, true_or, not_false_eq_true, ite_self, ite_true, ite_false, reduceIte, Nat.reduceEqDiff, Nat.reduceMul, Nat.reduceAdd, Nat.reduceLT, Nat.reducePow, ne_eq]
