/-! the clauses that count and hold: the last, the first -/
def HoldsP (V : St) (i j : Nat) (g : (Nat → Int32) → Bool) : Prop := (∀ f f' : Nat → Int32, (∀ k, k < 9 → f k = f' k) → g f = g f') ∧
  (∀ (fu : Nat) (V' : St), 1000 ≤ fu → i < cntV V' 1401 → V' 1704 i = V 1704 i → V' 1708 i = V 1708 i → V' 1709 i = V 1709 i → V' 1790 i = V 1790 i → ∃ V1 : St, f_X4_holds fu V' (nI i) (nI j) = some (if g (V' 1403 0) = true then 1 else 0, V1) ∧ Fr [1404, 1405, 1406, 1407, 1408] V' V1) ∧
  (∀ (fu : Nat) (V' : St), 1000 ≤ fu → (∀ q, 180 * i ≤ q → q < 180 * i + 180 → V' 2260 0 q = V 2260 0 q) → V' 2266 0 (12 * i + j) = V 2266 0 (12 * i + j) → V' 2267 0 (12 * i + j) = V 2267 0 (12 * i + j) → ∃ V2 : St, f_X12_holds fu V' (nI (12 * i + j)) = some (if g (V' 2272 0) = true then 1 else 0, V2) ∧ Fr [2271] V' V2)
noncomputable def hG (V : St) (i j : Nat) : (Nat → Int32) → Bool := Classical.epsilon (HoldsP V i j)
theorem hG_ok {V : St} {i j : Nat} (h : HoldsOK V i j) : HoldsP V i j (hG V i j) := Classical.epsilon_spec h
noncomputable def TV (V : St) (wo wk t : Int32) (n : Nat) (L : Int32) (fs : Nat → Int32) (i j : Nat) : Bool := fcV V wo wk t i && !fin V wo wk t n (12 * i + j) && decide (V 2265 0 (12 * i + j) = L) && hG V i j fs
def fdJ (T : Nat → Nat → Bool) (i : Nat) : Nat → Option (Nat × Nat)
  | 0 => none
  | j + 1 => if T i j = true then some (i, j) else fdJ T i j
def fdI (T : Nat → Nat → Bool) (c : Nat → Nat) : Nat → Option (Nat × Nat)
  | 0 => none
  | i + 1 => match fdJ T i (c i) with
    | some q => some q
    | none => fdI T c i
def faJ (T : Nat → Nat → Bool) (i : Nat) : Nat → Nat → Option (Nat × Nat)
  | 0, _ => none
  | m + 1, j => if T i j = true then some (i, j) else faJ T i m (j + 1)
def faI (T : Nat → Nat → Bool) (c : Nat → Nat) : Nat → Nat → Option (Nat × Nat)
  | 0, _ => none
  | m + 1, i => match faJ T i (c i) 0 with
    | some q => some q
    | none => faI T c m (i + 1)
theorem fdJ_some {T : Nat → Nat → Bool} {i : Nat} {q : Nat × Nat} : ∀ j, fdJ T i j = some q → q.1 = i ∧ q.2 < j ∧ T i q.2 = true := by
  intro j
  induction j with
  | zero => intro h; cases h
  | succ j ih =>
    intro h
    unfold fdJ at h
    split at h
    · cases h; exact ⟨rfl, by omega, by assumption⟩
    · have := ih h; exact ⟨this.1, by omega, this.2.2⟩
theorem fdJ_none {T : Nat → Nat → Bool} {i : Nat} : ∀ j, fdJ T i j = none → ∀ k, k < j → T i k = false := by
  intro j
  induction j with
  | zero => intro h k hk; omega
  | succ j ih =>
    intro h k hk
    unfold fdJ at h
    split at h
    · cases h
    · by_cases e : k = j
      · subst e; simpa using (by assumption : ¬ T i k = true)
      · exact ih h k (by omega)
theorem fdI_some {T : Nat → Nat → Bool} {c : Nat → Nat} {q : Nat × Nat} : ∀ i, fdI T c i = some q → q.1 < i ∧ q.2 < c q.1 ∧ T q.1 q.2 = true := by
  intro i
  induction i with
  | zero => intro h; cases h
  | succ i ih =>
    intro h
    unfold fdI at h
    cases e : fdJ T i (c i) with
    | some q' => rw [e] at h; cases h; have := fdJ_some _ e; exact ⟨by omega, by rw [this.1]; exact this.2.1, by rw [this.1]; exact this.2.2⟩
    | none => rw [e] at h; have := ih h; exact ⟨by omega, this.2⟩
theorem fdI_none {T : Nat → Nat → Bool} {c : Nat → Nat} : ∀ i, fdI T c i = none → ∀ a b, a < i → b < c a → T a b = false := by
  intro i
  induction i with
  | zero => intro h a b ha; omega
  | succ i ih =>
    intro h a b ha hb
    unfold fdI at h
    cases e : fdJ T i (c i) with
    | some q' => rw [e] at h; cases h
    | none =>
      rw [e] at h
      by_cases h2 : a = i
      · subst h2; exact fdJ_none _ e b hb
      · exact ih h a b (by omega) hb
theorem faJ_some {T : Nat → Nat → Bool} {i : Nat} {q : Nat × Nat} : ∀ m j, faJ T i m j = some q → q.1 = i ∧ q.2 < j + m ∧ T i q.2 = true := by
  intro m
  induction m with
  | zero => intro j h; cases h
  | succ m ih =>
    intro j h
    unfold faJ at h
    split at h
    · cases h; exact ⟨rfl, by show j < j + (m + 1); omega, by assumption⟩
    · have := ih _ h; exact ⟨this.1, by omega, this.2.2⟩
theorem faJ_none {T : Nat → Nat → Bool} {i : Nat} : ∀ m j, faJ T i m j = none → ∀ k, j ≤ k → k < j + m → T i k = false := by
  intro m
  induction m with
  | zero => intro j h k h1 h2; omega
  | succ m ih =>
    intro j h k h1 h2
    unfold faJ at h
    split at h
    · cases h
    · by_cases e : k = j
      · subst e; simpa using (by assumption : ¬ T i k = true)
      · exact ih _ h k (by omega) (by omega)
theorem faI_some {T : Nat → Nat → Bool} {c : Nat → Nat} {q : Nat × Nat} : ∀ m i, faI T c m i = some q → q.1 < i + m ∧ q.2 < c q.1 ∧ T q.1 q.2 = true := by
  intro m
  induction m with
  | zero => intro i h; cases h
  | succ m ih =>
    intro i h
    unfold faI at h
    cases e : faJ T i (c i) 0 with
    | some q' => rw [e] at h; cases h; have := faJ_some _ _ e; exact ⟨by omega, by rw [this.1]; have := this.2.1; omega, by rw [this.1]; exact this.2.2⟩
    | none => rw [e] at h; have := ih _ h; exact ⟨by omega, this.2⟩
theorem faI_none {T : Nat → Nat → Bool} {c : Nat → Nat} : ∀ m i, faI T c m i = none → ∀ a b, i ≤ a → a < i + m → b < c a → T a b = false := by
  intro m
  induction m with
  | zero => intro i h a b h1 h2; omega
  | succ m ih =>
    intro i h a b h1 h2 hb
    unfold faI at h
    cases e : faJ T i (c i) 0 with
    | some q' => rw [e] at h; cases h
    | none =>
      rw [e] at h
      by_cases h3 : a = i
      · subst h3; exact faJ_none _ _ e b (by omega) (by omega)
      · exact ih _ h a b (by omega) (by omega) hb
theorem fa_fd {T : Nat → Nat → Bool} {c : Nat → Nat} {n : Nat} : faI T c n 0 = none ↔ fdI T c n = none := by
  constructor
  · intro h
    cases e : fdI T c n with
    | none => rfl
    | some q => obtain ⟨a1, a2, a3⟩ := fdI_some _ e; rw [faI_none _ _ h q.1 q.2 (by omega) (by omega) a2] at a3; cases a3
  · intro h
    cases e : faI T c n 0 with
    | none => rfl
    | some q => obtain ⟨a1, a2, a3⟩ := faI_some _ _ e; rw [fdI_none _ h q.1 q.2 (by omega) a2] at a3; cases a3
def CS (V V' : St) (wo wk t : Int32) (n : Nat) (fs : Nat → Int32) : Prop := Fr [1402, 1403, 1404, 1405, 1406, 1407, 1408] V V' ∧ BitS V' (fcV V wo wk t) (cV V) (fin V wo wk t n) n ∧ ∀ k, k < 9 → V' 1403 0 k = fs k
theorem CS.holds {V V' V1 : St} {wo wk t : Int32} {n : Nat} {fs : Nat → Int32} (h : CS V V' wo wk t n fs) (hF : Fr [1404, 1405, 1406, 1407, 1408] V' V1) : CS V V1 wo wk t n fs := by
  refine ⟨h.1.trans (hF.weak (by decide)), ?_, ?_⟩
  · have := h.2.1; unfold BitS at this ⊢; rw [hF 1402 (by decide)]; exact this
  · rw [hF 1403 (by decide)]; exact h.2.2
theorem c_one {fu n i j : Nat} {V V' : St} {wo wk t L : Int32} {fs : Nat → Int32} (hfu : 1000 ≤ fu) (hO : I_ord V n) (hL : L ≠ 120) (hS : CS V V' wo wk t n fs) (hi : i < n) (hj : j < cV V i) (kY kN : St → RR) :
    ∃ V1, CS V V1 wo wk t n fs ∧ (bd (f_X4_counts fu V' (nI i) (nI j) L) fun r2 V3 => if r2 = 0 then kN V3 else (bd (f_X4_holds fu V3 (nI i) (nI j)) fun r6 V7 => if r6 = 0 then kN V7 else kY V7)) = if TV V wo wk t n L fs i j = true then kY V1 else kN V1 := by
  obtain ⟨c, hc⟩ := hO.2.2.2 i hi
  have h30 := hO.1
  have hcc := hc.at (by omega)
  have hce := counts_eq (fu := fu) (L := L) hO hS.1 rfl hS.2.1 hi hj
  by_cases hq : (fcV V wo wk t i && !fin V wo wk t n (12 * i + j) && decide (V 2265 0 (12 * i + j) = L)) = true
  · have hl : V 2265 0 (12 * i + j) = L := by rw [Bool.and_eq_true, decide_eq_true_eq] at hq; exact hq.2
    have hH := (hc.2.2.2.2.2.2 j (by omega)).2.2.2.2 (by rw [hl]; exact hL)
    obtain ⟨g1, g2, -⟩ := hG_ok hH
    have hct : cntV V' 1401 = n := cnt_n (by decide) (by omega) (by rw [hS.1 1401 (by decide)]; exact hO.2.1)
    obtain ⟨V1, e1, e2⟩ := g2 fu V' hfu (by rw [hct]; exact hi) (by rw [hS.1 1704 (by decide)]) (by rw [hS.1 1708 (by decide)]) (by rw [hS.1 1709 (by decide)]) (by rw [hS.1 1790 (by decide)])
    rw [g1 (V' 1403 0) fs hS.2.2] at e1
    refine ⟨V1, hS.holds e2, ?_⟩
    rw [hce, if_pos hq, bd_some, if_neg (by decide), e1, bd_some]
    unfold TV
    rw [hq, Bool.true_and]
    by_cases hg : hG V i j fs = true
    · rw [if_pos hg, if_pos hg, if_neg (by decide)]
    · rw [if_neg hg, if_neg hg, if_pos rfl]
  · refine ⟨V', hS, ?_⟩
    rw [hce, if_neg hq, bd_some, if_pos rfl, if_neg (fun q => hq (by unfold TV at q; rw [Bool.and_eq_true] at q; exact q.1))]
theorem lpN_in {fu n i : Nat} {V : St} {wo wk t L : Int32} {fs : Nat → Int32} {kx : St → Int32 → Int32 → RR} (hfu : 1000 ≤ fu) (hO : I_ord V n) (hL : L ≠ 120) (hi : i < n) : ∀ (j N : Nat) (V' : St), j ≤ cV V i → j < N → CS V V' wo wk t n fs → ∃ V1, CS V V1 wo wk t n fs ∧ Lp_X4_lastNumber_34 (F_X4_lastNumber_60 fu) kx fu N V' L (nI i) (nI i) (nI j - 1) = match fdJ (TV V wo wk t n L fs) i j with
    | some q => some (V 2268 0 (12 * q.1 + q.2), V1)
    | none => kx V1 L (nI i) := by
  have h30 := hO.1
  obtain ⟨c, hc⟩ := hO.2.2.2 i hi
  have hcc := hc.at (by omega)
  have hc12 := hc.1
  intro j
  induction j with
  | zero =>
    intro N V' hj hN hS
    obtain ⟨N, rfl⟩ : ∃ N', N = N' + 1 := ⟨N - 1, by omega⟩
    have e : nI 0 - 1 < 0 := by decide
    exact ⟨V', hS, by simp only [Lp_X4_lastNumber_34, F_X4_lastNumber_34, e, if_true, fdJ]⟩
  | succ j ih =>
    intro N V' hj hN hS
    obtain ⟨N, rfl⟩ : ∃ N', N = N' + 1 := ⟨N - 1, by omega⟩
    have e : nI (j + 1) - 1 = nI j := nI_pred j
    have e2 : nI j + (-1) = nI j - 1 := by grind
    obtain ⟨V1, h1, h2⟩ := c_one (fu := fu) hfu hO hL hS hi (show j < cV V i by omega) (fun W => F_X4_lastNumber_60 fu W (nI i) (nI j)) (fun W => Lp_X4_lastNumber_34 (F_X4_lastNumber_60 fu) kx fu N W L (nI i) (nI i) (nI j + (-1)))
    have hst : Lp_X4_lastNumber_34 (F_X4_lastNumber_60 fu) kx fu (N + 1) V' L (nI i) (nI i) (nI (j + 1) - 1) = if TV V wo wk t n L fs i j = true then F_X4_lastNumber_60 fu V1 (nI i) (nI j) else Lp_X4_lastNumber_34 (F_X4_lastNumber_60 fu) kx fu N V1 L (nI i) (nI i) (nI j + (-1)) := by
      rw [← h2, e]
      simp (disch := omega) only [Lp_X4_lastNumber_34, F_X4_lastNumber_34, F_X4_lastNumber_68, nI_pos, if_false]
    by_cases hT : TV V wo wk t n L fs i j = true
    · refine ⟨V1, h1, ?_⟩
      rw [hst, if_pos hT, fdJ, if_pos hT]
      have hct : cntV V1 1401 = n := cnt_n (by decide) (by omega) (by rw [h1.1 1401 (by decide)]; exact hO.2.1)
      have hln : lenV V1 1001704 i = c := by show (V1 1704 i 0).toNatClampNeg = c; rw [h1.1 1704 (by decide), hc.2.2.2.2.1, nI_clamp (by omega)]
      have e3 := h1.1 1706 (by decide)
      have d2 := (hc.2.2.2.2.2.2 j (by omega)).2.1
      simp (disch := omega) only [F_X4_lastNumber_60, hct, hln, e3, d2, bd_some, n10, n00, bv_eq, within_eq, in_eq, gd_T, gd_t, i00, i10, c_0, c_1, c_m1, ite10, ite01, setV_fn, setV_at, cntS, nI_pos, nI_clamp, nI_leI, nI_ltI, nI_eq, nI_1, if_true, if_false, not_true, not_false, and_self, and_true, true_and, false_and, and_false, or_false, false_or, or_true, true_or, not_false_eq_true, ite_self, ite_true, ite_false, reduceIte, Nat.reduceEqDiff, Nat.reduceMul, Nat.reduceAdd, Nat.reduceLT, Nat.reducePow, ne_eq]
    · obtain ⟨V2, s1, s2⟩ := ih N V1 (by omega) (by omega) h1
      refine ⟨V2, s1, ?_⟩
      rw [hst, if_neg hT, e2, s2, fdJ, if_neg hT]
theorem lpN_out {fu n : Nat} {V : St} {wo wk t L : Int32} {fs : Nat → Int32} (hfu : 1000 ≤ fu) (hO : I_ord V n) (hL : L ≠ 120) : ∀ (i N : Nat) (V' : St), i ≤ n → i < N → CS V V' wo wk t n fs → ∃ V1, CS V V1 wo wk t n fs ∧ Lp_X4_lastNumber_10 (F_X4_lastNumber_60 fu) (F_X4_lastNumber_80 fu) fu N V' L (nI i - 1) = match fdI (TV V wo wk t n L fs) (cV V) i with
    | some q => some (V 2268 0 (12 * q.1 + q.2), V1)
    | none => some (-1, V1) := by
  have h30 := hO.1
  intro i
  induction i with
  | zero =>
    intro N V' hj hN hS
    obtain ⟨N, rfl⟩ : ∃ N', N = N' + 1 := ⟨N - 1, by omega⟩
    have e : nI 0 - 1 < 0 := by decide
    exact ⟨V', hS, by simp only [Lp_X4_lastNumber_10, F_X4_lastNumber_10, F_X4_lastNumber_80, e, if_true, fdI]⟩
  | succ i ih =>
    intro N V' hj hN hS
    obtain ⟨N, rfl⟩ : ∃ N', N = N' + 1 := ⟨N - 1, by omega⟩
    obtain ⟨c, hc⟩ := hO.2.2.2 i (by omega)
    have hcc := hc.at (by omega)
    have hc12 := hc.1
    have e : nI (i + 1) - 1 = nI i := nI_pred i
    have e2 : nI i + (-1) = nI i - 1 := by grind
    have hct : cntV V' 1401 = n := cnt_n (by decide) (by omega) (by rw [hS.1 1401 (by decide)]; exact hO.2.1)
    have f1 := hS.1 1704 (by decide)
    obtain ⟨V1, h1, h2⟩ := lpN_in (fu := fu) (L := L) (kx := F_X4_lastNumber_74 (Lp_X4_lastNumber_10 (F_X4_lastNumber_60 fu) (F_X4_lastNumber_80 fu) fu N) (F_X4_lastNumber_60 fu) (F_X4_lastNumber_80 fu) fu) hfu hO hL (show i < n by omega) (cV V i) fu V' (Nat.le_refl _) (by omega) hS
    have hst : Lp_X4_lastNumber_10 (F_X4_lastNumber_60 fu) (F_X4_lastNumber_80 fu) fu (N + 1) V' L (nI (i + 1) - 1) = Lp_X4_lastNumber_34 (F_X4_lastNumber_60 fu) (F_X4_lastNumber_74 (Lp_X4_lastNumber_10 (F_X4_lastNumber_60 fu) (F_X4_lastNumber_80 fu) fu N) (F_X4_lastNumber_60 fu) (F_X4_lastNumber_80 fu) fu) fu fu V' L (nI i) (nI i) (nI (cV V i) - 1) := by
      rw [e, hcc, ← hc.2.2.2.2.1]
      simp (disch := omega) only [Lp_X4_lastNumber_10, F_X4_lastNumber_10, hct, f1, bd_some, n10, n00, bv_eq, within_eq, in_eq, gd_T, gd_t, i00, i10, c_0, c_1, c_m1, ite10, ite01, setV_fn, setV_at, cntS, nI_pos, nI_clamp, nI_leI, nI_ltI, nI_eq, nI_1, if_true, if_false, not_true, not_false, and_self, and_true, true_and, false_and, and_false, or_false, false_or, or_true, true_or, not_false_eq_true, ite_self, ite_true, ite_false, reduceIte, Nat.reduceEqDiff, Nat.reduceMul, Nat.reduceAdd, Nat.reduceLT, Nat.reducePow, ne_eq]
    rw [hst, h2]
    cases hq : fdJ (TV V wo wk t n L fs) i (cV V i) with
    | some q => exact ⟨V1, h1, by rw [fdI, hq]⟩
    | none =>
      obtain ⟨V2, s1, s2⟩ := ih N V1 (by omega) (by omega) h1
      refine ⟨V2, s1, ?_⟩
      rw [fdI, hq]
      show F_X4_lastNumber_74 _ _ _ _ _ _ _ = _
      rw [F_X4_lastNumber_74, e2]; exact s2
