/-! the reference's next row -/
def nxR (n k q : Nat) (r : Nat → Nat) (i : Nat) : Nat := if i < k then r i else if i = k then r q else if n + k - i = q then r k else r (n + k - i)
/-- what follows in the order of rows -/
def isNx (n : Nat) (r r' : Nat → Nat) : Prop := isPm n r' ∧ lexLt n r r' ∧ ∀ t, isPm n t → lexLt n r t → ¬ lexLt n t r'
theorem nx_last {n : Nat} {r : Nat → Nat} (h : isPm n r) (hd : ∀ i, i + 1 < n → r (i + 1) < r i) : ∀ t, isPm n t → ¬ lexLt n r t := by
  have hdd : ∀ d i, i + d < n → 0 < d → r (i + d) < r i := by
    intro d
    induction d with
    | zero => intro i _ h0; omega
    | succ d ih =>
      intro i hi _
      by_cases z : d = 0
      · subst z; exact hd i hi
      · have a1 := ih i (by omega) (by omega)
        have a2 := hd (i + d) (by omega)
        rw [show i + (d + 1) = i + d + 1 by omega]; omega
  rintro t ht ⟨j, j1, j2, j3⟩
  obtain ⟨i, i1, i2⟩ := pm_surj n r h (t j) (ht.1 j j1)
  rcases Nat.lt_trichotomy i j with z | z | z
  · have := ht.2 i j i1 j1 (by rw [← j2 i z, i2])
    omega
  · subst z; omega
  · have := hdd (i - j) j (by omega) (by omega)
    rw [show j + (i - j) = i by omega] at this
    omega
theorem nx_ok {n k q : Nat} {r : Nat → Nat} (h : isPm n r) (hk : k + 1 < n) (hkk : r k < r (k + 1)) (hd : ∀ i, k < i → i + 1 < n → r (i + 1) < r i) (hq1 : k < q) (hq2 : q < n) (hq3 : r k < r q) (hq4 : ∀ i, q < i → i < n → r i < r k) : isNx n r (nxR n k q r) := by
  have hdd : ∀ d i, k < i → i + d < n → 0 < d → r (i + d) < r i := by
    intro d
    induction d with
    | zero => intro i _ _ h0; omega
    | succ d ih =>
      intro i hi hin _
      by_cases z : d = 0
      · subst z; exact hd i hi hin
      · have a1 := ih i hi (by omega) (by omega)
        have a2 := hd (i + d) (by omega) (by omega)
        rw [show i + (d + 1) = i + d + 1 by omega]; omega
  have hds : ∀ a b, k < a → a < b → b < n → r b < r a := fun a b h1 h2 h3 => by
    have := hdd (b - a) a h1 (by omega) (by omega)
    rw [show a + (b - a) = b by omega] at this; exact this
  have e1 : ∀ i, i < k → nxR n k q r i = r i := fun i hi => if_pos hi
  have e2 : nxR n k q r k = r q := by unfold nxR; rw [if_neg (by omega), if_pos rfl]
  have e3 : ∀ i, k < i → nxR n k q r i = if n + k - i = q then r k else r (n + k - i) := fun i hi => by unfold nxR; rw [if_neg (by omega), if_neg (by omega)]
  have hsuf : ∀ a b, k < a → a < b → b < n → nxR n k q r a < nxR n k q r b := fun a b h1 h2 h3 => by
    rw [e3 a h1, e3 b (by omega)]
    by_cases z1 : n + k - a = q
    · rw [if_pos z1, if_neg (by omega)]
      have := hds (n + k - b) q (by omega) (by omega) hq2
      omega
    · rw [if_neg z1]
      by_cases z2 : n + k - b = q
      · rw [if_pos z2]
        exact hq4 (n + k - a) (by omega) (by omega)
      · rw [if_neg z2]
        exact hds (n + k - b) (n + k - a) (by omega) (by omega) (by omega)
  have hpm : isPm n (nxR n k q r) := by
    have hs : ∀ i, i < n → ∃ i', i' < n ∧ nxR n k q r i = r i' ∧ ((i < k ∧ i' = i) ∨ (i = k ∧ i' = q) ∨ (k < i ∧ n + k - i = q ∧ i' = k) ∨ (k < i ∧ n + k - i ≠ q ∧ i' = n + k - i)) := fun i hi => by
      rcases Nat.lt_trichotomy i k with z | z | z
      · exact ⟨i, hi, e1 i z, .inl ⟨z, rfl⟩⟩
      · subst z; exact ⟨q, hq2, e2, .inr (.inl ⟨rfl, rfl⟩)⟩
      · by_cases y : n + k - i = q
        · exact ⟨k, by omega, by rw [e3 i z, if_pos y], .inr (.inr (.inl ⟨z, y, rfl⟩))⟩
        · exact ⟨n + k - i, by omega, by rw [e3 i z, if_neg y], .inr (.inr (.inr ⟨z, y, rfl⟩))⟩
    refine ⟨fun i hi => ?_, fun i j hi hj he => ?_⟩
    · obtain ⟨i', a1, a2, -⟩ := hs i hi
      rw [a2]; exact h.1 i' a1
    · obtain ⟨i', a1, a2, a3⟩ := hs i hi
      obtain ⟨j', b1, b2, b3⟩ := hs j hj
      have := h.2 i' j' a1 b1 (by rw [← a2, ← b2, he])
      omega
  refine ⟨hpm, ⟨k, by omega, fun i hi => (e1 i hi).symm, by rw [e2]; exact hq3⟩, fun t ht h1 h2 => ?_⟩
  obtain ⟨j, j1, j2, j3⟩ := h1
  obtain ⟨i, i1, i2, i3⟩ := h2
  obtain ⟨v, v1, v2⟩ := pm_surj n r h (t j) (ht.1 j j1)
  have hvj : j < v := by
    rcases Nat.lt_trichotomy v j with z | z | z
    · have := ht.2 v j v1 j1 (by rw [← j2 v z, v2]); omega
    · subst z; omega
    · exact z
  rcases Nat.lt_trichotomy j k with z | z | z
  · rcases Nat.lt_trichotomy i j with y | y | y
    · have := j2 i y
      rw [e1 i (by omega)] at i3; omega
    · subst y; rw [e1 i z] at i3; omega
    · have := i2 j y
      rw [e1 j z] at this; omega
  · subst z
    have hvq : r q ≤ r v := by
      rcases Nat.lt_trichotomy v q with y | y | y
      · have := hds v q hvj y hq2; omega
      · subst y; exact Nat.le_refl _
      · have := hq4 v y v1; omega
    rcases Nat.lt_trichotomy i j with y | y | y
    · have := j2 i y
      rw [e1 i y] at i3; omega
    · subst y; rw [e2] at i3; omega
    · obtain ⟨u, u1, u2⟩ := pm_surj n _ hpm (t i) (ht.1 i i1)
      rcases Nat.lt_trichotomy u i with w | w | w
      · have := ht.2 u i u1 i1 (by rw [i2 u w, u2]); omega
      · subst w; omega
      · have := hsuf i u y w u1; omega
  · have := hds j v z hvj v1; omega
/-! walked -/
def RwV (V : St) (n : Nat) (r : Nat → Nat) : Prop := ∀ i, i < n → V 2230 0 i = nI (r i)
theorem swaps_eq {fu n a b : Nat} {V : St} {r : Nat → Nat} (hn : n ≤ 9) (ha : a < n) (hb : b < n) (h : RwV V n r) : ∃ V1, f_X12_swaps fu V (nI a) (nI b) = some (0, V1) ∧ Fr [2230] V V1 ∧ RwV V1 n (fun i => if i = b then r a else if i = a then r b else r i) := by
  have h1 := h a ha
  have h2 := h b hb
  refine ⟨setV (setV V 2230 0 a (nI (r b))) 2230 0 b (nI (r a)), ?_, ((Fr.refl _ V).set (by decide)).set (by decide), fun i hi => ?_⟩
  · simp (disch := omega) only [f_X12_swaps, h1, h2, bd_some, n10, n00, bv_eq, within_eq, in_eq, gd_T, gd_t, i00, i10, c_0, c_1, c_m1, ite10, ite01, setV_fn, setV_at, cntS, nI_pos, nI_clamp, nI_leI, nI_ltI, nI_eq, nI_1, if_true, if_false, not_true, not_false, and_self, and_true, true_and, false_and, and_false, or_false, false_or, or_true, true_or, not_false_eq_true, ite_self, ite_true, ite_false, reduceIte, Nat.reduceEqDiff, Nat.reduceMul, Nat.reduceAdd, Nat.reduceLT, Nat.reducePow, ne_eq]
  · simp only []
    rw [setV_at]
    by_cases z : i = b
    · rw [if_pos ⟨rfl, z⟩, if_pos z]
    · rw [if_neg (fun y => z y.2), if_neg z, setV_at]
      by_cases y : i = a
      · rw [if_pos ⟨rfl, y⟩, if_pos y]
      · rw [if_neg (fun w => y w.2), if_neg y]; exact h i hi
theorem nx_rev {fu n k : Nat} {kx : St → RR} (hn : n ≤ 9) (hk : k < n) : ∀ (m N a b : Nat) (V : St) (r : Nat → Nat), b ≤ a + m → m < N → a + b = n + k → k < a → b < n → RwV V n r → ∃ V1, Lp_X12_nextRow_80 kx fu N V (nI a) (nI b) = kx V1 ∧ Fr [2230] V V1 ∧ RwV V1 n (fun i => if a ≤ i ∧ i ≤ b then r (n + k - i) else r i) := by
  intro m
  induction m with
  | zero =>
    intro N a b V r hm hN hab ha hb h
    obtain ⟨N, rfl⟩ : ∃ N', N = N' + 1 := ⟨N - 1, by omega⟩
    refine ⟨V, ?_, Fr.refl _ V, fun i hi => ?_⟩
    · rw [Lp_X12_nextRow_80, F_X12_nextRow_80, if_pos (nI_le (by omega) (by omega))]
    · simp only []
      by_cases z : a ≤ i ∧ i ≤ b
      · rw [if_pos z, show n + k - i = i by omega]; exact h i hi
      · rw [if_neg z]; exact h i hi
  | succ m ih =>
    intro N a b V r hm hN hab ha hb h
    obtain ⟨N, rfl⟩ : ∃ N', N = N' + 1 := ⟨N - 1, by omega⟩
    by_cases hc : b ≤ a
    · refine ⟨V, ?_, Fr.refl _ V, fun i hi => ?_⟩
      · rw [Lp_X12_nextRow_80, F_X12_nextRow_80, if_pos (nI_le hc (by omega))]
      · simp only []
        by_cases z : a ≤ i ∧ i ≤ b
        · rw [if_pos z, show n + k - i = i by omega]; exact h i hi
        · rw [if_neg z]; exact h i hi
    · obtain ⟨V1, s1, s2, s3⟩ := swaps_eq (fu := fu) hn (show a < n by omega) hb h
      obtain ⟨V2, t1, t2, t3⟩ := ih N (a + 1) (b - 1) V1 _ (by omega) (by omega) (by omega) (by omega) (by omega) s3
      refine ⟨V2, ?_, s2.trans t2, fun i hi => ?_⟩
      · rw [Lp_X12_nextRow_80, F_X12_nextRow_80, if_neg (nI_ge (by omega) (by omega)), s1, bd_some, nI_1, show (1 : Int32) = nI 1 from rfl, pk_sub (by omega)]
        exact t1
      · rw [t3 i hi]
        simp only []
        by_cases z : a + 1 ≤ i ∧ i ≤ b - 1
        · rw [if_pos z, if_pos (show a ≤ i ∧ i ≤ b by omega), if_neg (by omega), if_neg (by omega)]
        · rw [if_neg z]
          by_cases y : i = b
          · subst y
            rw [if_pos rfl, if_pos (by omega), show n + k - i = a by omega]
          · rw [if_neg y]
            by_cases w : i = a
            · subst w
              rw [if_pos rfl, if_pos (by omega), show n + k - i = b by omega]
            · rw [if_neg w, if_neg (by omega)]
theorem nx_q {fu n k : Nat} {V : St} {r : Nat → Nat} {x1 : Int32} {kx : St → Int32 → Int32 → Int32 → RR} (hn : n ≤ 9) (hpm : isPm n r) (hk : k + 1 < n) (hkk : r k < r (k + 1)) (h : RwV V n r) : ∀ (m N q : Nat), q ≤ k + 1 + m → m < N → k < q → q < n → (∀ i, q < i → i < n → r i < r k) → ∃ q', Lp_X12_nextRow_42 kx fu N V x1 (nI k) (nI q) = kx V x1 (nI k) (nI q') ∧ k < q' ∧ q' < n ∧ r k < r q' ∧ ∀ i, q' < i → i < n → r i < r k := by
  intro m
  induction m with
  | zero =>
    intro N q hm hN h1 h2 h3
    obtain ⟨N, rfl⟩ : ∃ N', N = N' + 1 := ⟨N - 1, by omega⟩
    have e : q = k + 1 := by omega
    subst e
    have w1 := h k (by omega)
    have w2 := h (k + 1) h2
    have b1 := hpm.1 k (by omega)
    have b2 := hpm.1 (k + 1) h2
    have hle : r k ≤ r (k + 1) := by omega
    refine ⟨k + 1, ?_, by omega, h2, hkk, h3⟩
    simp (disch := omega) only [Lp_X12_nextRow_42, F_X12_nextRow_42, w1, w2, hle, bd_some, n10, n00, bv_eq, within_eq, in_eq, gd_T, gd_t, i00, i10, c_0, c_1, c_m1, ite10, ite01, setV_fn, setV_at, cntS, nI_pos, nI_clamp, nI_leI, nI_ltI, nI_eq, nI_1, if_true, if_false, not_true, not_false, and_self, and_true, true_and, false_and, and_false, or_false, false_or, or_true, true_or, not_false_eq_true, ite_self, ite_true, ite_false, reduceIte, Nat.reduceEqDiff, Nat.reduceMul, Nat.reduceAdd, Nat.reduceLT, Nat.reducePow, ne_eq]
  | succ m ih =>
    intro N q hm hN h1 h2 h3
    obtain ⟨N, rfl⟩ : ∃ N', N = N' + 1 := ⟨N - 1, by omega⟩
    have w1 := h k (by omega)
    have w2 := h q h2
    have b1 := hpm.1 k (by omega)
    have b2 := hpm.1 q h2
    have hne : r k ≠ r q := fun z => by have := hpm.2 k q (by omega) h2 z; omega
    by_cases hle : r k ≤ r q
    · refine ⟨q, ?_, h1, h2, by omega, h3⟩
      simp (disch := omega) only [Lp_X12_nextRow_42, F_X12_nextRow_42, w1, w2, hle, bd_some, n10, n00, bv_eq, within_eq, in_eq, gd_T, gd_t, i00, i10, c_0, c_1, c_m1, ite10, ite01, setV_fn, setV_at, cntS, nI_pos, nI_clamp, nI_leI, nI_ltI, nI_eq, nI_1, if_true, if_false, not_true, not_false, and_self, and_true, true_and, false_and, and_false, or_false, false_or, or_true, true_or, not_false_eq_true, ite_self, ite_true, ite_false, reduceIte, Nat.reduceEqDiff, Nat.reduceMul, Nat.reduceAdd, Nat.reduceLT, Nat.reducePow, ne_eq]
    · have hq : q ≠ k + 1 := fun z => by subst z; omega
      obtain ⟨q', a1, a2⟩ := ih N (q - 1) (by omega) (by omega) (by omega) (by omega) (fun i hi hi' => by
        by_cases z : i = q
        · subst z; omega
        · exact h3 i (by omega) hi')
      refine ⟨q', ?_, a2⟩
      have e : nI q - 1 = nI (q - 1) := by rw [show (1 : Int32) = nI 1 from rfl, pk_sub (by omega)]
      rw [← a1]
      simp (disch := omega) only [Lp_X12_nextRow_42, F_X12_nextRow_42, w1, w2, hle, e, bd_some, n10, n00, bv_eq, within_eq, in_eq, gd_T, gd_t, i00, i10, c_0, c_1, c_m1, ite10, ite01, setV_fn, setV_at, cntS, nI_pos, nI_clamp, nI_leI, nI_ltI, nI_eq, nI_1, if_true, if_false, not_true, not_false, and_self, and_true, true_and, false_and, and_false, or_false, false_or, or_true, true_or, not_false_eq_true, ite_self, ite_true, ite_false, reduceIte, Nat.reduceEqDiff, Nat.reduceMul, Nat.reduceAdd, Nat.reduceLT, Nat.reducePow, ne_eq]
theorem nx_k {fu n : Nat} {V : St} {r : Nat → Nat} {x1 : Int32} {kx : St → Int32 → Int32 → RR} (hn : n ≤ 9) (hpm : isPm n r) (h : RwV V n r) : ∀ (k N : Nat), k < N → k + 1 ≤ n → (∀ i, k ≤ i → i + 1 < n → r (i + 1) < r i) → (Lp_X12_nextRow_4 kx fu N V x1 (nI k - 1) = kx V x1 (-1) ∧ ∀ i, i + 1 < n → r (i + 1) < r i) ∨ ∃ k', Lp_X12_nextRow_4 kx fu N V x1 (nI k - 1) = kx V x1 (nI k') ∧ k' + 1 < n ∧ r k' < r (k' + 1) ∧ ∀ i, k' < i → i + 1 < n → r (i + 1) < r i := by
  intro k
  induction k with
  | zero =>
    intro N hN hk hd
    obtain ⟨N, rfl⟩ : ∃ N', N = N' + 1 := ⟨N - 1, by omega⟩
    left
    refine ⟨?_, fun i hi => hd i (by omega) hi⟩
    have e : nI 0 - 1 = -1 := by decide
    rw [e, Lp_X12_nextRow_4, F_X12_nextRow_4, if_pos (by decide)]
  | succ k ih =>
    intro N hN hk hd
    obtain ⟨N, rfl⟩ : ∃ N', N = N' + 1 := ⟨N - 1, by omega⟩
    have e1 : nI (k + 1) - 1 = nI k := nI_pred k
    have w1 := h k (by omega)
    have w2 := h (k + 1) (by omega)
    have b1 := hpm.1 k (by omega)
    have b2 := hpm.1 (k + 1) (by omega)
    have hne : r k ≠ r (k + 1) := fun z => by have := hpm.2 k (k + 1) (by omega) (by omega) z; omega
    by_cases hle : r k ≤ r (k + 1)
    · right
      refine ⟨k, ?_, by omega, by omega, fun i hi hi' => hd i (by omega) hi'⟩
      rw [e1]
      simp (disch := omega) only [Lp_X12_nextRow_4, F_X12_nextRow_4, w1, w2, hle, bd_some, n10, n00, bv_eq, within_eq, in_eq, gd_T, gd_t, i00, i10, c_0, c_1, c_m1, ite10, ite01, setV_fn, setV_at, cntS, nI_pos, nI_clamp, nI_leI, nI_ltI, nI_eq, nI_1, if_true, if_false, not_true, not_false, and_self, and_true, true_and, false_and, and_false, or_false, false_or, or_true, true_or, not_false_eq_true, ite_self, ite_true, ite_false, reduceIte, Nat.reduceEqDiff, Nat.reduceMul, Nat.reduceAdd, Nat.reduceLT, Nat.reducePow, ne_eq]
    · have : Lp_X12_nextRow_4 kx fu (N + 1) V x1 (nI (k + 1) - 1) = Lp_X12_nextRow_4 kx fu N V x1 (nI k - 1) := by
        rw [e1]
        simp (disch := omega) only [Lp_X12_nextRow_4, F_X12_nextRow_4, w1, w2, hle, bd_some, n10, n00, bv_eq, within_eq, in_eq, gd_T, gd_t, i00, i10, c_0, c_1, c_m1, ite10, ite01, setV_fn, setV_at, cntS, nI_pos, nI_clamp, nI_leI, nI_ltI, nI_eq, nI_1, if_true, if_false, not_true, not_false, and_self, and_true, true_and, false_and, and_false, or_false, false_or, or_true, true_or, not_false_eq_true, ite_self, ite_true, ite_false, reduceIte, Nat.reduceEqDiff, Nat.reduceMul, Nat.reduceAdd, Nat.reduceLT, Nat.reducePow, ne_eq]
      rw [this]
      exact ih N (by omega) (by omega) (fun i hi hi' => by
        by_cases z : i = k
        · subst z; omega
        · exact hd i (by omega) hi')
theorem nextRow_eq {fu n : Nat} {V : St} {r : Nat → Nat} (hfu : 1000 ≤ fu) (hn : n ≤ 9) (hpm : isPm n r) (h : RwV V n r) : (f_X12_nextRow fu V (nI n) = some (0, V) ∧ ∀ t, isPm n t → ¬ lexLt n r t) ∨ ∃ V1 r', f_X12_nextRow fu V (nI n) = some (1, V1) ∧ Fr [2230] V V1 ∧ RwV V1 n r' ∧ isNx n r r' := by
  by_cases hn0 : n = 0
  · subst hn0
    left
    refine ⟨?_, fun t _ ⟨k, k1, _⟩ => by omega⟩
    obtain ⟨fu, rfl⟩ : ∃ N', fu = N' + 1 := ⟨fu - 1, by omega⟩
    have e : nI 0 - 2 = -2 := by decide
    have e2 : ((-2 : Int32) < 0) := by decide
    have e3 : ¬ (0 : Int32) ≤ -2 := by decide
    rw [f_X12_nextRow, e, Lp_X12_nextRow_4, F_X12_nextRow_4, if_pos e2, F_X12_nextRow_32, if_neg e3]
  · have e0 : nI n - 2 = nI (n - 1) - 1 := by
      have : nI n = nI (n - 1) + 1 := by rw [nI_1, show n - 1 + 1 = n by omega]
      rw [this]; grind
    have hun : f_X12_nextRow fu V (nI n) = Lp_X12_nextRow_4 (F_X12_nextRow_32 fu) fu fu V (nI n) (nI (n - 1) - 1) := by rw [f_X12_nextRow, e0]
    rw [hun]
    rcases nx_k (fu := fu) (x1 := nI n) (kx := F_X12_nextRow_32 fu) hn hpm h (n - 1) fu (by omega) (by omega) (fun i hi hi' => by omega) with ⟨a1, a2⟩ | ⟨k, a1, a2, a3, a4⟩
    · left
      refine ⟨?_, nx_last hpm a2⟩
      have e3 : ¬ (0 : Int32) ≤ -1 := by decide
      rw [a1, F_X12_nextRow_32, if_neg e3]
    · right
      obtain ⟨q, b1, b2, b3, b4, b5⟩ := nx_q (fu := fu) (x1 := nI n) (kx := F_X12_nextRow_64 fu) hn hpm a2 a3 h 9 fu (n - 1) (by omega) (by omega) (by omega) (by omega) (fun i hi hi' => by omega)
      obtain ⟨V1, c1, c2, c3⟩ := swaps_eq (fu := fu) hn (show k < n by omega) b3 h
      obtain ⟨V2, d1, d2, d3⟩ := nx_rev (fu := fu) (kx := F_X12_nextRow_110 fu) hn (show k < n by omega) 9 fu (k + 1) (n - 1) V1 _ (by omega) (by omega) (by omega) (by omega) (by omega) c3
      refine ⟨V2, nxR n k q r, ?_, c2.trans d2, fun i hi => ?_, nx_ok hpm a2 a3 a4 b2 b3 b4 b5⟩
      · have e1 : nI n - 1 = nI (n - 1) := by rw [show (1 : Int32) = nI 1 from rfl, pk_sub (by omega)]
        rw [a1, F_X12_nextRow_32, if_pos (nI_pos' (by omega)), e1, b1, F_X12_nextRow_64, c1, bd_some, e1, nI_1, d1, F_X12_nextRow_110]
      · rw [d3 i hi]
        simp only []
        unfold nxR
        rcases Nat.lt_trichotomy i k with z | z | z
        · rw [if_neg (by omega), if_pos z, if_neg (by omega), if_neg (by omega)]
        · subst z
          rw [if_neg (by omega), if_neg (by omega), if_pos rfl, if_neg (by omega), if_pos rfl]
        · rw [if_pos (by omega), if_neg (show ¬ i < k by omega), if_neg (show ¬ i = k by omega)]
          by_cases y : n + k - i = q
          · rw [if_pos y, if_pos y]
          · rw [if_neg y, if_neg y, if_neg (by omega)]
