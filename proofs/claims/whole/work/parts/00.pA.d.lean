/-! numbers, read by both -/
theorem flt_1 (p : Nat) : (-1000 : Int32) - nI p = flt 1 p := by unfold flt; rw [show (-1000 : Int32) * nI 1 = -1000 by decide]
theorem flt_2 (p : Nat) : (-2000 : Int32) - nI p = flt 2 p := by unfold flt; rw [show (-1000 : Int32) * nI 2 = -2000 by decide]
theorem flt_3 (p : Nat) : (-3000 : Int32) - nI p = flt 3 p := by unfold flt; rw [show (-1000 : Int32) * nI 3 = -3000 by decide]
theorem TxC.fr {V V' : St} {T : Nat → Int32} {n : Nat} {ws : List Nat} (h : TxC V T n) (hF : Fr ws V V') (hd : [1908, 1909, 2190, 2113].all (fun v => !ws.contains v) = true) : TxC V' T n := by
  have e := hF.all hd
  unfold TxC at h ⊢
  rw [e 1908 (by decide), e 1909 (by decide), e 2190 (by decide), e 2113 (by decide)]; exact h
theorem TxR.fr {V V' : St} {T : Nat → Int32} {n : Nat} {ws : List Nat} (h : TxR V T n) (hF : Fr ws V V') (hd : [2244, 2241].all (fun v => !ws.contains v) = true) : TxR V' T n := by
  have e := hF.all hd
  unfold TxR at h ⊢
  rw [e 2244 (by decide), e 2241 (by decide)]; exact h
theorem tape_C {n p : Nat} {V : St} {T : Nat → Int32} (h : TxC V T n) : (¬ (V 1908 0 0) < 0 ∧ ((V 1908 0 0)).toNatClampNeg < cntV V 2) ∧ lenV V 1002190 ((V 1908 0 0)).toNatClampNeg = 400 ∧ V 2113 ((V 1908 0 0)).toNatClampNeg p = T p := by
  obtain ⟨h1, h2, h3, h4, h5⟩ := h
  rw [h2, c_0]
  refine ⟨⟨by decide, by unfold cntV; rw [if_pos (by decide)]; decide⟩, ?_, by rw [h5]⟩
  show (V 2190 0 0).toNatClampNeg = 400; rw [h4]; rfl
theorem numL_adv {T : Nat → Int32} {n : Nat} (h : isTx T n) : ∀ m p v a w, numL (hN T n) m p v = .inr (a, w) → p ≤ a ∧ (p ≤ n → a ≤ n) ∧ ((v + 1) * 10 ^ m ≤ 100000 → w ≤ 99999) := by
  intro m
  induction m with
  | zero =>
    intro p v a w hq
    rw [numL] at hq
    split at hq
    · cases hq
    · have := Sum.inr.inj hq
      simp only [Prod.mk.injEq] at this
      obtain ⟨rfl, rfl⟩ := this
      exact ⟨Nat.le_refl _, fun z => z, fun z => by omega⟩
  | succ m ih =>
    intro p v a w hq
    rw [numL] at hq
    by_cases hd : 48 ≤ hN T n p ∧ hN T n p ≤ 57
    · rw [if_pos hd] at hq
      obtain ⟨i1, i2, i3⟩ := ih _ _ _ _ hq
      have hp : p < n := (hN_lt h).mp (by omega)
      refine ⟨by omega, fun z => i2 (by omega), fun z => i3 ?_⟩
      have e : (v + 1) * 10 ^ (m + 1) = 10 * (v + 1) * 10 ^ m := by rw [Nat.pow_succ]; rw [Nat.mul_comm 10 (v + 1), Nat.mul_assoc (v + 1) 10, Nat.mul_comm 10 (10 ^ m)]
      rw [e] at z
      refine Nat.le_trans (Nat.mul_le_mul_right _ ?_) z
      omega
    · rw [if_neg hd] at hq
      have := Sum.inr.inj hq
      simp only [Prod.mk.injEq] at this
      obtain ⟨rfl, rfl⟩ := this
      refine ⟨Nat.le_refl _, fun z => z, fun z => ?_⟩
      have h1 : 1 ≤ 10 ^ (m + 1) := Nat.pos_of_ne_zero (by rw [Nat.pow_succ]; have : 10 ^ m ≠ 0 := Nat.pos_iff_ne_zero.mp (Nat.pow_pos (by decide)); omega)
      have : (v + 1) * 1 ≤ (v + 1) * 10 ^ (m + 1) := Nat.mul_le_mul_left _ h1
      omega
theorem spNum_adv {T : Nat → Int32} {n most p a v : Nat} (h : isTx T n) (hq : spNum (hN T n) most p = .inr (a, v)) : p < a ∧ a ≤ n ∧ v ≤ 99999 ∧ v ≤ most ∧ p < n := by
  unfold spNum at hq
  by_cases hd : 48 ≤ hN T n p ∧ hN T n p ≤ 57
  · rw [if_pos hd] at hq
    have hp : p < n := (hN_lt h).mp (by omega)
    cases hr : numL (hN T n) 5 p 0 with
    | inl f => rw [hr] at hq; cases hq
    | inr w =>
      obtain ⟨a', v'⟩ := w
      rw [hr] at hq
      simp only [] at hq
      split at hq
      · rename_i hle
        have := Sum.inr.inj hq
        simp only [Prod.mk.injEq] at this
        obtain ⟨rfl, rfl⟩ := this
        rw [numL, if_pos hd] at hr
        obtain ⟨i1, i2, i3⟩ := numL_adv h _ _ _ _ _ hr
        exact ⟨by omega, i2 (by omega), i3 (by omega), hle, hp⟩
      · cases hq
  · rw [if_neg hd] at hq; cases hq
theorem rnC_loop {fu n st : Nat} {T : Nat → Int32} {x1 : Int32} (hst : st ≤ 160) : ∀ m N p v (V : St), st + 5 = p + m → m ≤ 5 → p ≤ n → m < N → TxC V T n → V 1910 0 0 = nI p → (v + 1) * 10 ^ m ≤ 100000 → (∀ f, numL (hN T n) m p v = .inl f → ∃ V', Lp_X9_readNumber_7 (F_X9_readNumber_56 fu) (F_X9_readNumber_101 fu) fu N V x1 (nI st) (nI v) = some (-1, V') ∧ Fr [1910, 1911] V V' ∧ V' 1911 0 0 = f) ∧ (∀ a w, numL (hN T n) m p v = .inr (a, w) → ∃ V', Lp_X9_readNumber_7 (F_X9_readNumber_56 fu) (F_X9_readNumber_101 fu) fu N V x1 (nI st) (nI v) = F_X9_readNumber_101 fu V' x1 (nI st) (nI w) ∧ Fr [1910] V V' ∧ V' 1910 0 0 = nI a) := by
  intro m
  induction m with
  | zero =>
    intro N p v V hm hm5 hp hN' ht e hv
    obtain ⟨N, rfl⟩ : ∃ N', N = N' + 1 := ⟨N - 1, by omega⟩
    have hn := ht.1.1
    obtain ⟨t1, t2, t3⟩ := tape_C (p := p) ht
    have hdg : (∃ j, j ≤ 57 ∧ 48 ≤ j ∧ hN T n p = j ∧ T p = nI j ∧ p < n) ∨ (¬ (48 ≤ hN T n p ∧ hN T n p ≤ 57) ∧ (n ≤ p ∨ (p < n ∧ (T p < 48 ∨ 57 < T p)))) := by
      by_cases z : p < n
      · obtain ⟨a1, a2, a3⟩ := hN_spec ht.1 z
        by_cases y : 48 ≤ hN T n p ∧ hN T n p ≤ 57
        · left
          rcases a3 with ⟨b1, b2⟩ | ⟨b1, b2⟩
          · exact ⟨_, y.2, y.1, rfl, b2, z⟩
          · omega
        · refine .inr ⟨y, .inr ⟨z, ?_⟩⟩
          rcases a3 with ⟨b1, b2⟩ | ⟨b1, b2⟩
          · rw [b2, show (48 : Int32) = nI 48 from rfl, show (57 : Int32) = nI 57 from rfl, nI_ltI (by omega) (by omega), nI_ltI (by omega) (by omega)]; omega
          · left; grind
      · refine .inr ⟨fun y => z ((hN_lt ht.1).mp (by omega)), .inl (by omega)⟩
    have g2 : p < n → ¬ (nI p < 0 ∨ 400 ≤ p) := fun _ w => w.elim (nI_pos (by omega)) (fun w => by omega)
    rw [numL]
    rcases hdg with ⟨j, j1, j2, j3, j4, j5⟩ | ⟨k1, k2⟩
    · have hd : 48 ≤ hN T n p ∧ hN T n p ≤ 57 := by omega
      rw [if_pos hd]
      refine ⟨fun f hf => ?_, fun a w hf => (by cases hf)⟩
      refine ⟨setV V 1911 0 0 (flt 2 p), ?_, (Fr.refl _ V).set (by decide), ?_⟩
      · have e5 : ¬ nI p - nI st < 5 := by
          rw [pk_sub (by omega), show (5 : Int32) = nI 5 from rfl, nI_ltI (by omega) (by omega)]; omega
        have c1 : ¬ nI j < 48 := by rw [show (48 : Int32) = nI 48 from rfl, nI_ltI (by omega) (by omega)]; omega
        have c2 : ¬ 57 < nI j := by rw [show (57 : Int32) = nI 57 from rfl, nI_ltI (by omega) (by omega)]; omega
        rw [Lp_X9_readNumber_7, F_X9_readNumber_7, ht.2.2.1, e, if_neg (nI_ge j5 (by omega)), gd_t t1, t2, nI_clamp (show p < 2 ^ 31 by omega), gd_t (g2 j5), t3, j4, if_neg c1, gd_t (g2 j5), if_neg c2, if_neg e5, F_X9_readNumber_56, e, flt_2, bv_eq]
      · rw [setV_at, if_pos ⟨rfl, rfl⟩]; exact Sum.inl.inj hf
    · rw [if_neg k1]
      refine ⟨fun f hf => (by cases hf), fun a w hf => ?_⟩
      have := Sum.inr.inj hf
      simp only [Prod.mk.injEq] at this
      obtain ⟨rfl, rfl⟩ := this
      refine ⟨V, ?_, Fr.refl _ V, e⟩
      rcases k2 with k2 | ⟨k2, k3⟩
      · rw [Lp_X9_readNumber_7, F_X9_readNumber_7, ht.2.2.1, e, if_pos (nI_le k2 (by omega))]
      · rw [Lp_X9_readNumber_7, F_X9_readNumber_7, ht.2.2.1, e, if_neg (nI_ge k2 (by omega)), gd_t t1, t2, nI_clamp (show p < 2 ^ 31 by omega), gd_t (g2 k2), t3]
        rcases k3 with k3 | k3
        · rw [if_pos k3]
        · rw [if_neg (by grind), gd_t (g2 k2), if_pos k3]
  | succ m ih =>
    intro N p v V hm hm5 hp hN' ht e hv
    obtain ⟨N, rfl⟩ : ∃ N', N = N' + 1 := ⟨N - 1, by omega⟩
    have hn := ht.1.1
    obtain ⟨t1, t2, t3⟩ := tape_C (p := p) ht
    have hdg : (∃ j, j ≤ 57 ∧ 48 ≤ j ∧ hN T n p = j ∧ T p = nI j ∧ p < n) ∨ (¬ (48 ≤ hN T n p ∧ hN T n p ≤ 57) ∧ (n ≤ p ∨ (p < n ∧ (T p < 48 ∨ 57 < T p)))) := by
      by_cases z : p < n
      · obtain ⟨a1, a2, a3⟩ := hN_spec ht.1 z
        by_cases y : 48 ≤ hN T n p ∧ hN T n p ≤ 57
        · left
          rcases a3 with ⟨b1, b2⟩ | ⟨b1, b2⟩
          · exact ⟨_, y.2, y.1, rfl, b2, z⟩
          · omega
        · refine .inr ⟨y, .inr ⟨z, ?_⟩⟩
          rcases a3 with ⟨b1, b2⟩ | ⟨b1, b2⟩
          · rw [b2, show (48 : Int32) = nI 48 from rfl, show (57 : Int32) = nI 57 from rfl, nI_ltI (by omega) (by omega), nI_ltI (by omega) (by omega)]; omega
          · left; grind
      · refine .inr ⟨fun y => z ((hN_lt ht.1).mp (by omega)), .inl (by omega)⟩
    have g2 : p < n → ¬ (nI p < 0 ∨ 400 ≤ p) := fun _ w => w.elim (nI_pos (by omega)) (fun w => by omega)
    rw [numL]
    rcases hdg with ⟨j, j1, j2, j3, j4, j5⟩ | ⟨k1, k2⟩
    · have hd : 48 ≤ hN T n p ∧ hN T n p ≤ 57 := by omega
      rw [if_pos hd]
      have e5 : nI p - nI st < 5 := by
        rw [pk_sub (by omega), show (5 : Int32) = nI 5 from rfl, nI_ltI (by omega) (by omega)]; omega
      have c1 : ¬ nI j < 48 := by rw [show (48 : Int32) = nI 48 from rfl, nI_ltI (by omega) (by omega)]; omega
      have c2 : ¬ 57 < nI j := by rw [show (57 : Int32) = nI 57 from rfl, nI_ltI (by omega) (by omega)]; omega
      have ev : nI v * 10 + nI j - 48 = nI (10 * v + (hN T n p - 48)) := by
        rw [show (10 : Int32) = nI 10 from rfl, show (48 : Int32) = nI 48 from rfl, pk_mul, nI_add, pk_sub (by omega)]
        congr 1; omega
      have hF : Fr [1910] V (setV V 1910 0 0 (nI (p + 1))) := (Fr.refl _ V).set (by decide)
      have e10 : (v + 1) * 10 ^ (m + 1) = 10 * (v + 1) * 10 ^ m := by rw [Nat.pow_succ]; rw [Nat.mul_comm 10 (v + 1), Nat.mul_assoc (v + 1) 10, Nat.mul_comm 10 (10 ^ m)]
      have hun : Lp_X9_readNumber_7 (F_X9_readNumber_56 fu) (F_X9_readNumber_101 fu) fu (N + 1) V x1 (nI st) (nI v) = Lp_X9_readNumber_7 (F_X9_readNumber_56 fu) (F_X9_readNumber_101 fu) fu N (setV V 1910 0 0 (nI (p + 1))) x1 (nI st) (nI (10 * v + (hN T n p - 48))) := by
        rw [Lp_X9_readNumber_7, F_X9_readNumber_7, ht.2.2.1, e, if_neg (nI_ge j5 (by omega)), gd_t t1, t2, nI_clamp (show p < 2 ^ 31 by omega), gd_t (g2 j5), t3, j4, if_neg c1, gd_t (g2 j5), if_neg c2, if_pos e5, gd_t (g2 j5), ev, nI_1, bv_eq]
      rw [hun]
      obtain ⟨i1, i2⟩ := ih N (p + 1) (10 * v + (hN T n p - 48)) (setV V 1910 0 0 (nI (p + 1))) (by omega) (by omega) (by omega) (by omega) (ht.fr hF (by decide)) (by rw [setV_at, if_pos ⟨rfl, rfl⟩]) (by
        rw [e10] at hv
        exact Nat.le_trans (Nat.mul_le_mul_right _ (by omega)) hv)
      refine ⟨fun f hf => ?_, fun a w hf => ?_⟩
      · obtain ⟨V', q1, q2, q3⟩ := i1 f hf
        exact ⟨V', q1, (hF.weak (by decide)).trans q2, q3⟩
      · obtain ⟨V', q1, q2, q3⟩ := i2 a w hf
        exact ⟨V', q1, hF.trans q2, q3⟩
    · rw [if_neg k1]
      refine ⟨fun f hf => (by cases hf), fun a w hf => ?_⟩
      have := Sum.inr.inj hf
      simp only [Prod.mk.injEq] at this
      obtain ⟨rfl, rfl⟩ := this
      refine ⟨V, ?_, Fr.refl _ V, e⟩
      rcases k2 with k2 | ⟨k2, k3⟩
      · rw [Lp_X9_readNumber_7, F_X9_readNumber_7, ht.2.2.1, e, if_pos (nI_le k2 (by omega))]
      · rw [Lp_X9_readNumber_7, F_X9_readNumber_7, ht.2.2.1, e, if_neg (nI_ge k2 (by omega)), gd_t t1, t2, nI_clamp (show p < 2 ^ 31 by omega), gd_t (g2 k2), t3]
        rcases k3 with k3 | k3
        · rw [if_pos k3]
        · rw [if_neg (by grind), gd_t (g2 k2), if_pos k3]
theorem num_C {fu n p most : Nat} {V : St} {T : Nat → Int32} (hfu : 1000 ≤ fu) (hmo : most ≤ 99999) (ht : TxC V T n) (hp : p ≤ n) (e : V 1910 0 0 = nI p) : (∀ f, spNum (hN T n) most p = .inl f → ∃ V', f_X9_readNumber fu V (nI most) = some (-1, V') ∧ Fr [1910, 1911] V V' ∧ V' 1911 0 0 = f) ∧ (∀ a v, spNum (hN T n) most p = .inr (a, v) → ∃ V', f_X9_readNumber fu V (nI most) = some (nI v, V') ∧ Fr [1910] V V' ∧ V' 1910 0 0 = nI a) := by
  have hn := ht.1.1
  obtain ⟨i1, i2⟩ := rnC_loop (fu := fu) (n := n) (st := p) (x1 := nI most) (by omega) 5 fu p 0 V (by omega) (by omega) hp (by omega) ht e (by omega)
  have hun : f_X9_readNumber fu V (nI most) = Lp_X9_readNumber_7 (F_X9_readNumber_56 fu) (F_X9_readNumber_101 fu) fu fu V (nI most) (nI p) (nI 0) := by rw [f_X9_readNumber, e, nI_0]
  rw [hun]
  unfold spNum
  by_cases hd : 48 ≤ hN T n p ∧ hN T n p ≤ 57
  · rw [if_pos hd]
    cases hr : numL (hN T n) 5 p 0 with
    | inl f0 =>
      obtain ⟨V', q1, q2, q3⟩ := i1 f0 hr
      exact ⟨fun f hf => ⟨V', q1, q2, by rw [q3]; exact Sum.inl.inj hf⟩, fun a v hf => (by cases hf)⟩
    | inr w =>
      obtain ⟨a0, v0⟩ := w
      obtain ⟨V', q1, q2, q3⟩ := i2 a0 v0 hr
      have hr' := hr
      rw [numL, if_pos hd] at hr'
      obtain ⟨j1, j2, j3⟩ := numL_adv ht.1 _ _ _ _ _ hr'
      have hp' : p < n := (hN_lt ht.1).mp (by omega)
      have j2 := j2 (by omega)
      have j3 := j3 (by omega)
      have hne : ¬ nI a0 = nI p := fun z => by have := (nI_eq (by omega) (by omega)).mp z; omega
      simp only []
      by_cases hle : v0 ≤ most
      · rw [if_pos hle]
        refine ⟨fun f hf => (by cases hf), fun a v hf => ?_⟩
        have := Sum.inr.inj hf
        simp only [Prod.mk.injEq] at this
        obtain ⟨rfl, rfl⟩ := this
        refine ⟨V', ?_, q2, q3⟩
        rw [q1, F_X9_readNumber_101, q3, if_neg hne, if_pos (nI_le hle (by omega))]
      · rw [if_neg hle]
        refine ⟨fun f hf => ?_, fun a v hf => (by cases hf)⟩
        refine ⟨setV V' 1911 0 0 (flt 3 p), ?_, (Fr.weak q2 (by decide)).set (by decide), ?_⟩
        · rw [q1, F_X9_readNumber_101, q3, if_neg hne, if_neg (nI_ge (by omega) (by omega)), flt_3, bv_eq]
        · rw [setV_at, if_pos ⟨rfl, rfl⟩]; exact Sum.inl.inj hf
  · rw [if_neg hd]
    have hr : numL (hN T n) 5 p 0 = .inr (p, 0) := by rw [numL, if_neg hd]
    obtain ⟨V', q1, q2, q3⟩ := i2 p 0 hr
    refine ⟨fun f hf => ?_, fun a v hf => (by cases hf)⟩
    refine ⟨setV V' 1911 0 0 (flt 1 p), ?_, (Fr.weak q2 (by decide)).set (by decide), ?_⟩
    · rw [q1, F_X9_readNumber_101, q3, if_pos rfl, flt_1, bv_eq]
    · rw [setV_at, if_pos ⟨rfl, rfl⟩]; exact Sum.inl.inj hf
theorem digit_R {fu n p : Nat} {V : St} {T : Nat → Int32} (ht : TxR V T n) (hp : p ≤ 200) (e : V 2243 0 0 = nI p) : f_X12_isDigit fu V = some (if 48 ≤ hN T n p ∧ hN T n p ≤ 57 then 1 else 0, V) := by
  have h1 := here_R (fu := fu) ht hp e
  have hl := hN_le (p := p) ht.1
  rw [f_X12_isDigit, h1, bd_some]
  by_cases z : hN T n p < 48 ∨ hN T n p = 256
  · rw [if_pos (by rw [hI_lt hl]; exact z), F_X12_isDigit_22, F_X12_isDigit_23, gd_t (.inl rfl), if_neg (by omega)]
  · rw [if_neg (by rw [hI_lt hl]; exact z), h1, bd_some]
    by_cases y : 57 < hN T n p ∧ hN T n p ≠ 256
    · rw [if_pos (by rw [hI_gt hl]; exact y), F_X12_isDigit_22, F_X12_isDigit_23, gd_t (.inl rfl), if_neg (by omega)]
    · rw [if_neg (by rw [hI_gt hl]; exact y), F_X12_isDigit_23, gd_t (.inr rfl), if_pos (by omega)]
theorem rnR_loop {fu n st : Nat} {T : Nat → Int32} {x1 : Int32} (hst : st ≤ 160) : ∀ m N p v (V : St), st + 5 = p + m → m ≤ 5 → p ≤ n → m < N → TxR V T n → V 2243 0 0 = nI p → V 2246 0 0 = nI v → (v + 1) * 10 ^ m ≤ 100000 → (∀ f, numL (hN T n) m p v = .inl f → ∃ V', Lp_X12_readsNumber_27 (F_X12_readsNumber_44 fu) (F_X12_readsNumber_86 fu) fu N V x1 (nI st) = some (0, V') ∧ Fr [2243, 2245, 2246] V V' ∧ V' 2245 0 0 = f) ∧ (∀ a w, numL (hN T n) m p v = .inr (a, w) → ∃ V', Lp_X12_readsNumber_27 (F_X12_readsNumber_44 fu) (F_X12_readsNumber_86 fu) fu N V x1 (nI st) = F_X12_readsNumber_86 fu V' x1 (nI st) ∧ Fr [2243, 2245, 2246] V V' ∧ V' 2243 0 0 = nI a ∧ V' 2246 0 0 = nI w) := by
  intro m
  induction m with
  | zero =>
    intro N p v V hm hm5 hp hN' ht e ev hv
    obtain ⟨N, rfl⟩ : ∃ N', N = N' + 1 := ⟨N - 1, by omega⟩
    have hn := ht.1.1
    have hd := digit_R (fu := fu) ht (by omega) e
    rw [numL]
    by_cases z : 48 ≤ hN T n p ∧ hN T n p ≤ 57
    · rw [if_pos z] at hd ⊢
      refine ⟨fun f hf => ?_, fun a w hf => (by cases hf)⟩
      refine ⟨setV V 2245 0 0 (flt 2 p), ?_, (Fr.refl _ V).set (by decide), ?_⟩
      · have e5 : nI p = nI st + 5 := by rw [show (5 : Int32) = nI 5 from rfl, nI_add]; congr 1; omega
        rw [Lp_X12_readsNumber_27, F_X12_readsNumber_27, hd, bd_some, if_neg (by decide), e, if_pos e5, F_X12_readsNumber_44, f_X12_wrong, e, bv_eq, bd_some, gd_t (.inl rfl)]
        rfl
      · rw [setV_at, if_pos ⟨rfl, rfl⟩]; exact Sum.inl.inj hf
    · rw [if_neg z] at hd ⊢
      refine ⟨fun f hf => (by cases hf), fun a w hf => ?_⟩
      have := Sum.inr.inj hf
      simp only [Prod.mk.injEq] at this
      obtain ⟨rfl, rfl⟩ := this
      refine ⟨V, ?_, Fr.refl _ V, e, ev⟩
      rw [Lp_X12_readsNumber_27, F_X12_readsNumber_27, hd, bd_some, if_pos rfl]
  | succ m ih =>
    intro N p v V hm hm5 hp hN' ht e ev hv
    obtain ⟨N, rfl⟩ : ∃ N', N = N' + 1 := ⟨N - 1, by omega⟩
    have hn := ht.1.1
    have hd := digit_R (fu := fu) ht (by omega) e
    have hh := here_R (fu := fu) ht (by omega) e
    rw [numL]
    by_cases z : 48 ≤ hN T n p ∧ hN T n p ≤ 57
    · rw [if_pos z] at hd ⊢
      have hp' : p < n := (hN_lt ht.1).mp (by omega)
      have e5 : ¬ nI p = nI st + 5 := fun y => by
        rw [show (5 : Int32) = nI 5 from rfl, nI_add] at y
        have := (nI_eq (by omega) (by omega)).mp y; omega
      have e10 : (v + 1) * 10 ^ (m + 1) = 10 * (v + 1) * 10 ^ m := by rw [Nat.pow_succ]; rw [Nat.mul_comm 10 (v + 1), Nat.mul_assoc (v + 1) 10, Nat.mul_comm 10 (10 ^ m)]
      have hF : Fr [2243, 2245, 2246] V (setV (setV V 2246 0 0 (nI (10 * v + (hN T n p - 48)))) 2243 0 0 (nI (p + 1))) := ((Fr.refl _ V).set (by decide)).set (by decide)
      have evv : 10 * nI v + hI (hN T n p) - 48 = nI (10 * v + (hN T n p - 48)) := by
        unfold hI
        rw [if_pos (by omega), show (10 : Int32) = nI 10 from rfl, show (48 : Int32) = nI 48 from rfl, pk_mul, nI_add, pk_sub (by omega)]
        congr 1; omega
      have hun : Lp_X12_readsNumber_27 (F_X12_readsNumber_44 fu) (F_X12_readsNumber_86 fu) fu (N + 1) V x1 (nI st) = Lp_X12_readsNumber_27 (F_X12_readsNumber_44 fu) (F_X12_readsNumber_86 fu) fu N (setV (setV V 2246 0 0 (nI (10 * v + (hN T n p - 48)))) 2243 0 0 (nI (p + 1))) x1 (nI st) := by
        rw [Lp_X12_readsNumber_27, F_X12_readsNumber_27, hd, bd_some, if_neg (by decide), e, if_neg e5, hh, bd_some, ev, evv, bv_eq, bv_eq, setV_fn (show 2243 ≠ 2246 by decide), e, nI_1]
      rw [hun]
      obtain ⟨i1, i2⟩ := ih N (p + 1) (10 * v + (hN T n p - 48)) _ (by omega) (by omega) (by omega) (by omega) (ht.fr hF (by decide)) (by rw [setV_at, if_pos ⟨rfl, rfl⟩]) (by rw [setV_fn (by decide), setV_at, if_pos ⟨rfl, rfl⟩]) (by
        rw [e10] at hv
        exact Nat.le_trans (Nat.mul_le_mul_right _ (by omega)) hv)
      refine ⟨fun f hf => ?_, fun a w hf => ?_⟩
      · obtain ⟨V', q1, q2, q3⟩ := i1 f hf
        exact ⟨V', q1, hF.trans q2, q3⟩
      · obtain ⟨V', q1, q2, q3⟩ := i2 a w hf
        exact ⟨V', q1, hF.trans q2, q3⟩
    · rw [if_neg z] at hd ⊢
      refine ⟨fun f hf => (by cases hf), fun a w hf => ?_⟩
      have := Sum.inr.inj hf
      simp only [Prod.mk.injEq] at this
      obtain ⟨rfl, rfl⟩ := this
      refine ⟨V, ?_, Fr.refl _ V, e, ev⟩
      rw [Lp_X12_readsNumber_27, F_X12_readsNumber_27, hd, bd_some, if_pos rfl]
theorem num_R {fu n p most : Nat} {V : St} {T : Nat → Int32} (hfu : 1000 ≤ fu) (hmo : most ≤ 99999) (ht : TxR V T n) (hp : p ≤ n) (e : V 2243 0 0 = nI p) : (∀ f, spNum (hN T n) most p = .inl f → ∃ V', f_X12_readsNumber fu V (nI most) = some (0, V') ∧ Fr [2243, 2245, 2246] V V' ∧ V' 2245 0 0 = f) ∧ (∀ a v, spNum (hN T n) most p = .inr (a, v) → ∃ V', f_X12_readsNumber fu V (nI most) = some (1, V') ∧ Fr [2243, 2245, 2246] V V' ∧ V' 2243 0 0 = nI a ∧ V' 2246 0 0 = nI v) := by
  have hn := ht.1.1
  have hF0 : Fr [2243, 2245, 2246] V (setV V 2246 0 0 0) := (Fr.refl _ V).set (by decide)
  have ht0 := ht.fr hF0 (by decide)
  have e0 : setV V 2246 0 0 0 2243 0 0 = nI p := by rw [setV_fn (by decide)]; exact e
  have hd := digit_R (fu := fu) ht0 (by omega) e0
  obtain ⟨i1, i2⟩ := rnR_loop (fu := fu) (n := n) (st := p) (x1 := nI most) (by omega) 5 fu p 0 (setV V 2246 0 0 0) (by omega) (by omega) hp (by omega) ht0 e0 (by rw [setV_at, if_pos ⟨rfl, rfl⟩, nI_0]) (by omega)
  unfold spNum
  by_cases hdg : 48 ≤ hN T n p ∧ hN T n p ≤ 57
  · rw [if_pos hdg] at hd ⊢
    have hun : f_X12_readsNumber fu V (nI most) = Lp_X12_readsNumber_27 (F_X12_readsNumber_44 fu) (F_X12_readsNumber_86 fu) fu fu (setV V 2246 0 0 0) (nI most) (nI p) := by
      rw [f_X12_readsNumber, bv_eq, hd, bd_some, if_neg (by decide), e]
    rw [hun]
    cases hr : numL (hN T n) 5 p 0 with
    | inl f0 =>
      obtain ⟨V', q1, q2, q3⟩ := i1 f0 hr
      exact ⟨fun f hf => ⟨V', q1, hF0.trans q2, by rw [q3]; exact Sum.inl.inj hf⟩, fun a v hf => (by cases hf)⟩
    | inr w =>
      obtain ⟨a0, v0⟩ := w
      obtain ⟨V', q1, q2, q3, q4⟩ := i2 a0 v0 hr
      have hr' := hr
      rw [numL, if_pos hdg] at hr'
      obtain ⟨j1, j2, j3⟩ := numL_adv ht.1 _ _ _ _ _ hr'
      have j3 := j3 (by omega)
      simp only []
      by_cases hle : v0 ≤ most
      · rw [if_pos hle]
        refine ⟨fun f hf => (by cases hf), fun a v hf => ?_⟩
        have := Sum.inr.inj hf
        simp only [Prod.mk.injEq] at this
        obtain ⟨rfl, rfl⟩ := this
        refine ⟨V', ?_, hF0.trans q2, q3, q4⟩
        rw [q1, F_X12_readsNumber_86, q4, if_pos (nI_le hle (by omega)), F_X12_readsNumber_103, F_X12_readsNumber_108, gd_t (.inr rfl)]
      · rw [if_neg hle]
        refine ⟨fun f hf => ?_, fun a v hf => (by cases hf)⟩
        refine ⟨setV V' 2245 0 0 (flt 3 p), ?_, (hF0.trans q2).set (by decide), ?_⟩
        · rw [q1, F_X12_readsNumber_86, q4, if_neg (nI_ge (by omega) (by omega)), f_X12_wrong, bv_eq, bd_some, if_pos rfl, F_X12_readsNumber_108, gd_t (.inl rfl)]
          rfl
        · rw [setV_at, if_pos ⟨rfl, rfl⟩]; exact Sum.inl.inj hf
  · rw [if_neg hdg] at hd ⊢
    refine ⟨fun f hf => ?_, fun a v hf => (by cases hf)⟩
    refine ⟨setV (setV V 2246 0 0 0) 2245 0 0 (flt 1 p), ?_, hF0.set (by decide), ?_⟩
    · rw [f_X12_readsNumber, bv_eq, hd, bd_some, if_pos rfl, f_X12_wrong, e0, bv_eq, bd_some, gd_t (.inl rfl)]
      rfl
    · rw [setV_at, if_pos ⟨rfl, rfl⟩]; exact Sum.inl.inj hf
