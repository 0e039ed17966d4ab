/-! the reference's way back: the least room, the flow raised -/
theorem lq_least {fu d j s src : Nat} {V : St} {A B c : Nat → Nat} {fl : Nat → Int} {cm : Nat → Int32} {rk : Nat → Nat} {kx : St → Int32 → Int32 → Int32 → RR} (hsrc : src < 8) (h : RfD V d j s A B c fl) (hcm : V 2229 0 = cm) (hr : ∀ v, v < 8 → v ≠ src → ¬ cm v = -1 → ∃ k, k < s ∧ cm v = nI k ∧ ((B k = v ∧ ¬ cm (A k) = -1 ∧ rk (A k) < rk v ∧ fl k < tbo (c k)) ∨ (A k = v ∧ ¬ cm (B k) = -1 ∧ rk (B k) < rk v ∧ -fl k < tbo (c k)))) : ∀ (n N v : Nat) (m : Int), rk v ≤ n → n < N → v < 8 → ¬ cm v = -1 → 1 ≤ m → m ≤ 100000 → ∃ m', Lp_X12_moreFlow_230 kx fu N V (nI d) (nI src) (zI m) (nI v) = kx V (nI d) (nI src) (zI m') ∧ 1 ≤ m' ∧ m' ≤ m ∧ Way s A B (fun k => tbo (c k)) fl src cm rk m' n v := by
  obtain ⟨hd, hj, hs, e1, hx⟩ := h
  have hcm' : ∀ q, V 2229 0 q = cm q := fun q => by rw [hcm]
  intro n
  induction n with
  | zero =>
    intro N v m hrv hN hv hcv h1 h2
    obtain ⟨N, rfl⟩ : ∃ N', N = N' + 1 := ⟨N - 1, by omega⟩
    have hvs : v = src := by
      by_cases z : v = src
      · exact z
      · obtain ⟨k, -, -, q⟩ := hr v hv z hcv
        rcases q with q | q <;> omega
    subst hvs
    exact ⟨m, by rw [Lp_X12_moreFlow_230, F_X12_moreFlow_230, if_pos rfl], h1, Int.le_refl m, rfl⟩
  | succ n ih =>
    intro N v m hrv hN hv hcv h1 h2
    obtain ⟨N, rfl⟩ : ∃ N', N = N' + 1 := ⟨N - 1, by omega⟩
    by_cases hvs : v = src
    · subst hvs
      exact ⟨m, by rw [Lp_X12_moreFlow_230, F_X12_moreFlow_230, if_pos rfl], h1, Int.le_refl m, .inl rfl⟩
    · obtain ⟨k, hk, hck, q⟩ := hr v hv hvs hcv
      obtain ⟨a1, a2, a3, a4, a5, a6, a7, a8, a9, a10⟩ := hx k hk
      have tb := tbo_le (c k)
      have hbe := fun W => bearsOf_eq (fu := fu) (V := W) a4
      rcases q with ⟨q1, q2, q3, q4⟩ | ⟨q1, q2, q3, q4⟩
      · subst q1
        by_cases hm : m ≤ tbo (c k) - fl k
        · have hm' : zI m ≤ zI (tbo (c k) - fl k) := (zI_le (by omega) (by omega) (by omega) (by omega)).mpr hm
          obtain ⟨m', g1, g2, g3, g4⟩ := ih N (A k) m (by omega) (by omega) (by omega) q2 h1 h2
          refine ⟨m', ?_, g2, g3, .inr ⟨hvs, k, hk, hck, .inl ⟨rfl, q3, by show m' ≤ tbo (c k) - fl k; omega, g4⟩⟩⟩
          rw [← g1]
          simp (disch := omega) only [Lp_X12_moreFlow_230, F_X12_moreFlow_230, F_X12_moreFlow_294, F_X12_moreFlow_309, F_X12_moreFlow_339, hcm', hck, hvs, hbe, ix8, zI_sub, a5, a6, a7, a8, hm', bd_some, n10, n00, bv_eq, within_eq, in_eq, gd_T, gd_t, i00, i10, c_0, c_1, c_m1, ite10, ite01, setV_fn, setV_at, cntS, nI_pos, nI_clamp, nI_leI, nI_ltI, nI_eq, nI_1, if_true, if_false, not_true, not_false, and_self, and_true, true_and, false_and, and_false, or_false, false_or, or_true, true_or, not_false_eq_true, ite_self, ite_true, ite_false, reduceIte, Nat.reduceEqDiff, Nat.reduceMul, Nat.reduceAdd, Nat.reduceLT, Nat.reducePow, ne_eq]
        · have hm' : ¬ zI m ≤ zI (tbo (c k) - fl k) := fun z => hm ((zI_le (by omega) (by omega) (by omega) (by omega)).mp z)
          obtain ⟨m', g1, g2, g3, g4⟩ := ih N (A k) (tbo (c k) - fl k) (by omega) (by omega) (by omega) q2 (by omega) (by omega)
          refine ⟨m', ?_, g2, by omega, .inr ⟨hvs, k, hk, hck, .inl ⟨rfl, q3, by show m' ≤ tbo (c k) - fl k; omega, g4⟩⟩⟩
          rw [← g1]
          simp (disch := omega) only [Lp_X12_moreFlow_230, F_X12_moreFlow_230, F_X12_moreFlow_294, F_X12_moreFlow_309, F_X12_moreFlow_339, hcm', hck, hvs, hbe, ix8, zI_sub, a5, a6, a7, a8, hm', bd_some, n10, n00, bv_eq, within_eq, in_eq, gd_T, gd_t, i00, i10, c_0, c_1, c_m1, ite10, ite01, setV_fn, setV_at, cntS, nI_pos, nI_clamp, nI_leI, nI_ltI, nI_eq, nI_1, if_true, if_false, not_true, not_false, and_self, and_true, true_and, false_and, and_false, or_false, false_or, or_true, true_or, not_false_eq_true, ite_self, ite_true, ite_false, reduceIte, Nat.reduceEqDiff, Nat.reduceMul, Nat.reduceAdd, Nat.reduceLT, Nat.reducePow, ne_eq]
      · subst q1
        have hba : ¬ B k = A k := fun z => a3 z.symm
        by_cases hm : m ≤ tbo (c k) - -fl k
        · have hm' : zI m ≤ zI (tbo (c k) - -fl k) := (zI_le (by omega) (by omega) (by omega) (by omega)).mpr hm
          obtain ⟨m', g1, g2, g3, g4⟩ := ih N (B k) m (by omega) (by omega) (by omega) q2 h1 h2
          refine ⟨m', ?_, g2, g3, .inr ⟨hvs, k, hk, hck, .inr ⟨rfl, q3, by show m' ≤ tbo (c k) + fl k; omega, g4⟩⟩⟩
          rw [← g1]
          simp (disch := omega) only [Lp_X12_moreFlow_230, F_X12_moreFlow_230, F_X12_moreFlow_294, F_X12_moreFlow_309, F_X12_moreFlow_339, hcm', hck, hvs, hba, hbe, ix8, zI_sub, zI_neg, a5, a6, a7, a8, hm', bd_some, n10, n00, bv_eq, within_eq, in_eq, gd_T, gd_t, i00, i10, c_0, c_1, c_m1, ite10, ite01, setV_fn, setV_at, cntS, nI_pos, nI_clamp, nI_leI, nI_ltI, nI_eq, nI_1, if_true, if_false, not_true, not_false, and_self, and_true, true_and, false_and, and_false, or_false, false_or, or_true, true_or, not_false_eq_true, ite_self, ite_true, ite_false, reduceIte, Nat.reduceEqDiff, Nat.reduceMul, Nat.reduceAdd, Nat.reduceLT, Nat.reducePow, ne_eq]
        · have hm' : ¬ zI m ≤ zI (tbo (c k) - -fl k) := fun z => hm ((zI_le (by omega) (by omega) (by omega) (by omega)).mp z)
          obtain ⟨m', g1, g2, g3, g4⟩ := ih N (B k) (tbo (c k) - -fl k) (by omega) (by omega) (by omega) q2 (by omega) (by omega)
          refine ⟨m', ?_, g2, by omega, .inr ⟨hvs, k, hk, hck, .inr ⟨rfl, q3, by show m' ≤ tbo (c k) + fl k; omega, g4⟩⟩⟩
          rw [← g1]
          simp (disch := omega) only [Lp_X12_moreFlow_230, F_X12_moreFlow_230, F_X12_moreFlow_294, F_X12_moreFlow_309, F_X12_moreFlow_339, hcm', hck, hvs, hba, hbe, ix8, zI_sub, zI_neg, a5, a6, a7, a8, hm', bd_some, n10, n00, bv_eq, within_eq, in_eq, gd_T, gd_t, i00, i10, c_0, c_1, c_m1, ite10, ite01, setV_fn, setV_at, cntS, nI_pos, nI_clamp, nI_leI, nI_ltI, nI_eq, nI_1, if_true, if_false, not_true, not_false, and_self, and_true, true_and, false_and, and_false, or_false, false_or, or_true, true_or, not_false_eq_true, ite_self, ite_true, ite_false, reduceIte, Nat.reduceEqDiff, Nat.reduceMul, Nat.reduceAdd, Nat.reduceLT, Nat.reducePow, ne_eq]
