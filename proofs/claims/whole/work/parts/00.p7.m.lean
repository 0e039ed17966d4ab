/-! the reference's moreFlow -/
theorem moreFlow_eq {fu d j s src : Nat} {V : St} {A B c : Nat → Nat} {fl : Nat → Int} (hfu : 1000 ≤ fu) (hsrc : src < 8) (hs0 : src ≠ 0) (h : RfD V d j s A B c fl) : (∃ V', f_X12_moreFlow fu V (nI d) (nI src) = some (0, V') ∧ Fr [2228, 2229] V V' ∧ RfD V' d j s A B c fl ∧ ∃ S0 : Nat → Bool, S0 src = true ∧ S0 0 = false ∧ (∀ k, k < s → S0 (A k) = true → S0 (B k) = false → fl k = tbo (c k)) ∧ (∀ k, k < s → S0 (A k) = false → S0 (B k) = true → fl k = -(tbo (c k) : Int))) ∨ (∃ V' m fl', f_X12_moreFlow fu V (nI d) (nI src) = some (zI m, V') ∧ Fr [2228, 2229] V V' ∧ 1 ≤ m ∧ m ≤ 100000 ∧ RfD V' d j s A B c fl' ∧ ∀ led, LedF s A B fl src led → LedF s A B fl' src (led + m)) := by
  obtain ⟨W, cm, b1, b2, b3, b4, b5⟩ := lq_search hfu hsrc h
  have hW := h.fr b2
  have hx := h.2.2.2.2
  have hj := h.2.1
  obtain ⟨h0, rk, hr⟩ := b4
  have w0 : W 2229 0 0 = cm 0 := by rw [b3]
  by_cases c0 : cm 0 = -1
  · left
    have hc := b5.resolve_left (fun z => z c0)
    refine ⟨W, ?_, Fr.weak b2 (by decide), hW, fun v => decide (¬ cm v = -1), ?_, ?_, ?_, ?_⟩
    · rw [b1, F_X12_moreFlow_211, c_0, gd_t (by decide), w0, if_pos c0]
    · rw [decide_eq_true_eq, h0]; decide
    · rw [decide_eq_false_iff_not]; exact fun z => z c0
    · intro k hk z1 z2
      rw [decide_eq_true_eq] at z1
      rw [decide_eq_false_iff_not, Decidable.not_not] at z2
      obtain ⟨a1, a2, a3, a4, a5, a6, a7, a8, a9, a10⟩ := hx k hk
      have : ¬ fl k < tbo (c k) := (hc k hk).1 z1 z2
      omega
    · intro k hk z1 z2
      rw [decide_eq_true_eq] at z2
      rw [decide_eq_false_iff_not, Decidable.not_not] at z1
      obtain ⟨a1, a2, a3, a4, a5, a6, a7, a8, a9, a10⟩ := hx k hk
      have : ¬ -fl k < tbo (c k) := (hc k hk).2 z2 z1
      omega
  · right
    obtain ⟨rk', r1, r2⟩ := rank_norm rk
    obtain ⟨m, g1, g2, g3, g4⟩ := lq_least (fu := fu) (rk := rk') (kx := F_X12_moreFlow_344 fu) hsrc hW b3 (fun v hv hvs hne => by
      obtain ⟨k, k1, k2, k3⟩ := hr v hv hvs hne
      obtain ⟨a1, a2, -⟩ := hx k k1
      refine ⟨k, k1, k2, ?_⟩
      rcases k3 with ⟨k3, k4, k5, k6⟩ | ⟨k3, k4, k5, k6⟩
      · exact .inl ⟨k3, k4, r2 _ _ (by omega) k5, k6⟩
      · exact .inr ⟨k3, k4, r2 _ _ (by omega) k5, k6⟩) 8 fu 0 100000 (r1 0) (by omega) (by omega) c0 (by omega) (by omega)
    obtain ⟨W', fl', d1, d2, d3, d4⟩ := lq_raise (fu := fu) (kx := F_X12_moreFlow_450 fu) hsrc g2 g3 8 fu 0 W fl (by omega) (by omega) hW b3 g4
    refine ⟨W', m, fl', ?_, (Fr.weak b2 (by decide)).trans (Fr.weak d2 (by decide)), g2, g3, d3, fun led hl S z1 z2 => ?_⟩
    · have e : zI 100000 = 100000 := by decide
      rw [nI_0, e] at g1
      rw [nI_0] at d1
      rw [b1, F_X12_moreFlow_211, c_0, gd_t (by decide), w0, if_neg c0, g1, F_X12_moreFlow_344, d1, F_X12_moreFlow_450]
    · rw [d4 S, hl S z1 z2, z1, z2]
      show led + m * (1 - 0) = led + m
      omega
