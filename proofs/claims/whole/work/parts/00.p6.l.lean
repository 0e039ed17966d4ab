/-! fewest -/
theorem lp_town {fu n s : Nat} {V : St} {t : Int32} (h12 : n ≤ 12) (hn1 : V 2106 0 0 = nI n) (hn2 : V 2232 0 0 = nI n) (hx : ∀ m, m < n → MakV V m) (hs : s < 4096) : ∀ (N i : Nat), i ≤ n → n < i + N → ∃ b : Int32, (b = 0 ∨ b = 1) ∧ Lp_X11_isInTown_2 (F_X11_isInTown_40 fu) (F_X11_isInTown_48 fu) fu N V (nI s) t (nI i) = some (b, V) ∧ Lp_X12_hasTown_2 (F_X12_hasTown_29 fu) (F_X12_hasTown_37 fu) fu N V (nI s) t (nI i) = some (if t = -1 then 1 else b, V) := by
  have hc : cntV V 2106 = n := cnt_n (by decide) (by omega) hn1
  intro N
  induction N with
  | zero => intro i h0 h; omega
  | succ N ih =>
    intro i h0 h
    by_cases hi : n ≤ i
    · refine ⟨0, .inl rfl, ?_, ?_⟩
      · simp (disch := omega) only [Lp_X11_isInTown_2, F_X11_isInTown_2, F_X11_isInTown_48, hn1, hi, bd_some, n10, n00, bv_eq, within_eq, in_eq, gd_T, gd_t, i00, i10, c_0, c_1, c_m1, ite10, ite01, setV_fn, setV_at, cntS, nI_pos, nI_clamp, nI_leI, nI_ltI, nI_eq, nI_1, if_true, if_false, not_true, not_false, and_self, and_true, true_and, false_and, and_false, or_false, false_or, or_true, true_or, not_false_eq_true, ite_self, ite_true, ite_false, reduceIte, Nat.reduceEqDiff, Nat.reduceMul, Nat.reduceAdd, Nat.reduceLT, Nat.reducePow, ne_eq]
      · simp (disch := omega) only [Lp_X12_hasTown_2, F_X12_hasTown_2, F_X12_hasTown_37, F_X12_hasTown_47, hn2, hi, bd_some, n10, n00, bv_eq, within_eq, in_eq, gd_T, gd_t, i00, i10, c_0, c_1, c_m1, ite10, ite01, setV_fn, setV_at, cntS, nI_pos, nI_clamp, nI_leI, nI_ltI, nI_eq, nI_1, if_true, if_false, not_true, not_false, and_self, and_true, true_and, false_and, and_false, or_false, false_or, or_true, true_or, not_false_eq_true, ite_self, ite_true, ite_false, reduceIte, Nat.reduceEqDiff, Nat.reduceMul, Nat.reduceAdd, Nat.reduceLT, Nat.reducePow, ne_eq]
        split <;> rfl
    · obtain ⟨b, b0, b1, b2⟩ := ih (i + 1) (by omega) (by omega)
      have bs := bit_eq hs (show i < 12 by omega)
      obtain ⟨k1, -⟩ := hx i (by omega)
      by_cases c1 : s.testBit i = true
      · by_cases c2 : V 2233 0 i = t
        · refine ⟨1, .inr rfl, ?_, ?_⟩
          · simp (disch := omega) only [Lp_X11_isInTown_2, F_X11_isInTown_2, F_X11_isInTown_40, hn1, hc, hi, bs, c1, k1, c2, bd_some, n10, n00, bv_eq, within_eq, in_eq, gd_T, gd_t, i00, i10, c_0, c_1, c_m1, ite10, ite01, setV_fn, setV_at, cntS, nI_pos, nI_clamp, nI_leI, nI_ltI, nI_eq, nI_1, if_true, if_false, not_true, not_false, and_self, and_true, true_and, false_and, and_false, or_false, false_or, or_true, true_or, not_false_eq_true, ite_self, ite_true, ite_false, reduceIte, Nat.reduceEqDiff, Nat.reduceMul, Nat.reduceAdd, Nat.reduceLT, Nat.reducePow, ne_eq]
          · simp (disch := omega) only [Lp_X12_hasTown_2, F_X12_hasTown_2, F_X12_hasTown_29, hn2, hi, bs, c1, c2, bd_some, n10, n00, bv_eq, within_eq, in_eq, gd_T, gd_t, i00, i10, c_0, c_1, c_m1, ite10, ite01, setV_fn, setV_at, cntS, nI_pos, nI_clamp, nI_leI, nI_ltI, nI_eq, nI_1, if_true, if_false, not_true, not_false, and_self, and_true, true_and, false_and, and_false, or_false, false_or, or_true, true_or, not_false_eq_true, ite_self, ite_true, ite_false, reduceIte, Nat.reduceEqDiff, Nat.reduceMul, Nat.reduceAdd, Nat.reduceLT, Nat.reducePow, ne_eq]
        · refine ⟨b, b0, ?_, ?_⟩
          · simp (disch := omega) only [Lp_X11_isInTown_2, F_X11_isInTown_2, F_X11_isInTown_42, hn1, hc, hi, bs, c1, k1, c2, bd_some, n10, n00, bv_eq, within_eq, in_eq, gd_T, gd_t, i00, i10, c_0, c_1, c_m1, ite10, ite01, setV_fn, setV_at, cntS, nI_pos, nI_clamp, nI_leI, nI_ltI, nI_eq, nI_1, if_true, if_false, not_true, not_false, and_self, and_true, true_and, false_and, and_false, or_false, false_or, or_true, true_or, not_false_eq_true, ite_self, ite_true, ite_false, reduceIte, Nat.reduceEqDiff, Nat.reduceMul, Nat.reduceAdd, Nat.reduceLT, Nat.reducePow, ne_eq]; exact b1
          · simp (disch := omega) only [Lp_X12_hasTown_2, F_X12_hasTown_2, F_X12_hasTown_31, hn2, hi, bs, c1, c2, bd_some, n10, n00, bv_eq, within_eq, in_eq, gd_T, gd_t, i00, i10, c_0, c_1, c_m1, ite10, ite01, setV_fn, setV_at, cntS, nI_pos, nI_clamp, nI_leI, nI_ltI, nI_eq, nI_1, if_true, if_false, not_true, not_false, and_self, and_true, true_and, false_and, and_false, or_false, false_or, or_true, true_or, not_false_eq_true, ite_self, ite_true, ite_false, reduceIte, Nat.reduceEqDiff, Nat.reduceMul, Nat.reduceAdd, Nat.reduceLT, Nat.reducePow, ne_eq]; exact b2
      · refine ⟨b, b0, ?_, ?_⟩
        · simp (disch := omega) only [Lp_X11_isInTown_2, F_X11_isInTown_2, F_X11_isInTown_42, hn1, hi, bs, c1, reduceCtorEq, bd_some, n10, n00, bv_eq, within_eq, in_eq, gd_T, gd_t, i00, i10, c_0, c_1, c_m1, ite10, ite01, setV_fn, setV_at, cntS, nI_pos, nI_clamp, nI_leI, nI_ltI, nI_eq, nI_1, if_true, if_false, not_true, not_false, and_self, and_true, true_and, false_and, and_false, or_false, false_or, or_true, true_or, not_false_eq_true, ite_self, ite_true, ite_false, reduceIte, Nat.reduceEqDiff, Nat.reduceMul, Nat.reduceAdd, Nat.reduceLT, Nat.reducePow, ne_eq]; exact b1
        · simp (disch := omega) only [Lp_X12_hasTown_2, F_X12_hasTown_2, F_X12_hasTown_31, hn2, hi, bs, c1, reduceCtorEq, bd_some, n10, n00, bv_eq, within_eq, in_eq, gd_T, gd_t, i00, i10, c_0, c_1, c_m1, ite10, ite01, setV_fn, setV_at, cntS, nI_pos, nI_clamp, nI_leI, nI_ltI, nI_eq, nI_1, if_true, if_false, not_true, not_false, and_self, and_true, true_and, false_and, and_false, or_false, false_or, or_true, true_or, not_false_eq_true, ite_self, ite_true, ite_false, reduceIte, Nat.reduceEqDiff, Nat.reduceMul, Nat.reduceAdd, Nat.reduceLT, Nat.reducePow, ne_eq]; exact b2
theorem lp_few {fu n w : Nat} {V : St} {t p : Int32} (hfu : 1000 ≤ fu) (hma : I_mak V n) (hw : w < 4096) (hp : 0 ≤ p) : ∀ (N s : Nat) (best least : Int32), 1 ≤ s → s ≤ w + 1 → w + 1 < s + N → (best = -1 ∨ ∃ b, b < 4096 ∧ best = nI b) → ∃ r, Lp_X11_fewest_40 (F_X11_fewest_132 fu) fu N V (nI w) p t best least (nI s) = some (r, V) ∧ Lp_X12_fewest_40 (F_X12_fewest_137 fu) fu N V (nI w) p t best least (nI s) = some (r, V) := by
  have hma' := hma
  obtain ⟨h12, hn1, hn2, -, -, hx, -⟩ := hma'
  intro N
  induction N with
  | zero => intro s best least h0 h1 h2; omega
  | succ N ih =>
    intro s best least h0 h1 h2 hb
    by_cases hsw : w < s
    · have hlt : nI w < nI s := nI_lt hsw (by omega)
      exact ⟨best, by rw [Lp_X11_fewest_40, F_X11_fewest_40, if_pos hlt, F_X11_fewest_132], by rw [Lp_X12_fewest_40, F_X12_fewest_40, if_pos hlt, F_X12_fewest_137]⟩
    have hlt : ¬ nI w < nI s := nI_nlt (by omega) (by omega)
    have hs4 : s < 4096 := by omega
    obtain ⟨rk, k1, k2⟩ := ih (s + 1) best least (by omega) (by omega) (by omega) hb
    by_cases hsub : nI s &&& (nI w ^^^ (-1)) = 0
    rotate_left
    · refine ⟨rk, ?_, ?_⟩
      · rw [Lp_X11_fewest_40, F_X11_fewest_40, if_neg hlt, if_neg hsub, F_X11_fewest_126, nI_1]; exact k1
      · rw [Lp_X12_fewest_40, F_X12_fewest_40, if_neg hlt, if_neg hsub, F_X12_fewest_131, nI_1]; exact k2
    obtain ⟨b, b0, b1, b2⟩ := lp_town (fu := fu) (t := t) h12 hn1 hn2 hx hs4 fu 0 (by omega) (by omega)
    rw [nI_0] at b1 b2
    have b1 : f_X11_isInTown fu V (nI s) t = some (b, V) := b1
    have b2 : f_X12_hasTown fu V (nI s) t = some (if t = -1 then 1 else b, V) := b2
    obtain ⟨r, r1, r2, r3⟩ := hands_eq (fu := fu) (s := s) (tw := w) (p := p) hfu hma hs4 hw hp
    obtain ⟨rt, t1, t2⟩ := ih (s + 1) (nI s) r (by omega) (by omega) (by omega) (.inr ⟨s, hs4, rfl⟩)
    -- behind the town
    have tail : ∃ q, F_X11_fewest_70 (Lp_X11_fewest_40 (F_X11_fewest_132 fu) fu N) (F_X11_fewest_132 fu) fu V (nI w) p t best least (nI s) = some (q, V) ∧ (bd (f_X12_neededBy fu V (nI w) (nI s) p) fun r7 V8 => if r7 = (-1) then (F_X12_fewest_131 (Lp_X12_fewest_40 (F_X12_fewest_137 fu) fu N) (F_X12_fewest_137 fu) fu V8 (nI w) p t best least (nI s)) else (if best = (-1) then (F_X12_fewest_123 (Lp_X12_fewest_40 (F_X12_fewest_137 fu) fu N) (F_X12_fewest_137 fu) fu V8 (nI w) p t (nI s) (r7)) else (if least < r7 then (F_X12_fewest_131 (Lp_X12_fewest_40 (F_X12_fewest_137 fu) fu N) (F_X12_fewest_137 fu) fu V8 (nI w) p t best least (nI s)) else (if r7 = least then (bd (f_X12_bits fu V8 (nI s)) fun r14 V15 => bd (f_X12_bits fu V15 best) fun r17 V18 => if r14 < r17 then (F_X12_fewest_123 (Lp_X12_fewest_40 (F_X12_fewest_137 fu) fu N) (F_X12_fewest_137 fu) fu V18 (nI w) p t (nI s) (r7)) else (F_X12_fewest_131 (Lp_X12_fewest_40 (F_X12_fewest_137 fu) fu N) (F_X12_fewest_137 fu) fu V18 (nI w) p t best least (nI s))) else (F_X12_fewest_123 (Lp_X12_fewest_40 (F_X12_fewest_137 fu) fu N) (F_X12_fewest_137 fu) fu V8 (nI w) p t (nI s) (r7)))))) = some (q, V) := by
      rw [F_X11_fewest_70, r1, r2, bd_some, bd_some]
      rcases r3 with r3 | r3
      · subst r3
        refine ⟨rk, ?_, ?_⟩
        · rw [if_pos (by decide), F_X11_fewest_126, nI_1]; exact k1
        · rw [if_pos rfl, F_X12_fewest_131, nI_1]; exact k2
      · have hr : ¬ r = -1 := fun z => by rw [z] at r3; revert r3; decide
        have hr0 : ¬ r < 0 := by grind
        rw [if_neg hr, if_neg hr, if_neg hr0]
        by_cases hbest : best = -1
        · refine ⟨rt, ?_, ?_⟩
          · rw [if_pos hbest, F_X11_fewest_118, F_X11_fewest_126, nI_1]; exact t1
          · rw [if_pos hbest, F_X12_fewest_123, F_X12_fewest_131, nI_1]; exact t2
        · rw [if_neg hbest, if_neg hbest]
          by_cases c1 : r < least
          · refine ⟨rt, ?_, ?_⟩
            · rw [if_pos c1, F_X11_fewest_118, F_X11_fewest_126, nI_1]; exact t1
            · rw [if_neg (by grind), if_neg (by grind), F_X12_fewest_123, F_X12_fewest_131, nI_1]; exact t2
          · rw [if_neg c1]
            by_cases c2 : r = least
            · obtain ⟨bb, hbb, rfl⟩ := hb.resolve_left hbest
              rw [if_pos c2, if_neg (by grind), if_pos c2, bc_eq hs4, bd_some, bc_eq hbb, bd_some, bits_eq hfu hs4, bd_some, bits_eq hfu hbb, bd_some]
              by_cases c3 : nI (pcR bb 31 0) ≤ nI (pcR s 31 0)
              · refine ⟨rk, ?_, ?_⟩
                · rw [if_pos c3, F_X11_fewest_126, nI_1]; exact k1
                · rw [if_neg (by grind), F_X12_fewest_131, nI_1]; exact k2
              · refine ⟨rt, ?_, ?_⟩
                · rw [if_neg c3, F_X11_fewest_118, F_X11_fewest_126, nI_1]; exact t1
                · rw [if_pos (by grind), F_X12_fewest_123, F_X12_fewest_131, nI_1]; exact t2
            · refine ⟨rk, ?_, ?_⟩
              · rw [if_neg c2, F_X11_fewest_126, nI_1]; exact k1
              · rw [if_pos (by grind), F_X12_fewest_131, nI_1]; exact k2
    obtain ⟨q, q1, q2⟩ := tail
    by_cases ht : t = -1
    · refine ⟨q, ?_, ?_⟩
      · rw [Lp_X11_fewest_40, F_X11_fewest_40, if_neg hlt, if_pos hsub, if_pos ht]; exact q1
      · rw [Lp_X12_fewest_40, F_X12_fewest_40, if_neg hlt, if_pos hsub, b2, bd_some, if_pos ht, if_neg (by decide)]; exact q2
    · rcases b0 with rfl | rfl
      · refine ⟨rk, ?_, ?_⟩
        · rw [Lp_X11_fewest_40, F_X11_fewest_40, if_neg hlt, if_pos hsub, if_neg ht, b1, bd_some, if_pos rfl, F_X11_fewest_126, nI_1]; exact k1
        · rw [Lp_X12_fewest_40, F_X12_fewest_40, if_neg hlt, if_pos hsub, b2, bd_some, if_neg ht, if_pos rfl, F_X12_fewest_131, nI_1]; exact k2
      · refine ⟨q, ?_, ?_⟩
        · rw [Lp_X11_fewest_40, F_X11_fewest_40, if_neg hlt, if_pos hsub, if_neg ht, b1, bd_some, if_neg (by decide)]; exact q1
        · rw [Lp_X12_fewest_40, F_X12_fewest_40, if_neg hlt, if_pos hsub, b2, bd_some, if_neg ht, if_neg (by decide)]; exact q2
theorem P_fewest {fu k : Nat} {V : St} (hfu : 10000 ≤ fu) (hI : Inv k V) (t p o : Int32) : Step k (fun V => f_X11_fewest fu V t p o) (fun V => f_X12_fewest fu V t p o) V := by
  have hI' := hI
  obtain ⟨nC, nD, nT, nM, nP, nK, nS, nR, nL, nO, hL, hmi, hta, hcl, hdr, hth, hla, hma, hor, hpe, hdo, hse, hru, hmk⟩ := hI
  have h12 := hma.1
  have h0 : 2 ^ nM ≤ 2 ^ 12 := Nat.pow_le_pow_right (by decide) h12
  rcases told_eq (fu := fu) (x := t) (by omega) h12 hma.2.1 hma.2.2.1 with ⟨w, hw, rfl, m1, m2⟩ | ⟨m1, m2⟩
  rotate_left
  · refine Step.same (r := -1) ?_ ?_ hI'
    · simp only [f_X11_fewest, F_X11_fewest_29, m1, bd_some, if_true]
    · simp only [f_X12_fewest, F_X12_fewest_29, m2, bd_some, if_true]
  rcases (Decidable.em (1 ≤ p ∧ p ≤ 100000)).symm with hp | hp
  · refine Step.same (r := -1) ?_ ?_ hI'
    · simp only [f_X11_fewest, F_X11_fewest_29, m1, hp, bd_some, n10, n00, bv_eq, gd, within_eq, in_eq, c_0, c_1, c_m1, ite10, ite01, if_true, if_false, not_true, not_false, and_self, and_true, true_and, or_false, false_or, not_false_eq_true, ite_true, ite_false, reduceIte]
    · simp only [f_X12_fewest, F_X12_fewest_29, m2, hp, bd_some, n10, n00, bv_eq, gd, within_eq, in_eq, c_0, c_1, c_m1, ite10, ite01, if_true, if_false, not_true, not_false, and_self, and_true, true_and, or_false, false_or, not_false_eq_true, ite_true, ite_false, reduceIte]
  rcases (Decidable.em (-1 ≤ o ∧ o ≤ 7)).symm with ho | ho
  · refine Step.same (r := -1) ?_ ?_ hI'
    · simp only [f_X11_fewest, F_X11_fewest_29, m1, hp, ho, bd_some, n10, n00, bv_eq, gd, within_eq, in_eq, c_0, c_1, c_m1, ite10, ite01, if_true, if_false, not_true, not_false, and_self, and_true, true_and, or_false, false_or, not_false_eq_true, ite_true, ite_false, reduceIte]
    · simp only [f_X12_fewest, F_X12_fewest_29, m2, hp, ho, bd_some, n10, n00, bv_eq, gd, within_eq, in_eq, c_0, c_1, c_m1, ite10, ite01, if_true, if_false, not_true, not_false, and_self, and_true, true_and, or_false, false_or, not_false_eq_true, ite_true, ite_false, reduceIte]
  obtain ⟨r, r1, r2⟩ := lp_few (fu := fu) (w := w) (t := o) (p := p) (by omega) hma (by omega) (by have := hp.1; grind) fu 1 (-1) 0 (by omega) (by omega) (by omega) (.inl rfl)
  refine Step.same (r := r) ?_ ?_ hI'
  · simp only [f_X11_fewest, F_X11_fewest_29, m1, hp, ho, bd_some, n10, n00, bv_eq, gd, within_eq, in_eq, c_0, c_1, c_m1, ite10, ite01, if_true, if_false, not_true, not_false, and_self, and_true, true_and, or_false, false_or, not_false_eq_true, ite_true, ite_false, reduceIte]; exact r1
  · simp only [f_X12_fewest, F_X12_fewest_29, m2, hp, ho, bd_some, n10, n00, bv_eq, gd, within_eq, in_eq, c_0, c_1, c_m1, ite10, ite01, if_true, if_false, not_true, not_false, and_self, and_true, true_and, or_false, false_or, not_false_eq_true, ite_true, ite_false, reduceIte]; exact r2
