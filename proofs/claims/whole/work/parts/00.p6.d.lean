/-! laid -/
theorem lp_widest {fu nT x p : Nat} {V : St} {wid : Nat → Nat} (h30 : nT ≤ 30) (hn : V 2105 0 0 = nI nT) (hx : x < nT) (hp9 : p ≤ 9) (hp : V 2009 x 0 = nI p) (hl : 0 < p → V 2090 x 0 = 9) (hw : ∀ k, k < p → V 2008 x k = nI (wid k)) : ∀ (N i : Nat) (a : Int32), i ≤ p → p < i + N → ∃ r, Lp_X10_widest_4 (F_X10_widest_29 fu) fu N V (nI x) a (nI i) = some (r, V) ∧ ∀ y : Int32, (r ≤ y ↔ a ≤ y ∧ ∀ k, i ≤ k → k < p → nI (wid k) ≤ y) := by
  have hc : cntV V 2105 = nT := cnt_n (by decide) (by omega) hn
  intro N
  induction N with
  | zero => intro i a h0 h; omega
  | succ N ih =>
    intro i a h0 h
    by_cases hi : p ≤ i
    · refine ⟨a, ?_, fun y => ⟨fun q => ⟨q, fun k h1 h2 => by omega⟩, fun q => q.1⟩⟩
      simp (disch := omega) only [Lp_X10_widest_4, F_X10_widest_4, F_X10_widest_29, hc, hp, hi, bd_some, n10, n00, bv_eq, within_eq, in_eq, gd_T, gd_t, i00, i10, c_0, c_1, c_m1, ite10, ite01, setV_fn, setV_at, cntS, nI_pos, nI_clamp, nI_leI, nI_ltI, nI_eq, nI_1, if_true, if_false, not_true, not_false, and_self, and_true, true_and, false_and, and_false, or_false, false_or, or_true, true_or, not_false_eq_true, ite_self, ite_true, ite_false, reduceIte, Nat.reduceEqDiff, Nat.reduceMul, Nat.reduceAdd, Nat.reduceLT, Nat.reducePow, ne_eq]
    · have hlen : lenV V 1002090 x = 9 := by show (V 2090 x 0).toNatClampNeg = 9; rw [hl (by omega)]; rfl
      have hwi := hw i (by omega)
      obtain ⟨r, r1, r2⟩ := ih (i + 1) (if a < nI (wid i) then nI (wid i) else a) (by omega) (by omega)
      refine ⟨r, ?_, fun y => ?_⟩
      · rw [← r1]
        simp (disch := omega) only [Lp_X10_widest_4, F_X10_widest_4, hc, hp, hi, hlen, hwi, bd_some, n10, n00, bv_eq, within_eq, in_eq, gd_T, gd_t, i00, i10, c_0, c_1, c_m1, ite10, ite01, setV_fn, setV_at, cntS, nI_pos, nI_clamp, nI_leI, nI_ltI, nI_eq, nI_1, if_true, if_false, not_true, not_false, and_self, and_true, true_and, false_and, and_false, or_false, false_or, or_true, true_or, not_false_eq_true, ite_self, ite_true, ite_false, reduceIte, Nat.reduceEqDiff, Nat.reduceMul, Nat.reduceAdd, Nat.reduceLT, Nat.reducePow, ne_eq]
      · rw [r2 y]
        constructor
        · intro ⟨q1, q2⟩
          refine ⟨by split at q1 <;> grind, fun k h1 h2 => ?_⟩
          by_cases hk : k = i
          · subst hk; split at q1 <;> grind
          · exact q2 k (by omega) h2
        · intro ⟨q1, q2⟩
          have := q2 i (Nat.le_refl i) (by omega)
          exact ⟨by split <;> assumption, fun k h1 h2 => q2 k (by omega) h2⟩
theorem lp_wider {fu x p : Nat} {V : St} {y : Int32} {wid : Nat → Nat} (hx : x < 30) (hp9 : p ≤ 9) (hp : V 2223 0 x = nI p) (hw : ∀ k, k < p → V 2225 0 (9 * x + k) = nI (wid k)) : ∀ (N i : Nat), i ≤ p → p < i + N → (Lp_X12_isWider_2 (F_X12_isWider_27 fu) (F_X12_isWider_35 fu) fu N V (nI x) y (nI i) = some (0, V) ∧ ∀ k, i ≤ k → k < p → nI (wid k) ≤ y) ∨ (Lp_X12_isWider_2 (F_X12_isWider_27 fu) (F_X12_isWider_35 fu) fu N V (nI x) y (nI i) = some (1, V) ∧ ∃ k, i ≤ k ∧ k < p ∧ ¬ nI (wid k) ≤ y) := by
  intro N
  induction N with
  | zero => intro i h0 h; omega
  | succ N ih =>
    intro i h0 h
    by_cases hi : p ≤ i
    · refine .inl ⟨?_, fun k h1 h2 => by omega⟩
      simp (disch := omega) only [Lp_X12_isWider_2, F_X12_isWider_2, F_X12_isWider_35, hp, hi, bd_some, n10, n00, bv_eq, within_eq, in_eq, gd_T, gd_t, i00, i10, c_0, c_1, c_m1, ite10, ite01, setV_fn, setV_at, cntS, nI_pos, nI_clamp, nI_leI, nI_ltI, nI_eq, nI_1, if_true, if_false, not_true, not_false, and_self, and_true, true_and, false_and, and_false, or_false, false_or, or_true, true_or, not_false_eq_true, ite_self, ite_true, ite_false, reduceIte, Nat.reduceEqDiff, Nat.reduceMul, Nat.reduceAdd, Nat.reduceLT, Nat.reducePow, ne_eq]
    · have hwi := hw i (by omega)
      by_cases hq : nI (wid i) ≤ y
      · rcases ih (i + 1) (by omega) (by omega) with ⟨r1, r2⟩ | ⟨r1, k, k1, k2, k3⟩
        · refine .inl ⟨?_, fun k h1 h2 => ?_⟩
          · simp (disch := omega) only [Lp_X12_isWider_2, F_X12_isWider_2, hp, hi, ix9, hwi, hq, bd_some, n10, n00, bv_eq, within_eq, in_eq, gd_T, gd_t, i00, i10, c_0, c_1, c_m1, ite10, ite01, setV_fn, setV_at, cntS, nI_pos, nI_clamp, nI_leI, nI_ltI, nI_eq, nI_1, if_true, if_false, not_true, not_false, and_self, and_true, true_and, false_and, and_false, or_false, false_or, or_true, true_or, not_false_eq_true, ite_self, ite_true, ite_false, reduceIte, Nat.reduceEqDiff, Nat.reduceMul, Nat.reduceAdd, Nat.reduceLT, Nat.reducePow, ne_eq]; exact r1
          · by_cases hk : k = i
            · subst hk; exact hq
            · exact r2 k (by omega) h2
        · refine .inr ⟨?_, k, by omega, k2, k3⟩
          simp (disch := omega) only [Lp_X12_isWider_2, F_X12_isWider_2, hp, hi, ix9, hwi, hq, bd_some, n10, n00, bv_eq, within_eq, in_eq, gd_T, gd_t, i00, i10, c_0, c_1, c_m1, ite10, ite01, setV_fn, setV_at, cntS, nI_pos, nI_clamp, nI_leI, nI_ltI, nI_eq, nI_1, if_true, if_false, not_true, not_false, and_self, and_true, true_and, false_and, and_false, or_false, false_or, or_true, true_or, not_false_eq_true, ite_self, ite_true, ite_false, reduceIte, Nat.reduceEqDiff, Nat.reduceMul, Nat.reduceAdd, Nat.reduceLT, Nat.reducePow, ne_eq]; exact r1
      · refine .inr ⟨?_, i, Nat.le_refl i, by omega, hq⟩
        simp (disch := omega) only [Lp_X12_isWider_2, F_X12_isWider_2, F_X12_isWider_27, hp, hi, ix9, hwi, hq, bd_some, n10, n00, bv_eq, within_eq, in_eq, gd_T, gd_t, i00, i10, c_0, c_1, c_m1, ite10, ite01, setV_fn, setV_at, cntS, nI_pos, nI_clamp, nI_leI, nI_ltI, nI_eq, nI_1, if_true, if_false, not_true, not_false, and_self, and_true, true_and, false_and, and_false, or_false, false_or, or_true, true_or, not_false_eq_true, ite_self, ite_true, ite_false, reduceIte, Nat.reduceEqDiff, Nat.reduceMul, Nat.reduceAdd, Nat.reduceLT, Nat.reducePow, ne_eq]
theorem b255 : ∀ j : Nat, j < 128 → (nI j - 128) &&& 255 = nI (j + 128) ∧ nI j &&& 255 = nI j := by decide
theorem byte_or {b : Int32} (h : -128 ≤ b ∧ b ≤ 127) : (∃ j, j < 128 ∧ b = nI j ∧ b &&& 255 = nI j) ∨ (b < 0 ∧ ∃ j, 128 ≤ j ∧ j < 256 ∧ b &&& 255 = nI j) := by
  by_cases h0 : b < 0
  · obtain ⟨j, hj, e⟩ := nI_of2 (x := b + 128) (M := 127) (n := 127) (by decide) (by grind) (by grind)
    have : b = nI j - 128 := by rw [← e]; grind
    exact .inr ⟨h0, j + 128, by omega, by omega, by rw [this]; exact (b255 j (by omega)).1⟩
  · obtain ⟨j, hj, e⟩ := nI_of2 (x := b) (M := 127) (n := 127) (by decide) h0 h.2
    exact .inl ⟨j, by omega, e, by rw [e]; exact (b255 j (by omega)).2⟩
theorem lp_whole {fu n x : Nat} {V : St} {w : Int32} {T : Nat → Int32} {kx kz : St → RR} {ky : St → Int32 → Int32 → RR} (hn9 : n ≤ 9) (hlen : lenV V 1002190 0 = 400) (hT : V 2113 0 = T) (hTb : ∀ j, -128 ≤ T j ∧ T j ≤ 127) : ∀ (N i : Nat) (m : Int32) (U : St), i ≤ n → n < i + N → U 2241 0 = T → (∀ k, k < i → ∃ q, q < n ∧ T k = nI q ∧ U 2230 0 k = nI q) → (Lp_X5_isWholeOrder_22 (F_X5_isWholeOrder_55 fu) (F_X5_isWholeOrder_74 fu) fu N V (nI n) m (nI i) = some (0, V) ∧ ∃ U1, Lp_X12_laid_75 kz ky fu N U (nI x) w (nI n) m (nI i) = kz U1 ∧ Fr [2230] U U1) ∨ (Lp_X5_isWholeOrder_22 (F_X5_isWholeOrder_55 fu) (F_X5_isWholeOrder_74 fu) fu N V (nI n) m (nI i) = some (1, V) ∧ ∃ U1, Lp_X12_laid_75 kz ky fu N U (nI x) w (nI n) m (nI i) = ky U1 (nI x) w ∧ Fr [2230] U U1 ∧ ∀ k, k < n → ∃ q, q < n ∧ T k = nI q ∧ U1 2230 0 k = nI q) := by
  intro N
  induction N with
  | zero => intro i m U h0 h; omega
  | succ N ih =>
    intro i m U h0 h hU hk
    by_cases hi : n ≤ i
    · have hin : i = n := by omega
      subst hin
      have hle : i ≤ i := Nat.le_refl i
      refine .inr ⟨?_, U, ?_, Fr.refl _ U, hk⟩
      · simp (disch := omega) only [Lp_X5_isWholeOrder_22, F_X5_isWholeOrder_22, F_X5_isWholeOrder_74, hle, bd_some, n10, n00, bv_eq, within_eq, in_eq, gd_T, gd_t, i00, i10, c_0, c_1, c_m1, ite10, ite01, setV_fn, setV_at, cntS, nI_pos, nI_clamp, nI_leI, nI_ltI, nI_eq, nI_1, if_true, if_false, not_true, not_false, and_self, and_true, true_and, false_and, and_false, or_false, false_or, or_true, true_or, not_false_eq_true, ite_self, ite_true, ite_false, reduceIte, Nat.reduceEqDiff, Nat.reduceMul, Nat.reduceAdd, Nat.reduceLT, Nat.reducePow, ne_eq]
      · simp (disch := omega) only [Lp_X12_laid_75, F_X12_laid_75, hle, bd_some, n10, n00, bv_eq, within_eq, in_eq, gd_T, gd_t, i00, i10, c_0, c_1, c_m1, ite10, ite01, setV_fn, setV_at, cntS, nI_pos, nI_clamp, nI_leI, nI_ltI, nI_eq, nI_1, if_true, if_false, not_true, not_false, and_self, and_true, true_and, false_and, and_false, or_false, false_or, or_true, true_or, not_false_eq_true, ite_self, ite_true, ite_false, reduceIte, Nat.reduceEqDiff, Nat.reduceMul, Nat.reduceAdd, Nat.reduceLT, Nat.reducePow, ne_eq]
    · rcases byte_or (hTb i) with ⟨j, j1, j2, j3⟩ | ⟨j0, j, j1, j2, j3⟩
      · by_cases hjn : j < n
        · have w1 := lt_nI (x := 0) hjn (by omega)
          have hng : ¬ n ≤ j := by omega
          by_cases hm : (m >>> (nI j &&& 31)) &&& 1 = 1
          · refine .inl ⟨?_, U, ?_, Fr.refl _ U⟩
            · simp (disch := omega) only [Lp_X5_isWholeOrder_22, F_X5_isWholeOrder_22, F_X5_isWholeOrder_55, hlen, hT, j2, w1, hm, hi, bd_some, n10, n00, bv_eq, within_eq, in_eq, gd_T, gd_t, i00, i10, c_0, c_1, c_m1, ite10, ite01, setV_fn, setV_at, cntS, nI_pos, nI_clamp, nI_leI, nI_ltI, nI_eq, nI_1, if_true, if_false, not_true, not_false, and_self, and_true, true_and, false_and, and_false, or_false, false_or, or_true, true_or, not_false_eq_true, ite_self, ite_true, ite_false, reduceIte, Nat.reduceEqDiff, Nat.reduceMul, Nat.reduceAdd, Nat.reduceLT, Nat.reducePow, ne_eq]
            · simp (disch := omega) only [Lp_X12_laid_75, F_X12_laid_75, hU, j3, hng, hm, hi, bd_some, n10, n00, bv_eq, within_eq, in_eq, gd_T, gd_t, i00, i10, c_0, c_1, c_m1, ite10, ite01, setV_fn, setV_at, cntS, nI_pos, nI_clamp, nI_leI, nI_ltI, nI_eq, nI_1, if_true, if_false, not_true, not_false, and_self, and_true, true_and, false_and, and_false, or_false, false_or, or_true, true_or, not_false_eq_true, ite_self, ite_true, ite_false, reduceIte, Nat.reduceEqDiff, Nat.reduceMul, Nat.reduceAdd, Nat.reduceLT, Nat.reducePow, ne_eq]
          · have hr : ∀ k, k < i + 1 → ∃ q, q < n ∧ T k = nI q ∧ setV U 2230 0 i (nI j) 2230 0 k = nI q := fun k hk2 => by
              by_cases hki : k = i
              · subst hki; exact ⟨j, hjn, j2, by rw [setV_at, if_pos ⟨rfl, rfl⟩]⟩
              · rw [setV_at, if_neg (fun z => hki z.2)]; exact hk k (by omega)
            have e1 : Lp_X5_isWholeOrder_22 (F_X5_isWholeOrder_55 fu) (F_X5_isWholeOrder_74 fu) fu (N + 1) V (nI n) m (nI i) = Lp_X5_isWholeOrder_22 (F_X5_isWholeOrder_55 fu) (F_X5_isWholeOrder_74 fu) fu N V (nI n) (m ||| (1 <<< (nI j &&& 31))) (nI (i + 1)) := by
              simp (disch := omega) only [Lp_X5_isWholeOrder_22, F_X5_isWholeOrder_22, hlen, hT, j2, w1, hm, hi, bd_some, n10, n00, bv_eq, within_eq, in_eq, gd_T, gd_t, i00, i10, c_0, c_1, c_m1, ite10, ite01, setV_fn, setV_at, cntS, nI_pos, nI_clamp, nI_leI, nI_ltI, nI_eq, nI_1, if_true, if_false, not_true, not_false, and_self, and_true, true_and, false_and, and_false, or_false, false_or, or_true, true_or, not_false_eq_true, ite_self, ite_true, ite_false, reduceIte, Nat.reduceEqDiff, Nat.reduceMul, Nat.reduceAdd, Nat.reduceLT, Nat.reducePow, ne_eq]
            have e2 : Lp_X12_laid_75 kz ky fu (N + 1) U (nI x) w (nI n) m (nI i) = Lp_X12_laid_75 kz ky fu N (setV U 2230 0 i (nI j)) (nI x) w (nI n) (m ||| (1 <<< (nI j &&& 31))) (nI (i + 1)) := by
              simp (disch := omega) only [Lp_X12_laid_75, F_X12_laid_75, hU, j3, hng, hm, hi, bd_some, n10, n00, bv_eq, within_eq, in_eq, gd_T, gd_t, i00, i10, c_0, c_1, c_m1, ite10, ite01, setV_fn, setV_at, cntS, nI_pos, nI_clamp, nI_leI, nI_ltI, nI_eq, nI_1, if_true, if_false, not_true, not_false, and_self, and_true, true_and, false_and, and_false, or_false, false_or, or_true, true_or, not_false_eq_true, ite_self, ite_true, ite_false, reduceIte, Nat.reduceEqDiff, Nat.reduceMul, Nat.reduceAdd, Nat.reduceLT, Nat.reducePow, ne_eq]
            rw [e1, e2]
            have hFU : Fr [2230] U (setV U 2230 0 i (nI j)) := (Fr.refl _ U).set (by decide)
            rcases ih (i + 1) (m ||| (1 <<< (nI j &&& 31))) (setV U 2230 0 i (nI j)) (by omega) (by omega) (by rw [setV_fn (by decide)]; exact hU) hr with ⟨a1, U1, a2, a3⟩ | ⟨a1, U1, a2, a3, a4⟩
            · exact .inl ⟨a1, U1, a2, hFU.trans a3⟩
            · exact .inr ⟨a1, U1, a2, hFU.trans a3, a4⟩
        · have w1 : ¬ (0 ≤ nI j ∧ nI j ≤ nI n - 1) := no_nI (.inr (nI_le (by omega) (by omega))) (by omega)
          have hng : n ≤ j := by omega
          refine .inl ⟨?_, U, ?_, Fr.refl _ U⟩
          · simp (disch := omega) only [Lp_X5_isWholeOrder_22, F_X5_isWholeOrder_22, F_X5_isWholeOrder_55, hlen, hT, j2, w1, hi, bd_some, n10, n00, bv_eq, within_eq, in_eq, gd_T, gd_t, i00, i10, c_0, c_1, c_m1, ite10, ite01, setV_fn, setV_at, cntS, nI_pos, nI_clamp, nI_leI, nI_ltI, nI_eq, nI_1, if_true, if_false, not_true, not_false, and_self, and_true, true_and, false_and, and_false, or_false, false_or, or_true, true_or, not_false_eq_true, ite_self, ite_true, ite_false, reduceIte, Nat.reduceEqDiff, Nat.reduceMul, Nat.reduceAdd, Nat.reduceLT, Nat.reducePow, ne_eq]
          · simp (disch := omega) only [Lp_X12_laid_75, F_X12_laid_75, hU, j3, hng, hi, bd_some, n10, n00, bv_eq, within_eq, in_eq, gd_T, gd_t, i00, i10, c_0, c_1, c_m1, ite10, ite01, setV_fn, setV_at, cntS, nI_pos, nI_clamp, nI_leI, nI_ltI, nI_eq, nI_1, if_true, if_false, not_true, not_false, and_self, and_true, true_and, false_and, and_false, or_false, false_or, or_true, true_or, not_false_eq_true, ite_self, ite_true, ite_false, reduceIte, Nat.reduceEqDiff, Nat.reduceMul, Nat.reduceAdd, Nat.reduceLT, Nat.reducePow, ne_eq]
      · have w1 : ¬ (0 ≤ T i ∧ T i ≤ nI n - 1) := fun q => by have := q.1; grind
        have hng : n ≤ j := by omega
        refine .inl ⟨?_, U, ?_, Fr.refl _ U⟩
        · simp (disch := omega) only [Lp_X5_isWholeOrder_22, F_X5_isWholeOrder_22, F_X5_isWholeOrder_55, hlen, hT, w1, hi, bd_some, n10, n00, bv_eq, within_eq, in_eq, gd_T, gd_t, i00, i10, c_0, c_1, c_m1, ite10, ite01, setV_fn, setV_at, cntS, nI_pos, nI_clamp, nI_leI, nI_ltI, nI_eq, nI_1, if_true, if_false, not_true, not_false, and_self, and_true, true_and, false_and, and_false, or_false, false_or, or_true, true_or, not_false_eq_true, ite_self, ite_true, ite_false, reduceIte, Nat.reduceEqDiff, Nat.reduceMul, Nat.reduceAdd, Nat.reduceLT, Nat.reducePow, ne_eq]
        · simp (disch := omega) only [Lp_X12_laid_75, F_X12_laid_75, hU, j3, hng, hi, bd_some, n10, n00, bv_eq, within_eq, in_eq, gd_T, gd_t, i00, i10, c_0, c_1, c_m1, ite10, ite01, setV_fn, setV_at, cntS, nI_pos, nI_clamp, nI_leI, nI_ltI, nI_eq, nI_1, if_true, if_false, not_true, not_false, and_self, and_true, true_and, false_and, and_false, or_false, false_or, or_true, true_or, not_false_eq_true, ite_self, ite_true, ite_false, reduceIte, Nat.reduceEqDiff, Nat.reduceMul, Nat.reduceAdd, Nat.reduceLT, Nat.reducePow, ne_eq]
theorem lp_len {fu nT x p : Nat} {V U : St} {w : Int32} {len wid : Nat → Nat} {T : Nat → Int32} (h30 : nT ≤ 30) (hx : x < nT) (hp9 : p ≤ 9) (hn : V 2105 0 0 = nI nT) (hp : V 2009 x 0 = nI p) (hlen : lenV V 1002190 0 = 400) (hl : 0 < p → V 2090 x 0 = 9) (hT : V 2113 0 = T) (hv : ∀ k, k < p → V 2007 x k = nI (len k) ∧ V 2008 x k = nI (wid k)) (hp2 : U 2223 0 x = nI p) (hv2 : ∀ k, k < p → U 2224 0 (9 * x + k) = nI (len k) ∧ U 2225 0 (9 * x + k) = nI (wid k)) (hr : ∀ k, k < p → ∃ q, q < p ∧ T k = nI q ∧ U 2230 0 k = nI q) : ∀ (N i : Nat) (a l t : Int32), i ≤ p → p < i + N → ∃ r, Lp_X5_lengthOf_12 (F_X5_lengthOf_84 fu) fu N V (nI x) w a l t (nI i) = some (r, V) ∧ Lp_X12_lengthOf_11 (F_X12_lengthOf_103 fu) fu N U (nI x) w a t l (nI i) = some (r, U) := by
  have hc : cntV V 2105 = nT := cnt_n (by decide) (by omega) hn
  intro N
  induction N with
  | zero => intro i a l t h0 h; omega
  | succ N ih =>
    intro i a l t h0 h
    by_cases hi : p ≤ i
    · refine ⟨a + t, ?_, ?_⟩
      · simp (disch := omega) only [Lp_X5_lengthOf_12, F_X5_lengthOf_12, F_X5_lengthOf_84, hc, hp, hi, bd_some, n10, n00, bv_eq, within_eq, in_eq, gd_T, gd_t, i00, i10, c_0, c_1, c_m1, ite10, ite01, setV_fn, setV_at, cntS, nI_pos, nI_clamp, nI_leI, nI_ltI, nI_eq, nI_1, if_true, if_false, not_true, not_false, and_self, and_true, true_and, false_and, and_false, or_false, false_or, or_true, true_or, not_false_eq_true, ite_self, ite_true, ite_false, reduceIte, Nat.reduceEqDiff, Nat.reduceMul, Nat.reduceAdd, Nat.reduceLT, Nat.reducePow, ne_eq]
      · simp (disch := omega) only [Lp_X12_lengthOf_11, F_X12_lengthOf_11, F_X12_lengthOf_103, hp2, hi, bd_some, n10, n00, bv_eq, within_eq, in_eq, gd_T, gd_t, i00, i10, c_0, c_1, c_m1, ite10, ite01, setV_fn, setV_at, cntS, nI_pos, nI_clamp, nI_leI, nI_ltI, nI_eq, nI_1, if_true, if_false, not_true, not_false, and_self, and_true, true_and, false_and, and_false, or_false, false_or, or_true, true_or, not_false_eq_true, ite_self, ite_true, ite_false, reduceIte, Nat.reduceEqDiff, Nat.reduceMul, Nat.reduceAdd, Nat.reduceLT, Nat.reducePow, ne_eq]
    · have hlen2 : lenV V 1002090 x = 9 := by show (V 2090 x 0).toNatClampNeg = 9; rw [hl (by omega)]; rfl
      obtain ⟨q, q1, q2, q3⟩ := hr i (by omega)
      obtain ⟨v1, v2⟩ := hv q q1
      obtain ⟨v3, v4⟩ := hv2 q q1
      have mx : ∀ t : Int32, (if t < nI (len q) then nI (len q) else t) = if nI (len q) ≤ t then t else nI (len q) := fun t => by
        by_cases z : t < nI (len q)
        · rw [if_pos z, if_neg (by grind)]
        · rw [if_neg z, if_pos (by grind)]
      have pu : ∀ (c : Prop) [Decidable c] (A : St) (b1 b2 b3 b5 b6 b7 b8 : Int32), (if c then Lp_X12_lengthOf_11 (F_X12_lengthOf_103 fu) fu N A b1 b2 b3 b7 b5 b6 else Lp_X12_lengthOf_11 (F_X12_lengthOf_103 fu) fu N A b1 b2 b3 b8 b5 b6) = Lp_X12_lengthOf_11 (F_X12_lengthOf_103 fu) fu N A b1 b2 b3 (if c then b7 else b8) b5 b6 := fun c _ A b1 b2 b3 b5 b6 b7 b8 => by split <;> rfl
      by_cases hz : nI (wid q) ≤ l
      · obtain ⟨r, r1, r2⟩ := ih (i + 1) a (l - nI (wid q)) (if t < nI (len q) then nI (len q) else t) (by omega) (by omega)
        refine ⟨r, ?_, ?_⟩
        · rw [← r1]
          simp (disch := omega) only [Lp_X5_lengthOf_12, F_X5_lengthOf_12, F_X5_lengthOf_52, hc, hp, hi, hlen, hlen2, hT, q2, v1, v2, hz, bd_some, n10, n00, bv_eq, within_eq, in_eq, gd_T, gd_t, i00, i10, c_0, c_1, c_m1, ite10, ite01, setV_fn, setV_at, cntS, nI_pos, nI_clamp, nI_leI, nI_ltI, nI_eq, nI_1, if_true, if_false, not_true, not_false, and_self, and_true, true_and, false_and, and_false, or_false, false_or, or_true, true_or, not_false_eq_true, ite_self, ite_true, ite_false, reduceIte, Nat.reduceEqDiff, Nat.reduceMul, Nat.reduceAdd, Nat.reduceLT, Nat.reducePow, ne_eq]
        · rw [mx] at r2
          rw [← r2]
          simp (disch := omega) only [Lp_X12_lengthOf_11, F_X12_lengthOf_11, F_X12_lengthOf_59, F_X12_lengthOf_95, hp2, hi, q3, ix9, v3, v4, hz, bd_some, n10, n00, bv_eq, within_eq, in_eq, gd_T, gd_t, i00, i10, c_0, c_1, c_m1, ite10, ite01, setV_fn, setV_at, cntS, nI_pos, nI_clamp, nI_leI, nI_ltI, nI_eq, nI_1, if_true, if_false, not_true, not_false, and_self, and_true, true_and, false_and, and_false, or_false, false_or, or_true, true_or, not_false_eq_true, ite_self, ite_true, ite_false, reduceIte, Nat.reduceEqDiff, Nat.reduceMul, Nat.reduceAdd, Nat.reduceLT, Nat.reducePow, ne_eq]
          exact pu _ _ _ _ _ _ _ _ _
      · obtain ⟨r, r1, r2⟩ := ih (i + 1) (a + t) (w - nI (wid q)) (if 0 < nI (len q) then nI (len q) else 0) (by omega) (by omega)
        refine ⟨r, ?_, ?_⟩
        · rw [← r1]
          simp (disch := omega) only [Lp_X5_lengthOf_12, F_X5_lengthOf_12, F_X5_lengthOf_52, hc, hp, hi, hlen, hlen2, hT, q2, v1, v2, hz, bd_some, n10, n00, bv_eq, within_eq, in_eq, gd_T, gd_t, i00, i10, c_0, c_1, c_m1, ite10, ite01, setV_fn, setV_at, cntS, nI_pos, nI_clamp, nI_leI, nI_ltI, nI_eq, nI_1, if_true, if_false, not_true, not_false, and_self, and_true, true_and, false_and, and_false, or_false, false_or, or_true, true_or, not_false_eq_true, ite_self, ite_true, ite_false, reduceIte, Nat.reduceEqDiff, Nat.reduceMul, Nat.reduceAdd, Nat.reduceLT, Nat.reducePow, ne_eq]
        · rw [mx] at r2
          rw [← r2]
          simp (disch := omega) only [Lp_X12_lengthOf_11, F_X12_lengthOf_11, F_X12_lengthOf_59, F_X12_lengthOf_95, hp2, hi, q3, ix9, v3, v4, hz, bd_some, n10, n00, bv_eq, within_eq, in_eq, gd_T, gd_t, i00, i10, c_0, c_1, c_m1, ite10, ite01, setV_fn, setV_at, cntS, nI_pos, nI_clamp, nI_leI, nI_ltI, nI_eq, nI_1, if_true, if_false, not_true, not_false, and_self, and_true, true_and, false_and, and_false, or_false, false_or, or_true, true_or, not_false_eq_true, ite_self, ite_true, ite_false, reduceIte, Nat.reduceEqDiff, Nat.reduceMul, Nat.reduceAdd, Nat.reduceLT, Nat.reducePow, ne_eq]
          exact pu _ _ _ _ _ _ _ _ _
