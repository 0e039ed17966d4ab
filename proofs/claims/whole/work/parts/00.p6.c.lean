/-! look, cloth -/
theorem P_look {fu k : Nat} {V : St} (hI : Inv k V) (x w : Int32) : Step k (fun V => f_X11_look fu V x w) (fun V => f_X12_look fu V x w) V := by
  have hI' := hI
  obtain ⟨nC, nD, nT, nM, nP, nK, nS, nR, nL, nO, hL, hmi, hta, hcl, hdr, hth, hla, hma, hor, hpe, hdo, hse, hru, hmk⟩ := hI
  have h40 := hpe.1
  have h12 := hma.1
  have h20 := hcl.1
  have cp : cntV V 2108 = nP := cnt_n (by decide) (by omega) hpe.2.1
  have cm : cntV V 2106 = nM := cnt_n (by decide) (by omega) hma.2.1
  have c1 := hcl.2.1
  have c2 := hcl.2.2.1
  rcases ix_or x (show nP < 2 ^ 31 by omega) with hv | ⟨o, ho, rfl⟩
  · have hmm : ∀ m, m < nM → ∀ fuel : Nat, (∀ W : St, W = V → F_X11_look_53 fuel W w (nI m) = some (if w = 0 then V 2239 0 m else if 1 ≤ w ∧ w ≤ nI nC then V 2238 0 (20 * m + (w - 1).toNatClampNeg) else -1, V)) ∧ F_X12_look_51 fuel V w (nI m) = some (if w = 0 then V 2239 0 m else if 1 ≤ w ∧ w ≤ nI nC then V 2238 0 (20 * m + (w - 1).toNatClampNeg) else -1, V) := by
      intro m hm fuel
      obtain ⟨-, -, -, -, -, -, -, -, -, k10, k11, -⟩ := hma.2.2.2.2.2.1 m hm
      have him := isMaker_ok (fu := fuel) hma.2.2.1 (show nM ≤ 1000 by omega) hm
      have hp0 := nI_pos' (n := nC) (by omega)
      have hb := nI_le (a := nC) (b := 20) h20 (by omega)
      have hb20 : nI 20 = 20 := rfl
      by_cases h0 : w = 0
      · subst h0
        refine ⟨fun W hW => ?_, ?_⟩
        · subst hW
          simp (disch := omega) only [F_X11_look_53, F_X11_look_75, F_X11_look_98, c1, cm, k11, hp0, show ((0 : Int32) ≤ 0) = True by decide, bd_some, n10, n00, bv_eq, within_eq, in_eq, gd_T, gd_t, i00, i10, c_0, c_1, c_m1, ite10, ite01, setV_fn, setV_at, cntS, nI_pos, nI_clamp, nI_leI, nI_ltI, nI_eq, nI_1, if_true, if_false, not_true, not_false, and_self, and_true, true_and, false_and, and_false, or_false, false_or, or_true, true_or, not_false_eq_true, ite_self, ite_true, ite_false, reduceIte, Nat.reduceEqDiff, Nat.reduceMul, Nat.reduceAdd, Nat.reduceLT, Nat.reducePow, ne_eq]
        · simp (disch := omega) only [F_X12_look_51, F_X12_look_102, F_X12_look_103, him, bd_some, n10, n00, bv_eq, within_eq, in_eq, gd_T, gd_t, i00, i10, c_0, c_1, c_m1, ite10, ite01, setV_fn, setV_at, cntS, nI_pos, nI_clamp, nI_leI, nI_ltI, nI_eq, nI_1, if_true, if_false, not_true, not_false, and_self, and_true, true_and, false_and, and_false, or_false, false_or, or_true, true_or, not_false_eq_true, ite_self, ite_true, ite_false, reduceIte, Nat.reduceEqDiff, Nat.reduceMul, Nat.reduceAdd, Nat.reduceLT, Nat.reducePow, ne_eq]
      · by_cases h1 : 1 ≤ w ∧ w ≤ nI nC
        · obtain ⟨c, -, hc, he⟩ := in_nI (x := w - 1) (a := 0) (n := nC) (by rw [nI_0]; grind) (by omega) (by omega)
          have hw0 : 0 ≤ w ∧ w ≤ nI nC := ⟨by grind, h1.2⟩
          have e1 : ¬ w < 1 := by grind
          have e2 : ¬ nI nC < w := by grind
          have e3 : 20 * nI m + w - 1 = nI (20 * m + c) := by rw [← ix20, ← he]; grind
          have g := k10 c (by omega)
          refine ⟨fun W hW => ?_, ?_⟩
          · subst hW
            simp (disch := omega) only [F_X11_look_53, F_X11_look_75, F_X11_look_98, c1, cm, h0, hw0, h1, he, g, bd_some, n10, n00, bv_eq, within_eq, in_eq, gd_T, gd_t, i00, i10, c_0, c_1, c_m1, ite10, ite01, setV_fn, setV_at, cntS, nI_pos, nI_clamp, nI_leI, nI_ltI, nI_eq, nI_1, if_true, if_false, not_true, not_false, and_self, and_true, true_and, false_and, and_false, or_false, false_or, or_true, true_or, not_false_eq_true, ite_self, ite_true, ite_false, reduceIte, Nat.reduceEqDiff, Nat.reduceMul, Nat.reduceAdd, Nat.reduceLT, Nat.reducePow, ne_eq]
          · simp (disch := omega) only [F_X12_look_51, F_X12_look_102, F_X12_look_103, him, c2, h0, e1, e2, h1, e3, he, bd_some, n10, n00, bv_eq, within_eq, in_eq, gd_T, gd_t, i00, i10, c_0, c_1, c_m1, ite10, ite01, setV_fn, setV_at, cntS, nI_pos, nI_clamp, nI_leI, nI_ltI, nI_eq, nI_1, if_true, if_false, not_true, not_false, and_self, and_true, true_and, false_and, and_false, or_false, false_or, or_true, true_or, not_false_eq_true, ite_self, ite_true, ite_false, reduceIte, Nat.reduceEqDiff, Nat.reduceMul, Nat.reduceAdd, Nat.reduceLT, Nat.reducePow, ne_eq]
        · refine ⟨fun W hW => ?_, ?_⟩
          · subst hW
            have hw0 : ¬ (0 ≤ w ∧ w ≤ nI nC) := fun q => h1 ⟨by grind, q.2⟩
            simp (disch := omega) only [F_X11_look_53, F_X11_look_75, F_X11_look_98, c1, cm, h0, hw0, h1, bd_some, n10, n00, bv_eq, within_eq, in_eq, gd_T, gd_t, i00, i10, c_0, c_1, c_m1, ite10, ite01, setV_fn, setV_at, cntS, nI_pos, nI_clamp, nI_leI, nI_ltI, nI_eq, nI_1, if_true, if_false, not_true, not_false, and_self, and_true, true_and, false_and, and_false, or_false, false_or, or_true, true_or, not_false_eq_true, ite_self, ite_true, ite_false, reduceIte, Nat.reduceEqDiff, Nat.reduceMul, Nat.reduceAdd, Nat.reduceLT, Nat.reducePow, ne_eq]
          · by_cases e1 : w < 1
            · simp (disch := omega) only [F_X12_look_51, F_X12_look_102, F_X12_look_103, him, c2, h0, e1, h1, bd_some, n10, n00, bv_eq, within_eq, in_eq, gd_T, gd_t, i00, i10, c_0, c_1, c_m1, ite10, ite01, setV_fn, setV_at, cntS, nI_pos, nI_clamp, nI_leI, nI_ltI, nI_eq, nI_1, if_true, if_false, not_true, not_false, and_self, and_true, true_and, false_and, and_false, or_false, false_or, or_true, true_or, not_false_eq_true, ite_self, ite_true, ite_false, reduceIte, Nat.reduceEqDiff, Nat.reduceMul, Nat.reduceAdd, Nat.reduceLT, Nat.reducePow, ne_eq]
            · have e2 : nI nC < w := by grind
              simp (disch := omega) only [F_X12_look_51, F_X12_look_102, F_X12_look_103, him, c2, h0, e1, e2, h1, bd_some, n10, n00, bv_eq, within_eq, in_eq, gd_T, gd_t, i00, i10, c_0, c_1, c_m1, ite10, ite01, setV_fn, setV_at, cntS, nI_pos, nI_clamp, nI_leI, nI_ltI, nI_eq, nI_1, if_true, if_false, not_true, not_false, and_self, and_true, true_and, false_and, and_false, or_false, false_or, or_true, true_or, not_false_eq_true, ite_self, ite_true, ite_false, reduceIte, Nat.reduceEqDiff, Nat.reduceMul, Nat.reduceAdd, Nat.reduceLT, Nat.reducePow, ne_eq]
    have hno : ∀ m : Int32, (m < 0 ∨ nI nM ≤ m) → F_X12_look_51 fu V w m = some (-1, V) := fun m hm => by
      simp only [F_X12_look_51, isMaker_no hma.2.2.1 hm, bd_some, n10, n00, bv_eq, within_eq, in_eq, gd_T, gd_t, i00, i10, c_0, c_1, c_m1, ite10, ite01, setV_fn, setV_at, cntS, nI_pos, nI_clamp, nI_leI, nI_ltI, nI_eq, nI_1, if_true, if_false, not_true, not_false, and_self, and_true, true_and, false_and, and_false, or_false, false_or, or_true, true_or, not_false_eq_true, ite_self, ite_true, ite_false, reduceIte, Nat.reduceEqDiff, Nat.reduceMul, Nat.reduceAdd, Nat.reduceLT, Nat.reducePow, ne_eq]
    by_cases h100 : 100 ≤ x
    · have hlt : ¬ x < 100 := by grind
      rcases ix_or (x - 100) (show nM < 2 ^ 31 by omega) with hv2 | ⟨m, hm, he⟩
      · refine Step.same (r := -1) ?_ ?_ hI'
        · simp only [f_X11_look, F_X11_look_53, F_X11_look_75, findPerson_no hpe.2.1 (show nP ≤ 1000 by omega) hv, hlt, findMaker_no hma.2.1 (show nM ≤ 1000 by omega) hv2, bd_some, n10, n00, bv_eq, within_eq, in_eq, gd_T, gd_t, i00, i10, c_0, c_1, c_m1, ite10, ite01, setV_fn, setV_at, cntS, nI_pos, nI_clamp, nI_leI, nI_ltI, nI_eq, nI_1, if_true, if_false, not_true, not_false, and_self, and_true, true_and, false_and, and_false, or_false, false_or, or_true, true_or, not_false_eq_true, ite_self, ite_true, ite_false, reduceIte, Nat.reduceEqDiff, Nat.reduceMul, Nat.reduceAdd, Nat.reduceLT, Nat.reducePow, ne_eq]
        · simp only [f_X12_look, isPerson_no hpe.2.2.1 hv, h100, hno _ hv2, bd_some, n10, n00, bv_eq, within_eq, in_eq, gd_T, gd_t, i00, i10, c_0, c_1, c_m1, ite10, ite01, setV_fn, setV_at, cntS, nI_pos, nI_clamp, nI_leI, nI_ltI, nI_eq, nI_1, if_true, if_false, not_true, not_false, and_self, and_true, true_and, false_and, and_false, or_false, false_or, or_true, true_or, not_false_eq_true, ite_self, ite_true, ite_false, reduceIte, Nat.reduceEqDiff, Nat.reduceMul, Nat.reduceAdd, Nat.reduceLT, Nat.reducePow, ne_eq]
      · refine Step.same (r := if w = 0 then V 2239 0 m else if 1 ≤ w ∧ w ≤ nI nC then V 2238 0 (20 * m + (w - 1).toNatClampNeg) else -1) ?_ ?_ hI'
        · simp only [f_X11_look, findPerson_no hpe.2.1 (show nP ≤ 1000 by omega) hv, hlt, he, findMaker_ok hma.2.1 (show nM ≤ 1000 by omega) hm, bd_some, c_m1, if_true, if_false]
          exact (hmm m hm fu).1 V rfl
        · simp only [f_X12_look, isPerson_no hpe.2.2.1 hv, h100, he, bd_some, n00, if_true]
          exact (hmm m hm fu).2
    · have hlt : x < 100 := by grind
      refine Step.same (r := -1) ?_ ?_ hI'
      · simp only [f_X11_look, F_X11_look_53, F_X11_look_75, findPerson_no hpe.2.1 (show nP ≤ 1000 by omega) hv, hlt, bd_some, n10, n00, bv_eq, within_eq, in_eq, gd_T, gd_t, i00, i10, c_0, c_1, c_m1, ite10, ite01, setV_fn, setV_at, cntS, nI_pos, nI_clamp, nI_leI, nI_ltI, nI_eq, nI_1, if_true, if_false, not_true, not_false, and_self, and_true, true_and, false_and, and_false, or_false, false_or, or_true, true_or, not_false_eq_true, ite_self, ite_true, ite_false, reduceIte, Nat.reduceEqDiff, Nat.reduceMul, Nat.reduceAdd, Nat.reduceLT, Nat.reducePow, ne_eq]
      · simp only [f_X12_look, isPerson_no hpe.2.2.1 hv, h100, hno (-1) (.inl (by decide)), bd_some, n10, n00, bv_eq, within_eq, in_eq, gd_T, gd_t, i00, i10, c_0, c_1, c_m1, ite10, ite01, setV_fn, setV_at, cntS, nI_pos, nI_clamp, nI_leI, nI_ltI, nI_eq, nI_1, if_true, if_false, not_true, not_false, and_self, and_true, true_and, false_and, and_false, or_false, false_or, or_true, true_or, not_false_eq_true, ite_self, ite_true, ite_false, reduceIte, Nat.reduceEqDiff, Nat.reduceMul, Nat.reduceAdd, Nat.reduceLT, Nat.reducePow, ne_eq]
  · obtain ⟨q1, q2⟩ := hpe.2.2.2.2 o ho
    refine Step.same (r := if w = 0 then V 2278 0 o else if w = 1 then V 2279 0 o else -1) ?_ ?_ hI'
    · simp (disch := omega) only [f_X11_look, F_X11_look_34, findPerson_ok hpe.2.1 (show nP ≤ 1000 by omega) ho, cp, q1, q2, bd_some, n10, n00, bv_eq, within_eq, in_eq, gd_T, gd_t, i00, i10, c_0, c_1, c_m1, ite10, ite01, setV_fn, setV_at, cntS, nI_pos, nI_clamp, nI_leI, nI_ltI, nI_eq, nI_1, if_true, if_false, not_true, not_false, and_self, and_true, true_and, false_and, and_false, or_false, false_or, or_true, true_or, not_false_eq_true, ite_self, ite_true, ite_false, reduceIte, Nat.reduceEqDiff, Nat.reduceMul, Nat.reduceAdd, Nat.reduceLT, Nat.reducePow, ne_eq]
      split; rfl; split <;> rfl
    · simp (disch := omega) only [f_X12_look, F_X12_look_36, isPerson_ok hpe.2.2.1 (show nP ≤ 1000 by omega) ho, bd_some, n10, n00, bv_eq, within_eq, in_eq, gd_T, gd_t, i00, i10, c_0, c_1, c_m1, ite10, ite01, setV_fn, setV_at, cntS, nI_pos, nI_clamp, nI_leI, nI_ltI, nI_eq, nI_1, if_true, if_false, not_true, not_false, and_self, and_true, true_and, false_and, and_false, or_false, false_or, or_true, true_or, not_false_eq_true, ite_self, ite_true, ite_false, reduceIte, Nat.reduceEqDiff, Nat.reduceMul, Nat.reduceAdd, Nat.reduceLT, Nat.reducePow, ne_eq]
      split; rfl; split <;> rfl
theorem lp_isTaken {fu n : Nat} {V : St} {x : Int32} (hn : V 2103 0 0 = nI n) (h20 : n ≤ 20) : ∀ (N i : Nat), i ≤ n → n < i + N → (Lp_X11_isTaken_2 (F_X11_isTaken_31 fu) (F_X11_isTaken_39 fu) fu N V x (nI i) = some (1, V) ∧ ∃ k, i ≤ k ∧ k < n ∧ V 1001 k 0 = x) ∨ (Lp_X11_isTaken_2 (F_X11_isTaken_31 fu) (F_X11_isTaken_39 fu) fu N V x (nI i) = some (0, V) ∧ ∀ k, i ≤ k → k < n → ¬ V 1001 k 0 = x) := by
  intro N
  induction N with
  | zero => intro i h0 h; omega
  | succ N ih =>
    intro i h0 h
    have hc : cntV V 2103 = n := cnt_n (by decide) (by omega) hn
    simp (disch := omega) only [Lp_X11_isTaken_2, F_X11_isTaken_2, F_X11_isTaken_31, F_X11_isTaken_39, hn, nI_leI, nI_pos, nI_clamp, nI_1, gd, hc]
    by_cases hi : n ≤ i
    · simp only [hi, if_true]; exact .inr ⟨trivial, fun k h1 h2 => by omega⟩
    · have ih := ih (i + 1) (by omega) (by omega)
      grind
theorem lq_taken {fu n : Nat} {V : St} {x a b : Int32} {kx : St → Int32 → Int32 → Int32 → RR} (hn : V 2202 0 0 = nI n) (h20 : n ≤ 20) : ∀ (N i : Nat), i ≤ n → n < i + N → ((∃ k, i ≤ k ∧ k < n ∧ V 2205 0 k = x) → Lp_X12_cloth_48 (F_X12_cloth_68 fu) kx fu N V x a b (nI i) = some (-1, V)) ∧ ((∀ k, i ≤ k → k < n → ¬ V 2205 0 k = x) → Lp_X12_cloth_48 (F_X12_cloth_68 fu) kx fu N V x a b (nI i) = kx V x a b) := by
  intro N
  induction N with
  | zero => intro i h0 h; omega
  | succ N ih =>
    intro i h0 h
    by_cases hi : n ≤ i
    · refine ⟨fun ⟨k, q1, q2, q3⟩ => by omega, fun _ => ?_⟩
      simp (disch := omega) only [Lp_X12_cloth_48, F_X12_cloth_48, hn, hi, bd_some, n10, n00, bv_eq, within_eq, in_eq, gd_T, gd_t, i00, i10, c_0, c_1, c_m1, ite10, ite01, setV_fn, setV_at, cntS, nI_pos, nI_clamp, nI_leI, nI_ltI, nI_eq, nI_1, if_true, if_false, not_true, not_false, and_self, and_true, true_and, false_and, and_false, or_false, false_or, or_true, true_or, not_false_eq_true, ite_self, ite_true, ite_false, reduceIte, Nat.reduceEqDiff, Nat.reduceMul, Nat.reduceAdd, Nat.reduceLT, Nat.reducePow, ne_eq]
    · obtain ⟨i1, i2⟩ := ih (i + 1) (by omega) (by omega)
      by_cases hq : V 2205 0 i = x
      · refine ⟨fun _ => ?_, fun q => absurd hq (q i (by omega) (by omega))⟩
        simp (disch := omega) only [Lp_X12_cloth_48, F_X12_cloth_48, F_X12_cloth_68, hn, hi, hq, bd_some, n10, n00, bv_eq, within_eq, in_eq, gd_T, gd_t, i00, i10, c_0, c_1, c_m1, ite10, ite01, setV_fn, setV_at, cntS, nI_pos, nI_clamp, nI_leI, nI_ltI, nI_eq, nI_1, if_true, if_false, not_true, not_false, and_self, and_true, true_and, false_and, and_false, or_false, false_or, or_true, true_or, not_false_eq_true, ite_self, ite_true, ite_false, reduceIte, Nat.reduceEqDiff, Nat.reduceMul, Nat.reduceAdd, Nat.reduceLT, Nat.reducePow, ne_eq]
      · refine ⟨fun ⟨k, q1, q2, q3⟩ => ?_, fun q => ?_⟩
        · have hki : ¬ k = i := fun z => hq (z ▸ q3)
          have := i1 ⟨k, by omega, q2, q3⟩
          simp (disch := omega) only [Lp_X12_cloth_48, F_X12_cloth_48, F_X12_cloth_68, hn, hi, hq, bd_some, n10, n00, bv_eq, within_eq, in_eq, gd_T, gd_t, i00, i10, c_0, c_1, c_m1, ite10, ite01, setV_fn, setV_at, cntS, nI_pos, nI_clamp, nI_leI, nI_ltI, nI_eq, nI_1, if_true, if_false, not_true, not_false, and_self, and_true, true_and, false_and, and_false, or_false, false_or, or_true, true_or, not_false_eq_true, ite_self, ite_true, ite_false, reduceIte, Nat.reduceEqDiff, Nat.reduceMul, Nat.reduceAdd, Nat.reduceLT, Nat.reducePow, ne_eq]; exact this
        · have := i2 (fun k q1 q2 => q k (by omega) q2)
          simp (disch := omega) only [Lp_X12_cloth_48, F_X12_cloth_48, F_X12_cloth_68, hn, hi, hq, bd_some, n10, n00, bv_eq, within_eq, in_eq, gd_T, gd_t, i00, i10, c_0, c_1, c_m1, ite10, ite01, setV_fn, setV_at, cntS, nI_pos, nI_clamp, nI_leI, nI_ltI, nI_eq, nI_1, if_true, if_false, not_true, not_false, and_self, and_true, true_and, false_and, and_false, or_false, false_or, or_true, true_or, not_false_eq_true, ite_self, ite_true, ite_false, reduceIte, Nat.reduceEqDiff, Nat.reduceMul, Nat.reduceAdd, Nat.reduceLT, Nat.reducePow, ne_eq]; exact this
theorem P_cloth {fu k : Nat} {V : St} (hfu : 1000 ≤ fu) (hI : Inv k V) (x a b : Int32) : Step k (fun V => f_X11_cloth fu V x a b) (fun V => f_X12_cloth fu V x a b) V := by
  have hI' := hI
  obtain ⟨nC, nD, nT, nM, nP, nK, nS, nR, nL, nO, hL, hmi, hta, hcl, hdr, hth, hla, hma, hor, hpe, hdo, hse, hru, hmk⟩ := hI
  have hcl' := hcl
  obtain ⟨h20, hn1, hn2, hx⟩ := hcl
  rcases (Decidable.em (100 ≤ x ∧ x ≤ 999)).symm with h1 | h1
  · refine Step.same (r := -1) ?_ ?_ hI'
    · simp only [f_X11_cloth, F_X11_cloth_34, h1, bd_some, n10, n00, bv_eq, within_eq, in_eq, gd_T, gd_t, i00, i10, c_0, c_1, c_m1, ite10, ite01, setV_fn, setV_at, cntS, nI_pos, nI_clamp, nI_leI, nI_ltI, nI_eq, nI_1, if_true, if_false, not_true, not_false, and_self, and_true, true_and, false_and, and_false, or_false, false_or, or_true, true_or, not_false_eq_true, ite_self, ite_true, ite_false, reduceIte, Nat.reduceEqDiff, Nat.reduceMul, Nat.reduceAdd, Nat.reduceLT, Nat.reducePow, ne_eq]
    · simp only [f_X12_cloth, F_X12_cloth_43, h1, bd_some, n10, n00, bv_eq, within_eq, in_eq, gd_T, gd_t, i00, i10, c_0, c_1, c_m1, ite10, ite01, setV_fn, setV_at, cntS, nI_pos, nI_clamp, nI_leI, nI_ltI, nI_eq, nI_1, if_true, if_false, not_true, not_false, and_self, and_true, true_and, false_and, and_false, or_false, false_or, or_true, true_or, not_false_eq_true, ite_self, ite_true, ite_false, reduceIte, Nat.reduceEqDiff, Nat.reduceMul, Nat.reduceAdd, Nat.reduceLT, Nat.reducePow, ne_eq]
  rcases (Decidable.em (1 ≤ a ∧ a ≤ 1000)).symm with h2 | h2
  · refine Step.same (r := -1) ?_ ?_ hI'
    · simp only [f_X11_cloth, F_X11_cloth_34, h1, h2, bd_some, n10, n00, bv_eq, within_eq, in_eq, gd_T, gd_t, i00, i10, c_0, c_1, c_m1, ite10, ite01, setV_fn, setV_at, cntS, nI_pos, nI_clamp, nI_leI, nI_ltI, nI_eq, nI_1, if_true, if_false, not_true, not_false, and_self, and_true, true_and, false_and, and_false, or_false, false_or, or_true, true_or, not_false_eq_true, ite_self, ite_true, ite_false, reduceIte, Nat.reduceEqDiff, Nat.reduceMul, Nat.reduceAdd, Nat.reduceLT, Nat.reducePow, ne_eq]
    · simp only [f_X12_cloth, F_X12_cloth_43, h1, h2, bd_some, n10, n00, bv_eq, within_eq, in_eq, gd_T, gd_t, i00, i10, c_0, c_1, c_m1, ite10, ite01, setV_fn, setV_at, cntS, nI_pos, nI_clamp, nI_leI, nI_ltI, nI_eq, nI_1, if_true, if_false, not_true, not_false, and_self, and_true, true_and, false_and, and_false, or_false, false_or, or_true, true_or, not_false_eq_true, ite_self, ite_true, ite_false, reduceIte, Nat.reduceEqDiff, Nat.reduceMul, Nat.reduceAdd, Nat.reduceLT, Nat.reducePow, ne_eq]
  rcases (Decidable.em (1 ≤ b ∧ b ≤ 10000)).symm with h3 | h3
  · refine Step.same (r := -1) ?_ ?_ hI'
    · simp only [f_X11_cloth, F_X11_cloth_34, h1, h2, h3, bd_some, n10, n00, bv_eq, within_eq, in_eq, gd_T, gd_t, i00, i10, c_0, c_1, c_m1, ite10, ite01, setV_fn, setV_at, cntS, nI_pos, nI_clamp, nI_leI, nI_ltI, nI_eq, nI_1, if_true, if_false, not_true, not_false, and_self, and_true, true_and, false_and, and_false, or_false, false_or, or_true, true_or, not_false_eq_true, ite_self, ite_true, ite_false, reduceIte, Nat.reduceEqDiff, Nat.reduceMul, Nat.reduceAdd, Nat.reduceLT, Nat.reducePow, ne_eq]
    · simp only [f_X12_cloth, F_X12_cloth_43, h1, h2, h3, bd_some, n10, n00, bv_eq, within_eq, in_eq, gd_T, gd_t, i00, i10, c_0, c_1, c_m1, ite10, ite01, setV_fn, setV_at, cntS, nI_pos, nI_clamp, nI_leI, nI_ltI, nI_eq, nI_1, if_true, if_false, not_true, not_false, and_self, and_true, true_and, false_and, and_false, or_false, false_or, or_true, true_or, not_false_eq_true, ite_self, ite_true, ite_false, reduceIte, Nat.reduceEqDiff, Nat.reduceMul, Nat.reduceAdd, Nat.reduceLT, Nat.reducePow, ne_eq]
  by_cases hmx : nC = 20
  · have e1 : (20 : Int32) ≤ nI nC := by rw [hmx]; decide
    have e2 : nI nC = 20 := by rw [hmx]; decide
    refine Step.same (r := -1) ?_ ?_ hI'
    · simp only [f_X11_cloth, F_X11_cloth_34, F_X11_cloth_56, hn1, h1, h2, h3, e1, bd_some, n10, n00, bv_eq, within_eq, in_eq, gd_T, gd_t, i00, i10, c_0, c_1, c_m1, ite10, ite01, setV_fn, setV_at, cntS, nI_pos, nI_clamp, nI_leI, nI_ltI, nI_eq, nI_1, if_true, if_false, not_true, not_false, and_self, and_true, true_and, false_and, and_false, or_false, false_or, or_true, true_or, not_false_eq_true, ite_self, ite_true, ite_false, reduceIte, Nat.reduceEqDiff, Nat.reduceMul, Nat.reduceAdd, Nat.reduceLT, Nat.reducePow, ne_eq]
    · simp only [f_X12_cloth, F_X12_cloth_43, hn2, h1, h2, h3, e2, bd_some, n10, n00, bv_eq, within_eq, in_eq, gd_T, gd_t, i00, i10, c_0, c_1, c_m1, ite10, ite01, setV_fn, setV_at, cntS, nI_pos, nI_clamp, nI_leI, nI_ltI, nI_eq, nI_1, if_true, if_false, not_true, not_false, and_self, and_true, true_and, false_and, and_false, or_false, false_or, or_true, true_or, not_false_eq_true, ite_self, ite_true, ite_false, reduceIte, Nat.reduceEqDiff, Nat.reduceMul, Nat.reduceAdd, Nat.reduceLT, Nat.reducePow, ne_eq]
  have e1 : ¬ (20 : Int32) ≤ nI nC := nI_ge (b := 20) (by omega) (by omega)
  have e2 : ¬ nI nC = 20 := fun q => hmx ((nI_eq (b := 20) (by omega) (by decide)).mp q)
  rcases lp_isTaken (fu := fu) (x := x) hn1 h20 fu 0 (by omega) (by omega) with ⟨g1, q, q1, q2, q3⟩ | ⟨g1, g2⟩
  · have g1 : f_X11_isTaken fu V x = some (1, V) := g1
    have hr := (lq_taken (fu := fu) (x := x) (a := a) (b := b) (kx := F_X12_cloth_76 fu) hn2 h20 fu 0 (by omega) (by omega)).1 ⟨q, q1, q2, by rw [← (hx q q2).1]; exact q3⟩
    rw [nI_0] at hr
    refine Step.same (r := -1) ?_ ?_ hI'
    · simp only [f_X11_cloth, F_X11_cloth_34, F_X11_cloth_56, hn1, h1, h2, h3, e1, g1, bd_some, n10, n00, bv_eq, within_eq, in_eq, gd_T, gd_t, i00, i10, c_0, c_1, c_m1, ite10, ite01, setV_fn, setV_at, cntS, nI_pos, nI_clamp, nI_leI, nI_ltI, nI_eq, nI_1, if_true, if_false, not_true, not_false, and_self, and_true, true_and, false_and, and_false, or_false, false_or, or_true, true_or, not_false_eq_true, ite_self, ite_true, ite_false, reduceIte, Nat.reduceEqDiff, Nat.reduceMul, Nat.reduceAdd, Nat.reduceLT, Nat.reducePow, ne_eq]
    · simp only [f_X12_cloth, F_X12_cloth_43, hn2, h1, h2, h3, e2, bd_some, n10, n00, bv_eq, within_eq, in_eq, gd_T, gd_t, i00, i10, c_0, c_1, c_m1, ite10, ite01, setV_fn, setV_at, cntS, nI_pos, nI_clamp, nI_leI, nI_ltI, nI_eq, nI_1, if_true, if_false, not_true, not_false, and_self, and_true, true_and, false_and, and_false, or_false, false_or, or_true, true_or, not_false_eq_true, ite_self, ite_true, ite_false, reduceIte, Nat.reduceEqDiff, Nat.reduceMul, Nat.reduceAdd, Nat.reduceLT, Nat.reducePow, ne_eq]; exact hr
  · have g1 : f_X11_isTaken fu V x = some (0, V) := g1
    have hok := mkOK_I hcl' hth hla hn1 (by omega)
    have hF : Fr [2103, 1001, 1002, 1003, 2205, 2206, 2207, 2202] V (setV (setV (setV (setV (mkV V 2103 nC gv_1000 (F_1000 x a b)) 2205 0 nC x) 2206 0 nC a) 2207 0 nC b) 2202 0 0 (nI (nC + 1))) := (((((Fr.refl _ V).mk (by decide) (by decide)).set (by decide)).set (by decide)).set (by decide)).set (by decide)
    have g2202 : mkV V 2103 nC gv_1000 (F_1000 x a b) 2202 = V 2202 := mkV_fn (by decide) (by decide)
    have g2205 : mkV V 2103 nC gv_1000 (F_1000 x a b) 2205 = V 2205 := mkV_fn (by decide) (by decide)
    have hr := (lq_taken (fu := fu) (V := mkV V 2103 nC gv_1000 (F_1000 x a b)) (x := x) (a := a) (b := b) (kx := F_X12_cloth_76 fu) (by rw [g2202]; exact hn2) h20 fu 0 (by omega) (by omega)).2 (fun q q1 q2 => by rw [g2205, ← (hx q q2).1]; exact g2 q q1 q2)
    rw [nI_0] at hr
    refine ⟨nI nC, mkV V 2103 nC gv_1000 (F_1000 x a b), setV (setV (setV (setV (mkV V 2103 nC gv_1000 (F_1000 x a b)) 2205 0 nC x) 2206 0 nC a) 2207 0 nC b) 2202 0 0 (nI (nC + 1)), ?_, ?_, ?_⟩
    · simp (disch := omega) only [f_X11_cloth, hn1, h1, h2, h3, e1, g1, hok, mkV_cnt, nI_pred, bd_some, n10, n00, bv_eq, within_eq, in_eq, gd_T, gd_t, i00, i10, c_0, c_1, c_m1, ite10, ite01, setV_fn, setV_at, cntS, nI_pos, nI_clamp, nI_leI, nI_ltI, nI_eq, nI_1, if_true, if_false, not_true, not_false, and_self, and_true, true_and, false_and, and_false, or_false, false_or, or_true, true_or, not_false_eq_true, ite_self, ite_true, ite_false, reduceIte, Nat.reduceEqDiff, Nat.reduceMul, Nat.reduceAdd, Nat.reduceLT, Nat.reducePow, ne_eq]
    · simp (disch := omega) only [f_X12_cloth, F_X12_cloth_43, g2202, hn2, h1, h2, h3, e2, bd_some, n10, n00, bv_eq, within_eq, in_eq, gd_T, gd_t, i00, i10, c_0, c_1, c_m1, ite10, ite01, setV_fn, setV_at, cntS, nI_pos, nI_clamp, nI_leI, nI_ltI, nI_eq, nI_1, if_true, if_false, not_true, not_false, and_self, and_true, true_and, false_and, and_false, or_false, false_or, or_true, true_or, not_false_eq_true, ite_self, ite_true, ite_false, reduceIte, Nat.reduceEqDiff, Nat.reduceMul, Nat.reduceAdd, Nat.reduceLT, Nat.reducePow, ne_eq]
      rw [hr]
      simp (disch := omega) only [F_X12_cloth_76, g2202, hn2, nI_pred, bd_some, n10, n00, bv_eq, within_eq, in_eq, gd_T, gd_t, i00, i10, c_0, c_1, c_m1, ite10, ite01, setV_fn, setV_at, cntS, nI_pos, nI_clamp, nI_leI, nI_ltI, nI_eq, nI_1, if_true, if_false, not_true, not_false, and_self, and_true, true_and, false_and, and_false, or_false, false_or, or_true, true_or, not_false_eq_true, ite_self, ite_true, ite_false, reduceIte, Nat.reduceEqDiff, Nat.reduceMul, Nat.reduceAdd, Nat.reduceLT, Nat.reducePow, ne_eq]
    · refine ⟨nC + 1, nD, nT, nM, nP, nK, nS, nR, nL, nO, by omega, hmi.fr hF rfl, hta.fr hF rfl, ?_, hdr.fr hF rfl, (hth.fr hF rfl).mono (by omega), hla.fr hF rfl, hma.fr hF rfl, hor.fr hF rfl, hpe.fr hF rfl, hdo.fr hF rfl, hse.fr hF rfl, hru.fr hF rfl, hmk.fr hF rfl⟩
      refine ⟨by omega, by simp (disch := first | omega | decide) only [setV_fn, mkV_cnt], by simp (disch := omega) only [bd_some, n10, n00, bv_eq, within_eq, in_eq, gd_T, gd_t, i00, i10, c_0, c_1, c_m1, ite10, ite01, setV_fn, setV_at, cntS, nI_pos, nI_clamp, nI_leI, nI_ltI, nI_eq, nI_1, if_true, if_false, not_true, not_false, and_self, and_true, true_and, false_and, and_false, or_false, false_or, or_true, true_or, not_false_eq_true, ite_self, ite_true, ite_false, reduceIte, Nat.reduceEqDiff, Nat.reduceMul, Nat.reduceAdd, Nat.reduceLT, Nat.reducePow, ne_eq], fun o ho => ?_⟩
      simp (disch := first | omega | decide) only [setV_fn, setV_at, mkV_fn, mkV_at, F_1000]
      have := hx o; grind
