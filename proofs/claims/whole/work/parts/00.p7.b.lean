/-! cuts found -/
def CutV (V : St) (d c : Nat) (CS CN : Nat → Nat) : Prop := c ≤ 127 ∧ V 1214 d 0 = nI c ∧ ∀ k, k < c → CS k < 256 ∧ CN k ≤ 500 ∧ V 1207 d k = nI (CS k) ∧ V 1208 d k = nI (CN k) ∧ V 1209 d k = 60 * nI (pcR (CS k) 31 0) - nI (CN k)
def subM (a o : Nat) : Prop := ∀ j, a.testBit j = true → o.testBit j = true
def cws3 : List Nat := [1207, 1208, 1209, 1214]
theorem addCut_eq {fu nD d c O nd : Nat} {V : St} {CS CN : Nat → Nat} (hfu : 1000 ≤ fu) (hd : d < nD) (h22 : nD ≤ 22) (hn : V 2104 0 0 = nI nD) (hc : CutV V d c CS CN) (hc2 : c < 127) (hO : O < 256) (hnd : nd ≤ 500) : (f_X2_addCut fu V (nI d) (nI O) (nI nd) = some (0, V) ∧ ∃ k, k < c ∧ subM (CS k) O ∧ nd ≤ CN k) ∨ ∃ V1, f_X2_addCut fu V (nI d) (nI O) (nI nd) = some (0, V1) ∧ Fr cws3 V V1 ∧ CutV V1 d (c + 1) (fun k => if k = c then O else CS k) (fun k => if k = c then nd else CN k) := by
  obtain ⟨hc127, e1, hk⟩ := hc
  have hct : cntV V 2104 = nD := cnt_n (by decide) (by omega) hn
  have key : ∀ (r N i : Nat), i + r = c → r < N → (Lp_X2_addCut_2 (F_X2_addCut_33 fu) (F_X2_addCut_40 fu) fu N V (nI d) (nI O) (nI nd) (nI i) = some (0, V) ∧ ∃ k, k < c ∧ subM (CS k) O ∧ nd ≤ CN k) ∨ Lp_X2_addCut_2 (F_X2_addCut_33 fu) (F_X2_addCut_40 fu) fu N V (nI d) (nI O) (nI nd) (nI i) = F_X2_addCut_40 fu V (nI d) (nI O) (nI nd) := by
    intro r
    induction r with
    | zero =>
      intro N i hi hN
      obtain ⟨N, rfl⟩ : ∃ N', N = N' + 1 := ⟨N - 1, by omega⟩
      have : i = c := by omega
      subst this
      have hle : i ≤ i := Nat.le_refl i
      right
      simp (disch := omega) only [Lp_X2_addCut_2, F_X2_addCut_2, hct, e1, hle, bd_some, n10, n00, bv_eq, within_eq, in_eq, gd_T, gd_t, i00, i10, c_0, c_1, c_m1, ite10, ite01, setV_fn, setV_at, cntS, nI_pos, nI_clamp, nI_leI, nI_ltI, nI_eq, nI_1, if_true, if_false, not_true, not_false, and_self, and_true, true_and, false_and, and_false, or_false, false_or, or_true, true_or, not_false_eq_true, ite_self, ite_true, ite_false, reduceIte, Nat.reduceEqDiff, Nat.reduceMul, Nat.reduceAdd, Nat.reduceLT, Nat.reducePow, ne_eq]
    | succ r ih =>
      intro N i hi hN
      obtain ⟨N, rfl⟩ : ∃ N', N = N' + 1 := ⟨N - 1, by omega⟩
      have hle : ¬ c ≤ i := by omega
      obtain ⟨k1, k2, k3, k4, -⟩ := hk i (by omega)
      by_cases c1 : nI (CS i) &&& (nI O ^^^ (-1)) = 0
      · by_cases c2 : CN i < nd
        · have : Lp_X2_addCut_2 (F_X2_addCut_33 fu) (F_X2_addCut_40 fu) fu (N + 1) V (nI d) (nI O) (nI nd) (nI i) = Lp_X2_addCut_2 (F_X2_addCut_33 fu) (F_X2_addCut_40 fu) fu N V (nI d) (nI O) (nI nd) (nI (i + 1)) := by
            simp (disch := omega) only [Lp_X2_addCut_2, F_X2_addCut_2, F_X2_addCut_34, hct, e1, hle, k3, k4, c1, c2, bd_some, n10, n00, bv_eq, within_eq, in_eq, gd_T, gd_t, i00, i10, c_0, c_1, c_m1, ite10, ite01, setV_fn, setV_at, cntS, nI_pos, nI_clamp, nI_leI, nI_ltI, nI_eq, nI_1, if_true, if_false, not_true, not_false, and_self, and_true, true_and, false_and, and_false, or_false, false_or, or_true, true_or, not_false_eq_true, ite_self, ite_true, ite_false, reduceIte, Nat.reduceEqDiff, Nat.reduceMul, Nat.reduceAdd, Nat.reduceLT, Nat.reducePow, ne_eq]
          rw [this]; exact ih N (i + 1) (by omega) (by omega)
        · left
          refine ⟨?_, i, by omega, ?_, by omega⟩
          · simp (disch := omega) only [Lp_X2_addCut_2, F_X2_addCut_2, F_X2_addCut_33, hct, e1, hle, k3, k4, c1, c2, bd_some, n10, n00, bv_eq, within_eq, in_eq, gd_T, gd_t, i00, i10, c_0, c_1, c_m1, ite10, ite01, setV_fn, setV_at, cntS, nI_pos, nI_clamp, nI_leI, nI_ltI, nI_eq, nI_1, if_true, if_false, not_true, not_false, and_self, and_true, true_and, false_and, and_false, or_false, false_or, or_true, true_or, not_false_eq_true, ite_self, ite_true, ite_false, reduceIte, Nat.reduceEqDiff, Nat.reduceMul, Nat.reduceAdd, Nat.reduceLT, Nat.reducePow, ne_eq]
          · obtain ⟨q, hq, e, hb⟩ := sub_told (by omega) c1
            have : CS i = q := (nI_eq (by omega) (by omega)).mp e
            subst this; exact hb
      · have : Lp_X2_addCut_2 (F_X2_addCut_33 fu) (F_X2_addCut_40 fu) fu (N + 1) V (nI d) (nI O) (nI nd) (nI i) = Lp_X2_addCut_2 (F_X2_addCut_33 fu) (F_X2_addCut_40 fu) fu N V (nI d) (nI O) (nI nd) (nI (i + 1)) := by
          simp (disch := omega) only [Lp_X2_addCut_2, F_X2_addCut_2, F_X2_addCut_34, hct, e1, hle, k3, c1, bd_some, n10, n00, bv_eq, within_eq, in_eq, gd_T, gd_t, i00, i10, c_0, c_1, c_m1, ite10, ite01, setV_fn, setV_at, cntS, nI_pos, nI_clamp, nI_leI, nI_ltI, nI_eq, nI_1, if_true, if_false, not_true, not_false, and_self, and_true, true_and, false_and, and_false, or_false, false_or, or_true, true_or, not_false_eq_true, ite_self, ite_true, ite_false, reduceIte, Nat.reduceEqDiff, Nat.reduceMul, Nat.reduceAdd, Nat.reduceLT, Nat.reducePow, ne_eq]
        rw [this]; exact ih N (i + 1) (by omega) (by omega)
  have hk0 := key c fu 0 (by omega) (by omega)
  rw [nI_0] at hk0
  have hun : f_X2_addCut fu V (nI d) (nI O) (nI nd) = Lp_X2_addCut_2 (F_X2_addCut_33 fu) (F_X2_addCut_40 fu) fu fu V (nI d) (nI O) (nI nd) 0 := rfl
  rw [hun]
  rcases hk0 with h | h
  · exact .inl h
  · right
    have hng : ¬ (127 : Int32) ≤ nI c := nI_ge (b := 127) (by omega) (by omega)
    have hbc := fun W => bc_eq (fu := fu) (V := W) (w := O) (by omega)
    have g60 : gT0 2 = 60 := rfl
    refine ⟨setV (setV (setV (setV V 1207 d c (nI O)) 1208 d c (nI nd)) 1209 d c (60 * nI (pcR O 31 0) - nI nd)) 1214 d 0 (nI (c + 1)), ?_, ((((Fr.refl _ V).set (by decide)).set (by decide)).set (by decide)).set (by decide), by omega, by simp [setV], fun k hk2 => ?_⟩
    · rw [h]
      simp (disch := omega) only [F_X2_addCut_40, F_X2_addCut_100, hct, e1, hng, hbc, g60, c_2, p_2, bd_some, n10, n00, bv_eq, within_eq, in_eq, gd_T, gd_t, i00, i10, c_0, c_1, c_m1, ite10, ite01, setV_fn, setV_at, cntS, nI_pos, nI_clamp, nI_leI, nI_ltI, nI_eq, nI_1, if_true, if_false, not_true, not_false, and_self, and_true, true_and, false_and, and_false, or_false, false_or, or_true, true_or, not_false_eq_true, ite_self, ite_true, ite_false, reduceIte, Nat.reduceEqDiff, Nat.reduceMul, Nat.reduceAdd, Nat.reduceLT, Nat.reducePow, ne_eq]
    · simp (disch := omega) only [setV_fn, setV_at, true_and]
      by_cases hkc : k = c
      · simp only [hkc, if_true]; exact ⟨hO, hnd, trivial, trivial, trivial⟩
      · simp only [hkc, if_false]; exact hk k (by omega)
