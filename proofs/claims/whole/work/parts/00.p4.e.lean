/-! calls that set fields (by program: set.py) -/
theorem DrawV.of {V V' : St} {d j s l : Nat} {A B T LJ LP : Nat → Nat} (h : DrawV V d j s l A B T LJ LP) (h1 : ∀ v, v ∈ [1201, 1212, 1213, 1215, 1216, 1202, 1203, 1204, 1205, 1206, 1211] → V' v d = V v d) (h2 : ∀ v, v ∈ [2208, 2209, 2210] → V' v 0 d = V v 0 d) (h3 : ∀ v, v ∈ [2211, 2212, 2213, 2214, 2215] → ∀ k, k < 8 → V' v 0 (8 * d + k) = V v 0 (8 * d + k)) : DrawV V' d j s l A B T LJ LP := by
  have a1201 := h1 1201 (by decide)
  have a1212 := h1 1212 (by decide)
  have a1213 := h1 1213 (by decide)
  have a1215 := h1 1215 (by decide)
  have a1216 := h1 1216 (by decide)
  have a1202 := h1 1202 (by decide)
  have a1203 := h1 1203 (by decide)
  have a1204 := h1 1204 (by decide)
  have a1205 := h1 1205 (by decide)
  have a1206 := h1 1206 (by decide)
  have a1211 := h1 1211 (by decide)
  have a2208 := h2 2208 (by decide)
  have a2209 := h2 2209 (by decide)
  have a2210 := h2 2210 (by decide)
  have a2211 := h3 2211 (by decide)
  have a2212 := h3 2212 (by decide)
  have a2213 := h3 2213 (by decide)
  have a2214 := h3 2214 (by decide)
  have a2215 := h3 2215 (by decide)
  unfold DrawV at h ⊢
  obtain ⟨b1, b2, b3, b4, b5, b6, b7, b8, b9, b10, b11, b12, b13⟩ := h
  refine ⟨b1, b2, b3, b4, by rw [a1201]; exact b5, by rw [a2208]; exact b6, by rw [a1212]; exact b7, by rw [a2209]; exact b8, by rw [a1213]; exact b9, by rw [a2210]; exact b10, fun k hk => ?_, fun k hk => ?_, ?_⟩
  · rw [a1202, a1203, a1204, a2211 k (by omega), a2212 k (by omega), a2213 k (by omega)]; exact b11 k hk
  · rw [a1205, a1206, a2214 k (by omega), a2215 k (by omega)]; exact b12 k hk
  · rw [a1216, a1215, a1211]; exact b13
theorem in_nI {x : Int32} {a n : Nat} (h : nI a ≤ x ∧ x ≤ nI n - 1) (hn : n < 2 ^ 31) (ha : a < 2 ^ 31) : ∃ i, a ≤ i ∧ i < n ∧ x = nI i := by
  have h0 := nI_pos' (n := a) ha
  have h1 := nI_pos' (n := n) hn
  obtain ⟨i, hi, rfl⟩ := nI_of (x := x) (by grind)
  refine ⟨i, (nI_leI ha hi).mp h.1, ?_, rfl⟩
  have : nI i < nI n := by grind
  exact (nI_ltI hi hn).mp this
theorem P_stick {fu k : Nat} {V : St} (hI : Inv k V) (xd xa xb xt : Int32) : Step k (fun V => f_X11_stick fu V xd xa xb xt) (fun V => f_X12_stick fu V xd xa xb xt) V := by
  have hI' := hI
  obtain ⟨nC, nD, nT, nM, nP, nK, nS, nR, nL, nO, hL, hmi, hta, hcl, hdr, hth, hla, hma, hor, hpe, hdo, hse, hru, hmk⟩ := hI
  obtain ⟨h22, hn1, hn2, hfr, hx⟩ := hdr
  have hc : cntV V 2104 = nD := cnt_n (by decide) (by omega) hn1
  rcases ix_or xd (show nD < 2 ^ 31 by omega) with hv | ⟨d, hd, rfl⟩
  · refine Step.same (r := -1) ?_ ?_ hI'
    · simp (disch := omega) only [f_X11_stick, F_X11_stick_25, findDrawing_no hn1 (by omega) hv, bd_some, n10, n00, bv_eq, within_eq, in_eq, gd_T, gd_t, i00, i10, c_0, c_1, c_m1, ite10, ite01, setV_fn, setV_at, cntS, nI_pos, nI_clamp, nI_leI, nI_ltI, nI_eq, nI_1, if_true, if_false, not_true, not_false, and_self, and_true, true_and, false_and, and_false, or_false, false_or, or_true, true_or, not_false_eq_true, ite_self, ite_true, ite_false, reduceIte, Nat.reduceEqDiff, Nat.reduceMul, Nat.reduceAdd, Nat.reduceLT, Nat.reducePow, ne_eq]
    · simp (disch := omega) only [f_X12_stick, F_X12_stick_66, isDrawing_no hn2 hv, bd_some, n10, n00, bv_eq, within_eq, in_eq, gd_T, gd_t, i00, i10, c_0, c_1, c_m1, ite10, ite01, setV_fn, setV_at, cntS, nI_pos, nI_clamp, nI_leI, nI_ltI, nI_eq, nI_1, if_true, if_false, not_true, not_false, and_self, and_true, true_and, false_and, and_false, or_false, false_or, or_true, true_or, not_false_eq_true, ite_self, ite_true, ite_false, reduceIte, Nat.reduceEqDiff, Nat.reduceMul, Nat.reduceAdd, Nat.reduceLT, Nat.reducePow, ne_eq]
  obtain ⟨j, s, l, A, B, T, LJ, LP, hD⟩ := hx d hd
  have hD' := hD
  unfold DrawV at hD
  obtain ⟨b1, b2, b3, b4, e5, e6, e7, e8, b9, b10, b11, b12, b13⟩ := hD
  have hfd : ∀ fu, f_X11_findDrawing fu V (nI d) = some (nI d, V) := fun fu => findDrawing_ok hn1 (by omega) hd
  have hid : ∀ fu, f_X12_isDrawing fu V (nI d) = some (1, V) := fun fu => isDrawing_ok hn2 (by omega) hd
  rcases (Decidable.em (0 ≤ xa ∧ xa ≤ nI j - 1)).symm with ha | ha
  · refine Step.same (r := -1) ?_ ?_ hI'
    · simp (disch := omega) only [f_X11_stick, F_X11_stick_25, f_X2_addStick, F_X2_addStick_53, F_X2_addStick_33, hfd, hc, e5, e7, ha, bd_some, n10, n00, bv_eq, within_eq, in_eq, gd_T, gd_t, i00, i10, c_0, c_1, c_m1, ite10, ite01, setV_fn, setV_at, cntS, nI_pos, nI_clamp, nI_leI, nI_ltI, nI_eq, nI_1, if_true, if_false, not_true, not_false, and_self, and_true, true_and, false_and, and_false, or_false, false_or, or_true, true_or, not_false_eq_true, ite_self, ite_true, ite_false, reduceIte, Nat.reduceEqDiff, Nat.reduceMul, Nat.reduceAdd, Nat.reduceLT, Nat.reducePow, ne_eq]
    · simp (disch := omega) only [f_X12_stick, F_X12_stick_66, hid, e6, e8, ha, bd_some, n10, n00, bv_eq, within_eq, in_eq, gd_T, gd_t, i00, i10, c_0, c_1, c_m1, ite10, ite01, setV_fn, setV_at, cntS, nI_pos, nI_clamp, nI_leI, nI_ltI, nI_eq, nI_1, if_true, if_false, not_true, not_false, and_self, and_true, true_and, false_and, and_false, or_false, false_or, or_true, true_or, not_false_eq_true, ite_self, ite_true, ite_false, reduceIte, Nat.reduceEqDiff, Nat.reduceMul, Nat.reduceAdd, Nat.reduceLT, Nat.reducePow, ne_eq]
  rcases (Decidable.em (0 ≤ xb ∧ xb ≤ nI j - 1)).symm with hb | hb
  · refine Step.same (r := -1) ?_ ?_ hI'
    · simp (disch := omega) only [f_X11_stick, F_X11_stick_25, f_X2_addStick, F_X2_addStick_53, F_X2_addStick_33, hfd, hc, e5, e7, ha, hb, bd_some, n10, n00, bv_eq, within_eq, in_eq, gd_T, gd_t, i00, i10, c_0, c_1, c_m1, ite10, ite01, setV_fn, setV_at, cntS, nI_pos, nI_clamp, nI_leI, nI_ltI, nI_eq, nI_1, if_true, if_false, not_true, not_false, and_self, and_true, true_and, false_and, and_false, or_false, false_or, or_true, true_or, not_false_eq_true, ite_self, ite_true, ite_false, reduceIte, Nat.reduceEqDiff, Nat.reduceMul, Nat.reduceAdd, Nat.reduceLT, Nat.reducePow, ne_eq]
    · simp (disch := omega) only [f_X12_stick, F_X12_stick_66, hid, e6, e8, ha, hb, bd_some, n10, n00, bv_eq, within_eq, in_eq, gd_T, gd_t, i00, i10, c_0, c_1, c_m1, ite10, ite01, setV_fn, setV_at, cntS, nI_pos, nI_clamp, nI_leI, nI_ltI, nI_eq, nI_1, if_true, if_false, not_true, not_false, and_self, and_true, true_and, false_and, and_false, or_false, false_or, or_true, true_or, not_false_eq_true, ite_self, ite_true, ite_false, reduceIte, Nat.reduceEqDiff, Nat.reduceMul, Nat.reduceAdd, Nat.reduceLT, Nat.reducePow, ne_eq]
  rcases (Decidable.em (xa = xb)) with hab | hab
  · refine Step.same (r := -1) ?_ ?_ hI'
    · simp (disch := omega) only [f_X11_stick, F_X11_stick_25, f_X2_addStick, F_X2_addStick_53, F_X2_addStick_33, hfd, hc, e5, e7, ha, hb, hab, bd_some, n10, n00, bv_eq, within_eq, in_eq, gd_T, gd_t, i00, i10, c_0, c_1, c_m1, ite10, ite01, setV_fn, setV_at, cntS, nI_pos, nI_clamp, nI_leI, nI_ltI, nI_eq, nI_1, if_true, if_false, not_true, not_false, and_self, and_true, true_and, false_and, and_false, or_false, false_or, or_true, true_or, not_false_eq_true, ite_self, ite_true, ite_false, reduceIte, Nat.reduceEqDiff, Nat.reduceMul, Nat.reduceAdd, Nat.reduceLT, Nat.reducePow, ne_eq]
    · simp (disch := omega) only [f_X12_stick, F_X12_stick_66, hid, e6, e8, ha, hb, hab, bd_some, n10, n00, bv_eq, within_eq, in_eq, gd_T, gd_t, i00, i10, c_0, c_1, c_m1, ite10, ite01, setV_fn, setV_at, cntS, nI_pos, nI_clamp, nI_leI, nI_ltI, nI_eq, nI_1, if_true, if_false, not_true, not_false, and_self, and_true, true_and, false_and, and_false, or_false, false_or, or_true, true_or, not_false_eq_true, ite_self, ite_true, ite_false, reduceIte, Nat.reduceEqDiff, Nat.reduceMul, Nat.reduceAdd, Nat.reduceLT, Nat.reducePow, ne_eq]
  rcases (Decidable.em (0 ≤ xt ∧ xt ≤ 2)).symm with ht | ht
  · refine Step.same (r := -1) ?_ ?_ hI'
    · simp (disch := omega) only [f_X11_stick, F_X11_stick_25, f_X2_addStick, F_X2_addStick_53, F_X2_addStick_33, hfd, hc, e5, e7, ha, hb, hab, ht, bd_some, n10, n00, bv_eq, within_eq, in_eq, gd_T, gd_t, i00, i10, c_0, c_1, c_m1, ite10, ite01, setV_fn, setV_at, cntS, nI_pos, nI_clamp, nI_leI, nI_ltI, nI_eq, nI_1, if_true, if_false, not_true, not_false, and_self, and_true, true_and, false_and, and_false, or_false, false_or, or_true, true_or, not_false_eq_true, ite_self, ite_true, ite_false, reduceIte, Nat.reduceEqDiff, Nat.reduceMul, Nat.reduceAdd, Nat.reduceLT, Nat.reducePow, ne_eq]
    · simp (disch := omega) only [f_X12_stick, F_X12_stick_66, hid, e6, e8, ha, hb, hab, ht, bd_some, n10, n00, bv_eq, within_eq, in_eq, gd_T, gd_t, i00, i10, c_0, c_1, c_m1, ite10, ite01, setV_fn, setV_at, cntS, nI_pos, nI_clamp, nI_leI, nI_ltI, nI_eq, nI_1, if_true, if_false, not_true, not_false, and_self, and_true, true_and, false_and, and_false, or_false, false_or, or_true, true_or, not_false_eq_true, ite_self, ite_true, ite_false, reduceIte, Nat.reduceEqDiff, Nat.reduceMul, Nat.reduceAdd, Nat.reduceLT, Nat.reducePow, ne_eq]
  rcases (Decidable.em (s = 8)) with h8 | h8
  · have q1 : ¬ nI s < 8 := by rw [h8]; decide
    have q2 : nI s = 8 := by rw [h8]; decide
    refine Step.same (r := -1) ?_ ?_ hI'
    · simp (disch := omega) only [f_X11_stick, F_X11_stick_25, f_X2_addStick, F_X2_addStick_53, F_X2_addStick_33, hfd, hc, e5, e7, ha, hb, hab, ht, q1, bd_some, n10, n00, bv_eq, within_eq, in_eq, gd_T, gd_t, i00, i10, c_0, c_1, c_m1, ite10, ite01, setV_fn, setV_at, cntS, nI_pos, nI_clamp, nI_leI, nI_ltI, nI_eq, nI_1, if_true, if_false, not_true, not_false, and_self, and_true, true_and, false_and, and_false, or_false, false_or, or_true, true_or, not_false_eq_true, ite_self, ite_true, ite_false, reduceIte, Nat.reduceEqDiff, Nat.reduceMul, Nat.reduceAdd, Nat.reduceLT, Nat.reducePow, ne_eq]
    · simp (disch := omega) only [f_X12_stick, F_X12_stick_66, hid, e6, e8, ha, hb, hab, ht, q2, bd_some, n10, n00, bv_eq, within_eq, in_eq, gd_T, gd_t, i00, i10, c_0, c_1, c_m1, ite10, ite01, setV_fn, setV_at, cntS, nI_pos, nI_clamp, nI_leI, nI_ltI, nI_eq, nI_1, if_true, if_false, not_true, not_false, and_self, and_true, true_and, false_and, and_false, or_false, false_or, or_true, true_or, not_false_eq_true, ite_self, ite_true, ite_false, reduceIte, Nat.reduceEqDiff, Nat.reduceMul, Nat.reduceAdd, Nat.reduceLT, Nat.reducePow, ne_eq]
  have q1 : nI s < 8 := nI_lt (b := 8) (by omega) (by decide)
  have q2 : ¬ nI s = 8 := fun q => h8 ((nI_eq (b := 8) (by omega) (by decide)).mp q)
  obtain ⟨a, -, ha2, rfl⟩ := in_nI (a := 0) (n := j) (x := xa) (by rw [nI_0]; exact ha) (by omega) (by omega)
  obtain ⟨b, -, hb2, rfl⟩ := in_nI (a := 0) (n := j) (x := xb) (by rw [nI_0]; exact hb) (by omega) (by omega)
  obtain ⟨t, -, ht2, rfl⟩ := in_nI (a := 0) (n := 3) (x := xt) (by rw [nI_0]; exact ht) (by omega) (by omega)
  have hab2 : a ≠ b := fun q => hab (by rw [q])
  refine ⟨nI s, setV (setV (setV (setV (setV (V) 1202 d s (nI a)) 1203 d s (nI b)) 1204 d s (nI t)) 1212 d 0 (nI (s + 1))) 1216 d 0 0, setV (setV (setV (setV (setV (setV (setV (setV (setV (V) 1202 d s (nI a)) 1203 d s (nI b)) 1204 d s (nI t)) 1212 d 0 (nI (s + 1))) 1216 d 0 0) 2211 0 (8 * d + s) (nI a)) 2212 0 (8 * d + s) (nI b)) 2213 0 (8 * d + s) (nI t)) 2209 0 d (nI (s + 1)), ?_, ?_, ?_⟩
  · simp (disch := omega) only [f_X11_stick, F_X11_stick_25, f_X2_addStick, F_X2_addStick_53, F_X2_addStick_33, hfd, hc, e5, e7, ha, hb, hab, ht, q1, nI_pred, bd_some, n10, n00, bv_eq, within_eq, in_eq, gd_T, gd_t, i00, i10, c_0, c_1, c_m1, ite10, ite01, setV_fn, setV_at, cntS, nI_pos, nI_clamp, nI_leI, nI_ltI, nI_eq, nI_1, if_true, if_false, not_true, not_false, and_self, and_true, true_and, false_and, and_false, or_false, false_or, or_true, true_or, not_false_eq_true, ite_self, ite_true, ite_false, reduceIte, Nat.reduceEqDiff, Nat.reduceMul, Nat.reduceAdd, Nat.reduceLT, Nat.reducePow, ne_eq]
  · have hid : ∀ fu W, W 2203 0 0 = nI nD → f_X12_isDrawing fu W (nI d) = some (1, W) := fun fu W hW => isDrawing_ok hW (by omega) hd
    show f_X12_stick fu _ _ _ _ _ = _
    unfold f_X12_stick
    rw [hid _ _ (by simp (disch := omega) only [setV_fn]; exact hn2)]
    simp (disch := omega) only [F_X12_stick_66, e6, e8, ix8, ha, hb, hab, ht, q2, nI_pred, bd_some, n10, n00, bv_eq, within_eq, in_eq, gd_T, gd_t, i00, i10, c_0, c_1, c_m1, ite10, ite01, setV_fn, setV_at, cntS, nI_pos, nI_clamp, nI_leI, nI_ltI, nI_eq, nI_1, if_true, if_false, not_true, not_false, and_self, and_true, true_and, false_and, and_false, or_false, false_or, or_true, true_or, not_false_eq_true, ite_self, ite_true, ite_false, reduceIte, Nat.reduceEqDiff, Nat.reduceMul, Nat.reduceAdd, Nat.reduceLT, Nat.reducePow, ne_eq]
  · have hF : Fr [1202, 1203, 1204, 1212, 1216, 2211, 2212, 2213, 2209] V (setV (setV (setV (setV (setV (setV (setV (setV (setV (V) 1202 d s (nI a)) 1203 d s (nI b)) 1204 d s (nI t)) 1212 d 0 (nI (s + 1))) 1216 d 0 0) 2211 0 (8 * d + s) (nI a)) 2212 0 (8 * d + s) (nI b)) 2213 0 (8 * d + s) (nI t)) 2209 0 d (nI (s + 1))) := ((((((((((Fr.refl _ V)).set (by decide)).set (by decide)).set (by decide)).set (by decide)).set (by decide)).set (by decide)).set (by decide)).set (by decide)).set (by decide)
    refine ⟨nC, nD, nT, nM, nP, nK, nS, nR, nL, nO, by omega, hmi.fr hF rfl, hta.fr hF rfl, hcl.fr hF rfl, ?_, hth.fr hF rfl, hla.fr hF rfl, hma.fr hF rfl, hor.fr hF rfl, hpe.fr hF rfl, hdo.fr hF rfl, hse.fr hF rfl, hru.fr hF rfl, hmk.fr hF rfl⟩
    refine ⟨h22, by simp (disch := omega) only [setV_fn]; exact hn1, by simp (disch := omega) only [setV_fn]; exact hn2, fun d' hd' => ?_, fun d' hd' => ?_⟩
    · have hne : ¬ d' = d := by omega
      simp (disch := omega) only [setV_fn, setV_at, hne, and_false, if_false]; exact hfr d' hd'
    by_cases hne : d' = d
    · subst hne
      refine ⟨j, s + 1, l, fun k => if k = s then a else A k, fun k => if k = s then b else B k, fun k => if k = s then t else T k, LJ, LP, ?_⟩
      unfold DrawV
      refine ⟨b1, b2, by omega, b4, ?_, ?_, ?_, ?_, ?_, ?_, fun k hk => ?_, fun k hk => ?_, .inl ?_⟩
      all_goals simp (disch := omega) only [setV_fn, setV_at, true_and, and_self, if_true]
      all_goals try assumption
      · by_cases hks : k = s
        · simp only [hks, if_true]; exact ⟨ha2, hb2, hab2, ht2, trivial, trivial, trivial, trivial, trivial, trivial⟩
        · have hq : ¬ 8 * d' + k = 8 * d' + s := by omega
          simp only [hks, hq, if_false]; exact b11 k (by omega)
      · exact b12 k hk
    · obtain ⟨j', s', l', A', B', T', LJ', LP', hD'⟩ := hx d' hd'
      refine ⟨j', s', l', A', B', T', LJ', LP', hD'.of (fun v hv => ?_) (fun v hv => ?_) (fun v hv k hk => ?_)⟩
      · funext q; revert v; simp only [List.mem_cons, List.not_mem_nil, or_false]; rintro v hv; rcases hv with rfl | rfl | rfl | rfl | rfl | rfl | rfl | rfl | rfl | rfl | rfl <;> simp (disch := omega) only [setV_fn, setV_at, hne, false_and, if_false]
      · revert v; simp only [List.mem_cons, List.not_mem_nil, or_false]; rintro v hv; rcases hv with rfl | rfl | rfl <;> simp (disch := omega) only [setV_fn, setV_at, hne, and_false, if_false]
      · have hq : ¬ 8 * d' + k = 8 * d + s := by omega
        revert v; simp only [List.mem_cons, List.not_mem_nil, or_false]; rintro v hv; rcases hv with rfl | rfl | rfl | rfl | rfl <;> simp (disch := omega) only [setV_fn, setV_at, hq, and_false, if_false]
theorem P_load {fu k : Nat} {V : St} (hI : Inv k V) (xd xa xp : Int32) : Step k (fun V => f_X11_load fu V xd xa xp) (fun V => f_X12_load fu V xd xa xp) V := by
  have hI' := hI
  obtain ⟨nC, nD, nT, nM, nP, nK, nS, nR, nL, nO, hL, hmi, hta, hcl, hdr, hth, hla, hma, hor, hpe, hdo, hse, hru, hmk⟩ := hI
  obtain ⟨h22, hn1, hn2, hfr, hx⟩ := hdr
  have hc : cntV V 2104 = nD := cnt_n (by decide) (by omega) hn1
  rcases ix_or xd (show nD < 2 ^ 31 by omega) with hv | ⟨d, hd, rfl⟩
  · refine Step.same (r := 0) ?_ ?_ hI'
    · simp (disch := omega) only [f_X11_load, F_X11_load_26, F_X11_load_27, findDrawing_no hn1 (by omega) hv, bd_some, n10, n00, bv_eq, within_eq, in_eq, gd_T, gd_t, i00, i10, c_0, c_1, c_m1, ite10, ite01, setV_fn, setV_at, cntS, nI_pos, nI_clamp, nI_leI, nI_ltI, nI_eq, nI_1, if_true, if_false, not_true, not_false, and_self, and_true, true_and, false_and, and_false, or_false, false_or, or_true, true_or, not_false_eq_true, ite_self, ite_true, ite_false, reduceIte, Nat.reduceEqDiff, Nat.reduceMul, Nat.reduceAdd, Nat.reduceLT, Nat.reducePow, ne_eq]
    · simp (disch := omega) only [f_X12_load, F_X12_load_46, isDrawing_no hn2 hv, bd_some, n10, n00, bv_eq, within_eq, in_eq, gd_T, gd_t, i00, i10, c_0, c_1, c_m1, ite10, ite01, setV_fn, setV_at, cntS, nI_pos, nI_clamp, nI_leI, nI_ltI, nI_eq, nI_1, if_true, if_false, not_true, not_false, and_self, and_true, true_and, false_and, and_false, or_false, false_or, or_true, true_or, not_false_eq_true, ite_self, ite_true, ite_false, reduceIte, Nat.reduceEqDiff, Nat.reduceMul, Nat.reduceAdd, Nat.reduceLT, Nat.reducePow, ne_eq]
  obtain ⟨j, s, l, A, B, T, LJ, LP, hD⟩ := hx d hd
  have hD' := hD
  unfold DrawV at hD
  obtain ⟨b1, b2, b3, b4, e5, e6, e7, e8, b9, b10, b11, b12, b13⟩ := hD
  have hfd : ∀ fu, f_X11_findDrawing fu V (nI d) = some (nI d, V) := fun fu => findDrawing_ok hn1 (by omega) hd
  have hid : ∀ fu, f_X12_isDrawing fu V (nI d) = some (1, V) := fun fu => isDrawing_ok hn2 (by omega) hd
  rcases (Decidable.em (1 ≤ xa ∧ xa ≤ nI j - 1)).symm with ha | ha
  · refine Step.same (r := 0) ?_ ?_ hI'
    · simp (disch := omega) only [f_X11_load, F_X11_load_26, F_X11_load_27, f_X2_addLoad, F_X2_addLoad_34, hfd, hc, e5, b9, ha, bd_some, n10, n00, bv_eq, within_eq, in_eq, gd_T, gd_t, i00, i10, c_0, c_1, c_m1, ite10, ite01, setV_fn, setV_at, cntS, nI_pos, nI_clamp, nI_leI, nI_ltI, nI_eq, nI_1, if_true, if_false, not_true, not_false, and_self, and_true, true_and, false_and, and_false, or_false, false_or, or_true, true_or, not_false_eq_true, ite_self, ite_true, ite_false, reduceIte, Nat.reduceEqDiff, Nat.reduceMul, Nat.reduceAdd, Nat.reduceLT, Nat.reducePow, ne_eq]
    · simp (disch := omega) only [f_X12_load, F_X12_load_46, hid, e6, b10, ha, bd_some, n10, n00, bv_eq, within_eq, in_eq, gd_T, gd_t, i00, i10, c_0, c_1, c_m1, ite10, ite01, setV_fn, setV_at, cntS, nI_pos, nI_clamp, nI_leI, nI_ltI, nI_eq, nI_1, if_true, if_false, not_true, not_false, and_self, and_true, true_and, false_and, and_false, or_false, false_or, or_true, true_or, not_false_eq_true, ite_self, ite_true, ite_false, reduceIte, Nat.reduceEqDiff, Nat.reduceMul, Nat.reduceAdd, Nat.reduceLT, Nat.reducePow, ne_eq]
  rcases (Decidable.em (1 ≤ xp ∧ xp ≤ 500)).symm with hp | hp
  · refine Step.same (r := 0) ?_ ?_ hI'
    · simp (disch := omega) only [f_X11_load, F_X11_load_26, F_X11_load_27, f_X2_addLoad, F_X2_addLoad_34, hfd, hc, e5, b9, ha, hp, bd_some, n10, n00, bv_eq, within_eq, in_eq, gd_T, gd_t, i00, i10, c_0, c_1, c_m1, ite10, ite01, setV_fn, setV_at, cntS, nI_pos, nI_clamp, nI_leI, nI_ltI, nI_eq, nI_1, if_true, if_false, not_true, not_false, and_self, and_true, true_and, false_and, and_false, or_false, false_or, or_true, true_or, not_false_eq_true, ite_self, ite_true, ite_false, reduceIte, Nat.reduceEqDiff, Nat.reduceMul, Nat.reduceAdd, Nat.reduceLT, Nat.reducePow, ne_eq]
    · simp (disch := omega) only [f_X12_load, F_X12_load_46, hid, e6, b10, ha, hp, bd_some, n10, n00, bv_eq, within_eq, in_eq, gd_T, gd_t, i00, i10, c_0, c_1, c_m1, ite10, ite01, setV_fn, setV_at, cntS, nI_pos, nI_clamp, nI_leI, nI_ltI, nI_eq, nI_1, if_true, if_false, not_true, not_false, and_self, and_true, true_and, false_and, and_false, or_false, false_or, or_true, true_or, not_false_eq_true, ite_self, ite_true, ite_false, reduceIte, Nat.reduceEqDiff, Nat.reduceMul, Nat.reduceAdd, Nat.reduceLT, Nat.reducePow, ne_eq]
  rcases (Decidable.em (l = 8)) with h8 | h8
  · have q1 : ¬ nI l < 8 := by rw [h8]; decide
    have q2 : nI l = 8 := by rw [h8]; decide
    refine Step.same (r := 0) ?_ ?_ hI'
    · simp (disch := omega) only [f_X11_load, F_X11_load_26, F_X11_load_27, f_X2_addLoad, F_X2_addLoad_34, hfd, hc, e5, b9, ha, hp, q1, bd_some, n10, n00, bv_eq, within_eq, in_eq, gd_T, gd_t, i00, i10, c_0, c_1, c_m1, ite10, ite01, setV_fn, setV_at, cntS, nI_pos, nI_clamp, nI_leI, nI_ltI, nI_eq, nI_1, if_true, if_false, not_true, not_false, and_self, and_true, true_and, false_and, and_false, or_false, false_or, or_true, true_or, not_false_eq_true, ite_self, ite_true, ite_false, reduceIte, Nat.reduceEqDiff, Nat.reduceMul, Nat.reduceAdd, Nat.reduceLT, Nat.reducePow, ne_eq]
    · simp (disch := omega) only [f_X12_load, F_X12_load_46, hid, e6, b10, ha, hp, q2, bd_some, n10, n00, bv_eq, within_eq, in_eq, gd_T, gd_t, i00, i10, c_0, c_1, c_m1, ite10, ite01, setV_fn, setV_at, cntS, nI_pos, nI_clamp, nI_leI, nI_ltI, nI_eq, nI_1, if_true, if_false, not_true, not_false, and_self, and_true, true_and, false_and, and_false, or_false, false_or, or_true, true_or, not_false_eq_true, ite_self, ite_true, ite_false, reduceIte, Nat.reduceEqDiff, Nat.reduceMul, Nat.reduceAdd, Nat.reduceLT, Nat.reducePow, ne_eq]
  have q1 : nI l < 8 := nI_lt (b := 8) (by omega) (by decide)
  have q2 : ¬ nI l = 8 := fun q => h8 ((nI_eq (b := 8) (by omega) (by decide)).mp q)
  obtain ⟨a, ha1, ha2, rfl⟩ := in_nI (a := 1) ha (by omega) (by omega)
  obtain ⟨p, hp1, hp2, rfl⟩ := in_nI (a := 1) (n := 501) (x := xp) hp (by omega) (by omega)
  refine ⟨1, setV (setV (setV (setV (V) 1205 d l (nI a)) 1206 d l (nI p)) 1213 d 0 (nI (l + 1))) 1216 d 0 0, setV (setV (setV (setV (setV (setV (setV (V) 1205 d l (nI a)) 1206 d l (nI p)) 1213 d 0 (nI (l + 1))) 1216 d 0 0) 2214 0 (8 * d + l) (nI a)) 2215 0 (8 * d + l) (nI p)) 2210 0 d (nI (l + 1)), ?_, ?_, ?_⟩
  · simp (disch := omega) only [f_X11_load, F_X11_load_26, F_X11_load_27, f_X2_addLoad, F_X2_addLoad_34, hfd, hc, e5, b9, ha, hp, q1, bd_some, n10, n00, bv_eq, within_eq, in_eq, gd_T, gd_t, i00, i10, c_0, c_1, c_m1, ite10, ite01, setV_fn, setV_at, cntS, nI_pos, nI_clamp, nI_leI, nI_ltI, nI_eq, nI_1, if_true, if_false, not_true, not_false, and_self, and_true, true_and, false_and, and_false, or_false, false_or, or_true, true_or, not_false_eq_true, ite_self, ite_true, ite_false, reduceIte, Nat.reduceEqDiff, Nat.reduceMul, Nat.reduceAdd, Nat.reduceLT, Nat.reducePow, ne_eq]
  · have hid : ∀ fu W, W 2203 0 0 = nI nD → f_X12_isDrawing fu W (nI d) = some (1, W) := fun fu W hW => isDrawing_ok hW (by omega) hd
    show f_X12_load fu _ _ _ _ = _
    unfold f_X12_load
    rw [hid _ _ (by simp (disch := omega) only [setV_fn]; exact hn2)]
    simp (disch := omega) only [F_X12_load_46, e6, b10, ix8, ha, hp, q2, bd_some, n10, n00, bv_eq, within_eq, in_eq, gd_T, gd_t, i00, i10, c_0, c_1, c_m1, ite10, ite01, setV_fn, setV_at, cntS, nI_pos, nI_clamp, nI_leI, nI_ltI, nI_eq, nI_1, if_true, if_false, not_true, not_false, and_self, and_true, true_and, false_and, and_false, or_false, false_or, or_true, true_or, not_false_eq_true, ite_self, ite_true, ite_false, reduceIte, Nat.reduceEqDiff, Nat.reduceMul, Nat.reduceAdd, Nat.reduceLT, Nat.reducePow, ne_eq]
  · have hF : Fr [1205, 1206, 1213, 1216, 2214, 2215, 2210] V (setV (setV (setV (setV (setV (setV (setV (V) 1205 d l (nI a)) 1206 d l (nI p)) 1213 d 0 (nI (l + 1))) 1216 d 0 0) 2214 0 (8 * d + l) (nI a)) 2215 0 (8 * d + l) (nI p)) 2210 0 d (nI (l + 1))) := ((((((((Fr.refl _ V)).set (by decide)).set (by decide)).set (by decide)).set (by decide)).set (by decide)).set (by decide)).set (by decide)
    refine ⟨nC, nD, nT, nM, nP, nK, nS, nR, nL, nO, by omega, hmi.fr hF rfl, hta.fr hF rfl, hcl.fr hF rfl, ?_, hth.fr hF rfl, hla.fr hF rfl, hma.fr hF rfl, hor.fr hF rfl, hpe.fr hF rfl, hdo.fr hF rfl, hse.fr hF rfl, hru.fr hF rfl, hmk.fr hF rfl⟩
    refine ⟨h22, by simp (disch := omega) only [setV_fn]; exact hn1, by simp (disch := omega) only [setV_fn]; exact hn2, fun d' hd' => ?_, fun d' hd' => ?_⟩
    · have hne : ¬ d' = d := by omega
      simp (disch := omega) only [setV_fn, setV_at, hne, and_false, if_false]; exact hfr d' hd'
    by_cases hne : d' = d
    · subst hne
      refine ⟨j, s, l + 1, A, B, T, fun k => if k = l then a else LJ k, fun k => if k = l then p else LP k, ?_⟩
      unfold DrawV
      refine ⟨b1, b2, b3, by omega, ?_, ?_, ?_, ?_, ?_, ?_, fun k hk => ?_, fun k hk => ?_, .inl ?_⟩
      all_goals simp (disch := omega) only [setV_fn, setV_at, true_and, and_self, if_true]
      all_goals try assumption
      · exact b11 k hk
      · by_cases hks : k = l
        · simp only [hks, if_true]; exact ⟨ha1, ha2, hp1, by omega, trivial, trivial, trivial, trivial⟩
        · have hq : ¬ 8 * d' + k = 8 * d' + l := by omega
          simp only [hks, hq, if_false]; exact b12 k (by omega)
    · obtain ⟨j', s', l', A', B', T', LJ', LP', hD'⟩ := hx d' hd'
      refine ⟨j', s', l', A', B', T', LJ', LP', hD'.of (fun v hv => ?_) (fun v hv => ?_) (fun v hv k hk => ?_)⟩
      · funext q; revert v; simp only [List.mem_cons, List.not_mem_nil, or_false]; rintro v hv; rcases hv with rfl | rfl | rfl | rfl | rfl | rfl | rfl | rfl | rfl | rfl | rfl <;> simp (disch := omega) only [setV_fn, setV_at, hne, false_and, if_false]
      · revert v; simp only [List.mem_cons, List.not_mem_nil, or_false]; rintro v hv; rcases hv with rfl | rfl | rfl <;> simp (disch := omega) only [setV_fn, setV_at, hne, and_false, if_false]
      · have hq : ¬ 8 * d' + k = 8 * d + l := by omega
        revert v; simp only [List.mem_cons, List.not_mem_nil, or_false]; rintro v hv; rcases hv with rfl | rfl | rfl | rfl | rfl <;> simp (disch := omega) only [setV_fn, setV_at, hq, and_false, if_false]
