/-! laid, whole -/
theorem P_laid {fu k : Nat} {V : St} (hfu : 1000 ≤ fu) (hI : Inv k V) (x w n : Int32) : Step k (fun V => f_X11_laid fu V x w n) (fun V => f_X12_laid fu V x w n) V := by
  have hI' := hI
  obtain ⟨nC, nD, nT, nM, nP, nK, nS, nR, nL, nO, hL, hmi, hta, hcl, hdr, hth, hla, hma, hor, hpe, hdo, hse, hru, hmk⟩ := hI
  have h30 := hth.1
  obtain ⟨t1, t2, ⟨t, t400, t3⟩, t4, t5, t6, t7⟩ := hta
  rcases ix_or x (show nT < 2 ^ 31 by omega) with hv | ⟨x, hx, rfl⟩
  · refine Step.same (r := -1) ?_ ?_ hI'
    · simp only [f_X11_laid, F_X11_laid_35, findCoat_no hth.2.1 (show nT ≤ 1000 by omega) hv, bd_some, n10, n00, bv_eq, within_eq, in_eq, gd_T, gd_t, i00, i10, c_0, c_1, c_m1, ite10, ite01, setV_fn, setV_at, cntS, nI_pos, nI_clamp, nI_leI, nI_ltI, nI_eq, nI_1, if_true, if_false, not_true, not_false, and_self, and_true, true_and, false_and, and_false, or_false, false_or, or_true, true_or, not_false_eq_true, ite_self, ite_true, ite_false, reduceIte, Nat.reduceEqDiff, Nat.reduceMul, Nat.reduceAdd, Nat.reduceLT, Nat.reducePow, ne_eq]
    · simp only [f_X12_laid, F_X12_laid_40, isThing_no hth.2.2.1 hv, bd_some, n10, n00, bv_eq, within_eq, in_eq, gd_T, gd_t, i00, i10, c_0, c_1, c_m1, ite10, ite01, setV_fn, setV_at, cntS, nI_pos, nI_clamp, nI_leI, nI_ltI, nI_eq, nI_1, if_true, if_false, not_true, not_false, and_self, and_true, true_and, false_and, and_false, or_false, false_or, or_true, true_or, not_false_eq_true, ite_self, ite_true, ite_false, reduceIte, Nat.reduceEqDiff, Nat.reduceMul, Nat.reduceAdd, Nat.reduceLT, Nat.reducePow, ne_eq]
  have p1 := isThing_ok (fu := fu) hth.2.2.1 (show nT ≤ 1000 by omega) hx
  obtain ⟨p, len, wid, q⟩ := hth.2.2.2.2 x hx
  obtain ⟨q1, q2, -, -, -, -, -, -, -, -, -, -, -, -, q15, q16, q17, q18⟩ := q
  by_cases hk : V 2216 0 x = 0
  rotate_left
  · refine Step.same (r := -1) ?_ ?_ hI'
    · simp only [f_X11_laid, F_X11_laid_35, findCoat_nk hth.2.1 (show nT ≤ 1000 by omega) hx (by rw [q2]; exact hk), bd_some, n10, n00, bv_eq, within_eq, in_eq, gd_T, gd_t, i00, i10, c_0, c_1, c_m1, ite10, ite01, setV_fn, setV_at, cntS, nI_pos, nI_clamp, nI_leI, nI_ltI, nI_eq, nI_1, if_true, if_false, not_true, not_false, and_self, and_true, true_and, false_and, and_false, or_false, false_or, or_true, true_or, not_false_eq_true, ite_self, ite_true, ite_false, reduceIte, Nat.reduceEqDiff, Nat.reduceMul, Nat.reduceAdd, Nat.reduceLT, Nat.reducePow, ne_eq]
    · simp (disch := omega) only [f_X12_laid, F_X12_laid_40, p1, hk, bd_some, n10, n00, bv_eq, within_eq, in_eq, gd_T, gd_t, i00, i10, c_0, c_1, c_m1, ite10, ite01, setV_fn, setV_at, cntS, nI_pos, nI_clamp, nI_leI, nI_ltI, nI_eq, nI_1, if_true, if_false, not_true, not_false, and_self, and_true, true_and, false_and, and_false, or_false, false_or, or_true, true_or, not_false_eq_true, ite_self, ite_true, ite_false, reduceIte, Nat.reduceEqDiff, Nat.reduceMul, Nat.reduceAdd, Nat.reduceLT, Nat.reducePow, ne_eq]
  have hl : V 2090 x 0 = 9 := by
    rcases q17 with ⟨-, a, -⟩ | ⟨a, -⟩
    · exact a
    · exact absurd hk a
  have p2 := findCoat_ok (fu := fu) hth.2.1 (show nT ≤ 1000 by omega) hx (by rw [q2]; exact hk)
  rcases (Decidable.em (1 ≤ w ∧ w ≤ 200)).symm with hw | hw
  · refine Step.same (r := -1) ?_ ?_ hI'
    · simp (disch := omega) only [f_X11_laid, F_X11_laid_35, p2, hw, bd_some, n10, n00, bv_eq, within_eq, in_eq, gd_T, gd_t, i00, i10, c_0, c_1, c_m1, ite10, ite01, setV_fn, setV_at, cntS, nI_pos, nI_clamp, nI_leI, nI_ltI, nI_eq, nI_1, if_true, if_false, not_true, not_false, and_self, and_true, true_and, false_and, and_false, or_false, false_or, or_true, true_or, not_false_eq_true, ite_self, ite_true, ite_false, reduceIte, Nat.reduceEqDiff, Nat.reduceMul, Nat.reduceAdd, Nat.reduceLT, Nat.reducePow, ne_eq]
    · simp (disch := omega) only [f_X12_laid, F_X12_laid_40, p1, hk, hw, bd_some, n10, n00, bv_eq, within_eq, in_eq, gd_T, gd_t, i00, i10, c_0, c_1, c_m1, ite10, ite01, setV_fn, setV_at, cntS, nI_pos, nI_clamp, nI_leI, nI_ltI, nI_eq, nI_1, if_true, if_false, not_true, not_false, and_self, and_true, true_and, false_and, and_false, or_false, false_or, or_true, true_or, not_false_eq_true, ite_self, ite_true, ite_false, reduceIte, Nat.reduceEqDiff, Nat.reduceMul, Nat.reduceAdd, Nat.reduceLT, Nat.reducePow, ne_eq]
  rcases (Decidable.em (0 ≤ n ∧ n ≤ nI t)).symm with hn | hn
  · refine Step.same (r := -1) ?_ ?_ hI'
    · simp (disch := omega) only [f_X11_laid, F_X11_laid_35, p2, hw, t2, t3, hn, bd_some, n10, n00, bv_eq, within_eq, in_eq, gd_T, gd_t, i00, i10, c_0, c_1, c_m1, ite10, ite01, setV_fn, setV_at, cntS, nI_pos, nI_clamp, nI_leI, nI_ltI, nI_eq, nI_1, if_true, if_false, not_true, not_false, and_self, and_true, true_and, false_and, and_false, or_false, false_or, or_true, true_or, not_false_eq_true, ite_self, ite_true, ite_false, reduceIte, Nat.reduceEqDiff, Nat.reduceMul, Nat.reduceAdd, Nat.reduceLT, Nat.reducePow, ne_eq]
    · by_cases hn0 : n < 0
      · simp (disch := omega) only [f_X12_laid, F_X12_laid_40, p1, hk, hw, hn0, bd_some, n10, n00, bv_eq, within_eq, in_eq, gd_T, gd_t, i00, i10, c_0, c_1, c_m1, ite10, ite01, setV_fn, setV_at, cntS, nI_pos, nI_clamp, nI_leI, nI_ltI, nI_eq, nI_1, if_true, if_false, not_true, not_false, and_self, and_true, true_and, false_and, and_false, or_false, false_or, or_true, true_or, not_false_eq_true, ite_self, ite_true, ite_false, reduceIte, Nat.reduceEqDiff, Nat.reduceMul, Nat.reduceAdd, Nat.reduceLT, Nat.reducePow, ne_eq]
      · have hn1 : ¬ n ≤ nI t := fun z => hn ⟨by grind, z⟩
        simp (disch := omega) only [f_X12_laid, F_X12_laid_40, p1, hk, hw, hn0, t3, hn1, bd_some, n10, n00, bv_eq, within_eq, in_eq, gd_T, gd_t, i00, i10, c_0, c_1, c_m1, ite10, ite01, setV_fn, setV_at, cntS, nI_pos, nI_clamp, nI_leI, nI_ltI, nI_eq, nI_1, if_true, if_false, not_true, not_false, and_self, and_true, true_and, false_and, and_false, or_false, false_or, or_true, true_or, not_false_eq_true, ite_self, ite_true, ite_false, reduceIte, Nat.reduceEqDiff, Nat.reduceMul, Nat.reduceAdd, Nat.reduceLT, Nat.reducePow, ne_eq]
  have hn0 : ¬ n < 0 := by have := hn.1; grind
  have hn1 : n ≤ nI t := hn.2
  have ct : cntV V 2105 = nT := cnt_n (by decide) (by omega) hth.2.1
  have p1' := isThing_ok (fu := fu) (V := setV V 2114 0 0 0) (show setV V 2114 0 0 0 2204 0 0 = nI nT by rw [setV_fn (by decide)]; exact hth.2.2.1) (show nT ≤ 1000 by omega) hx
  -- what the reference does behind its checks
  have hR : f_X12_laid fu (setV V 2114 0 0 0) (nI x) w n = if n = nI p then (bd (f_X12_isWider fu (setV (setV V 2114 0 0 0) 2242 0 0 0) (nI x) w) fun r17 V18 => if r17 = 0 then (Lp_X12_laid_75 (F_X12_laid_111 fu) (F_X12_laid_138 fu) fu fu V18 (nI x) w n 0 0) else (F_X12_laid_66 fu V18)) else F_X12_laid_66 fu (setV (setV V 2114 0 0 0) 2242 0 0 0) := by
    simp (disch := omega) only [f_X12_laid, p1', hk, hw, hn0, t3, hn1, q16, bd_some, n10, n00, bv_eq, within_eq, in_eq, gd_T, gd_t, i00, i10, c_0, c_1, c_m1, ite10, ite01, setV_fn, setV_at, cntS, nI_pos, nI_clamp, nI_leI, nI_ltI, nI_eq, nI_1, if_true, if_false, not_true, not_false, and_self, and_true, true_and, false_and, and_false, or_false, false_or, or_true, true_or, not_false_eq_true, ite_self, ite_true, ite_false, reduceIte, Nat.reduceEqDiff, Nat.reduceMul, Nat.reduceAdd, Nat.reduceLT, Nat.reducePow, ne_eq]
  have hC : f_X11_laid fu V (nI x) w n = bd (f_X5_isWholeOrder fu (setV V 2114 0 0 0) (nI x) n) fun r15 V16 => if r15 = 0 then (F_X11_laid_68 fu V16) else (gd (¬ (nI x) < 0 ∧ (nI x).toNatClampNeg < cntV V16 2105) <| bd (f_X10_widest fu V16 (nI x)) fun r19 V20 => if r19 ≤ w then (bd (f_X5_lengthOf fu V20 (nI x) w) fun r25 V26 => some (r25, V26)) else (F_X11_laid_68 fu V20)) := by
    have hnx := nI_pos (n := x) (by omega)
    simp only [f_X11_laid, p2, hw, t2, t3, hn, bd_some, bv_eq, within_eq, hnx, n10, if_true, if_false, and_self, ite10, not_true]
  have fin : ∀ U : St, Fr [2114, 2242, 2230] V U → U 2114 0 0 = 0 → U 2242 0 0 = 0 → Inv (k + 1) U := by
    intro U hF u1 u2
    refine ⟨nC, nD, nT, nM, nP, nK, nS, nR, nL, nO, by omega, hmi.fr hF rfl, ?_, hcl.fr hF rfl, hdr.fr hF rfl, hth.fr hF rfl, hla.fr hF rfl, hma.fr hF rfl, hor.fr hF rfl, hpe.fr hF rfl, hdo.fr hF rfl, hse.fr hF rfl, hru.fr hF rfl, hmk.fr hF rfl⟩
    exact ⟨by rw [hF 2113 (by decide), hF 2241 (by decide)]; exact t1, by rw [u1, u2], ⟨0, by omega, by rw [u2]; rfl⟩, by rw [hF 2241 (by decide)]; exact t4, by rw [hF 2190 (by decide)]; exact t5, by rw [hF 2190 (by decide)]; exact t6, by rw [hF 1908 (by decide)]; exact t7⟩
  have hF0 : Fr [2114, 2242, 2230] V (setV (setV V 2114 0 0 0) 2242 0 0 0) := ((Fr.refl _ V).set (by decide)).set (by decide)
  by_cases hnp : n = nI p
  rotate_left
  · refine ⟨-2, setV V 2114 0 0 0, setV (setV V 2114 0 0 0) 2242 0 0 0, ?_, ?_, fin _ hF0 (by simp [setV]) (by simp [setV])⟩
    · refine hC.trans ?_
      simp (disch := omega) only [f_X5_isWholeOrder, F_X5_isWholeOrder_14, F_X11_laid_68, q15, hnp, ct, bd_some, n10, n00, bv_eq, within_eq, in_eq, gd_T, gd_t, i00, i10, c_0, c_1, c_m1, ite10, ite01, setV_fn, setV_at, cntS, nI_pos, nI_clamp, nI_leI, nI_ltI, nI_eq, nI_1, if_true, if_false, not_true, not_false, and_self, and_true, true_and, false_and, and_false, or_false, false_or, or_true, true_or, not_false_eq_true, ite_self, ite_true, ite_false, reduceIte, Nat.reduceEqDiff, Nat.reduceMul, Nat.reduceAdd, Nat.reduceLT, Nat.reducePow, ne_eq]
    · refine hR.trans ?_
      rw [if_neg hnp, F_X12_laid_66]
  subst hnp
  rw [if_pos rfl] at hR
  have hlen : lenV (setV V 2114 0 0 0) 1002190 0 = 400 := by show (setV V 2114 0 0 0 2190 0 0).toNatClampNeg = 400; rw [setV_fn (by decide), t5]; rfl
  have hp400 : p ≤ 400 := by omega
  have hwo := lp_whole (fu := fu) (n := p) (x := x) (w := w) (V := setV V 2114 0 0 0) (T := V 2241 0) (kz := F_X12_laid_111 fu) (ky := F_X12_laid_138 fu) (kx := F_X12_laid_111 fu) q1 hlen (by rw [setV_fn (by decide)]; exact t1) t4 fu 0 0 (setV (setV V 2114 0 0 0) 2242 0 0 0) (by omega) (by omega) (by rw [setV_fn (by decide), setV_fn (by decide)]) (fun k hk => by omega)
  have hwl : f_X5_isWholeOrder fu (setV V 2114 0 0 0) (nI x) (nI p) = Lp_X5_isWholeOrder_22 (F_X5_isWholeOrder_55 fu) (F_X5_isWholeOrder_74 fu) fu fu (setV V 2114 0 0 0) (nI p) 0 (nI 0) := by
    rw [nI_0]
    simp (disch := omega) only [f_X5_isWholeOrder, q15, ct, hlen, hp400, bd_some, n10, n00, bv_eq, within_eq, in_eq, gd_T, gd_t, i00, i10, c_0, c_1, c_m1, ite10, ite01, setV_fn, setV_at, cntS, nI_pos, nI_clamp, nI_leI, nI_ltI, nI_eq, nI_1, if_true, if_false, not_true, not_false, and_self, and_true, true_and, false_and, and_false, or_false, false_or, or_true, true_or, not_false_eq_true, ite_self, ite_true, ite_false, reduceIte, Nat.reduceEqDiff, Nat.reduceMul, Nat.reduceAdd, Nat.reduceLT, Nat.reducePow, ne_eq]
  have hwd : f_X12_isWider fu (setV (setV V 2114 0 0 0) 2242 0 0 0) (nI x) w = Lp_X12_isWider_2 (F_X12_isWider_27 fu) (F_X12_isWider_35 fu) fu fu (setV (setV V 2114 0 0 0) 2242 0 0 0) (nI x) w (nI 0) := by rw [nI_0]; rfl
  have hwi := lp_wider (fu := fu) (x := x) (p := p) (V := setV (setV V 2114 0 0 0) 2242 0 0 0) (y := w) (wid := wid) (by omega) q1 (by rw [setV_fn (by decide), setV_fn (by decide)]; exact q16) (fun k hk => by rw [setV_fn (by decide), setV_fn (by decide)]; exact (q18 k hk).2.2.2.2.2.2.2) fu 0 (by omega) (by omega)
  obtain ⟨rw_, ws1, ws2⟩ := lp_widest (fu := fu) (nT := nT) (x := x) (p := p) (V := setV V 2114 0 0 0) (wid := wid) h30 (by rw [setV_fn (by decide)]; exact hth.2.1) hx q1 (by rw [setV_fn (by decide)]; exact q15) (fun _ => by rw [setV_fn (by decide)]; exact hl) (fun k hk => by rw [setV_fn (by decide)]; exact (q18 k hk).2.2.2.2.2.2.1) fu 0 0 (by omega) (by omega)
  have hws : f_X10_widest fu (setV V 2114 0 0 0) (nI x) = some (rw_, setV V 2114 0 0 0) := by unfold f_X10_widest; rw [← ws1, nI_0]
  have hw0 : 0 ≤ w := by have := hw.1; grind
  rw [hwl] at hC
  rw [hwd] at hR
  rw [nI_0] at hwo
  rcases hwo with ⟨a1, U1, a2, a3⟩ | ⟨a1, U1, a2, a3, a4⟩
  · rw [nI_0] at hC
    rw [a1, bd_some, if_pos rfl, F_X11_laid_68] at hC
    rcases hwi with ⟨b1, -⟩ | ⟨b1, -⟩
    · rw [b1, bd_some, if_pos rfl, a2, F_X12_laid_111] at hR
      exact ⟨-2, _, U1, hC, hR, fin U1 (hF0.trans (a3.weak (by decide))) (by rw [a3 2114 (by decide)]; simp [setV]) (by rw [a3 2242 (by decide)]; simp [setV])⟩
    · rw [b1, bd_some, if_neg (by decide), F_X12_laid_66] at hR
      exact ⟨-2, _, _, hC, hR, fin _ hF0 (by simp [setV]) (by simp [setV])⟩
  · rw [nI_0] at hC
    rw [a1, bd_some, if_neg (by decide), gd_t ⟨nI_pos (by omega), by rw [nI_clamp (by omega), cntS (by decide), ct]; exact hx⟩, hws, bd_some] at hC
    rcases hwi with ⟨b1, b2⟩ | ⟨b1, b2⟩
    · have hle : rw_ ≤ w := (ws2 w).mpr ⟨hw0, b2⟩
      rw [if_pos hle] at hC
      rw [b1, bd_some, if_pos rfl, a2, F_X12_laid_138] at hR
      have hgo : ∀ v, v ∉ [2230] → v ≠ 2114 → v ≠ 2242 → U1 v = V v := fun v h1 h2 h3 => by rw [a3 v h1, setV_fn h3, setV_fn h2]
      obtain ⟨r, r1, r2⟩ := lp_len (fu := fu) (nT := nT) (x := x) (p := p) (V := setV V 2114 0 0 0) (U := U1) (w := w) (len := len) (wid := wid) (T := V 2241 0) h30 hx q1 (by rw [setV_fn (by decide)]; exact hth.2.1) (by rw [setV_fn (by decide)]; exact q15) hlen (fun _ => by rw [setV_fn (by decide)]; exact hl) (by rw [setV_fn (by decide)]; exact t1) (fun k hk => by rw [setV_fn (by decide), setV_fn (by decide)]; exact ⟨(q18 k hk).2.2.2.2.1, (q18 k hk).2.2.2.2.2.2.1⟩) (by rw [hgo 2223 (by decide) (by decide) (by decide)]; exact q16) (fun k hk => by rw [hgo 2224 (by decide) (by decide) (by decide), hgo 2225 (by decide) (by decide) (by decide)]; exact ⟨(q18 k hk).2.2.2.2.2.1, (q18 k hk).2.2.2.2.2.2.2⟩) a4 fu 0 0 0 0 (by omega) (by omega)
      rw [nI_0] at r1 r2
      have r1' : f_X5_lengthOf fu (setV V 2114 0 0 0) (nI x) w = some (r, setV V 2114 0 0 0) := r1
      have r2' : f_X12_lengthOf fu U1 (nI x) w = some (r, U1) := r2
      rw [r1', bd_some] at hC
      rw [r2', bd_some] at hR
      exact ⟨r, _, U1, hC, hR, fin U1 (hF0.trans (a3.weak (by decide))) (by rw [a3 2114 (by decide)]; simp [setV]) (by rw [a3 2242 (by decide)]; simp [setV])⟩
    · have hle : ¬ rw_ ≤ w := fun z => by obtain ⟨kk, k1, k2, k3⟩ := b2; exact k3 (((ws2 w).mp z).2 kk k1 k2)
      rw [if_neg hle, F_X11_laid_68] at hC
      rw [b1, bd_some, if_neg (by decide), F_X12_laid_66] at hR
      exact ⟨-2, _, _, hC, hR, fin _ hF0 (by simp [setV]) (by simp [setV])⟩
