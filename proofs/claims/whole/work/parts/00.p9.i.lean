/-! least, put together -/
theorem search_eq {fu nT x p Wd : Nat} {V : St} {len wid : Nat → Nat} (hfu : 1000 ≤ fu) (h : CoV V nT x p len wid) (hla : I_lay V nT) (hW1 : 1 ≤ Wd) (hWd : Wd ≤ 200) (hw : ∀ k, k < p → wid k ≤ Wd) : ∃ V1, f_X5_search fu V (nI x) (nI Wd) = some (0, V1) ∧ Fr lyw V V1 ∧ I_lay V1 nT ∧ IsLeast p Wd len wid (V1 1505 0 0) (V1 1504 0) := by
  have hh := h
  obtain ⟨hx, h30, hn, hp9, hp, hpl, hk⟩ := h
  have hct : cntV V 2105 = nT := cnt_n (by decide) (by omega) hn
  have hg : (V 1506 0 0) < 0 ∨ ((V 1506 0 0)).toNatClampNeg < cntV V 2105 := by
    rcases hla with e | ⟨x', -, -, -, -, -, hx', -, -, e, -⟩
    · left; rw [e]; decide
    · right; rw [e, nI_clamp (by omega), hct]; exact hx'
  obtain ⟨V1, a1, a2, a3, a4, a5, a6⟩ := search_new (fu := fu) hfu hh hW1 hWd hw
  have new : f_X5_search fu V (nI x) (nI Wd) = F_X5_search_28 fu V (nI x) (nI Wd) → ∃ V1, f_X5_search fu V (nI x) (nI Wd) = some (0, V1) ∧ Fr lyw V V1 ∧ I_lay V1 nT ∧ IsLeast p Wd len wid (V1 1505 0 0) (V1 1504 0) := fun e => by
    refine ⟨V1, e.trans a1, a2, .inr ⟨x, Wd, p, p, len, wid, hx, Nat.le_refl p, hp9, a3, hW1, hWd, a4, a5, by rw [a2 2009 (by decide)]; exact hp, fun k hk' => ?_, a6⟩, a6⟩
    rw [a2 2007 (by decide), a2 2008 (by decide)]
    exact ⟨(hk k hk').2.2.2.2.1, (hk k hk').2.2.2.2.2⟩
  have hun : f_X5_search fu V (nI x) (nI Wd) = if (V 1506 0 0) = nI x then (if (V 1507 0 0) = nI Wd then (if (V 1508 0 0) = nI p then (some (0, V)) else (F_X5_search_28 fu V (nI x) (nI Wd))) else (F_X5_search_28 fu V (nI x) (nI Wd))) else (F_X5_search_28 fu V (nI x) (nI Wd)) := by
    rw [f_X5_search, nI_clamp (show x < 2 ^ 31 by omega), gd_t ⟨nI_pos (by omega), by rw [hct]; exact hx⟩, gd_t hg, hp]
  by_cases c1 : V 1506 0 0 = nI x
  · by_cases c2 : V 1507 0 0 = nI Wd
    · by_cases c3 : V 1508 0 0 = nI p
      · refine ⟨V, by rw [hun, if_pos c1, if_pos c2, if_pos c3], Fr.refl _ V, hla, ?_⟩
        rcases hla with e | ⟨x', w', p', q', len', wid', b1, b2, b3, b4, b5, b6, b7, b8, b9, b10, b11⟩
        · exfalso
          have q := nI_pos (n := x) (by omega)
          rw [← c1, e] at q; exact q (by decide)
        · have ex : x' = x := (nI_eq (by omega) (by omega)).mp (by rw [← b4, c1])
          have ew : w' = Wd := (nI_eq (by omega) (by omega)).mp (by rw [← b7, c2])
          have ep : p' = p := (nI_eq (by omega) (by omega)).mp (by rw [← b8, c3])
          subst ex ew ep
          refine b11.cg (fun k hk' => ?_)
          have hb := b11.1 k hk'
          obtain ⟨k1, k2, k3, k4, k5, k6⟩ := hk k hk'
          obtain ⟨g1, g2⟩ := b10 k hk'
          exact ⟨(nI_eq (by omega) (by omega)).mp (by rw [← g1, k5]), (nI_eq (by omega) (by omega)).mp (by rw [← g2, k6])⟩
      · exact new (by rw [hun, if_pos c1, if_pos c2, if_neg c3])
    · exact new (by rw [hun, if_pos c1, if_neg c2])
  · exact new (by rw [hun, if_neg c1])
theorem P_least {fu k : Nat} {V : St} (hfu : 1000000000 ≤ fu) (hI : Inv k V) (x w n : Int32) : Step k (fun V => f_X11_least fu V x w n) (fun V => f_X12_least fu V x w n) V := by
  have hI' := hI
  obtain ⟨nC, nD, nT, nM, nP, nK, nS, nR, nL, nO, hL, hmi, hta, hcl, hdr, hth, hla, hma, hor, hpe, hdo, hse, hru, hmk⟩ := hI
  have h30 := hth.1
  rcases ix_or x (show nT < 2 ^ 31 by omega) with hv | ⟨x, hx, rfl⟩
  · refine Step.same (r := -1) ?_ ?_ hI'
    · simp only [f_X11_least, F_X11_least_38, findCoat_no hth.2.1 (show nT ≤ 1000 by omega) hv, bd_some, n10, n00, bv_eq, within_eq, in_eq, gd_T, gd_t, i00, i10, c_0, c_1, c_m1, ite10, ite01, setV_fn, setV_at, cntS, nI_pos, nI_clamp, nI_leI, nI_ltI, nI_eq, nI_1, if_true, if_false, not_true, not_false, and_self, and_true, true_and, false_and, and_false, or_false, false_or, or_true, true_or, not_false_eq_true, ite_self, ite_true, ite_false, reduceIte, Nat.reduceEqDiff, Nat.reduceMul, Nat.reduceAdd, Nat.reduceLT, Nat.reducePow, ne_eq]
    · simp only [f_X12_least, F_X12_least_53, isThing_no hth.2.2.1 hv, bd_some, n10, n00, bv_eq, within_eq, in_eq, gd_T, gd_t, i00, i10, c_0, c_1, c_m1, ite10, ite01, setV_fn, setV_at, cntS, nI_pos, nI_clamp, nI_leI, nI_ltI, nI_eq, nI_1, if_true, if_false, not_true, not_false, and_self, and_true, true_and, false_and, and_false, or_false, false_or, or_true, true_or, not_false_eq_true, ite_self, ite_true, ite_false, reduceIte, Nat.reduceEqDiff, Nat.reduceMul, Nat.reduceAdd, Nat.reduceLT, Nat.reducePow, ne_eq]
  have p1 := isThing_ok (fu := fu) hth.2.2.1 (show nT ≤ 1000 by omega) hx
  obtain ⟨p, len, wid, q⟩ := hth.2.2.2.2 x hx
  obtain ⟨q1, q2, -, -, -, -, -, -, -, -, -, -, -, -, q15, q16, q17, q18⟩ := q
  by_cases hk : V 2216 0 x = 0
  rotate_left
  · refine Step.same (r := -1) ?_ ?_ hI'
    · simp only [f_X11_least, F_X11_least_38, findCoat_nk hth.2.1 (show nT ≤ 1000 by omega) hx (by rw [q2]; exact hk), bd_some, n10, n00, bv_eq, within_eq, in_eq, gd_T, gd_t, i00, i10, c_0, c_1, c_m1, ite10, ite01, setV_fn, setV_at, cntS, nI_pos, nI_clamp, nI_leI, nI_ltI, nI_eq, nI_1, if_true, if_false, not_true, not_false, and_self, and_true, true_and, false_and, and_false, or_false, false_or, or_true, true_or, not_false_eq_true, ite_self, ite_true, ite_false, reduceIte, Nat.reduceEqDiff, Nat.reduceMul, Nat.reduceAdd, Nat.reduceLT, Nat.reducePow, ne_eq]
    · simp (disch := omega) only [f_X12_least, F_X12_least_53, p1, hk, bd_some, n10, n00, bv_eq, within_eq, in_eq, gd_T, gd_t, i00, i10, c_0, c_1, c_m1, ite10, ite01, setV_fn, setV_at, cntS, nI_pos, nI_clamp, nI_leI, nI_ltI, nI_eq, nI_1, if_true, if_false, not_true, not_false, and_self, and_true, true_and, false_and, and_false, or_false, false_or, or_true, true_or, not_false_eq_true, ite_self, ite_true, ite_false, reduceIte, Nat.reduceEqDiff, Nat.reduceMul, Nat.reduceAdd, Nat.reduceLT, Nat.reducePow, ne_eq]
  have hl : V 2090 x 0 = 9 := by
    rcases q17 with ⟨-, a, -⟩ | ⟨a, -⟩
    · exact a
    · exact absurd hk a
  have p2 := findCoat_ok (fu := fu) hth.2.1 (show nT ≤ 1000 by omega) hx (by rw [q2]; exact hk)
  have ct : cntV V 2105 = nT := cnt_n (by decide) (by omega) hth.2.1
  rcases (Decidable.em (1 ≤ w ∧ w ≤ 200)).symm with hw | hw
  · refine Step.same (r := -1) ?_ ?_ hI'
    · simp (disch := omega) only [f_X11_least, F_X11_least_38, p2, hw, bd_some, n10, n00, bv_eq, within_eq, in_eq, gd_T, gd_t, i00, i10, c_0, c_1, c_m1, ite10, ite01, setV_fn, setV_at, cntS, nI_pos, nI_clamp, nI_leI, nI_ltI, nI_eq, nI_1, if_true, if_false, not_true, not_false, and_self, and_true, true_and, false_and, and_false, or_false, false_or, or_true, true_or, not_false_eq_true, ite_self, ite_true, ite_false, reduceIte, Nat.reduceEqDiff, Nat.reduceMul, Nat.reduceAdd, Nat.reduceLT, Nat.reducePow, ne_eq]
    · simp (disch := omega) only [f_X12_least, F_X12_least_53, p1, hk, hw, bd_some, n10, n00, bv_eq, within_eq, in_eq, gd_T, gd_t, i00, i10, c_0, c_1, c_m1, ite10, ite01, setV_fn, setV_at, cntS, nI_pos, nI_clamp, nI_leI, nI_ltI, nI_eq, nI_1, if_true, if_false, not_true, not_false, and_self, and_true, true_and, false_and, and_false, or_false, false_or, or_true, true_or, not_false_eq_true, ite_self, ite_true, ite_false, reduceIte, Nat.reduceEqDiff, Nat.reduceMul, Nat.reduceAdd, Nat.reduceLT, Nat.reducePow, ne_eq]
  rcases (Decidable.em (-1 ≤ n ∧ n ≤ nI p - 1)).symm with hn | hn
  · refine Step.same (r := -1) ?_ ?_ hI'
    · simp (disch := omega) only [f_X11_least, F_X11_least_38, p2, hw, ct, q15, hn, bd_some, n10, n00, bv_eq, within_eq, in_eq, gd_T, gd_t, i00, i10, c_0, c_1, c_m1, ite10, ite01, setV_fn, setV_at, cntS, nI_pos, nI_clamp, nI_leI, nI_ltI, nI_eq, nI_1, if_true, if_false, not_true, not_false, and_self, and_true, true_and, false_and, and_false, or_false, false_or, or_true, true_or, not_false_eq_true, ite_self, ite_true, ite_false, reduceIte, Nat.reduceEqDiff, Nat.reduceMul, Nat.reduceAdd, Nat.reduceLT, Nat.reducePow, ne_eq]
    · simp (disch := omega) only [f_X12_least, F_X12_least_53, p1, hk, hw, q16, hn, bd_some, n10, n00, bv_eq, within_eq, in_eq, gd_T, gd_t, i00, i10, c_0, c_1, c_m1, ite10, ite01, setV_fn, setV_at, cntS, nI_pos, nI_clamp, nI_leI, nI_ltI, nI_eq, nI_1, if_true, if_false, not_true, not_false, and_self, and_true, true_and, false_and, and_false, or_false, false_or, or_true, true_or, not_false_eq_true, ite_self, ite_true, ite_false, reduceIte, Nat.reduceEqDiff, Nat.reduceMul, Nat.reduceAdd, Nat.reduceLT, Nat.reducePow, ne_eq]
  obtain ⟨rw_, ws1, ws2⟩ := lp_widest (fu := fu) (nT := nT) (x := x) (p := p) (V := V) (wid := wid) h30 hth.2.1 hx q1 q15 (fun _ => hl) (fun k hk => (q18 k hk).2.2.2.2.2.2.1) fu 0 0 (by omega) (by omega)
  have hws : f_X10_widest fu V (nI x) = some (rw_, V) := by unfold f_X10_widest; rw [← ws1, nI_0]
  have hw0 : 0 ≤ w := by have := hw.1; grind
  have hC : f_X11_least fu V (nI x) w n = if rw_ ≤ w then (bd (f_X5_search fu V (nI x) w) fun r21 V22 => if n = (-1) then (F_X11_least_85 fu V22 ((V22 1505 0 0))) else (gd (¬ (n < 0 ∨ 9 ≤ n.toNatClampNeg)) <| F_X11_least_85 fu V22 ((V22 1504 (0) n.toNatClampNeg)))) else (some ((-1), V)) := by
    simp (disch := omega) only [f_X11_least, p2, hw, ct, q15, hn, hws, bd_some, n10, n00, bv_eq, within_eq, in_eq, gd_T, gd_t, i00, i10, c_0, c_1, c_m1, ite10, ite01, setV_fn, setV_at, cntS, nI_pos, nI_clamp, nI_leI, nI_ltI, nI_eq, nI_1, if_true, if_false, not_true, not_false, and_self, and_true, true_and, false_and, and_false, or_false, false_or, or_true, true_or, not_false_eq_true, ite_self, ite_true, ite_false, reduceIte, Nat.reduceEqDiff, Nat.reduceMul, Nat.reduceAdd, Nat.reduceLT, Nat.reducePow, ne_eq]
  have hR : ∀ U : St, Fr lyw V U → f_X12_least fu U (nI x) w n = bd (Lp_X12_isWider_2 (F_X12_isWider_27 fu) (F_X12_isWider_35 fu) fu fu U (nI x) w (nI 0)) fun r16 V17 => if r16 = 0 then (gd (¬ (nI x < 0 ∨ 30 ≤ (nI x).toNatClampNeg)) <| Lp_X12_least_66 (F_X12_least_88 fu) fu fu V17 (nI x) w n ((V17 2223 (0) (nI x).toNatClampNeg)) (0)) else (F_X12_least_53 fu V17) := fun U hF => by
    have u1 := isThing_ok (fu := fu) (V := U) (show U 2204 0 0 = nI nT by rw [hF 2204 (by decide)]; exact hth.2.2.1) (show nT ≤ 1000 by omega) hx
    have u2 : U 2216 0 x = 0 := by rw [hF 2216 (by decide)]; exact hk
    have u3 : U 2223 0 x = nI p := by rw [hF 2223 (by decide)]; exact q16
    have e : f_X12_isWider fu U (nI x) w = Lp_X12_isWider_2 (F_X12_isWider_27 fu) (F_X12_isWider_35 fu) fu fu U (nI x) w (nI 0) := by rw [nI_0]; rfl
    rw [← e, f_X12_least, u1, bd_some, if_neg (by decide), gd_in (show x < 30 by omega) (by omega), nI_clamp (show x < 2 ^ 31 by omega), u2, if_pos rfl, in_eq, bd_some, if_pos hw, if_neg (by decide), gd_t (show ¬ (nI x < 0 ∨ 30 ≤ x) from fun z => z.elim (nI_pos (by omega)) (fun z => by omega)), u3, in_eq, bd_some, if_pos hn, if_neg (by decide)]
  have hwi : ∀ U : St, Fr lyw V U → (Lp_X12_isWider_2 (F_X12_isWider_27 fu) (F_X12_isWider_35 fu) fu fu U (nI x) w (nI 0) = some (0, U) ∧ ∀ k, 0 ≤ k → k < p → nI (wid k) ≤ w) ∨ (Lp_X12_isWider_2 (F_X12_isWider_27 fu) (F_X12_isWider_35 fu) fu fu U (nI x) w (nI 0) = some (1, U) ∧ ∃ k, 0 ≤ k ∧ k < p ∧ ¬ nI (wid k) ≤ w) := fun U hF => lp_wider (fu := fu) (x := x) (p := p) (V := U) (y := w) (wid := wid) (by omega) q1 (by rw [hF 2223 (by decide)]; exact q16) (fun k hk => by rw [hF 2225 (by decide)]; exact (q18 k hk).2.2.2.2.2.2.2) fu 0 (by omega) (by omega)
  obtain ⟨W, hW1, hW2, rfl⟩ := in_nI (a := 1) (n := 201) (x := w) hw (by omega) (by omega)
  by_cases hle : rw_ ≤ nI W
  · have hwk : ∀ k, k < p → wid k ≤ W := fun k hk' => by
      have := ((ws2 _).mp hle).2 k (Nat.zero_le k) hk'
      exact (nI_leI (by have := (q18 k hk').2.2.2.1; omega) (by omega)).mp this
    have hco : CoV V nT x p len wid := ⟨hx, h30, hth.2.1, q1, q15, fun _ => hl, fun k hk' => ⟨(q18 k hk').1, (q18 k hk').2.1, (q18 k hk').2.2.1, (q18 k hk').2.2.2.1, (q18 k hk').2.2.2.2.1, (q18 k hk').2.2.2.2.2.2.1⟩⟩
    obtain ⟨V1, a1, a2, a3, a4⟩ := search_eq (fu := fu) (by omega) hco hla hW1 (by omega) hwk
    rw [if_pos hle, a1, bd_some] at hC
    have hrf : RfP V1 x p len wid := ⟨by omega, q1, by rw [a2 2223 (by decide)]; exact q16, fun k hk' => by
      rw [a2 2224 (by decide), a2 2225 (by decide)]
      exact ⟨(q18 k hk').1, (q18 k hk').2.1, (q18 k hk').2.2.1, (q18 k hk').2.2.2.1, (q18 k hk').2.2.2.2.2.1, (q18 k hk').2.2.2.2.2.2.2⟩⟩
    have hR1 := hR V1 a2
    rcases hwi V1 a2 with ⟨b1, -⟩ | ⟨-, kk, b1, b2, b3⟩
    · rw [b1, bd_some, if_pos rfl, gd_in (show x < 30 by omega) (by omega), nI_clamp (show x < 2 ^ 31 by omega), hrf.2.2.1] at hR1
      obtain ⟨U, c1, c2, c3⟩ := lr_init (fu := fu) (x1 := nI x) (x2 := nI W) (x3 := n) (kx := F_X12_least_88 fu) q1 p fu 0 V1 (by omega) (by omega) (fun k hk' => by omega)
      rw [nI_0] at c1
      have hpid : isPm p (fun k => k) := ⟨fun i hi => hi, fun i j _ _ e => e⟩
      obtain ⟨U', bst, d1, d2, d3⟩ := lr_rows (fu := fu) (V := V1) (x3 := n) (by omega) hrf (by omega) hwk 387420489 fu U (fun k => k) (-1) (by omega) (by omega) (Fr.weak c2 (by decide)) hpid c3 (.inl ⟨rfl, fun t ht => id_first ht⟩)
      rw [c1, F_X12_least_88, d1] at hR1
      obtain ⟨u1, u2⟩ := least_uniq a4 d3
      have hFa : Fr [1501, 1502, 1503, 1504, 1505, 1506, 1507, 1508, 2230, 2231] V U' := (Fr.weak a2 (by decide)).trans (Fr.weak d2 (by decide))
      have hK : Inv (k + 1) U' := ⟨nC, nD, nT, nM, nP, nK, nS, nR, nL, nO, by omega, hmi.fr hFa rfl, hta.fr hFa rfl, hcl.fr hFa rfl, hdr.fr hFa rfl, hth.fr hFa rfl, a3.fr d2 rfl, hma.fr hFa rfl, hor.fr hFa rfl, hpe.fr hFa rfl, hdo.fr hFa rfl, hse.fr hFa rfl, hru.fr hFa rfl, hmk.fr hFa rfl⟩
      by_cases z1 : n = -1
      · rw [if_pos z1, F_X11_least_85] at hC
        rw [F_X12_least_165, if_pos z1, F_X12_least_181, ← u1] at hR1
        exact ⟨_, V1, U', hC, hR1, hK⟩
      · obtain ⟨q, -, hq, rfl⟩ := in_nI (a := 0) (n := p) (x := n) ⟨by rw [nI_0]; grind, hn.2⟩ (by omega) (by omega)
        rw [if_neg z1, gd_in (show q < 9 by omega) (by omega), nI_clamp (show q < 2 ^ 31 by omega), F_X11_least_85] at hC
        rw [F_X12_least_165, if_neg z1, gd_in (show q < 9 by omega) (by omega), nI_clamp (show q < 2 ^ 31 by omega), F_X12_least_181, ← u2 q hq] at hR1
        exact ⟨_, V1, U', hC, hR1, hK⟩
    · exact absurd (((ws2 _).mp hle).2 kk b1 b2) b3
  · rw [if_neg hle] at hC
    have hR1 := hR V (Fr.refl _ V)
    rcases hwi V (Fr.refl _ V) with ⟨b1, b2⟩ | ⟨b1, b2⟩
    · exact absurd ((ws2 _).mpr ⟨hw0, b2⟩) hle
    · rw [b1, bd_some, if_neg (by decide), F_X12_least_53] at hR1
      exact Step.same (r := -1) hC hR1 hI'
