/-! goes -/
def ptN (p g : Int32) : Int32 := if p + g < 1000000 then p + g else 1000000
theorem lp_go1 {fu n : Nat} {g : Int32} {kx : St → RR} : ∀ (m N i : Nat) (V : St), n ≤ 40 → V 2108 0 0 = nI n → i + m = n → m < N → ∃ V1, Lp_X11_goes_37 kx fu N V g (nI i) = kx V1 ∧ Fr [1801] V V1 ∧ ∀ o, V1 1801 o 0 = if i ≤ o ∧ o < n then ptN (V 1801 o 0) g else V 1801 o 0 := by
  intro m
  induction m with
  | zero =>
    intro N i V h60 hn1 hi hN
    obtain ⟨N, rfl⟩ : ∃ N', N = N' + 1 := ⟨N - 1, by omega⟩
    have hni : n ≤ i := by omega
    refine ⟨V, ?_, Fr.refl _ V, fun k => by rw [if_neg (by omega)]⟩
    simp (disch := omega) only [Lp_X11_goes_37, F_X11_goes_37, hn1, hni, bd_some, n10, n00, bv_eq, within_eq, in_eq, gd_T, gd_t, i00, i10, c_0, c_1, c_m1, ite10, ite01, setV_fn, setV_at, cntS, nI_pos, nI_clamp, nI_leI, nI_ltI, nI_eq, nI_1, if_true, if_false, not_true, not_false, and_self, and_true, true_and, false_and, and_false, or_false, false_or, or_true, true_or, not_false_eq_true, ite_self, ite_true, ite_false, reduceIte, Nat.reduceEqDiff, Nat.reduceMul, Nat.reduceAdd, Nat.reduceLT, Nat.reducePow, ne_eq]
  | succ m ih =>
    intro N i V h60 hn1 hi hN
    obtain ⟨N, rfl⟩ : ∃ N', N = N' + 1 := ⟨N - 1, by omega⟩
    have hni : ¬ n ≤ i := by omega
    have hc : cntV V 2108 = n := cnt_n (by decide) (by omega) hn1
    obtain ⟨V1, e1, e2, e3⟩ := ih N (i + 1) (setV V 1801 i 0 (ptN (V 1801 i 0) g)) h60 (by simp (disch := omega) only [setV_fn]; exact hn1) (by omega) (by omega)
    refine ⟨V1, ?_, (show Fr [1801] V (setV V 1801 i 0 (ptN (V 1801 i 0) g)) from (Fr.refl _ V).set (by decide)).trans e2, fun k => ?_⟩
    · rw [← e1]; simp (disch := omega) only [Lp_X11_goes_37, F_X11_goes_37, hn1, hni, hc, ptN, bd_some, n10, n00, bv_eq, within_eq, in_eq, gd_T, gd_t, i00, i10, c_0, c_1, c_m1, ite10, ite01, setV_fn, setV_at, cntS, nI_pos, nI_clamp, nI_leI, nI_ltI, nI_eq, nI_1, if_true, if_false, not_true, not_false, and_self, and_true, true_and, false_and, and_false, or_false, false_or, or_true, true_or, not_false_eq_true, ite_self, ite_true, ite_false, reduceIte, Nat.reduceEqDiff, Nat.reduceMul, Nat.reduceAdd, Nat.reduceLT, Nat.reducePow, ne_eq]
    · rw [e3 k, setV_at]; clear ih e3; by_cases hk : k = i <;> grind
theorem lp_go2 {fu n : Nat} {kx : St → RR} : ∀ (m N i : Nat) (V : St), n ≤ 12 → V 2106 0 0 = nI n → i + m = n → m < N → ∃ V1, Lp_X11_goes_83 kx fu N V (nI i) = kx V1 ∧ Fr [1608] V V1 ∧ ∀ o, V1 1608 o 0 = if i ≤ o ∧ o < n then 0 else V 1608 o 0 := by
  intro m
  induction m with
  | zero =>
    intro N i V h60 hn1 hi hN
    obtain ⟨N, rfl⟩ : ∃ N', N = N' + 1 := ⟨N - 1, by omega⟩
    have hni : n ≤ i := by omega
    refine ⟨V, ?_, Fr.refl _ V, fun k => by rw [if_neg (by omega)]⟩
    simp (disch := omega) only [Lp_X11_goes_83, F_X11_goes_83, hn1, hni, bd_some, n10, n00, bv_eq, within_eq, in_eq, gd_T, gd_t, i00, i10, c_0, c_1, c_m1, ite10, ite01, setV_fn, setV_at, cntS, nI_pos, nI_clamp, nI_leI, nI_ltI, nI_eq, nI_1, if_true, if_false, not_true, not_false, and_self, and_true, true_and, false_and, and_false, or_false, false_or, or_true, true_or, not_false_eq_true, ite_self, ite_true, ite_false, reduceIte, Nat.reduceEqDiff, Nat.reduceMul, Nat.reduceAdd, Nat.reduceLT, Nat.reducePow, ne_eq]
  | succ m ih =>
    intro N i V h60 hn1 hi hN
    obtain ⟨N, rfl⟩ : ∃ N', N = N' + 1 := ⟨N - 1, by omega⟩
    have hni : ¬ n ≤ i := by omega
    have hc : cntV V 2106 = n := cnt_n (by decide) (by omega) hn1
    obtain ⟨V1, e1, e2, e3⟩ := ih N (i + 1) (setV V 1608 i 0 0) h60 (by simp (disch := omega) only [setV_fn]; exact hn1) (by omega) (by omega)
    refine ⟨V1, ?_, (show Fr [1608] V (setV V 1608 i 0 0) from (Fr.refl _ V).set (by decide)).trans e2, fun k => ?_⟩
    · rw [← e1]; simp (disch := omega) only [Lp_X11_goes_83, F_X11_goes_83, hn1, hni, hc, bd_some, n10, n00, bv_eq, within_eq, in_eq, gd_T, gd_t, i00, i10, c_0, c_1, c_m1, ite10, ite01, setV_fn, setV_at, cntS, nI_pos, nI_clamp, nI_leI, nI_ltI, nI_eq, nI_1, if_true, if_false, not_true, not_false, and_self, and_true, true_and, false_and, and_false, or_false, false_or, or_true, true_or, not_false_eq_true, ite_self, ite_true, ite_false, reduceIte, Nat.reduceEqDiff, Nat.reduceMul, Nat.reduceAdd, Nat.reduceLT, Nat.reducePow, ne_eq]
    · rw [e3 k, setV_at]; clear ih e3; by_cases hk : k = i <;> grind
theorem lp_go3 {fu n : Nat} {kx : St → RR} : ∀ (m N i : Nat) (V : St), n ≤ 12 → V 2232 0 0 = nI n → i + m = n → m < N → ∃ V1, Lp_X12_goes_24 kx fu N V (nI i) = kx V1 ∧ Fr [2239] V V1 ∧ ∀ o, V1 2239 0 o = if i ≤ o ∧ o < n then 0 else V 2239 0 o := by
  intro m
  induction m with
  | zero =>
    intro N i V h60 hn1 hi hN
    obtain ⟨N, rfl⟩ : ∃ N', N = N' + 1 := ⟨N - 1, by omega⟩
    have hni : n ≤ i := by omega
    refine ⟨V, ?_, Fr.refl _ V, fun k => by rw [if_neg (by omega)]⟩
    simp (disch := omega) only [Lp_X12_goes_24, F_X12_goes_24, hn1, hni, bd_some, n10, n00, bv_eq, within_eq, in_eq, gd_T, gd_t, i00, i10, c_0, c_1, c_m1, ite10, ite01, setV_fn, setV_at, cntS, nI_pos, nI_clamp, nI_leI, nI_ltI, nI_eq, nI_1, if_true, if_false, not_true, not_false, and_self, and_true, true_and, false_and, and_false, or_false, false_or, or_true, true_or, not_false_eq_true, ite_self, ite_true, ite_false, reduceIte, Nat.reduceEqDiff, Nat.reduceMul, Nat.reduceAdd, Nat.reduceLT, Nat.reducePow, ne_eq]
  | succ m ih =>
    intro N i V h60 hn1 hi hN
    obtain ⟨N, rfl⟩ : ∃ N', N = N' + 1 := ⟨N - 1, by omega⟩
    have hni : ¬ n ≤ i := by omega
    obtain ⟨V1, e1, e2, e3⟩ := ih N (i + 1) (setV V 2239 0 i 0) h60 (by simp (disch := omega) only [setV_fn]; exact hn1) (by omega) (by omega)
    refine ⟨V1, ?_, (show Fr [2239] V (setV V 2239 0 i 0) from (Fr.refl _ V).set (by decide)).trans e2, fun k => ?_⟩
    · rw [← e1]; simp (disch := omega) only [Lp_X12_goes_24, F_X12_goes_24, hn1, hni, bd_some, n10, n00, bv_eq, within_eq, in_eq, gd_T, gd_t, i00, i10, c_0, c_1, c_m1, ite10, ite01, setV_fn, setV_at, cntS, nI_pos, nI_clamp, nI_leI, nI_ltI, nI_eq, nI_1, if_true, if_false, not_true, not_false, and_self, and_true, true_and, false_and, and_false, or_false, false_or, or_true, true_or, not_false_eq_true, ite_self, ite_true, ite_false, reduceIte, Nat.reduceEqDiff, Nat.reduceMul, Nat.reduceAdd, Nat.reduceLT, Nat.reducePow, ne_eq]
    · rw [e3 k, setV_at]; clear ih e3; by_cases hk : k = i <;> grind
theorem lp_go4 {fu n : Nat} {g : Int32} {kx : St → RR} : ∀ (m N i : Nat) (V : St), n ≤ 40 → V 2277 0 0 = nI n → i + m = n → m < N → ∃ V1, Lp_X12_goes_64 kx fu N V g (nI i) = kx V1 ∧ Fr [2278] V V1 ∧ ∀ o, V1 2278 0 o = if i ≤ o ∧ o < n then ptN (V 2278 0 o) g else V 2278 0 o := by
  intro m
  induction m with
  | zero =>
    intro N i V h60 hn1 hi hN
    obtain ⟨N, rfl⟩ : ∃ N', N = N' + 1 := ⟨N - 1, by omega⟩
    have hni : n ≤ i := by omega
    refine ⟨V, ?_, Fr.refl _ V, fun k => by rw [if_neg (by omega)]⟩
    simp (disch := omega) only [Lp_X12_goes_64, F_X12_goes_64, hn1, hni, bd_some, n10, n00, bv_eq, within_eq, in_eq, gd_T, gd_t, i00, i10, c_0, c_1, c_m1, ite10, ite01, setV_fn, setV_at, cntS, nI_pos, nI_clamp, nI_leI, nI_ltI, nI_eq, nI_1, if_true, if_false, not_true, not_false, and_self, and_true, true_and, false_and, and_false, or_false, false_or, or_true, true_or, not_false_eq_true, ite_self, ite_true, ite_false, reduceIte, Nat.reduceEqDiff, Nat.reduceMul, Nat.reduceAdd, Nat.reduceLT, Nat.reducePow, ne_eq]
  | succ m ih =>
    intro N i V h60 hn1 hi hN
    obtain ⟨N, rfl⟩ : ∃ N', N = N' + 1 := ⟨N - 1, by omega⟩
    have hni : ¬ n ≤ i := by omega
    obtain ⟨V1, e1, e2, e3⟩ := ih N (i + 1) (setV V 2278 0 i (ptN (V 2278 0 i) g)) h60 (by simp (disch := omega) only [setV_fn]; exact hn1) (by omega) (by omega)
    refine ⟨V1, ?_, (show Fr [2278] V (setV V 2278 0 i (ptN (V 2278 0 i) g)) from (Fr.refl _ V).set (by decide)).trans e2, fun k => ?_⟩
    · rw [← e1]
      by_cases h : V 2278 0 i + g ≤ 1000000
      · have hp : ptN (V 2278 0 i) g = V 2278 0 i + g := by unfold ptN; split; rfl; grind
        rw [hp]; simp (disch := omega) only [Lp_X12_goes_64, F_X12_goes_64, F_X12_goes_105, hn1, hni, h, bd_some, n10, n00, bv_eq, within_eq, in_eq, gd_T, gd_t, i00, i10, c_0, c_1, c_m1, ite10, ite01, setV_fn, setV_at, cntS, nI_pos, nI_clamp, nI_leI, nI_ltI, nI_eq, nI_1, if_true, if_false, not_true, not_false, and_self, and_true, true_and, false_and, and_false, or_false, false_or, or_true, true_or, not_false_eq_true, ite_self, ite_true, ite_false, reduceIte, Nat.reduceEqDiff, Nat.reduceMul, Nat.reduceAdd, Nat.reduceLT, Nat.reducePow, ne_eq]
      · have hp : ptN (V 2278 0 i) g = 1000000 := by unfold ptN; split; grind; rfl
        rw [hp]; simp (disch := omega) only [Lp_X12_goes_64, F_X12_goes_64, F_X12_goes_105, hn1, hni, h, bd_some, n10, n00, bv_eq, within_eq, in_eq, gd_T, gd_t, i00, i10, c_0, c_1, c_m1, ite10, ite01, setV_fn, setV_at, cntS, nI_pos, nI_clamp, nI_leI, nI_ltI, nI_eq, nI_1, if_true, if_false, not_true, not_false, and_self, and_true, true_and, false_and, and_false, or_false, false_or, or_true, true_or, not_false_eq_true, ite_self, ite_true, ite_false, reduceIte, Nat.reduceEqDiff, Nat.reduceMul, Nat.reduceAdd, Nat.reduceLT, Nat.reducePow, ne_eq]
    · rw [e3 k, setV_at]; clear ih e3; by_cases hk : k = i <;> grind
theorem P_goes {fu k : Nat} {V : St} (hfu : 1000 ≤ fu) (hI : Inv k V) : Step k (fun V => f_X11_goes fu V) (fun V => f_X12_goes fu V) V := by
  have hI' := hI
  obtain ⟨nC, nD, nT, nM, nP, nK, nS, nR, nL, nO, hL, hmi, hta, hcl, hdr, hth, hla, hma, hor, hpe, hdo, hse, hru, hmk⟩ := hI
  have hwo := hmi.2.2.2.2
  have hnow := hmi.1
  have hA : Ask V nC nT nM nO := ⟨hcl, hth, hma, hor⟩
  by_cases hl : V 2201 0 0 = 499
  · have h2 : ¬ V 2101 0 0 < 499 := by rw [hnow, hl]; decide
    refine Step.same (r := -1) ?_ ?_ hI'
    · simp only [f_X11_goes, h2, if_false]
    · simp only [f_X12_goes, hl, if_true]
  have hlt : V 2101 0 0 < 499 := by have := hmi.2.2.1; grind
  have hF0 : Fr [2101] V (setV V 2101 0 0 (V 2101 0 0 + 1)) := (Fr.refl _ V).set (by decide)
  have hA0 := hA.fr hF0 (by decide) (by decide) (by decide) (by decide)
  obtain ⟨Vb, b1, b2⟩ := askNow_eq (fu := fu) (L := 103) hfu hA0 (okT_m1 _) (okT_m1 _) (by decide)
  rw [lastV_ag (av_fr hF0 (by decide))] at b1
  have hw : setV V 2101 0 0 (V 2101 0 0 + 1) 2101 0 0 = V 2201 0 0 + 1 := by rw [setV_at, if_pos ⟨rfl, rfl⟩, hnow]
  rw [hw] at b1
  have hmx := max0 (wo := -1) (wk := V 2201 0 0 + 1) (t := V 2201 0 0 + 1) (x := -1) (m := -1) (L := 103) hor
  have hFb : Fr [2101, 1402, 1403, 1404, 1405, 1406, 1407, 1408] V Vb := (hF0.weak (by decide)).trans (b2.weak (by decide))
  obtain ⟨Vc, c1, c2, c3⟩ := lp_go1 (fu := fu) (g := if lastV V (-1) (V 2201 0 0 + 1) (V 2201 0 0 + 1) nO 103 (-1) (-1) = -1 then 0 else lastV V (-1) (V 2201 0 0 + 1) (V 2201 0 0 + 1) nO 103 (-1) (-1)) (kx := F_X11_goes_81 fu) nP fu 0 Vb hpe.1 (by rw [hFb 2108 (by decide)]; exact hpe.2.1) (by omega) (by have := hpe.1; omega)
  have hFc : Fr [2101, 1402, 1403, 1404, 1405, 1406, 1407, 1408, 1801] V Vc := (hFb.weak (by decide)).trans (c2.weak (by decide))
  obtain ⟨Vd, d1, d2, d3⟩ := lp_go2 (fu := fu) (kx := F_X11_goes_115 fu) nM fu 0 Vc hma.1 (by rw [hFc 2106 (by decide)]; exact hma.2.1) (by omega) (by have := hma.1; omega)
  have hFd : Fr [2101, 1402, 1403, 1404, 1405, 1406, 1407, 1408, 1801, 1608] V Vd := (hFc.weak (by decide)).trans (d2.weak (by decide))
  have hVd : Vd 2101 0 0 = V 2201 0 0 + 1 := by
    rw [d2 2101 (by decide), c2 2101 (by decide), b2 2101 (by decide), hw]
  -- the reference
  have hFe : Fr [2101, 1402, 1403, 1404, 1405, 1406, 1407, 1408, 1801, 1608, 2201] V (setV Vd 2201 0 0 (Vd 2201 0 0 + 1)) := (hFd.weak (by decide)).set (by decide)
  obtain ⟨Ve, e1, e2, e3⟩ := lp_go3 (fu := fu) (kx := F_X12_goes_45 fu) nM fu 0 (setV Vd 2201 0 0 (Vd 2201 0 0 + 1)) hma.1 (by rw [hFe 2232 (by decide)]; exact hma.2.2.1) (by omega) (by have := hma.1; omega)
  have hFe2 : Fr [2101, 1402, 1403, 1404, 1405, 1406, 1407, 1408, 1801, 1608, 2201, 2239] V Ve := (hFe.weak (by decide)).trans (e2.weak (by decide))
  have hAe : Ask Ve nC nT nM nO := by
    refine ⟨hcl.fr hFe2 (by decide), hth.fr hFe2 (by decide), ?_, hor.fr hFe2 (by decide)⟩
    obtain ⟨m1, m2, m3, m4, m5, m6, m7⟩ := hma
    refine ⟨m1, by rw [hFe2 2106 (by decide)]; exact m2, by rw [hFe2 2232 (by decide)]; exact m3, fun m hm => ?_, by rw [hFe2 2238 (by decide)]; exact m5, fun m hm => ?_, by rw [hFe2 2107 (by decide), hFe2 2236 (by decide)]; exact m7⟩
    · rw [e3 m, if_neg (by omega), hFe 2239 (by decide), hFe2 2240 (by decide)]; exact m4 m hm
    · have q := m6 m hm
      unfold MakV at q ⊢
      rw [e3 m, if_pos ⟨by omega, hm⟩, e2 1608 (by decide), setV_fn (by decide), d3 m, if_pos ⟨by omega, hm⟩]
      rw [hFe2 1601 (by decide), hFe2 2233 (by decide), hFe2 1602 (by decide), hFe2 2234 (by decide), hFe2 1603 (by decide), hFe2 2235 (by decide), hFe2 1604 (by decide), hFe2 2236 (by decide), hFe2 1605 (by decide), hFe2 2237 (by decide), hFe2 1606 (by decide), hFe2 2238 (by decide), hFe2 1607 (by decide), hFe2 2240 (by decide)]
      obtain ⟨q1, q2, q3, q4, q5, q6, q7, q8, q9, q10, q11, q12⟩ := q
      exact ⟨q1, q2, q3, q4, q5, q6, q7, q8, q9, q10, rfl, q12⟩
  have hwe : Ve 2201 0 0 = V 2201 0 0 + 1 := by rw [e2 2201 (by decide), setV_at, if_pos ⟨rfl, rfl⟩, hFd 2201 (by decide)]
  obtain ⟨Vf, f1, f2⟩ := orNothing_eq (fu := fu) (L := 103) (wk := Ve 2201 0 0) (t := Ve 2201 0 0) hfu hAe (okT_m1 _) (okT_m1 _) (by decide)
  rw [hwe, hFe2 2259 (by decide), hwo, lastV_ag (av_fr hFe2 (by decide))] at f1
  have hFf : Fr [2101, 1402, 1403, 1404, 1405, 1406, 1407, 1408, 1801, 1608, 2201, 2239, 2270, 2271, 2272, 2273, 2274] V Vf := (hFe2.weak (by decide)).trans (f2.weak (by decide))
  obtain ⟨Vg, g1, g2, g3⟩ := lp_go4 (fu := fu) (g := if lastV V (-1) (V 2201 0 0 + 1) (V 2201 0 0 + 1) nO 103 (-1) (-1) = -1 then 0 else lastV V (-1) (V 2201 0 0 + 1) (V 2201 0 0 + 1) nO 103 (-1) (-1)) (kx := F_X12_goes_112 fu) nP fu 0 Vf hpe.1 (by rw [hFf 2277 (by decide)]; exact hpe.2.2.1) (by omega) (by have := hpe.1; omega)
  have hFg : Fr [2101, 1402, 1403, 1404, 1405, 1406, 1407, 1408, 1801, 1608, 2201, 2239, 2270, 2271, 2272, 2273, 2274, 2278] V Vg := (hFf.weak (by decide)).trans (g2.weak (by decide))
  have hwg : Vg 2201 0 0 = V 2201 0 0 + 1 := by rw [g2 2201 (by decide), f2 2201 (by decide)]; exact hwe
  refine ⟨V 2201 0 0 + 1, Vd, Vg, ?_, ?_, ?_⟩
  · show f_X11_goes fu V = _
    unfold f_X11_goes
    rw [if_pos hlt, bv_eq, b1, bd_some, hmx]
    rw [nI_0] at c1 d1
    rw [c1, F_X11_goes_81, d1, F_X11_goes_115, hVd]
  · show f_X12_goes fu Vd = _
    unfold f_X12_goes
    rw [hFd 2201 (by decide), if_neg hl, bv_eq]
    rw [nI_0] at e1 g1
    rw [hFd 2201 (by decide)] at e1
    rw [e1, F_X12_goes_45, hwe, f1, bd_some, g1, F_X12_goes_112, hwg]
  · have hAg := hAe.2.2.1.fr ((f2.weak (show rsc.all (fun v => [2270, 2271, 2272, 2273, 2274, 2278].contains v) = true by decide)).trans (g2.weak (by decide))) (by decide)
    refine ⟨nC, nD, nT, nM, nP, nK, nS, nR, nL, nO, by omega, ?_, hta.fr hFg rfl, hcl.fr hFg rfl, hdr.fr hFg rfl, hth.fr hFg rfl, hla.fr hFg rfl, hAg, hor.fr hFg rfl, ?_, hdo.fr hFg rfl, hse.fr hFg rfl, hru.fr hFg rfl, hmk.fr hFg rfl⟩
    · have hw1 : Vg 2101 0 0 = V 2201 0 0 + 1 := by rw [g2 2101 (by decide), f2 2101 (by decide), e2 2101 (by decide), setV_fn (by decide)]; exact hVd
      obtain ⟨m1, m2, m3, m4, m5⟩ := hmi
      refine ⟨by rw [hw1, hwg], by rw [hwg]; grind, by rw [hwg]; grind, by rw [hFg 2102 (by decide), hFg 2288 (by decide)]; exact m4, by rw [hFg 2259 (by decide)]; exact m5⟩
    · obtain ⟨p1, p2, p3, p4, p5⟩ := hpe
      refine ⟨p1, by rw [hFg 2108 (by decide)]; exact p2, by rw [hFg 2277 (by decide)]; exact p3, fun o ho => ?_, fun o ho => ?_⟩
      · rw [g3 o, if_neg (by omega), hFf 2278 (by decide)]; exact p4 o ho
      · rw [g3 o, if_pos ⟨by omega, ho⟩, hFf 2278 (by decide), g2 1801 (by decide), f2 1801 (by decide), e2 1801 (by decide), setV_fn (by decide), d2 1801 (by decide), c3 o, if_pos ⟨by omega, ho⟩, hFb 1801 (by decide), hFg 1802 (by decide), hFg 2279 (by decide), (p5 o ho).1]
        exact ⟨rfl, (p5 o ho).2⟩
