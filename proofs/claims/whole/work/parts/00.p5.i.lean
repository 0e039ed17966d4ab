/-! beside -/
noncomputable def letV (V : St) (wo wk : Int32) (n x : Nat) : Nat → Nat → Bool
  | 0, _ => false
  | r + 1, m => if lastV V wo wk wk n 98 (nI x) (nI m) = -1 then true else letV V wo wk n x r (m + 1)
noncomputable def besV (V : St) (wo wk : Int32) (n nM : Nat) : Nat → Nat → Int32 → Int32
  | 0, _, c => c
  | r + 1, x, c => besV V wo wk n nM r (x + 1) (if letV V wo wk n x nM 0 = true then c + 1 else c)
theorem CS.self {V V' : St} {wo wk t : Int32} {n : Nat} {fs : Nat → Int32} (h : CS V V' wo wk t n fs) : CS V V' wo wk t n (fun k => V' 1403 0 k) := ⟨h.1, h.2.1, fun _ _ => rfl⟩
theorem lp_let {fu nC nT nM nO x : Nat} {V Va : St} {wo wk : Int32} (hfu : 1000 ≤ fu) (hA : Ask V nC nT nM nO) (hx : x < nT) (hwk : V 2101 0 0 = wk) (hq : ∀ (Vq : St) (x m : Int32), CS V Vq wo wk wk nO (fun k => Vq 1403 0 k) ∨ Vq = Va → okT x nT → okT m nM → ∃ Vb, f_X4_setLetters fu Vq wk x m = some (0, Vb) ∧ CS V Vb wo wk wk nO (fctV V wk x m)) : ∀ (r N m : Nat) (Vq : St), m + r = nM → r < N → Fr scr V Vq → (CS V Vq wo wk wk nO (fun k => Vq 1403 0 k) ∨ Vq = Va) → ∃ V1, (CS V V1 wo wk wk nO (fun k => V1 1403 0 k) ∨ V1 = Va) ∧ Fr scr V V1 ∧ Lp_X11_isLetToSomeMaker_2 (F_X11_isLetToSomeMaker_49 fu) (F_X11_isLetToSomeMaker_57 fu) fu N Vq (nI x) (nI m) = some (if letV V wo wk nO x r m = true then 1 else 0, V1) := by
  have h12 := hA.2.2.1.1
  intro r
  induction r with
  | zero =>
    intro N m Vq hm hN hF hS
    obtain ⟨N, rfl⟩ : ∃ N', N = N' + 1 := ⟨N - 1, by omega⟩
    have f1 : Vq 2106 0 0 = nI nM := by rw [hF 2106 (by decide)]; exact hA.2.2.1.2.1
    have hle : nM ≤ m := by omega
    exact ⟨Vq, hS, hF, by simp (disch := omega) only [Lp_X11_isLetToSomeMaker_2, F_X11_isLetToSomeMaker_2, F_X11_isLetToSomeMaker_57, f1, hle, letV, bd_some, n10, n00, bv_eq, within_eq, in_eq, gd_T, gd_t, i00, i10, c_0, c_1, c_m1, ite10, ite01, setV_fn, setV_at, cntS, nI_pos, nI_clamp, nI_leI, nI_ltI, nI_eq, nI_1, if_true, if_false, not_true, not_false, and_self, and_true, true_and, false_and, and_false, or_false, false_or, or_true, true_or, not_false_eq_true, ite_self, ite_true, ite_false, reduceIte, Nat.reduceEqDiff, Nat.reduceMul, Nat.reduceAdd, Nat.reduceLT, Nat.reducePow, ne_eq]; rfl⟩
  | succ r ih =>
    intro N m Vq hm hN hF hS
    obtain ⟨N, rfl⟩ : ∃ N', N = N' + 1 := ⟨N - 1, by omega⟩
    have f1 : Vq 2106 0 0 = nI nM := by rw [hF 2106 (by decide)]; exact hA.2.2.1.2.1
    have f2 : Vq 2101 0 0 = wk := by rw [hF 2101 (by decide)]; exact hwk
    have hct : cntV Vq 2106 = nM := cnt_n (by decide) (by omega) f1
    have hle : ¬ nM ≤ m := by omega
    obtain ⟨Vb, g1, g2⟩ := hq Vq (nI x) (nI m) hS (okT_nI hx) (okT_nI (show m < nM by omega))
    obtain ⟨V1, e1, e2⟩ := last_eq (fu := fu) (L := 98) hfu hA.2.2.2 (by decide) g2
    by_cases hl : lastV V wo wk wk nO 98 (nI x) (nI m) = -1
    · refine ⟨V1, .inl e2.self, e2.1, ?_⟩
      simp (disch := omega) only [Lp_X11_isLetToSomeMaker_2, F_X11_isLetToSomeMaker_2, F_X11_isLetToSomeMaker_49, f1, f2, hct, hle, g1, e1, hl, letV, bd_some, n10, n00, bv_eq, within_eq, in_eq, gd_T, gd_t, i00, i10, c_0, c_1, c_m1, ite10, ite01, setV_fn, setV_at, cntS, nI_pos, nI_clamp, nI_leI, nI_ltI, nI_eq, nI_1, if_true, if_false, not_true, not_false, and_self, and_true, true_and, false_and, and_false, or_false, false_or, or_true, true_or, not_false_eq_true, ite_self, ite_true, ite_false, reduceIte, Nat.reduceEqDiff, Nat.reduceMul, Nat.reduceAdd, Nat.reduceLT, Nat.reducePow, ne_eq]
    · obtain ⟨V2, s1, s2, s3⟩ := ih N (m + 1) V1 (by omega) (by omega) e2.1 (.inl e2.self)
      refine ⟨V2, s1, s2, ?_⟩
      rw [letV, if_neg hl, ← s3]
      simp (disch := omega) only [Lp_X11_isLetToSomeMaker_2, F_X11_isLetToSomeMaker_2, f1, f2, hct, hle, g1, e1, hl, bd_some, n10, n00, bv_eq, within_eq, in_eq, gd_T, gd_t, i00, i10, c_0, c_1, c_m1, ite10, ite01, setV_fn, setV_at, cntS, nI_pos, nI_clamp, nI_leI, nI_ltI, nI_eq, nI_1, if_true, if_false, not_true, not_false, and_self, and_true, true_and, false_and, and_false, or_false, false_or, or_true, true_or, not_false_eq_true, ite_self, ite_true, ite_false, reduceIte, Nat.reduceEqDiff, Nat.reduceMul, Nat.reduceAdd, Nat.reduceLT, Nat.reducePow, ne_eq]
theorem lp_bes {fu nC nT nM nO : Nat} {V Va : St} {wo wk : Int32} (hfu : 1000 ≤ fu) (hA : Ask V nC nT nM nO) (hwk : V 2101 0 0 = wk) (hq : ∀ (Vq : St) (x m : Int32), CS V Vq wo wk wk nO (fun k => Vq 1403 0 k) ∨ Vq = Va → okT x nT → okT m nM → ∃ Vb, f_X4_setLetters fu Vq wk x m = some (0, Vb) ∧ CS V Vb wo wk wk nO (fctV V wk x m)) : ∀ (r N x : Nat) (c : Int32) (Vq : St), x + r = nT → r < N → Fr scr V Vq → (CS V Vq wo wk wk nO (fun k => Vq 1403 0 k) ∨ Vq = Va) → ∃ V1, Fr scr V V1 ∧ Lp_X11_beside_42 (F_X11_beside_80 fu) fu N Vq c (nI x) = some (besV V wo wk nO nM r x c, V1) := by
  have h12 := hA.2.2.1.1
  have h30 := hA.2.1.1
  intro r
  induction r with
  | zero =>
    intro N x c Vq hx hN hF hS
    obtain ⟨N, rfl⟩ : ∃ N', N = N' + 1 := ⟨N - 1, by omega⟩
    have f1 : Vq 2105 0 0 = nI nT := by rw [hF 2105 (by decide)]; exact hA.2.1.2.1
    have hle : nT ≤ x := by omega
    exact ⟨Vq, hF, by simp (disch := omega) only [Lp_X11_beside_42, F_X11_beside_42, F_X11_beside_80, f1, hle, besV, bd_some, n10, n00, bv_eq, within_eq, in_eq, gd_T, gd_t, i00, i10, c_0, c_1, c_m1, ite10, ite01, setV_fn, setV_at, cntS, nI_pos, nI_clamp, nI_leI, nI_ltI, nI_eq, nI_1, if_true, if_false, not_true, not_false, and_self, and_true, true_and, false_and, and_false, or_false, false_or, or_true, true_or, not_false_eq_true, ite_self, ite_true, ite_false, reduceIte, Nat.reduceEqDiff, Nat.reduceMul, Nat.reduceAdd, Nat.reduceLT, Nat.reducePow, ne_eq]⟩
  | succ r ih =>
    intro N x c Vq hx hN hF hS
    obtain ⟨N, rfl⟩ : ∃ N', N = N' + 1 := ⟨N - 1, by omega⟩
    have f1 : Vq 2105 0 0 = nI nT := by rw [hF 2105 (by decide)]; exact hA.2.1.2.1
    have hct : cntV Vq 2105 = nT := cnt_n (by decide) (by omega) f1
    have hle : ¬ nT ≤ x := by omega
    obtain ⟨V1, s1, s2, s3⟩ := lp_let (fu := fu) hfu hA (show x < nT by omega) hwk hq nM fu 0 Vq (by omega) (by omega) hF hS
    have s4 : f_X11_isLetToSomeMaker fu Vq (nI x) = some (if letV V wo wk nO x nM 0 = true then 1 else 0, V1) := s3
    obtain ⟨V2, t1, t2⟩ := ih N (x + 1) (if letV V wo wk nO x nM 0 = true then c + 1 else c) V1 (by omega) (by omega) s2 s1
    refine ⟨V2, t1, ?_⟩
    rw [besV, ← t2]
    simp (disch := omega) only [Lp_X11_beside_42, F_X11_beside_42, F_X11_beside_74, f1, hct, hle, s4, bd_some, n10, n00, bv_eq, within_eq, in_eq, gd_T, gd_t, i00, i10, c_0, c_1, c_m1, ite10, ite01, setV_fn, setV_at, cntS, nI_pos, nI_clamp, nI_leI, nI_ltI, nI_eq, nI_1, if_true, if_false, not_true, not_false, and_self, and_true, true_and, false_and, and_false, or_false, false_or, or_true, true_or, not_false_eq_true, ite_self, ite_true, ite_false, reduceIte, Nat.reduceEqDiff, Nat.reduceMul, Nat.reduceAdd, Nat.reduceLT, Nat.reducePow, ne_eq]
    by_cases hl : letV V wo wk nO x nM 0 = true
    · simp only [hl, if_true, not_true, if_false]
    · simp only [hl, Bool.false_eq_true, if_false, not_false_eq_true, if_true]
theorem lq_let {fu nC nT nM nO x : Nat} {V : St} {wo wk c : Int32} {ws : List Nat} {kx : St → Int32 → Int32 → Int32 → RR} (hfu : 1000 ≤ fu) (hA : Ask V nC nT nM nO) (hx : x < nT) (h2201 : V 2201 0 0 = wk) (hw1 : vI_cloth.all (fun v => !ws.contains v) = true) (hw2 : vI_thing.all (fun v => !ws.contains v) = true) (hw3 : vI_mak.all (fun v => !ws.contains v) = true) (hw4 : vI_ord.all (fun v => !ws.contains v) = true) (hw5 : av.all (fun v => !ws.contains v) = true) (hw6 : rsc.all (fun v => ws.contains v) = true) (hw7 : [2201].all (fun v => !ws.contains v) = true) : ∀ (r N m : Nat) (U : St), m + r = nM → r < N → Fr ws V U → U 2259 0 0 = wo → ∃ U1, Fr ws V U1 ∧ U1 2259 0 0 = wo ∧ Lp_X12_beside_39 kx fu (N + 1) U c (nI x) 0 (nI m) = kx U1 c (nI x) (if letV V wo wk nO x r m = true then 1 else 0) := by
  have h12 := hA.2.2.1.1
  intro r
  induction r with
  | zero =>
    intro N m U hm hN hF hU
    have hA1 := hA.fr hF hw1 hw2 hw3 hw4
    have f1 : U 2232 0 0 = nI nM := hA1.2.2.1.2.2.1
    have hle : nM ≤ m := by omega
    exact ⟨U, hF, hU, by simp (disch := omega) only [Lp_X12_beside_39, F_X12_beside_39, f1, hle, letV, bd_some, n10, n00, bv_eq, within_eq, in_eq, gd_T, gd_t, i00, i10, c_0, c_1, c_m1, ite10, ite01, setV_fn, setV_at, cntS, nI_pos, nI_clamp, nI_leI, nI_ltI, nI_eq, nI_1, if_true, if_false, not_true, not_false, and_self, and_true, true_and, false_and, and_false, or_false, false_or, or_true, true_or, not_false_eq_true, ite_self, ite_true, ite_false, reduceIte, Nat.reduceEqDiff, Nat.reduceMul, Nat.reduceAdd, Nat.reduceLT, Nat.reducePow, ne_eq]; rfl⟩
  | succ r ih =>
    intro N m U hm hN hF hU
    have hA1 := hA.fr hF hw1 hw2 hw3 hw4
    have f1 : U 2232 0 0 = nI nM := hA1.2.2.1.2.2.1
    have f2 : U 2201 0 0 = wk := by rw [hF.all hw7 2201 (by decide)]; exact h2201
    have hle : ¬ nM ≤ m := by omega
    obtain ⟨U1, d2, d1, -⟩ := isSome_eq (fu := fu) (L := 98) (wk := wk) (t := wk) hfu hA1.1 hA1.2.1 hA1.2.2.1 hA1.2.2.2 (okT_nI hx) (okT_nI (show m < nM by omega)) (by decide)
    rw [hU, firstV_ag (hF.all hw5)] at d1
    have hF1 : Fr ws V U1 := hF.trans (d2.weak hw6)
    have hU1 : U1 2259 0 0 = wo := by rw [d2 2259 (by decide)]; exact hU
    have hn := firstV_none (wo := wo) (wk := wk) (t := wk) (x := nI x) (m := nI m) (L := 98) hA.2.2.2
    obtain ⟨N, rfl⟩ : ∃ N', N = N' + 1 := ⟨N - 1, by omega⟩
    by_cases hl : lastV V wo wk wk nO 98 (nI x) (nI m) = -1
    · rw [if_pos (hn.mpr hl)] at d1
      refine ⟨U1, hF1, hU1, ?_⟩
      have f3 : U1 2232 0 0 = nI nM := by rw [d2 2232 (by decide)]; exact f1
      have : Lp_X12_beside_39 kx fu (N + 1) U1 c (nI x) 1 (nI (m + 1)) = kx U1 c (nI x) 1 := by
        simp (disch := omega) only [Lp_X12_beside_39, F_X12_beside_39, f3, bd_some, n10, n00, bv_eq, within_eq, in_eq, gd_T, gd_t, i00, i10, c_0, c_1, c_m1, ite10, ite01, setV_fn, setV_at, cntS, nI_pos, nI_clamp, nI_leI, nI_ltI, nI_eq, nI_1, if_true, if_false, not_true, not_false, and_self, and_true, true_and, false_and, and_false, or_false, false_or, or_true, true_or, not_false_eq_true, ite_self, ite_true, ite_false, reduceIte, Nat.reduceEqDiff, Nat.reduceMul, Nat.reduceAdd, Nat.reduceLT, Nat.reducePow, ne_eq]
      rw [letV, if_pos hl, if_pos rfl, ← this]
      conv => lhs; rw [Lp_X12_beside_39]
      simp (disch := omega) only [F_X12_beside_39, F_X12_beside_78, f1, f2, hle, d1, bd_some, n10, n00, bv_eq, within_eq, in_eq, gd_T, gd_t, i00, i10, c_0, c_1, c_m1, ite10, ite01, setV_fn, setV_at, cntS, nI_pos, nI_clamp, nI_leI, nI_ltI, nI_eq, nI_1, if_true, if_false, not_true, not_false, and_self, and_true, true_and, false_and, and_false, or_false, false_or, or_true, true_or, not_false_eq_true, ite_self, ite_true, ite_false, reduceIte, Nat.reduceEqDiff, Nat.reduceMul, Nat.reduceAdd, Nat.reduceLT, Nat.reducePow, ne_eq]
    · have hl2 : ¬ firstV V wo wk wk nO 98 (nI x) (nI m) = none := fun q => hl (hn.mp q)
      rw [if_neg hl2] at d1
      obtain ⟨U2, s1, s2, s3⟩ := ih N (m + 1) U1 (by omega) (by omega) hF1 hU1
      refine ⟨U2, s1, s2, ?_⟩
      rw [letV, if_neg hl, ← s3]
      conv => lhs; rw [Lp_X12_beside_39]
      simp (disch := omega) only [F_X12_beside_39, F_X12_beside_78, f1, f2, hle, d1, bd_some, n10, n00, bv_eq, within_eq, in_eq, gd_T, gd_t, i00, i10, c_0, c_1, c_m1, ite10, ite01, setV_fn, setV_at, cntS, nI_pos, nI_clamp, nI_leI, nI_ltI, nI_eq, nI_1, if_true, if_false, not_true, not_false, and_self, and_true, true_and, false_and, and_false, or_false, false_or, or_true, true_or, not_false_eq_true, ite_self, ite_true, ite_false, reduceIte, Nat.reduceEqDiff, Nat.reduceMul, Nat.reduceAdd, Nat.reduceLT, Nat.reducePow, ne_eq]
def bws : List Nat := [1402, 1403, 1404, 1405, 1406, 1407, 1408, 2259, 2270, 2271, 2272, 2273, 2274]
theorem lq_bes {fu nC nT nM nO : Nat} {V : St} {wo wk : Int32} (hfu : 1000 ≤ fu) (hA : Ask V nC nT nM nO) (h2201 : V 2201 0 0 = wk) : ∀ (r N x : Nat) (c : Int32) (U : St), x + r = nT → r < N → Fr bws V U → U 2259 0 0 = wo → ∃ U1, Fr bws V U1 ∧ U1 2259 0 0 = -1 ∧ Lp_X12_beside_25 (F_X12_beside_97 fu) fu N U c (nI x) = some (besV V wo wk nO nM r x c, U1) := by
  have h12 := hA.2.2.1.1
  have h30 := hA.2.1.1
  intro r
  induction r with
  | zero =>
    intro N x c U hx hN hF hU
    obtain ⟨N, rfl⟩ : ∃ N', N = N' + 1 := ⟨N - 1, by omega⟩
    have f1 : U 2204 0 0 = nI nT := by rw [hF 2204 (by decide)]; exact hA.2.1.2.2.1
    have hle : nT ≤ x := by omega
    refine ⟨setV U 2259 0 0 (-1), hF.set (by decide), by simp [setV], ?_⟩
    simp (disch := omega) only [Lp_X12_beside_25, F_X12_beside_25, F_X12_beside_97, f1, hle, besV, bd_some, n10, n00, bv_eq, within_eq, in_eq, gd_T, gd_t, i00, i10, c_0, c_1, c_m1, ite10, ite01, setV_fn, setV_at, cntS, nI_pos, nI_clamp, nI_leI, nI_ltI, nI_eq, nI_1, if_true, if_false, not_true, not_false, and_self, and_true, true_and, false_and, and_false, or_false, false_or, or_true, true_or, not_false_eq_true, ite_self, ite_true, ite_false, reduceIte, Nat.reduceEqDiff, Nat.reduceMul, Nat.reduceAdd, Nat.reduceLT, Nat.reducePow, ne_eq]
  | succ r ih =>
    intro N x c U hx hN hF hU
    obtain ⟨N, rfl⟩ : ∃ N', N = N' + 1 := ⟨N - 1, by omega⟩
    obtain ⟨fu', rfl⟩ : ∃ f', fu = f' + 1 := ⟨fu - 1, by omega⟩
    have f1 : U 2204 0 0 = nI nT := by rw [hF 2204 (by decide)]; exact hA.2.1.2.2.1
    have hle : ¬ nT ≤ x := by omega
    obtain ⟨U1, s1, s2, s3⟩ := lq_let (fu := fu' + 1) (c := c) (kx := F_X12_beside_86 (Lp_X12_beside_25 (F_X12_beside_97 (fu' + 1)) (fu' + 1) N) (F_X12_beside_97 (fu' + 1)) (fu' + 1)) hfu hA (show x < nT by omega) h2201 (by decide) (by decide) (by decide) (by decide) (by decide) (by decide) (by decide) nM fu' 0 U (by omega) (by omega) hF hU
    obtain ⟨U2, t1, t2, t3⟩ := ih N (x + 1) (if letV V wo wk nO x nM 0 = true then c + 1 else c) U1 (by omega) (by omega) s1 s2
    refine ⟨U2, t1, t2, ?_⟩
    rw [nI_0] at s3
    rw [besV, ← t3, Lp_X12_beside_25, F_X12_beside_25, f1, if_neg (nI_ge (show x < nT by omega) (by omega)), s3, F_X12_beside_86, nI_1]
    have zz : c + 0 = c := by grind
    by_cases hl : letV V wo wk nO x nM 0 = true
    · simp only [hl, if_true]
    · simp only [hl, Bool.false_eq_true, if_false, zz]
theorem P_beside {fu k : Nat} {V : St} (hfu : 1000 ≤ fu) (hI : Inv k V) (x : Int32) : Step k (fun V => f_X11_beside fu V x) (fun V => f_X12_beside fu V x) V := by
  have hI' := hI
  obtain ⟨nC, nD, nT, nM, nP, nK, nS, nR, nL, nO, hL, hmi, hta, hcl, hdr, hth, hla, hma, hor, hpe, hdo, hse, hru, hmk⟩ := hI
  have hwo := hmi.2.2.2.2
  have hnow := hmi.1
  have hA : Ask V nC nT nM nO := ⟨hcl, hth, hma, hor⟩
  have h30 := hth.1
  rcases (Decidable.em (-1 ≤ x ∧ x ≤ nI nO - 1)).symm with h | h
  · refine Step.same (r := -1) ?_ ?_ hI'
    · simp only [f_X11_beside, hor.2.1, h, bd_some, n10, n00, bv_eq, within_eq, in_eq, gd_T, gd_t, i00, i10, c_0, c_1, c_m1, ite10, ite01, setV_fn, setV_at, cntS, nI_pos, nI_clamp, nI_leI, nI_ltI, nI_eq, nI_1, if_true, if_false, not_true, not_false, and_self, and_true, true_and, false_and, and_false, or_false, false_or, or_true, true_or, not_false_eq_true, ite_self, ite_true, ite_false, reduceIte, Nat.reduceEqDiff, Nat.reduceMul, Nat.reduceAdd, Nat.reduceLT, Nat.reducePow, ne_eq]
    · simp only [f_X12_beside, hor.2.2.1, h, bd_some, n10, n00, bv_eq, within_eq, in_eq, gd_T, gd_t, i00, i10, c_0, c_1, c_m1, ite10, ite01, setV_fn, setV_at, cntS, nI_pos, nI_clamp, nI_leI, nI_ltI, nI_eq, nI_1, if_true, if_false, not_true, not_false, and_self, and_true, true_and, false_and, and_false, or_false, false_or, or_true, true_or, not_false_eq_true, ite_self, ite_true, ite_false, reduceIte, Nat.reduceEqDiff, Nat.reduceMul, Nat.reduceAdd, Nat.reduceLT, Nat.reducePow, ne_eq]
  · obtain ⟨Va, e1, e2, e3⟩ := ask_cs (fu := fu) (wk := V 2101 0 0) (t := V 2101 0 0) (wo := x) hfu hcl hth hma hor
    obtain ⟨V1, g1, g2⟩ := lp_bes (fu := fu) hfu hA rfl e3 nT fu 0 0 Va (by omega) (by omega) (e2.weak (by decide)) (.inr rfl)
    have hU : Fr bws V (setV V1 2259 0 0 x) := (g1.weak (show scr.all (fun v => bws.contains v) = true by decide)).set (by decide)
    obtain ⟨U1, s1, s2, s3⟩ := lq_bes (fu := fu) (wo := x) hfu hA hnow.symm nT fu 0 0 (setV V1 2259 0 0 x) (by omega) (by omega) hU (by simp [setV])
    refine ⟨besV V x (V 2101 0 0) nO nM nT 0 0, V1, U1, ?_, ?_, ?_⟩
    · rw [nI_0] at g2
      simp only [f_X11_beside, hor.2.1, h, e1, bd_some, n10, n00, bv_eq, within_eq, in_eq, gd_T, gd_t, i00, i10, c_0, c_1, c_m1, ite10, ite01, setV_fn, setV_at, cntS, nI_pos, nI_clamp, nI_leI, nI_ltI, nI_eq, nI_1, if_true, if_false, not_true, not_false, and_self, and_true, true_and, false_and, and_false, or_false, false_or, or_true, true_or, not_false_eq_true, ite_self, ite_true, ite_false, reduceIte, Nat.reduceEqDiff, Nat.reduceMul, Nat.reduceAdd, Nat.reduceLT, Nat.reducePow, ne_eq]; exact g2
    · rw [nI_0] at s3
      have f1 : V1 2258 0 0 = nI nO := by rw [g1 2258 (by decide)]; exact hor.2.2.1
      simp only [f_X12_beside, f1, h, bd_some, n10, n00, bv_eq, within_eq, in_eq, gd_T, gd_t, i00, i10, c_0, c_1, c_m1, ite10, ite01, setV_fn, setV_at, cntS, nI_pos, nI_clamp, nI_leI, nI_ltI, nI_eq, nI_1, if_true, if_false, not_true, not_false, and_self, and_true, true_and, false_and, and_false, or_false, false_or, or_true, true_or, not_false_eq_true, ite_self, ite_true, ite_false, reduceIte, Nat.reduceEqDiff, Nat.reduceMul, Nat.reduceAdd, Nat.reduceLT, Nat.reducePow, ne_eq]; exact s3
    · refine ⟨nC, nD, nT, nM, nP, nK, nS, nR, nL, nO, by omega, ?_, hta.fr s1 rfl, hcl.fr s1 rfl, hdr.fr s1 rfl, hth.fr s1 rfl, hla.fr s1 rfl, hma.fr s1 rfl, hor.fr s1 rfl, hpe.fr s1 rfl, hdo.fr s1 rfl, hse.fr s1 rfl, hru.fr s1 rfl, hmk.fr s1 rfl⟩
      have w1 := s1 2101 (by decide); have w2 := s1 2201 (by decide); have w3 := s1 2102 (by decide); have w4 := s1 2288 (by decide)
      unfold I_misc at hmi ⊢
      rw [w1, w2, w3, w4, s2]
      exact ⟨hmi.1, hmi.2.1, hmi.2.2.1, hmi.2.2.2.1, rfl⟩
