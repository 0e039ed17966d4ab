/-! cheapest, put together -/
theorem bears_agr {s l : Nat} {A B LJ LP c c' : Nat → Nat} (h : agr s c c') (hb : Bears s l A B LJ LP c) : Bears s l A B LJ LP c' := bears_mono (fun k hk => by rw [h k hk]; exact Nat.le_refl _) hb
theorem CheapP.skip3 {code s l : Nat} {A B LJ LP : Nat → Nat} {r : Int32} {b : Nat → Int32} (h : CheapP (fun c => cd3 s c < code) s l A B LJ LP r b) (hc : code < 3 ^ s) (hk : Bears s l A B LJ LP (dg3 s code) → ¬ r = -1 ∧ ∀ c0, r = nI (inchs s c0) → inchs s c0 ≤ inchs s (dg3 s code)) : CheapP (fun c => cd3 s c < code + 1) s l A B LJ LP r b := by
  have hag : ∀ c, okC s c → cd3 s c < code + 1 → ¬ cd3 s c < code → agr s c (dg3 s code) := fun c hc' h1 h2 => cd3_inj hc' (dg3_ok s code) (by rw [cd3_dg s code hc]; omega)
  rcases h with ⟨h1, h2⟩ | ⟨c0, h1, h2, h3, h4, h5, h6⟩
  · refine .inl ⟨h1, fun c hc' hp hb => ?_⟩
    by_cases z : cd3 s c < code
    · exact h2 c hc' z hb
    · exact (hk (bears_agr (hag c hc' hp z) hb)).1 h1
  · refine .inr ⟨c0, h1, Nat.lt_succ_of_lt h2, h3, h4, h5, fun c hc' hp hb => ?_⟩
    by_cases z : cd3 s c < code
    · exact h6 c hc' z hb
    · have ha := hag c hc' hp z
      refine ⟨by rw [inchs_agr ha]; exact (hk (bears_agr ha hb)).2 c0 h4, fun _ hl => ?_⟩
      have := cd3_lex s hc' h1 hl
      have h2' : cd3 s c0 < code := h2
      omega
theorem CheapP.new3 {code s l : Nat} {A B LJ LP : Nat → Nat} {r : Int32} {b b' : Nat → Int32} (hs : s ≤ 8) (h : CheapP (fun c => cd3 s c < code) s l A B LJ LP r b) (hc : code < 3 ^ s) (hB : Bears s l A B LJ LP (dg3 s code)) (hr : r = -1 ∨ ∃ R, r = nI R ∧ R ≤ 72 ∧ inchs s (dg3 s code) < R) (hb : ∀ k, k < s → b' k = nI (dg3 s code k)) : CheapP (fun c => cd3 s c < code + 1) s l A B LJ LP (nI (inchs s (dg3 s code))) b' := by
  have hag : ∀ c, okC s c → cd3 s c < code + 1 → ¬ cd3 s c < code → agr s c (dg3 s code) := fun c hc' h1 h2 => cd3_inj hc' (dg3_ok s code) (by rw [cd3_dg s code hc]; omega)
  refine .inr ⟨dg3 s code, dg3_ok s code, by show cd3 s (dg3 s code) < code + 1; rw [cd3_dg s code hc]; omega, hB, rfl, hb, fun c hc' hp hbc => ?_⟩
  by_cases z : cd3 s c < code
  · rcases h with ⟨h1, h2⟩ | ⟨c0, h1, h2, h3, h4, h5, h6⟩
    · exact absurd hbc (h2 c hc' z)
    · have := (h6 c hc' z hbc).1
      have hc0 := inchs_le (c := c0) s
      rcases hr with hr | ⟨R, r1, r2, r3⟩
      · exfalso
        have q := nI_pos (n := inchs s c0) (by omega)
        rw [← h4, hr] at q; exact q (by decide)
      · have : R = inchs s c0 := (nI_eq (by omega) (by omega)).mp (by rw [← r1, h4])
        exact ⟨by omega, fun z => by omega⟩
  · have ha := hag c hc' hp z
    exact ⟨by rw [inchs_agr ha]; exact Nat.le_refl _, fun _ => lex_irr ha⟩
def crw : List Nat := [2226, 2227, 2228, 2229]
theorem lc_codes {fu nD d j s l : Nat} {V : St} {A B T LJ LP : Nat → Nat} {x2 : Int32} (hfu : 10000 ≤ fu) (hd : d < nD) (h22 : nD ≤ 22) (hD : DrawV V d j s l A B T LJ LP) : ∀ (r N code : Nat) (W : St) (best : Int32), code + r = 3 ^ s → r < N → Fr crw V W → CheapP (fun c => cd3 s c < code) s l A B LJ LP best (W 2227 0) → ∃ W' best', Lp_X12_cheapest_63 (F_X12_cheapest_188 fu) fu N W (nI d) x2 (nI s) (nI (3 ^ s)) best (nI code) = F_X12_cheapest_188 fu W' x2 best' ∧ Fr crw V W' ∧ IsCheap s l A B LJ LP best' (W' 2227 0) := by
  have hs8 := hD.2.2.1
  have hp8 : 3 ^ s ≤ 3 ^ 8 := Nat.pow_le_pow_right (by decide) hs8
  have h38 : 3 ^ 8 = 6561 := rfl
  intro r
  induction r with
  | zero =>
    intro N code W best hr hN hF hP
    obtain ⟨N, rfl⟩ : ∃ N', N = N' + 1 := ⟨N - 1, by omega⟩
    have : code = 3 ^ s := by omega
    subst this
    refine ⟨W, best, ?_, hF, hP.all (fun c hc => cd3_lt s hc)⟩
    rw [Lp_X12_cheapest_63, F_X12_cheapest_63, if_pos (nI_le (Nat.le_refl _) (by omega))]
  | succ r ih =>
    intro N code W best hr hN hF hP
    obtain ⟨N, rfl⟩ : ∃ N', N = N' + 1 := ⟨N - 1, by omega⟩
    have hlt : ¬ nI (3 ^ s) ≤ nI code := nI_ge (by omega) (by omega)
    obtain ⟨W1, a1, a2, a3⟩ := lc_digits (fu := fu) (s := s) (code := code) (x1 := nI d) (x2 := x2) (x4 := nI (3 ^ s)) (x5 := best) (x6 := nI code) (kx := F_X12_cheapest_125 (Lp_X12_cheapest_63 (F_X12_cheapest_188 fu) fu N) (F_X12_cheapest_188 fu) fu) hs8 (by omega) s fu W (Nat.le_refl _) (by omega) (fun k k1 k2 => by omega)
    rw [show s - s = 0 by omega, Nat.pow_zero, Nat.div_one, inF_s (Nat.le_refl s), nI_0] at a1
    have hun : Lp_X12_cheapest_63 (F_X12_cheapest_188 fu) fu (N + 1) W (nI d) x2 (nI s) (nI (3 ^ s)) best (nI code) = F_X12_cheapest_125 (Lp_X12_cheapest_63 (F_X12_cheapest_188 fu) fu N) (F_X12_cheapest_188 fu) fu W1 (nI d) x2 (nI s) (nI (3 ^ s)) best (nI code) (nI (inchs s (dg3 s code))) := by
      rw [← a1, Lp_X12_cheapest_63, F_X12_cheapest_63, if_neg hlt]
    have hF1 : Fr crw V W1 := hF.trans (a2.weak (by decide))
    have hi72 := inchs_le (c := dg3 s code) s
    have hP1 : CheapP (fun c => cd3 s c < code) s l A B LJ LP best (W1 2227 0) := by rw [a2 2227 (by decide)]; exact hP
    have skp : ∀ W2, Fr crw V W2 → W2 2227 = W1 2227 → (Bears s l A B LJ LP (dg3 s code) → ¬ best = -1 ∧ ∀ c0, best = nI (inchs s c0) → inchs s c0 ≤ inchs s (dg3 s code)) → ∃ W' best', F_X12_cheapest_182 (Lp_X12_cheapest_63 (F_X12_cheapest_188 fu) fu N) (F_X12_cheapest_188 fu) fu W2 (nI d) x2 (nI s) (nI (3 ^ s)) best (nI code) = F_X12_cheapest_188 fu W' x2 best' ∧ Fr crw V W' ∧ IsCheap s l A B LJ LP best' (W' 2227 0) := fun W2 hF2 h27 hk => by
      rw [F_X12_cheapest_182, nI_1]
      exact ih N (code + 1) W2 best (by omega) (by omega) hF2 (by rw [h27]; exact hP1.skip3 (by omega) hk)
    have go : (best = -1 ∨ ∃ R, best = nI R ∧ R ≤ 72 ∧ inchs s (dg3 s code) < R) → ∃ W' best', F_X12_cheapest_138 (Lp_X12_cheapest_63 (F_X12_cheapest_188 fu) fu N) (F_X12_cheapest_188 fu) fu W1 (nI d) x2 (nI s) (nI (3 ^ s)) best (nI code) (nI (inchs s (dg3 s code))) = F_X12_cheapest_188 fu W' x2 best' ∧ Fr crw V W' ∧ IsCheap s l A B LJ LP best' (W' 2227 0) := fun hr => by
      have hD1 := hD.fr hF1 (by decide)
      obtain ⟨W2, b1, b2⟩ := isBearing_eq (fu := fu) (by omega) (hD1.toB hd h22 (fun k hk => ⟨dg3_ok s code k hk, a3 k hk⟩))
      rcases b2 with ⟨q1, q2⟩ | ⟨q1, q2⟩
      · obtain ⟨W3, c1, c2, c3⟩ := lc_best (fu := fu) (c := dg3 s code) (x1 := nI d) (x2 := x2) (x4 := nI (3 ^ s)) (x5 := nI (inchs s (dg3 s code))) (x6 := nI code) (kx := F_X12_cheapest_182 (Lp_X12_cheapest_63 (F_X12_cheapest_188 fu) fu N) (F_X12_cheapest_188 fu) fu) hs8 s fu 0 W2 (by omega) (by omega) (fun k hk => by rw [b1 2226 (by decide)]; exact a3 k hk) (fun k hk => by omega)
        rw [nI_0] at c1
        have hF3 : Fr crw V W3 := (hF1.trans (b1.weak (by decide))).trans (c2.weak (by decide))
        obtain ⟨W', best', d1, d2⟩ := ih N (code + 1) W3 (nI (inchs s (dg3 s code))) (by omega) (by omega) hF3 (hP1.new3 hs8 (by omega) q1 hr c3)
        refine ⟨W', best', ?_, d2⟩
        rw [F_X12_cheapest_138, q2, bd_some, if_neg (by decide), c1, F_X12_cheapest_182, nI_1]; exact d1
      · obtain ⟨W', best', d1, d2⟩ := skp W2 (hF1.trans (b1.weak (by decide))) (b1 2227 (by decide)) (fun z => absurd z q1)
        refine ⟨W', best', ?_, d2⟩
        rw [F_X12_cheapest_138, q2, bd_some, if_pos rfl]; exact d1
    rw [hun]
    rcases hP.val hs8 with h | ⟨R, h1, h2⟩
    · rw [F_X12_cheapest_125, if_pos h]; exact go (.inl h)
    · have n1 : ¬ nI R = -1 := fun z => by
        have q := nI_pos (n := R) (by omega)
        rw [z] at q; exact q (by decide)
      rw [F_X12_cheapest_125, if_neg (by rw [h1]; exact n1)]
      by_cases z : R ≤ inchs s (dg3 s code)
      · rw [if_pos (by rw [h1]; exact nI_le z (by omega))]
        refine skp W1 hF1 rfl (fun _ => ⟨by rw [h1]; exact n1, fun c0 h0 => ?_⟩)
        have q0 := inchs_le (c := c0) s
        have : R = inchs s c0 := (nI_eq (by omega) (by omega)).mp (by rw [← h1, h0])
        omega
      · rw [if_neg (by rw [h1]; exact nI_ge (by omega) (by omega))]
        exact go (.inr ⟨R, h1, h2, by omega⟩)
theorem P_cheapest {fu k : Nat} {V : St} (hfu : 10000 ≤ fu) (hI : Inv k V) (xd xw : Int32) : Step k (fun V => f_X11_cheapest fu V xd xw) (fun V => f_X12_cheapest fu V xd xw) V := by
  have hI' := hI
  obtain ⟨nC, nD, nT, nM, nP, nK, nS, nR, nL, nO, hL, hmi, hta, hcl, hdr, hth, hla, hma, hor, hpe, hdo, hse, hru, hmk⟩ := hI
  obtain ⟨h22, hn1, hn2, hfr, hx⟩ := hdr
  have hc : cntV V 2104 = nD := cnt_n (by decide) (by omega) hn1
  rcases ix_or xd (show nD < 2 ^ 31 by omega) with hv | ⟨d, hd, rfl⟩
  · refine Step.same (r := -1) ?_ ?_ hI'
    · simp (disch := omega) only [f_X11_cheapest, F_X11_cheapest_24, findDrawing_no hn1 (by omega) hv, bd_some, n10, n00, bv_eq, within_eq, in_eq, gd_T, gd_t, i00, i10, c_0, c_1, c_m1, ite10, ite01, setV_fn, setV_at, cntS, nI_pos, nI_clamp, nI_leI, nI_ltI, nI_eq, nI_1, if_true, if_false, not_true, not_false, and_self, and_true, true_and, false_and, and_false, or_false, false_or, or_true, true_or, not_false_eq_true, ite_self, ite_true, ite_false, reduceIte, Nat.reduceEqDiff, Nat.reduceMul, Nat.reduceAdd, Nat.reduceLT, Nat.reducePow, ne_eq]
    · simp (disch := omega) only [f_X12_cheapest, F_X12_cheapest_24, isDrawing_no hn2 hv, bd_some, n10, n00, bv_eq, within_eq, in_eq, gd_T, gd_t, i00, i10, c_0, c_1, c_m1, ite10, ite01, setV_fn, setV_at, cntS, nI_pos, nI_clamp, nI_leI, nI_ltI, nI_eq, nI_1, if_true, if_false, not_true, not_false, and_self, and_true, true_and, false_and, and_false, or_false, false_or, or_true, true_or, not_false_eq_true, ite_self, ite_true, ite_false, reduceIte, Nat.reduceEqDiff, Nat.reduceMul, Nat.reduceAdd, Nat.reduceLT, Nat.reducePow, ne_eq]
  obtain ⟨j, s, l, A, B, T, LJ, LP, hD⟩ := hx d hd
  have hD' := hD
  unfold DrawV at hD'
  obtain ⟨b1, b2, b3, b4, e5, e6, e7, e8, b9, b10, b11, b12, b13⟩ := hD'
  have hfd : ∀ fu, f_X11_findDrawing fu V (nI d) = some (nI d, V) := fun fu => findDrawing_ok hn1 (by omega) hd
  have hid : ∀ fu, f_X12_isDrawing fu V (nI d) = some (1, V) := fun fu => isDrawing_ok hn2 (by omega) hd
  rcases (Decidable.em (-1 ≤ xw ∧ xw ≤ nI s - 1)).symm with hw | hw
  · refine Step.same (r := -1) ?_ ?_ hI'
    · simp (disch := omega) only [f_X11_cheapest, F_X11_cheapest_24, hfd, hc, e7, hw, bd_some, n10, n00, bv_eq, within_eq, in_eq, gd_T, gd_t, i00, i10, c_0, c_1, c_m1, ite10, ite01, setV_fn, setV_at, cntS, nI_pos, nI_clamp, nI_leI, nI_ltI, nI_eq, nI_1, if_true, if_false, not_true, not_false, and_self, and_true, true_and, false_and, and_false, or_false, false_or, or_true, true_or, not_false_eq_true, ite_self, ite_true, ite_false, reduceIte, Nat.reduceEqDiff, Nat.reduceMul, Nat.reduceAdd, Nat.reduceLT, Nat.reducePow, ne_eq]
    · simp (disch := omega) only [f_X12_cheapest, F_X12_cheapest_24, hid, e8, hw, bd_some, n10, n00, bv_eq, within_eq, in_eq, gd_T, gd_t, i00, i10, c_0, c_1, c_m1, ite10, ite01, setV_fn, setV_at, cntS, nI_pos, nI_clamp, nI_leI, nI_ltI, nI_eq, nI_1, if_true, if_false, not_true, not_false, and_self, and_true, true_and, false_and, and_false, or_false, false_or, or_true, true_or, not_false_eq_true, ite_self, ite_true, ite_false, reduceIte, Nat.reduceEqDiff, Nat.reduceMul, Nat.reduceAdd, Nat.reduceLT, Nat.reducePow, ne_eq]
  obtain ⟨V1, a1, a2, a3, a4, a5⟩ := fewest_eq (fu := fu) (by omega) (hD.toC hd h22 hn1) b13
  have hw' : ∀ v, v ∉ chw → V1 v = V v := a2
  have hDd : ∀ d', d' < nD → ∃ j s l A B T LJ LP, DrawV V1 d' j s l A B T LJ LP := fun d' hd' => by
    by_cases hne : d' = d
    · subst hne
      refine ⟨j, s, l, A, B, T, LJ, LP, ?_⟩
      unfold DrawV
      rw [hw' 1201 (by decide), hw' 1202 (by decide), hw' 1203 (by decide), hw' 1204 (by decide), hw' 1205 (by decide), hw' 1206 (by decide), hw' 1212 (by decide), hw' 1213 (by decide), hw' 2208 (by decide), hw' 2209 (by decide), hw' 2210 (by decide), hw' 2211 (by decide), hw' 2212 (by decide), hw' 2213 (by decide), hw' 2214 (by decide), hw' 2215 (by decide)]
      exact ⟨b1, b2, b3, b4, e5, e6, e7, e8, b9, b10, b11, b12, .inr ⟨a3, a4⟩⟩
    · obtain ⟨j', s', l', A', B', T', LJ', LP', hD'⟩ := hx d' hd'
      refine ⟨j', s', l', A', B', T', LJ', LP', ?_⟩
      unfold DrawV at hD' ⊢
      rw [hw' 1201 (by decide), hw' 1202 (by decide), hw' 1203 (by decide), hw' 1204 (by decide), hw' 1205 (by decide), hw' 1206 (by decide), hw' 1212 (by decide), hw' 1213 (by decide), hw' 2208 (by decide), hw' 2209 (by decide), hw' 2210 (by decide), hw' 2211 (by decide), hw' 2212 (by decide), hw' 2213 (by decide), hw' 2214 (by decide), hw' 2215 (by decide), (a5 d' hne).1, (a5 d' hne).2.1, (a5 d' hne).2.2]
      exact hD'
  have hdr1 : I_draw V1 nD := ⟨h22, by rw [hw' 2104 (by decide)]; exact hn1, by rw [hw' 2203 (by decide)]; exact hn2, fun d' hd' => by rw [hw' 2209 (by decide), hw' 2210 (by decide)]; exact hfr d' hd', hDd⟩
  have hn21 : V1 2203 0 0 = nI nD := by rw [hw' 2203 (by decide)]; exact hn2
  have hid1 : ∀ fu, f_X12_isDrawing fu V1 (nI d) = some (1, V1) := fun fu => isDrawing_ok hn21 (by omega) hd
  have e81 : V1 2209 0 d = nI s := by rw [hw' 2209 (by decide)]; exact e8
  have hD1 : DrawV V1 d j s l A B T LJ LP := by
    unfold DrawV
    rw [hw' 1201 (by decide), hw' 1202 (by decide), hw' 1203 (by decide), hw' 1204 (by decide), hw' 1205 (by decide), hw' 1206 (by decide), hw' 1212 (by decide), hw' 1213 (by decide), hw' 2208 (by decide), hw' 2209 (by decide), hw' 2210 (by decide), hw' 2211 (by decide), hw' 2212 (by decide), hw' 2213 (by decide), hw' 2214 (by decide), hw' 2215 (by decide)]
    exact ⟨b1, b2, b3, b4, e5, e6, e7, e8, b9, b10, b11, b12, .inr ⟨a3, a4⟩⟩
  obtain ⟨V2, bst, c1, c2, c3⟩ := lc_codes (fu := fu) (x2 := xw) hfu hd h22 hD1 (3 ^ s) fu 0 V1 (-1) (by omega) (by have : 3 ^ s ≤ 3 ^ 8 := Nat.pow_le_pow_right (by decide) b3
                                                                                                                    have h38 : 3 ^ 8 = 6561 := rfl
                                                                                                                    omega) (Fr.refl _ V1) (.inl ⟨rfl, fun c _ hp => by have : cd3 s c < 0 := hp; omega⟩)
  rw [nI_0] at c1
  have hal := lc_all (fu := fu) (s := s) (V := V1) (x1 := nI d) (x2 := xw) (kx := F_X12_cheapest_57 fu) b3 s fu 0 (by omega) (by omega)
  rw [Nat.pow_zero, show nI 1 = 1 from rfl, nI_0] at hal
  have hun : f_X12_cheapest fu V1 (nI d) xw = F_X12_cheapest_188 fu V2 xw bst := by
    rw [← c1]
    simp (disch := omega) only [f_X12_cheapest, hid1, e81, hw, hal, F_X12_cheapest_57, bd_some, n10, n00, bv_eq, within_eq, in_eq, gd_T, gd_t, i00, i10, c_0, c_1, c_m1, ite10, ite01, setV_fn, setV_at, cntS, nI_pos, nI_clamp, nI_leI, nI_ltI, nI_eq, nI_1, if_true, if_false, not_true, not_false, and_self, and_true, true_and, false_and, and_false, or_false, false_or, or_true, true_or, not_false_eq_true, ite_self, ite_true, ite_false, reduceIte, Nat.reduceEqDiff, Nat.reduceMul, Nat.reduceAdd, Nat.reduceLT, Nat.reducePow, ne_eq]
  have hu := cheap_uniq b3 a4 c3
  have hFa : Fr [1207, 1208, 1209, 1210, 1211, 1214, 1215, 1216, 2226, 2227, 2228, 2229] V V2 := (Fr.weak a2 (by decide)).trans (Fr.weak c2 (by decide))
  have hK : Inv (k + 1) V2 := ⟨nC, nD, nT, nM, nP, nK, nS, nR, nL, nO, by omega, hmi.fr hFa rfl, hta.fr hFa rfl, hcl.fr hFa rfl, hdr1.fr c2 rfl, hth.fr hFa rfl, hla.fr hFa rfl, hma.fr hFa rfl, hor.fr hFa rfl, hpe.fr hFa rfl, hdo.fr hFa rfl, hse.fr hFa rfl, hru.fr hFa rfl, hmk.fr hFa rfl⟩
  have hc1 : cntV V1 2104 = nD := cnt_n (by decide) (by omega) hdr1.2.1
  by_cases z1 : xw = -1
  · subst z1
    refine ⟨V1 1215 d 0, V1, V2, ?_, ?_, hK⟩
    · simp (disch := omega) only [f_X11_cheapest, F_X11_cheapest_43, F_X11_cheapest_54, hfd, hc, e7, hw, a1, bd_some, n10, n00, bv_eq, within_eq, in_eq, gd_T, gd_t, i00, i10, c_0, c_1, c_m1, ite10, ite01, setV_fn, setV_at, cntS, nI_pos, nI_clamp, nI_leI, nI_ltI, nI_eq, nI_1, if_true, if_false, not_true, not_false, and_self, and_true, true_and, false_and, and_false, or_false, false_or, or_true, true_or, not_false_eq_true, ite_self, ite_true, ite_false, reduceIte, Nat.reduceEqDiff, Nat.reduceMul, Nat.reduceAdd, Nat.reduceLT, Nat.reducePow, ne_eq]
    · show f_X12_cheapest fu V1 _ _ = _
      rw [hun, hu.1, F_X12_cheapest_188, F_X12_cheapest_199, F_X12_cheapest_210]
      by_cases z2 : bst = -1
      · rw [if_pos z2]
      · rw [if_neg z2, if_pos rfl]
  · by_cases z2 : V1 1215 d 0 = -1
    · refine ⟨V1 1215 d 0, V1, V2, ?_, ?_, hK⟩
      · simp (disch := omega) only [f_X11_cheapest, F_X11_cheapest_43, F_X11_cheapest_54, hfd, hc, e7, hw, a1, z1, z2, bd_some, n10, n00, bv_eq, within_eq, in_eq, gd_T, gd_t, i00, i10, c_0, c_1, c_m1, ite10, ite01, setV_fn, setV_at, cntS, nI_pos, nI_clamp, nI_leI, nI_ltI, nI_eq, nI_1, if_true, if_false, not_true, not_false, and_self, and_true, true_and, false_and, and_false, or_false, false_or, or_true, true_or, not_false_eq_true, ite_self, ite_true, ite_false, reduceIte, Nat.reduceEqDiff, Nat.reduceMul, Nat.reduceAdd, Nat.reduceLT, Nat.reducePow, ne_eq]
      · show f_X12_cheapest fu V1 _ _ = _
        rw [hun, F_X12_cheapest_188, F_X12_cheapest_199, F_X12_cheapest_210, if_pos (by rw [← hu.1]; exact z2), hu.1]
    · obtain ⟨q, -, hq, rfl⟩ := in_nI (a := 0) (n := s) (x := xw) ⟨by rw [nI_0]; grind, hw.2⟩ (by omega) (by omega)
      refine ⟨V1 1211 d q, V1, V2, ?_, ?_, hK⟩
      · simp (disch := omega) only [f_X11_cheapest, F_X11_cheapest_43, F_X11_cheapest_54, hfd, hc, hc1, e7, hw, a1, z1, z2, bd_some, n10, n00, bv_eq, within_eq, in_eq, gd_T, gd_t, i00, i10, c_0, c_1, c_m1, ite10, ite01, setV_fn, setV_at, cntS, nI_pos, nI_clamp, nI_leI, nI_ltI, nI_eq, nI_1, if_true, if_false, not_true, not_false, and_self, and_true, true_and, false_and, and_false, or_false, false_or, or_true, true_or, not_false_eq_true, ite_self, ite_true, ite_false, reduceIte, Nat.reduceEqDiff, Nat.reduceMul, Nat.reduceAdd, Nat.reduceLT, Nat.reducePow, ne_eq]
      · show f_X12_cheapest fu V1 _ _ = _
        have z3 : ¬ bst = -1 := by rw [← hu.1]; exact z2
        rw [hun, F_X12_cheapest_188, if_neg z3, if_neg z1, hu.2 z2 q hq]
        simp (disch := omega) only [F_X12_cheapest_210, bd_some, n10, n00, bv_eq, within_eq, in_eq, gd_T, gd_t, i00, i10, c_0, c_1, c_m1, ite10, ite01, setV_fn, setV_at, cntS, nI_pos, nI_clamp, nI_leI, nI_ltI, nI_eq, nI_1, if_true, if_false, not_true, not_false, and_self, and_true, true_and, false_and, and_false, or_false, false_or, or_true, true_or, not_false_eq_true, ite_self, ite_true, ite_false, reduceIte, Nat.reduceEqDiff, Nat.reduceMul, Nat.reduceAdd, Nat.reduceLT, Nat.reducePow, ne_eq]
