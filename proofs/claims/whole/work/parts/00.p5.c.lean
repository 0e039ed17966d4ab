/-! the letters' values -/
def kSg (V : St) (x : Nat) : Int32 := if V 2216 0 x = 0 then V 2205 0 (V 2217 0 x).toNatClampNeg else if V 2216 0 x = 1 then V 2217 0 x else 0
def kWr (V : St) (x : Nat) : Int32 := if V 2216 0 x = 0 then V 2206 0 (V 2217 0 x).toNatClampNeg else 0
def fctV (V : St) (wk x m : Int32) (k : Nat) : Int32 :=
  if k = 0 then wk else
  if k = 1 then (if x < 0 then 0 else V 2216 0 x.toNatClampNeg) else
  if k = 2 then (if x < 0 then 0 else kSg V x.toNatClampNeg) else
  if k = 3 then (if x < 0 then 0 else V 2218 0 x.toNatClampNeg) else
  if k = 4 then (if x < 0 then 0 else V 2219 0 x.toNatClampNeg) else
  if k = 5 then (if x < 0 then 0 else kWr V x.toNatClampNeg) else
  if k = 6 then (if m < 0 then 0 else V 2233 0 m.toNatClampNeg) else
  if k = 7 then (if m < 0 then 0 else V 2240 0 m.toNatClampNeg) else
  if m < 0 then 0 else V 2235 0 m.toNatClampNeg
theorem k9 {k : Nat} (h : k < 9) : k = 0 ∨ k = 1 ∨ k = 2 ∨ k = 3 ∨ k = 4 ∨ k = 5 ∨ k = 6 ∨ k = 7 ∨ k = 8 := by omega
theorem c_2 : (2 : Int32).toNatClampNeg = 2 := rfl
theorem c_3 : (3 : Int32).toNatClampNeg = 3 := rfl
theorem c_4 : (4 : Int32).toNatClampNeg = 4 := rfl
theorem c_5 : (5 : Int32).toNatClampNeg = 5 := rfl
theorem c_6 : (6 : Int32).toNatClampNeg = 6 := rfl
theorem c_7 : (7 : Int32).toNatClampNeg = 7 := rfl
theorem c_8 : (8 : Int32).toNatClampNeg = 8 := rfl
theorem p_2 : ((2 : Int32) < 0) = False := by decide
theorem p_3 : ((3 : Int32) < 0) = False := by decide
theorem p_4 : ((4 : Int32) < 0) = False := by decide
theorem p_5 : ((5 : Int32) < 0) = False := by decide
theorem p_6 : ((6 : Int32) < 0) = False := by decide
theorem p_7 : ((7 : Int32) < 0) = False := by decide
theorem p_8 : ((8 : Int32) < 0) = False := by decide
theorem ifneg_nI (i : Nat) (h : i < 1000) : (nI i = -1) = False := by
  apply eq_false; intro q; have := nI_pos (n := i) (by omega); rw [q] at this; exact this (by decide)
def okT (x : Int32) (n : Nat) : Prop := x = -1 ∨ ∃ i, i < n ∧ x = nI i
theorem sign_eq {fu nC nT i : Nat} {V V' : St} (hC : I_cloth V nC) (hT : I_thing V nC nT) (hi : i < nT) (f : ∀ v, v ∈ [1001, 2001, 2002, 2003, 2103, 2105] → V' v = V v) : f_X10_sign fu V' (nI i) = some (kSg V i, V') := by
  have h20 := hC.1
  have h30 := hT.1
  have f1 := f 1001 (by decide); have f2 := f 2001 (by decide); have f3 := f 2002 (by decide); have f4 := f 2003 (by decide)
  have c1 : cntV V' 2103 = nC := cnt_n (by decide) (by omega) (by rw [f 2103 (by decide)]; exact hC.2.1)
  have c2 : cntV V' 2105 = nT := cnt_n (by decide) (by omega) (by rw [f 2105 (by decide)]; exact hT.2.1)
  obtain ⟨p, len, wid, q⟩ := hT.2.2.2.2 i hi
  obtain ⟨-, q2, q3, q4, q5, -, -, -, -, -, -, -, -, -, -, -, q17, -⟩ := q
  rcases q17 with ⟨k0, -, k1, c, hc, k2⟩ | ⟨k0, -, k1, -⟩
  · have g := (hC.2.2.2 c hc).1
    simp (disch := omega) only [f_X10_sign, F_X10_sign_31, c1, c2, f1, f2, f3, f4, k1, k2, g, kSg, k0, bd_some, n10, n00, bv_eq, within_eq, in_eq, gd_T, gd_t, i00, i10, c_0, c_1, c_m1, ite10, ite01, setV_fn, setV_at, cntS, nI_pos, nI_clamp, nI_leI, nI_ltI, nI_eq, nI_1, if_true, if_false, not_true, not_false, and_self, and_true, true_and, false_and, and_false, or_false, false_or, or_true, true_or, not_false_eq_true, ite_self, ite_true, ite_false, reduceIte, Nat.reduceEqDiff, Nat.reduceMul, Nat.reduceAdd, Nat.reduceLT, Nat.reducePow, ne_eq]
  · simp (disch := omega) only [f_X10_sign, F_X10_sign_31, c1, c2, f1, f2, f3, f4, k1, q2, q5, kSg, k0, bd_some, n10, n00, bv_eq, within_eq, in_eq, gd_T, gd_t, i00, i10, c_0, c_1, c_m1, ite10, ite01, setV_fn, setV_at, cntS, nI_pos, nI_clamp, nI_leI, nI_ltI, nI_eq, nI_1, if_true, if_false, not_true, not_false, and_self, and_true, true_and, false_and, and_false, or_false, false_or, or_true, true_or, not_false_eq_true, ite_self, ite_true, ite_false, reduceIte, Nat.reduceEqDiff, Nat.reduceMul, Nat.reduceAdd, Nat.reduceLT, Nat.reducePow, ne_eq]
    split <;> rfl
theorem setLetters_eq {fu nC nT nM : Nat} {V V' : St} {ws : List Nat} {wk x m : Int32} (hC : I_cloth V nC) (hT : I_thing V nC nT) (hM : I_mak V nM) (hx : okT x nT) (hm : okT m nM) (hF : Fr ws V V') (hw : [1001, 1002, 1601, 1603, 1607, 2001, 2002, 2003, 2004, 2005, 2103, 2105, 2106].all (fun v => !ws.contains v) = true) : ∃ V'', f_X4_setLetters fu V' wk x m = some (0, V'') ∧ Fr [1403] V' V'' ∧ ∀ k, k < 9 → V'' 1403 0 k = fctV V wk x m k := by
  have f := hF.all hw
  have h20 := hC.1
  have h30 := hT.1
  have h12 := hM.1
  have f1 := f 1002 (by decide); have f2 := f 1601 (by decide); have f3 := f 1603 (by decide); have f4 := f 1607 (by decide); have f5 := f 2001 (by decide); have f6 := f 2003 (by decide); have f7 := f 2004 (by decide); have f8 := f 2005 (by decide)
  have c1 : cntV V' 2103 = nC := cnt_n (by decide) (by omega) (by rw [f 2103 (by decide)]; exact hC.2.1)
  have c2 : cntV V' 2105 = nT := cnt_n (by decide) (by omega) (by rw [f 2105 (by decide)]; exact hT.2.1)
  have c3 : cntV V' 2106 = nM := cnt_n (by decide) (by omega) (by rw [f 2106 (by decide)]; exact hM.2.1)
  -- the maker's three
  have tail : ∀ (W : St) (x5 : Int32), Fr [1403] V' W → ∃ V'', F_X4_setLetters_106 fu W m x5 5 = some (0, V'') ∧ Fr [1403] V' V'' ∧ (∀ k, k < 5 → V'' 1403 0 k = W 1403 0 k) ∧ V'' 1403 0 5 = x5 ∧ ∀ k, 6 ≤ k → k < 9 → V'' 1403 0 k = fctV V wk x m k := by
    intro W x5 hW
    have g2 : W 1601 = V 1601 := by rw [hW 1601 (by decide)]; exact f2
    have g3 : W 1603 = V 1603 := by rw [hW 1603 (by decide)]; exact f3
    have g4 : W 1607 = V 1607 := by rw [hW 1607 (by decide)]; exact f4
    have d3 : cntV W 2106 = nM := by unfold cntV; rw [hW 2106 (by decide)]; exact c3
    rcases hm with rfl | ⟨j, hj, rfl⟩
    · simp (disch := omega) only [F_X4_setLetters_106, F_X4_setLetters_125, F_X4_setLetters_143, F_X4_setLetters_148, F_X4_setLetters_167, c_5, c_6, c_7, c_8, p_5, p_6, p_7, p_8, bd_some, n10, n00, bv_eq, within_eq, in_eq, gd_T, gd_t, i00, i10, c_0, c_1, c_m1, ite10, ite01, setV_fn, setV_at, cntS, nI_pos, nI_clamp, nI_leI, nI_ltI, nI_eq, nI_1, if_true, if_false, not_true, not_false, and_self, and_true, true_and, false_and, and_false, or_false, false_or, or_true, true_or, not_false_eq_true, ite_self, ite_true, ite_false, reduceIte, Nat.reduceEqDiff, Nat.reduceMul, Nat.reduceAdd, Nat.reduceLT, Nat.reducePow, ne_eq]
      refine ⟨_, rfl, (((hW.set (by decide)).set (by decide)).set (by decide)).set (by decide), fun k hk => ?_, ?_, fun k h6 hk => ?_⟩
      · simp only [setV_at]; rw [if_neg (by omega), if_neg (by omega), if_neg (by omega), if_neg (by omega)]
      · simp [setV_at]
      · rcases k9 hk with rfl | rfl | rfl | rfl | rfl | rfl | rfl | rfl | rfl <;> first | omega | simp [setV_at, fctV]
    · obtain ⟨q1, -, -, -, q5, -, -, -, -, -, -, q12, q13⟩ := hM.2.2.2.2.2.1 j hj
      have e7 : ∀ b : Int32, (b = 0 ∨ b = 1) → (if b = 0 then (0 : Int32) else 1) = b := fun b hb => by rcases hb with rfl | rfl <;> rfl
      rcases q13 with q13 | q13
      · simp (disch := omega) only [F_X4_setLetters_106, F_X4_setLetters_125, F_X4_setLetters_143, F_X4_setLetters_148, F_X4_setLetters_167, c_5, c_6, c_7, c_8, p_5, p_6, p_7, p_8, g2, g3, g4, d3, q1, q5, q12, q13, bd_some, n10, n00, bv_eq, within_eq, in_eq, gd_T, gd_t, i00, i10, c_0, c_1, c_m1, ite10, ite01, setV_fn, setV_at, cntS, nI_pos, nI_clamp, nI_leI, nI_ltI, nI_eq, nI_1, if_true, if_false, not_true, not_false, and_self, and_true, true_and, false_and, and_false, or_false, false_or, or_true, true_or, not_false_eq_true, ite_self, ite_true, ite_false, reduceIte, Nat.reduceEqDiff, Nat.reduceMul, Nat.reduceAdd, Nat.reduceLT, Nat.reducePow, ne_eq]
        refine ⟨_, rfl, (((hW.set (by decide)).set (by decide)).set (by decide)).set (by decide), fun k hk => ?_, ?_, fun k h6 hk => ?_⟩
        · simp only [setV_at]; rw [if_neg (by omega), if_neg (by omega), if_neg (by omega), if_neg (by omega)]
        · simp [setV_at]
        · have hnn := nI_pos (n := j) (by omega)
          have hcc := nI_clamp (n := j) (by omega)
          rcases k9 hk with rfl | rfl | rfl | rfl | rfl | rfl | rfl | rfl | rfl <;> first | omega | simp [setV_at, fctV, hnn, hcc, q13]
      · simp (disch := omega) only [F_X4_setLetters_106, F_X4_setLetters_125, F_X4_setLetters_143, F_X4_setLetters_148, F_X4_setLetters_167, c_5, c_6, c_7, c_8, p_5, p_6, p_7, p_8, g2, g3, g4, d3, q1, q5, q12, q13, bd_some, n10, n00, bv_eq, within_eq, in_eq, gd_T, gd_t, i00, i10, c_0, c_1, c_m1, ite10, ite01, setV_fn, setV_at, cntS, nI_pos, nI_clamp, nI_leI, nI_ltI, nI_eq, nI_1, if_true, if_false, not_true, not_false, and_self, and_true, true_and, false_and, and_false, or_false, false_or, or_true, true_or, not_false_eq_true, ite_self, ite_true, ite_false, reduceIte, Nat.reduceEqDiff, Nat.reduceMul, Nat.reduceAdd, Nat.reduceLT, Nat.reducePow, ne_eq]
        refine ⟨_, rfl, (((hW.set (by decide)).set (by decide)).set (by decide)).set (by decide), fun k hk => ?_, ?_, fun k h6 hk => ?_⟩
        · simp only [setV_at]; rw [if_neg (by omega), if_neg (by omega), if_neg (by omega), if_neg (by omega)]
        · simp [setV_at]
        · have hnn := nI_pos (n := j) (by omega)
          have hcc := nI_clamp (n := j) (by omega)
          rcases k9 hk with rfl | rfl | rfl | rfl | rfl | rfl | rfl | rfl | rfl <;> first | omega | simp [setV_at, fctV, hnn, hcc, q13]
  rcases hx with rfl | ⟨i, hi, rfl⟩
  · obtain ⟨V'', r1, r2, r3, r4, r5⟩ := tail (setV (setV (setV (setV (setV V' 1403 0 0 wk) 1403 0 1 0) 1403 0 2 0) 1403 0 3 0) 1403 0 4 0) 0 (((((Fr.refl _ V').set (by decide)).set (by decide)).set (by decide)).set (by decide) |>.set (by decide))
    refine ⟨V'', ?_, r2, fun k hk => ?_⟩
    · simp (disch := omega) only [f_X4_setLetters, F_X4_setLetters_24, F_X4_setLetters_42, F_X4_setLetters_60, F_X4_setLetters_78, F_X4_setLetters_95, c_2, c_3, c_4, p_2, p_3, p_4, bd_some, n10, n00, bv_eq, within_eq, in_eq, gd_T, gd_t, i00, i10, c_0, c_1, c_m1, ite10, ite01, setV_fn, setV_at, cntS, nI_pos, nI_clamp, nI_leI, nI_ltI, nI_eq, nI_1, if_true, if_false, not_true, not_false, and_self, and_true, true_and, false_and, and_false, or_false, false_or, or_true, true_or, not_false_eq_true, ite_self, ite_true, ite_false, reduceIte, Nat.reduceEqDiff, Nat.reduceMul, Nat.reduceAdd, Nat.reduceLT, Nat.reducePow, ne_eq]; exact r1
    · by_cases h6 : 6 ≤ k
      · exact r5 k h6 hk
      · by_cases h5 : k = 5
        · subst h5; rw [r4]; simp [fctV]
        · rw [r3 k (by omega)]
          rcases k9 hk with rfl | rfl | rfl | rfl | rfl | rfl | rfl | rfl | rfl <;> first | omega | simp [setV_at, fctV]
  · obtain ⟨p, len, wid, q⟩ := hT.2.2.2.2 i hi
    obtain ⟨-, q2, q3, q4, q5, q6, q7, -, -, -, -, -, -, -, -, -, q17, -⟩ := q
    have hsg := sign_eq (fu := fu) (V' := setV (setV V' 1403 0 0 wk) 1403 0 1 (V 2216 0 i)) hC hT hi (fun v hv => by
      have hne : v ≠ 1403 := by intro q; subst q; revert hv; decide
      rw [setV_fn hne, setV_fn hne]
      exact f v ((show ∀ v, v ∈ [1001, 2001, 2002, 2003, 2103, 2105] → v ∈ [1001, 1002, 1601, 1603, 1607, 2001, 2002, 2003, 2004, 2005, 2103, 2105, 2106] by decide) v hv))
    obtain ⟨V'', r1, r2, r3, r4, r5⟩ := tail (setV (setV (setV (setV (setV V' 1403 0 0 wk) 1403 0 1 (V 2216 0 i)) 1403 0 2 (kSg V i)) 1403 0 3 (V 2218 0 i)) 1403 0 4 (V 2219 0 i)) (kWr V i) (((((Fr.refl _ V').set (by decide)).set (by decide)).set (by decide)).set (by decide) |>.set (by decide))
    have hnn := nI_pos (n := i) (by omega)
    have hcc := nI_clamp (n := i) (by omega)
    refine ⟨V'', ?_, r2, fun k hk => ?_⟩
    · rcases q17 with ⟨k0, -, k1, c, hc, k2⟩ | ⟨k0, -, k1, -⟩
      · have g := (hC.2.2.2 c hc).2.1
        have hkw : kWr V i = V 2206 0 c := by unfold kWr; rw [if_pos k0, k2, nI_clamp (by omega)]
        rw [hkw] at r1
        simp (disch := omega) only [f_X4_setLetters, F_X4_setLetters_24, F_X4_setLetters_42, F_X4_setLetters_60, F_X4_setLetters_78, F_X4_setLetters_95, c_2, c_3, c_4, p_2, p_3, p_4, c1, c2, f1, f5, f6, f7, f8, q2, q6, q7, hsg, k1, k2, g, bd_some, n10, n00, bv_eq, within_eq, in_eq, gd_T, gd_t, i00, i10, c_0, c_1, c_m1, ite10, ite01, setV_fn, setV_at, cntS, nI_pos, nI_clamp, nI_leI, nI_ltI, nI_eq, nI_1, if_true, if_false, not_true, not_false, and_self, and_true, true_and, false_and, and_false, or_false, false_or, or_true, true_or, not_false_eq_true, ite_self, ite_true, ite_false, reduceIte, Nat.reduceEqDiff, Nat.reduceMul, Nat.reduceAdd, Nat.reduceLT, Nat.reducePow, ne_eq]; exact r1
      · have hkw : kWr V i = 0 := by unfold kWr; rw [if_neg k0]
        rw [hkw] at r1
        simp (disch := omega) only [f_X4_setLetters, F_X4_setLetters_24, F_X4_setLetters_42, F_X4_setLetters_60, F_X4_setLetters_78, F_X4_setLetters_95, c_2, c_3, c_4, p_2, p_3, p_4, c1, c2, f1, f5, f6, f7, f8, q2, q6, q7, hsg, k1, bd_some, n10, n00, bv_eq, within_eq, in_eq, gd_T, gd_t, i00, i10, c_0, c_1, c_m1, ite10, ite01, setV_fn, setV_at, cntS, nI_pos, nI_clamp, nI_leI, nI_ltI, nI_eq, nI_1, if_true, if_false, not_true, not_false, and_self, and_true, true_and, false_and, and_false, or_false, false_or, or_true, true_or, not_false_eq_true, ite_self, ite_true, ite_false, reduceIte, Nat.reduceEqDiff, Nat.reduceMul, Nat.reduceAdd, Nat.reduceLT, Nat.reducePow, ne_eq]; exact r1
    · by_cases h6 : 6 ≤ k
      · exact r5 k h6 hk
      · by_cases h5 : k = 5
        · subst h5; rw [r4]; simp [fctV, hnn, hcc]
        · rw [r3 k (by omega)]
          rcases k9 hk with rfl | rfl | rfl | rfl | rfl | rfl | rfl | rfl | rfl <;> first | omega | simp [setV_at, fctV, hnn, hcc]
theorem lpF_clear {fu : Nat} {x m wk : Int32} {kx : St → Int32 → Int32 → Int32 → RR} : ∀ (r N j : Nat) (V : St), j + r = 9 → r < N → ∃ V1, Lp_X12_setsFacts_3 kx fu N V x m wk (nI j) = kx V1 x m wk ∧ Fr [2272] V V1 ∧ ∀ q, q < 9 → V1 2272 0 q = if j ≤ q then 0 else V 2272 0 q := by
  intro r
  induction r with
  | zero =>
    intro N j V hj hN
    obtain ⟨N, rfl⟩ : ∃ N', N = N' + 1 := ⟨N - 1, by omega⟩
    have hni : (9 : Int32) ≤ nI j := nI_le (a := 9) (by omega) (by omega)
    refine ⟨V, ?_, Fr.refl _ V, fun q hq => by rw [if_neg (by omega)]⟩
    simp (disch := omega) only [Lp_X12_setsFacts_3, F_X12_setsFacts_3, hni, bd_some, n10, n00, bv_eq, within_eq, in_eq, gd_T, gd_t, i00, i10, c_0, c_1, c_m1, ite10, ite01, setV_fn, setV_at, cntS, nI_pos, nI_clamp, nI_leI, nI_ltI, nI_eq, nI_1, if_true, if_false, not_true, not_false, and_self, and_true, true_and, false_and, and_false, or_false, false_or, or_true, true_or, not_false_eq_true, ite_self, ite_true, ite_false, reduceIte, Nat.reduceEqDiff, Nat.reduceMul, Nat.reduceAdd, Nat.reduceLT, Nat.reducePow, ne_eq]
  | succ r ih =>
    intro N j V hj hN
    obtain ⟨N, rfl⟩ : ∃ N', N = N' + 1 := ⟨N - 1, by omega⟩
    have hni : ¬ (9 : Int32) ≤ nI j := nI_ge (b := 9) (by omega) (by omega)
    obtain ⟨V1, e1, e2, e3⟩ := ih N (j + 1) (setV V 2272 0 j 0) (by omega) (by omega)
    refine ⟨V1, ?_, (show Fr [2272] V (setV V 2272 0 j 0) from (Fr.refl _ V).set (by decide)).trans e2, fun q hq => ?_⟩
    · simp (disch := omega) only [Lp_X12_setsFacts_3, F_X12_setsFacts_3, hni, bd_some, n10, n00, bv_eq, within_eq, in_eq, gd_T, gd_t, i00, i10, c_0, c_1, c_m1, ite10, ite01, setV_fn, setV_at, cntS, nI_pos, nI_clamp, nI_leI, nI_ltI, nI_eq, nI_1, if_true, if_false, not_true, not_false, and_self, and_true, true_and, false_and, and_false, or_false, false_or, or_true, true_or, not_false_eq_true, ite_self, ite_true, ite_false, reduceIte, Nat.reduceEqDiff, Nat.reduceMul, Nat.reduceAdd, Nat.reduceLT, Nat.reducePow, ne_eq]; exact e1
    · rw [e3 q hq, setV_at]; clear e3 ih; by_cases hk : q = j <;> grind
theorem setsFacts_eq {fu nC nT nM : Nat} {V V' : St} {wk x m : Int32} (hfu : 1000 ≤ fu) (hC : I_cloth V nC) (hT : I_thing V nC nT) (hM : I_mak V nM) (hx : okT x nT) (hm : okT m nM) (f : ∀ v, v ∈ [2205, 2206, 2216, 2217, 2218, 2219, 2233, 2235, 2240] → V' v = V v) : ∃ V'', f_X12_setsFacts fu V' x m wk = some (0, V'') ∧ Fr [2272] V' V'' ∧ ∀ k, k < 9 → V'' 2272 0 k = fctV V wk x m k := by
  have h20 := hC.1
  have h30 := hT.1
  have h12 := hM.1
  have f1 := f 2205 (by decide); have f2 := f 2206 (by decide); have f3 := f 2216 (by decide); have f4 := f 2217 (by decide); have f5 := f 2218 (by decide); have f6 := f 2219 (by decide); have f7 := f 2233 (by decide); have f8 := f 2235 (by decide); have f9 := f 2240 (by decide)
  obtain ⟨V1, e1, e2, e3⟩ := lpF_clear (fu := fu) (x := x) (m := m) (wk := wk) (kx := F_X12_setsFacts_24 fu) 9 fu 0 V' (by omega) (by omega)
  have g : ∀ v, v ∈ [2205, 2206, 2216, 2217, 2218, 2219, 2233, 2235, 2240] → V1 v = V v := fun v hv => by
    rw [e2 v (by intro q; rw [List.mem_singleton] at q; subst q; revert hv; decide)]; exact f v hv
  have tail : ∀ (W : St), Fr [2272] V1 W → (∀ k, 6 ≤ k → k < 9 → W 2272 0 k = 0) → ∃ V'', F_X12_setsFacts_151 fu W m = some (0, V'') ∧ Fr [2272] V1 V'' ∧ (∀ k, k < 6 → V'' 2272 0 k = W 2272 0 k) ∧ ∀ k, 6 ≤ k → k < 9 → V'' 2272 0 k = fctV V wk x m k := by
    intro W hW hz
    have g7 : W 2233 = V 2233 := by rw [hW 2233 (by decide)]; exact g 2233 (by decide)
    have g8 : W 2235 = V 2235 := by rw [hW 2235 (by decide)]; exact g 2235 (by decide)
    have g9 : W 2240 = V 2240 := by rw [hW 2240 (by decide)]; exact g 2240 (by decide)
    rcases hm with rfl | ⟨j, hj, rfl⟩
    · refine ⟨W, by simp only [F_X12_setsFacts_151, F_X12_setsFacts_203, if_true], hW, fun k hk => rfl, fun k h6 hk => ?_⟩
      rw [hz k h6 hk]
      rcases k9 hk with rfl | rfl | rfl | rfl | rfl | rfl | rfl | rfl | rfl <;> first | omega | simp [fctV]
    · have hne := ifneg_nI j (by omega)
      have hnn := nI_pos (n := j) (by omega)
      have hcc := nI_clamp (n := j) (by omega)
      obtain ⟨-, -, -, -, -, -, -, -, -, -, -, -, q13⟩ := hM.2.2.2.2.2.1 j hj
      rcases q13 with q13 | q13 <;>
      · simp (disch := omega) only [F_X12_setsFacts_151, F_X12_setsFacts_189, F_X12_setsFacts_203, hne, c_6, c_7, c_8, p_6, p_7, p_8, g7, g8, g9, q13, bd_some, n10, n00, bv_eq, within_eq, in_eq, gd_T, gd_t, i00, i10, c_0, c_1, c_m1, ite10, ite01, setV_fn, setV_at, cntS, nI_pos, nI_clamp, nI_leI, nI_ltI, nI_eq, nI_1, if_true, if_false, not_true, not_false, and_self, and_true, true_and, false_and, and_false, or_false, false_or, or_true, true_or, not_false_eq_true, ite_self, ite_true, ite_false, reduceIte, Nat.reduceEqDiff, Nat.reduceMul, Nat.reduceAdd, Nat.reduceLT, Nat.reducePow, ne_eq]
        refine ⟨_, rfl, ((hW.set (by decide)).set (by decide)).set (by decide), fun k hk => ?_, fun k h6 hk => ?_⟩
        · simp only [setV_at]; rw [if_neg (by omega), if_neg (by omega), if_neg (by omega)]
        · rcases k9 hk with rfl | rfl | rfl | rfl | rfl | rfl | rfl | rfl | rfl <;> first | omega | simp [setV_at, fctV, hnn, hcc, q13]
  rcases hx with rfl | ⟨i, hi, rfl⟩
  · obtain ⟨V'', r1, r2, r3, r4⟩ := tail (setV V1 2272 0 0 wk) ((Fr.refl _ V1).set (by decide)) (fun k h6 hk => by rw [setV_at, if_neg (by omega), e3 k hk]; simp)
    refine ⟨V'', ?_, e2.trans r2, fun k hk => ?_⟩
    · unfold f_X12_setsFacts; rw [← nI_0, e1]
      simp (disch := omega) only [F_X12_setsFacts_24, bd_some, n10, n00, bv_eq, within_eq, in_eq, gd_T, gd_t, i00, i10, c_0, c_1, c_m1, ite10, ite01, setV_fn, setV_at, cntS, nI_pos, nI_clamp, nI_leI, nI_ltI, nI_eq, nI_1, if_true, if_false, not_true, not_false, and_self, and_true, true_and, false_and, and_false, or_false, false_or, or_true, true_or, not_false_eq_true, ite_self, ite_true, ite_false, reduceIte, Nat.reduceEqDiff, Nat.reduceMul, Nat.reduceAdd, Nat.reduceLT, Nat.reducePow, ne_eq]; exact r1
    · by_cases h6 : 6 ≤ k
      · exact r4 k h6 hk
      · rw [r3 k (by omega), setV_at, e3 k hk]
        rcases k9 hk with rfl | rfl | rfl | rfl | rfl | rfl | rfl | rfl | rfl <;> first | omega | simp [fctV]
  · have hne := ifneg_nI i (by omega)
    have hnn := nI_pos (n := i) (by omega)
    have hcc := nI_clamp (n := i) (by omega)
    have g1 := g 2205 (by decide); have g2 := g 2206 (by decide); have g3 := g 2216 (by decide); have g4 := g 2217 (by decide); have g5 := g 2218 (by decide); have g6 := g 2219 (by decide)
    obtain ⟨V'', r1, r2, r3, r4⟩ := tail (setV (setV (setV (setV (setV (setV V1 2272 0 0 wk) 2272 0 1 (V 2216 0 i)) 2272 0 2 (kSg V i)) 2272 0 3 (V 2218 0 i)) 2272 0 4 (V 2219 0 i)) 2272 0 5 (kWr V i)) ((((((Fr.refl _ V1).set (by decide)).set (by decide)).set (by decide)).set (by decide) |>.set (by decide)).set (by decide)) (fun k h6 hk => by
      simp only [setV_at]; rw [if_neg (by omega), if_neg (by omega), if_neg (by omega), if_neg (by omega), if_neg (by omega), if_neg (by omega), e3 k hk]; simp)
    obtain ⟨p, len, wid, q⟩ := hT.2.2.2.2 i hi
    obtain ⟨-, q2, q3, q4, q5, q6, q7, -, -, -, -, -, -, -, -, -, q17, -⟩ := q
    refine ⟨V'', ?_, e2.trans r2, fun k hk => ?_⟩
    · unfold f_X12_setsFacts; rw [← nI_0, e1]
      rcases q17 with ⟨k0, -, k1, c, hc, k2⟩ | ⟨k0, -, k1, -⟩
      · have hkw : kWr V i = V 2206 0 c := by unfold kWr; rw [if_pos k0, k2, nI_clamp (by omega)]
        have hks : kSg V i = V 2205 0 c := by unfold kSg; rw [if_pos k0, k2, nI_clamp (by omega)]
        rw [hkw, hks, k0] at r1
        simp (disch := omega) only [F_X12_setsFacts_24, F_X12_setsFacts_96, F_X12_setsFacts_150, hne, c_2, c_3, c_4, c_5, p_2, p_3, p_4, p_5, g1, g2, g3, g4, g5, g6, k0, k2, bd_some, n10, n00, bv_eq, within_eq, in_eq, gd_T, gd_t, i00, i10, c_0, c_1, c_m1, ite10, ite01, setV_fn, setV_at, cntS, nI_pos, nI_clamp, nI_leI, nI_ltI, nI_eq, nI_1, if_true, if_false, not_true, not_false, and_self, and_true, true_and, false_and, and_false, or_false, false_or, or_true, true_or, not_false_eq_true, ite_self, ite_true, ite_false, reduceIte, Nat.reduceEqDiff, Nat.reduceMul, Nat.reduceAdd, Nat.reduceLT, Nat.reducePow, ne_eq]; exact r1
      · have hkw : kWr V i = 0 := by unfold kWr; rw [if_neg k0]
        by_cases k3 : V 2216 0 i = 1
        · have hks : kSg V i = V 2217 0 i := by unfold kSg; rw [if_neg k0, if_pos k3]
          rw [hkw, hks, k3] at r1
          rw [k3] at k0
          simp (disch := omega) only [F_X12_setsFacts_24, F_X12_setsFacts_96, F_X12_setsFacts_150, hne, c_2, c_3, c_4, c_5, p_2, p_3, p_4, p_5, g1, g2, g3, g4, g5, g6, k3, bd_some, n10, n00, bv_eq, within_eq, in_eq, gd_T, gd_t, i00, i10, c_0, c_1, c_m1, ite10, ite01, setV_fn, setV_at, cntS, nI_pos, nI_clamp, nI_leI, nI_ltI, nI_eq, nI_1, if_true, if_false, not_true, not_false, and_self, and_true, true_and, false_and, and_false, or_false, false_or, or_true, true_or, not_false_eq_true, ite_self, ite_true, ite_false, reduceIte, Nat.reduceEqDiff, Nat.reduceMul, Nat.reduceAdd, Nat.reduceLT, Nat.reducePow, ne_eq]; exact r1
        · have hks : kSg V i = 0 := by unfold kSg; rw [if_neg k0, if_neg k3]
          rw [hkw, hks] at r1
          simp (disch := omega) only [F_X12_setsFacts_24, F_X12_setsFacts_96, F_X12_setsFacts_150, hne, c_2, c_3, c_4, c_5, p_2, p_3, p_4, p_5, g1, g2, g3, g4, g5, g6, k0, k3, bd_some, n10, n00, bv_eq, within_eq, in_eq, gd_T, gd_t, i00, i10, c_0, c_1, c_m1, ite10, ite01, setV_fn, setV_at, cntS, nI_pos, nI_clamp, nI_leI, nI_ltI, nI_eq, nI_1, if_true, if_false, not_true, not_false, and_self, and_true, true_and, false_and, and_false, or_false, false_or, or_true, true_or, not_false_eq_true, ite_self, ite_true, ite_false, reduceIte, Nat.reduceEqDiff, Nat.reduceMul, Nat.reduceAdd, Nat.reduceLT, Nat.reducePow, ne_eq]; exact r1
    · by_cases h6 : 6 ≤ k
      · exact r4 k h6 hk
      · rw [r3 k (by omega)]
        rcases k9 hk with rfl | rfl | rfl | rfl | rfl | rfl | rfl | rfl | rfl <;> first | omega | simp [setV_at, fctV, hnn, hcc]
