/-! strikes whole; bits; weigh -/
def fin (V : St) (wo wk t : Int32) (n : Nat) : Nat → Bool := strI (fcV V wo wk t) (ixV V) (aV V) (bV V) (cV V) n (fun _ => false)
theorem lpS_out {fu n : Nat} {V : St} {wk t : Int32} (hfu : 1000 ≤ fu) (hO : I_ord V n) : ∀ (i N : Nat) (V' : St) (σ : Nat → Bool), i ≤ n → i < N → Fr [2270] V V' → RefS V' σ n → ∃ V'', Lp_X12_strikes_33 (F_X12_strikes_155 fu) fu N V' wk t (nI i - 1) = some (0, V'') ∧ Fr [2270] V V'' ∧ RefS V'' (strI (fcV V (V 2259 0 0) wk t) (ixV V) (aV V) (bV V) (cV V) i σ) n := by
  have h30 := hO.1
  intro i
  induction i with
  | zero =>
    intro N V' σ hi hN hF hS
    obtain ⟨N, rfl⟩ : ∃ N', N = N' + 1 := ⟨N - 1, by omega⟩
    have e : nI 0 - 1 < 0 := by decide
    refine ⟨V', ?_, hF, hS⟩
    simp (disch := omega) only [Lp_X12_strikes_33, F_X12_strikes_33, F_X12_strikes_155, e, bd_some, n10, n00, bv_eq, within_eq, in_eq, gd_T, gd_t, i00, i10, c_0, c_1, c_m1, ite10, ite01, setV_fn, setV_at, cntS, nI_pos, nI_clamp, nI_leI, nI_ltI, nI_eq, nI_1, if_true, if_false, not_true, not_false, and_self, and_true, true_and, false_and, and_false, or_false, false_or, or_true, true_or, not_false_eq_true, ite_self, ite_true, ite_false, reduceIte, Nat.reduceEqDiff, Nat.reduceMul, Nat.reduceAdd, Nat.reduceLT, Nat.reducePow, ne_eq]
  | succ i ih =>
    intro N V' σ hi hN hF hS
    obtain ⟨N, rfl⟩ : ∃ N', N = N' + 1 := ⟨N - 1, by omega⟩
    have hcl : cV V i < fu := by obtain ⟨c, hc⟩ := hO.2.2.2 i (by omega); rw [hc.at (by omega)]; have := hc.1; omega
    obtain ⟨V1, r1, r2, r3⟩ := lpS_in (fu := fu) (wk := wk) (t := t) (kx := F_X12_strikes_149 (Lp_X12_strikes_33 (F_X12_strikes_155 fu) fu N) (F_X12_strikes_155 fu) fu) hO (show i < n by omega) (cV V i) fu 0 V' σ (by omega) hcl hF hS
    obtain ⟨V2, s1, s2, s3⟩ := ih N V1 _ (by omega) (by omega) r2 r3
    refine ⟨V2, ?_, s2, s3⟩
    have e : nI (i + 1) - 1 = nI i := nI_pred i
    have e2 : nI i + (-1) = nI i - 1 := by grind
    simp (disch := omega) only [Lp_X12_strikes_33, F_X12_strikes_33, e, bd_some, n10, n00, bv_eq, within_eq, in_eq, gd_T, gd_t, i00, i10, c_0, c_1, c_m1, ite10, ite01, setV_fn, setV_at, cntS, nI_pos, nI_clamp, nI_leI, nI_ltI, nI_eq, nI_1, if_true, if_false, not_true, not_false, and_self, and_true, true_and, false_and, and_false, or_false, false_or, or_true, true_or, not_false_eq_true, ite_self, ite_true, ite_false, reduceIte, Nat.reduceEqDiff, Nat.reduceMul, Nat.reduceAdd, Nat.reduceLT, Nat.reducePow, ne_eq]
    rw [nI_0] at r1
    rw [r1, F_X12_strikes_149, e2]; exact s1
theorem strikes_eq {fu n : Nat} {V : St} {wk t : Int32} (hfu : 1000 ≤ fu) (hO : I_ord V n) : ∃ V'', f_X12_strikes fu V wk t = some (0, V'') ∧ Fr [2270] V V'' ∧ RefS V'' (fin V (V 2259 0 0) wk t n) n := by
  obtain ⟨V1, r1, r2, r3⟩ := lpS_clear (fu := fu) (wk := wk) (t := t) (kx := F_X12_strikes_26 fu) hO.1 (12 * n) fu 0 V hO.2.2.1 (by omega) (by have := hO.1; omega)
  obtain ⟨V2, s1, s2, s3⟩ := lpS_out (fu := fu) (wk := wk) (t := t) hfu hO n fu V1 (fun _ => false) (Nat.le_refl n) (by have := hO.1; omega) r2 (fun q hq => by rw [r3 q hq]; simp)
  refine ⟨V2, ?_, s2, s3⟩
  unfold f_X12_strikes
  rw [← nI_0, r1, F_X12_strikes_26, r2 2258 (by decide), hO.2.2.1]; exact s1
/-! bits -/
theorem sh5 : ∀ j : Nat, j < 32 → (nI j &&& 31) = nI j ∧ ((nI j).toBitVec.smod 32).toNat = j := by decide
theorem bit_eq {w j : Nat} (hw : w < 4096) (hj : j < 12) : ((nI w >>> (nI j &&& 31)) &&& 1 = 1) = (w.testBit j = true) := by
  rw [(sh5 j (by omega)).1, pk_shrN (by omega) (nI j) j (sh5 j (by omega)).2, pk_andN (show w / 2 ^ j < 2 ^ 32 from Nat.lt_of_le_of_lt (Nat.div_le_self _ _) (by omega)) 1 (by decide)]
  rw [Nat.testBit_eq_decide_div_mod_eq, decide_eq_true_eq]
  have : (1 : Int32) = nI 1 := rfl
  rw [this, nI_eq (by have := Nat.mod_lt (w / 2 ^ j) (show 0 < 2 ^ 1 by decide); omega) (by decide)]
theorem bit_clear {w b : Nat} (hw : w < 4096) (hb : b < 12) : ∃ w', w' < 4096 ∧ (nI w &&& ~~~((1 : Int32) <<< (nI b &&& 31))) = nI w' ∧ ∀ j, j < 12 → w'.testBit j = (w.testBit j && !decide (j = b)) := by
  have e1 : (1 : Int32) <<< (nI b &&& 31) = nI (2 ^ b) := by
    rw [(sh5 b (by omega)).1]
    have := pk_shlN (n := 1) (nI b) b (sh5 b (by omega)).2 (by have : 2 ^ b ≤ 2 ^ 11 := Nat.pow_le_pow_right (by decide) (by omega); omega)
    rw [Nat.one_mul] at this; exact this
  rw [e1]
  refine ⟨w &&& (4095 ^^^ 2 ^ b), ?_, ?_, fun j hj => ?_⟩
  · exact Nat.lt_of_le_of_lt Nat.and_le_left hw
  · apply Int32.toBitVec_inj.mp
    rw [Int32.toBitVec_and, Int32.toBitVec_not]
    apply BitVec.eq_of_toNat_eq
    rw [BitVec.toNat_and, pk_tn (by omega), pk_tn (Nat.lt_of_le_of_lt Nat.and_le_left (by omega))]
    apply Nat.eq_of_testBit_eq
    intro j
    rw [Nat.testBit_and, Nat.testBit_and, Nat.testBit_xor, BitVec.testBit_toNat, BitVec.getLsbD_not, ← BitVec.testBit_toNat, pk_tn (by have : 2 ^ b ≤ 2 ^ 11 := Nat.pow_le_pow_right (by decide) (by omega); omega)]
    by_cases hj : j < 12
    · have : Nat.testBit 4095 j = true := by
        have : (4095 : Nat) = 2 ^ 12 - 1 := by decide
        rw [this, Nat.testBit_two_pow_sub_one]; simpa using hj
      rw [this]; simp [show j < 32 by omega]
    · have : w.testBit j = false := Nat.testBit_lt_two_pow (Nat.lt_of_lt_of_le (show w < 2 ^ 12 from hw) (Nat.pow_le_pow_right (by decide) (by omega)))
      rw [this]; simp
  · rw [Nat.testBit_and, Nat.testBit_xor, Nat.testBit_two_pow]
    have : Nat.testBit 4095 j = true := by
      have : (4095 : Nat) = 2 ^ 12 - 1 := by decide
      rw [this, Nat.testBit_two_pow_sub_one]; simpa using hj
    rw [this]
    by_cases h : b = j
    · subst h; simp
    · have h' : ¬ j = b := fun q => h q.symm
      simp [h, h']
theorem xor_m1 (x : Int32) : x ^^^ (-1) = ~~~x := by
  apply Int32.toBitVec_inj.mp
  rw [Int32.toBitVec_xor, Int32.toBitVec_not, show (-1 : Int32).toBitVec = BitVec.allOnes 32 by decide, BitVec.xor_allOnes]
theorem bit_full {c : Nat} (hc : c ≤ 12) : ∃ w, w < 4096 ∧ ((1 : Int32) <<< (nI c &&& 31)) - 1 = nI w ∧ ∀ j, j < 12 → w.testBit j = decide (j < c) := by
  refine ⟨2 ^ c - 1, ?_, ?_, fun j hj => Nat.testBit_two_pow_sub_one c j⟩
  · have : 2 ^ c ≤ 2 ^ 12 := Nat.pow_le_pow_right (by decide) hc
    have : 0 < 2 ^ c := Nat.pow_pos (by decide)
    omega
  · rw [(sh5 c (by omega)).1]
    have h0 : 2 ^ c ≤ 2 ^ 12 := Nat.pow_le_pow_right (by decide) hc
    have h1 : 0 < 2 ^ c := Nat.pow_pos (by decide)
    have := pk_shlN (n := 1) (nI c) c (sh5 c (by omega)).2 (by omega)
    rw [Nat.one_mul] at this
    have e : (1 : Int32) = nI 1 := rfl
    rw [e, this, pk_sub h1]
def BitS (V : St) (fc : Nat → Bool) (c : Nat → Nat) (σ : Nat → Bool) (n : Nat) : Prop := ∀ i, i < n → ∃ w, w < 4096 ∧ V 1402 0 i = nI w ∧ ∀ j, j < 12 → w.testBit j = (fc i && decide (j < c i) && !σ (12 * i + j))
theorem counts_eq {fu n i j : Nat} {V V' : St} {fc σ : Nat → Bool} {L : Int32} {ws : List Nat} (hO : I_ord V n) (hF : Fr ws V V') (hw : [1401, 1704, 1705].all (fun v => !ws.contains v) = true) (hB : BitS V' fc (cV V) σ n) (hi : i < n) (hj : j < cV V i) : f_X4_counts fu V' (nI i) (nI j) L = some (if (fc i && !σ (12 * i + j) && decide (V 2265 0 (12 * i + j) = L)) = true then 1 else 0, V') := by
  obtain ⟨h30, hn1, hn2, hx⟩ := hO
  obtain ⟨c, hc⟩ := hx i hi
  have hcc := hc.at (by omega)
  have hc12 := hc.1
  have hfa := hF.all hw
  have f1 := hfa 1401 (by decide)
  have f2 := hfa 1704 (by decide)
  have f3 := hfa 1705 (by decide)
  obtain ⟨w, w1, w2, w3⟩ := hB i hi
  have hct : cntV V' 1401 = n := cnt_n (by decide) (by omega) (by rw [f1]; exact hn1)
  have hln : lenV V' 1001704 i = c := by show (V' 1704 i 0).toNatClampNeg = c; rw [f2, hc.2.2.2.2.1, nI_clamp (by omega)]
  have hb := bit_eq w1 (show j < 12 by omega)
  have hlt : j < c := by omega
  have w3 := w3 j (by omega)
  have d1 := (hc.2.2.2.2.2.2 j hlt).1
  have w4 : w.testBit j = (fc i && !σ (12 * i + j)) := by rw [w3]; simp [hj]
  simp (disch := omega) only [f_X4_counts, F_X4_counts_38, F_X4_counts_39, w2, hb, hct, hln, f3, d1, bd_some, n10, n00, bv_eq, within_eq, in_eq, gd_T, gd_t, i00, i10, c_0, c_1, c_m1, ite10, ite01, setV_fn, setV_at, cntS, nI_pos, nI_clamp, nI_leI, nI_ltI, nI_eq, nI_1, if_true, if_false, not_true, not_false, and_self, and_true, true_and, false_and, and_false, or_false, false_or, or_true, true_or, not_false_eq_true, ite_self, ite_true, ite_false, reduceIte, Nat.reduceEqDiff, Nat.reduceMul, Nat.reduceAdd, Nat.reduceLT, Nat.reducePow, ne_eq]
  rw [w4]
  by_cases q1 : (fc i && !σ (12 * i + j)) = true
  · by_cases q2 : V 2265 0 (12 * i + j) = L
    · simp [q1, q2, gd]
    · simp [q1, q2, gd]
  · rw [Bool.not_eq_true] at q1
    simp [q1, gd]
theorem lpW1 {fu n : Nat} {V : St} {wk t wo : Int32} {kx : St → RR} (hO : I_ord V n) : ∀ (m N i : Nat) (V' : St), i + m = n → m < N → Fr [1402] V V' → BitS V' (fcV V wo wk t) (cV V) (fun _ => false) i → ∃ V1, Lp_X4_weigh_3 kx fu N V' wk t wo (nI i) = kx V1 ∧ Fr [1402] V V1 ∧ BitS V1 (fcV V wo wk t) (cV V) (fun _ => false) n := by
  obtain ⟨h30, hn1, hn2, hx⟩ := hO
  intro m
  induction m with
  | zero =>
    intro N i V' hi hN hF hB
    obtain ⟨N, rfl⟩ : ∃ N', N = N' + 1 := ⟨N - 1, by omega⟩
    have hin : i = n := by omega
    subst hin
    have f1 := hF 1401 (by decide)
    refine ⟨V', ?_, hF, hB⟩
    have hle : i ≤ i := Nat.le_refl i
    simp (disch := omega) only [Lp_X4_weigh_3, F_X4_weigh_3, f1, hn1, hle, bd_some, n10, n00, bv_eq, within_eq, in_eq, gd_T, gd_t, i00, i10, c_0, c_1, c_m1, ite10, ite01, setV_fn, setV_at, cntS, nI_pos, nI_clamp, nI_leI, nI_ltI, nI_eq, nI_1, if_true, if_false, not_true, not_false, and_self, and_true, true_and, false_and, and_false, or_false, false_or, or_true, true_or, not_false_eq_true, ite_self, ite_true, ite_false, reduceIte, Nat.reduceEqDiff, Nat.reduceMul, Nat.reduceAdd, Nat.reduceLT, Nat.reducePow, ne_eq]
  | succ m ih =>
    intro N i V' hi hN hF hB
    obtain ⟨N, rfl⟩ : ∃ N', N = N' + 1 := ⟨N - 1, by omega⟩
    obtain ⟨c, hc⟩ := hx i (by omega)
    have hcc := hc.at (by omega)
    obtain ⟨c12, d1, d2, d3, d4, -⟩ := hc
    have f1 := hF 1401 (by decide)
    have f2 := hF 1703 (by decide)
    have f3 := hF 1701 (by decide)
    have f4 := hF 1702 (by decide)
    have f5 := hF 1704 (by decide)
    have hct : cntV V' 1401 = n := cnt_n (by decide) (by omega) (by rw [f1]; exact hn1)
    have hni : ¬ n ≤ i := by omega
    obtain ⟨w, w1, w2, w3⟩ := bit_full c12
    have go : ∀ (x : Int32) (u : Nat), u < 4096 → x = nI u → (∀ j, j < 12 → u.testBit j = (fcV V wo wk t i && decide (j < cV V i))) → ∃ V1, Lp_X4_weigh_3 kx fu N (setV V' 1402 0 i x) wk t wo (nI (i + 1)) = kx V1 ∧ Fr [1402] V V1 ∧ BitS V1 (fcV V wo wk t) (cV V) (fun _ => false) n := fun x u hu hx2 hu2 => by
      refine ih N (i + 1) _ (by omega) (by omega) (hF.set (by decide)) (fun i' hi' => ?_)
      by_cases he : i' = i
      · subst he
        exact ⟨u, hu, by rw [setV_at, if_pos ⟨rfl, rfl⟩]; exact hx2, fun j hj => by rw [hu2 j hj]; simp⟩
      · obtain ⟨u', z1, z2, z3⟩ := hB i' (by omega)
        exact ⟨u', z1, by rw [setV_at, if_neg (fun q => he q.2)]; exact z2, z3⟩
    have e12 : ∀ q : Int32, (¬ q < 0 ∨ q < 0) := fun q => by grind
    by_cases hf : fcV V wo wk t i = true
    · have hf' := hf
      unfold fcV at hf'
      rw [decide_eq_true_eq] at hf'
      obtain ⟨k1, k2, k3, k4⟩ := hf'
      have k2' : ¬ t < V 2263 0 i := by grind
      have k3' : ¬ wk < V 2261 0 i := by grind
      have k4' : ¬ V 2262 0 i < wk := by grind
      obtain ⟨V1, r1, r2, r3⟩ := go _ w w1 w2 (fun j hj => by rw [w3 j hj, hf, hcc]; simp)
      refine ⟨V1, ?_, r2, r3⟩
      simp (disch := omega) only [Lp_X4_weigh_3, F_X4_weigh_3, F_X4_weigh_61, F_X4_weigh_93, f1, f2, f3, f4, f5, hn1, hni, hct, d1, d2, d3, d4, k1, k2', k3', k4', bd_some, n10, n00, bv_eq, within_eq, in_eq, gd_T, gd_t, i00, i10, c_0, c_1, c_m1, ite10, ite01, setV_fn, setV_at, cntS, nI_pos, nI_clamp, nI_leI, nI_ltI, nI_eq, nI_1, if_true, if_false, not_true, not_false, and_self, and_true, true_and, false_and, and_false, or_false, false_or, or_true, true_or, not_false_eq_true, ite_self, ite_true, ite_false, reduceIte, Nat.reduceEqDiff, Nat.reduceMul, Nat.reduceAdd, Nat.reduceLT, Nat.reducePow, ne_eq]; exact r1
    · have hff : fcV V wo wk t i = false := by simpa using hf
      obtain ⟨V1, r1, r2, r3⟩ := go 0 0 (by omega) rfl (fun j hj => by rw [hff]; simp)
      refine ⟨V1, ?_, r2, r3⟩
      by_cases k2 : t < V 2263 0 i
      · simp (disch := omega) only [Lp_X4_weigh_3, F_X4_weigh_3, F_X4_weigh_60, F_X4_weigh_61, F_X4_weigh_92, F_X4_weigh_93, f1, f2, hn1, hni, hct, d3, k2, bd_some, n10, n00, bv_eq, within_eq, in_eq, gd_T, gd_t, i00, i10, c_0, c_1, c_m1, ite10, ite01, setV_fn, setV_at, cntS, nI_pos, nI_clamp, nI_leI, nI_ltI, nI_eq, nI_1, if_true, if_false, not_true, not_false, and_self, and_true, true_and, false_and, and_false, or_false, false_or, or_true, true_or, not_false_eq_true, ite_self, ite_true, ite_false, reduceIte, Nat.reduceEqDiff, Nat.reduceMul, Nat.reduceAdd, Nat.reduceLT, Nat.reducePow, ne_eq]; exact r1
      · by_cases k3 : wk < V 2261 0 i
        · simp (disch := omega) only [Lp_X4_weigh_3, F_X4_weigh_3, F_X4_weigh_60, F_X4_weigh_61, F_X4_weigh_92, F_X4_weigh_93, f1, f2, f3, hn1, hni, hct, d1, d3, k2, k3, bd_some, n10, n00, bv_eq, within_eq, in_eq, gd_T, gd_t, i00, i10, c_0, c_1, c_m1, ite10, ite01, setV_fn, setV_at, cntS, nI_pos, nI_clamp, nI_leI, nI_ltI, nI_eq, nI_1, if_true, if_false, not_true, not_false, and_self, and_true, true_and, false_and, and_false, or_false, false_or, or_true, true_or, not_false_eq_true, ite_self, ite_true, ite_false, reduceIte, Nat.reduceEqDiff, Nat.reduceMul, Nat.reduceAdd, Nat.reduceLT, Nat.reducePow, ne_eq]; exact r1
        · by_cases k4 : V 2262 0 i < wk
          · simp (disch := omega) only [Lp_X4_weigh_3, F_X4_weigh_3, F_X4_weigh_60, F_X4_weigh_61, F_X4_weigh_92, F_X4_weigh_93, f1, f2, f3, f4, hn1, hni, hct, d1, d2, d3, k2, k3, k4, bd_some, n10, n00, bv_eq, within_eq, in_eq, gd_T, gd_t, i00, i10, c_0, c_1, c_m1, ite10, ite01, setV_fn, setV_at, cntS, nI_pos, nI_clamp, nI_leI, nI_ltI, nI_eq, nI_1, if_true, if_false, not_true, not_false, and_self, and_true, true_and, false_and, and_false, or_false, false_or, or_true, true_or, not_false_eq_true, ite_self, ite_true, ite_false, reduceIte, Nat.reduceEqDiff, Nat.reduceMul, Nat.reduceAdd, Nat.reduceLT, Nat.reducePow, ne_eq]; exact r1
          · have k1 : nI i = wo := Decidable.byContradiction (fun q => hf (by
              unfold fcV; rw [decide_eq_true_eq]; exact ⟨q, by grind, by grind, by grind⟩))
            subst k1
            simp (disch := omega) only [Lp_X4_weigh_3, F_X4_weigh_3, F_X4_weigh_61, F_X4_weigh_92, F_X4_weigh_93, f1, f2, f3, f4, hn1, hni, hct, d1, d2, d3, k2, k3, k4, bd_some, n10, n00, bv_eq, within_eq, in_eq, gd_T, gd_t, i00, i10, c_0, c_1, c_m1, ite10, ite01, setV_fn, setV_at, cntS, nI_pos, nI_clamp, nI_leI, nI_ltI, nI_eq, nI_1, if_true, if_false, not_true, not_false, and_self, and_true, true_and, false_and, and_false, or_false, false_or, or_true, true_or, not_false_eq_true, ite_self, ite_true, ite_false, reduceIte, Nat.reduceEqDiff, Nat.reduceMul, Nat.reduceAdd, Nat.reduceLT, Nat.reducePow, ne_eq]
            exact r1
theorem lpW_in {fu n i : Nat} {V : St} {fc : Nat → Bool} {kx : St → Int32 → RR} (hO : I_ord V n) (hi : i < n) : ∀ (m N j : Nat) (V' : St) (σ : Nat → Bool), j + m = cV V i → m < N → Fr [1402] V V' → BitS V' fc (cV V) σ n → ∃ V'', Lp_X4_weigh_133 kx fu N V' (nI i) (nI i) (nI j) = kx V'' (nI i) ∧ Fr [1402] V V'' ∧ BitS V'' fc (cV V) (strJ fc (ixV V) (aV V) (bV V) i m j σ) n := by
  have hO' := hO
  obtain ⟨h30, hn1, hn2, hx⟩ := hO
  obtain ⟨c, hc⟩ := hx i hi
  have hcc := hc.at (by omega)
  have hc12 := hc.1
  have hcn := hc.2.2.2.2.1
  intro m
  induction m with
  | zero =>
    intro N j V' σ hj hN hF hS
    obtain ⟨N, rfl⟩ : ∃ N', N = N' + 1 := ⟨N - 1, by omega⟩
    have hni : c ≤ j := by omega
    have f1 := hF 1401 (by decide)
    have hct : cntV V' 1401 = n := cnt_n (by decide) (by omega) (by rw [f1]; exact hn1)
    have e1 := hF 1704 (by decide)
    exact ⟨V', by simp (disch := omega) only [Lp_X4_weigh_133, F_X4_weigh_133, hct, e1, hcn, hni, bd_some, n10, n00, bv_eq, within_eq, in_eq, gd_T, gd_t, i00, i10, c_0, c_1, c_m1, ite10, ite01, setV_fn, setV_at, cntS, nI_pos, nI_clamp, nI_leI, nI_ltI, nI_eq, nI_1, if_true, if_false, not_true, not_false, and_self, and_true, true_and, false_and, and_false, or_false, false_or, or_true, true_or, not_false_eq_true, ite_self, ite_true, ite_false, reduceIte, Nat.reduceEqDiff, Nat.reduceMul, Nat.reduceAdd, Nat.reduceLT, Nat.reducePow, ne_eq], hF, hS⟩
  | succ m ih =>
    intro N j V' σ hj hN hF hS
    obtain ⟨N, rfl⟩ : ∃ N', N = N' + 1 := ⟨N - 1, by omega⟩
    have hni : ¬ c ≤ j := by omega
    have f1 := hF 1401 (by decide)
    have hct : cntV V' 1401 = n := cnt_n (by decide) (by omega) (by rw [f1]; exact hn1)
    have e1 := hF 1704 (by decide)
    have e2 := hF 1706 (by decide)
    have e3 := hF 1707 (by decide)
    have hln : lenV V' 1001704 i = c := by show (V' 1704 i 0).toNatClampNeg = c; rw [e1, hcn, nI_clamp (by omega)]
    have hce := counts_eq (fu := fu) (L := 120) hO' hF rfl hS hi (show j < cV V i by omega)
    obtain ⟨d1, d2, d3, d4, d5⟩ := hc.2.2.2.2.2.2 j (by omega)
    by_cases hq : (fc i && !σ (12 * i + j) && decide (V 2265 0 (12 * i + j) = 120)) = true
    · rw [if_pos hq] at hce
      have hq2 := hq
      rw [Bool.and_eq_true, Bool.and_eq_true, decide_eq_true_eq, Bool.not_eq_true'] at hq2
      obtain ⟨⟨hf, hσ⟩, hl⟩ := hq2
      obtain ⟨a, b, ha, hb, g1, g2, g3⟩ := d4 hl
      have ea : aV V (12 * i + j) = a := by unfold aV; rw [g1, nI_clamp (by omega)]
      have eb : bV V (12 * i + j) = b := by unfold bV; rw [g3, nI_clamp (by omega)]
      have ex : ixV V (12 * i + j) = true := by unfold ixV; rw [hl]; rfl
      by_cases hai : a < i
      · have hai' : ¬ i ≤ a := by omega
        obtain ⟨w, w1, w2, w3⟩ := hS a (by omega)
        obtain ⟨w', u1, u2, u3⟩ := bit_clear w1 hb
        rw [← xor_m1] at u2
        have hnew : BitS (setV V' 1402 0 a (nI w')) fc (cV V) (strS fc (ixV V) (aV V) (bV V) i j σ) n := fun i' hi' => by
          by_cases he : i' = a
          · subst he
            refine ⟨w', u1, by rw [setV_at, if_pos ⟨rfl, rfl⟩], fun j' hj' => ?_⟩
            rw [u3 j' hj', w3 j' hj']
            unfold strS
            rw [ea, eb]
            by_cases hfa : fc i' = true
            · by_cases hjb : j' = b
              · subst hjb; simp [hf, hσ, ex, hai, hfa]
              · have : ¬ 12 * i' + j' = 12 * i' + b := by omega
                simp [hf, hσ, ex, hai, hfa, hjb, this]
            · simp [hfa]
          · obtain ⟨v, v1, v2, v3⟩ := hS i' hi'
            refine ⟨v, v1, by rw [setV_at, if_neg (fun q => he q.2)]; exact v2, fun j' hj' => ?_⟩
            rw [v3 j' hj']
            unfold strS
            rw [ea, eb]
            by_cases hfa : fc a = true
            · have : ¬ 12 * i' + j' = 12 * a + b := by omega
              simp [hf, hσ, ex, hai, hfa, this]
            · simp [hfa]
        obtain ⟨V'', r1, r2, r3⟩ := ih N (j + 1) _ _ (by omega) (by omega) (hF.set (i := 0) (j := a) (x := nI w') (by decide)) hnew
        refine ⟨V'', ?_, r2, r3⟩
        simp (disch := omega) only [Lp_X4_weigh_133, F_X4_weigh_133, F_X4_weigh_197, hct, e1, e2, e3, hcn, hni, hce, hln, d2, g1, g2, hai', w2, u2, bd_some, n10, n00, bv_eq, within_eq, in_eq, gd_T, gd_t, i00, i10, c_0, c_1, c_m1, ite10, ite01, setV_fn, setV_at, cntS, nI_pos, nI_clamp, nI_leI, nI_ltI, nI_eq, nI_1, if_true, if_false, not_true, not_false, and_self, and_true, true_and, false_and, and_false, or_false, false_or, or_true, true_or, not_false_eq_true, ite_self, ite_true, ite_false, reduceIte, Nat.reduceEqDiff, Nat.reduceMul, Nat.reduceAdd, Nat.reduceLT, Nat.reducePow, ne_eq]; exact r1
      · have hai' : i ≤ a := by omega
        obtain ⟨V'', r1, r2, r3⟩ := ih N (j + 1) V' σ (by omega) (by omega) hF hS
        refine ⟨V'', ?_, r2, ?_⟩
        · simp (disch := omega) only [Lp_X4_weigh_133, F_X4_weigh_133, F_X4_weigh_197, hct, e1, e2, hcn, hni, hce, hln, d2, g1, hai', bd_some, n10, n00, bv_eq, within_eq, in_eq, gd_T, gd_t, i00, i10, c_0, c_1, c_m1, ite10, ite01, setV_fn, setV_at, cntS, nI_pos, nI_clamp, nI_leI, nI_ltI, nI_eq, nI_1, if_true, if_false, not_true, not_false, and_self, and_true, true_and, false_and, and_false, or_false, false_or, or_true, true_or, not_false_eq_true, ite_self, ite_true, ite_false, reduceIte, Nat.reduceEqDiff, Nat.reduceMul, Nat.reduceAdd, Nat.reduceLT, Nat.reducePow, ne_eq]; exact r1
        · rw [strJ]; have : strS fc (ixV V) (aV V) (bV V) i j σ = σ := by unfold strS; rw [ea]; simp [hai]
          rw [this]; exact r3
    · rw [if_neg hq] at hce
      obtain ⟨V'', r1, r2, r3⟩ := ih N (j + 1) V' σ (by omega) (by omega) hF hS
      refine ⟨V'', ?_, r2, ?_⟩
      · simp (disch := omega) only [Lp_X4_weigh_133, F_X4_weigh_133, F_X4_weigh_197, hct, e1, hcn, hni, hce, bd_some, n10, n00, bv_eq, within_eq, in_eq, gd_T, gd_t, i00, i10, c_0, c_1, c_m1, ite10, ite01, setV_fn, setV_at, cntS, nI_pos, nI_clamp, nI_leI, nI_ltI, nI_eq, nI_1, if_true, if_false, not_true, not_false, and_self, and_true, true_and, false_and, and_false, or_false, false_or, or_true, true_or, not_false_eq_true, ite_self, ite_true, ite_false, reduceIte, Nat.reduceEqDiff, Nat.reduceMul, Nat.reduceAdd, Nat.reduceLT, Nat.reducePow, ne_eq]; exact r1
      · rw [strJ]
        have : strS fc (ixV V) (aV V) (bV V) i j σ = σ := by
          unfold strS ixV
          rw [if_neg]
          intro q
          apply hq
          simp only [Bool.and_eq_true] at q ⊢
          exact ⟨⟨q.1.1.1.1, q.1.1.2⟩, q.1.1.1.2⟩
        rw [this]; exact r3
theorem lpW_out {fu n : Nat} {V : St} {fc : Nat → Bool} (hfu : 1000 ≤ fu) (hO : I_ord V n) : ∀ (i N : Nat) (V' : St) (σ : Nat → Bool), i ≤ n → i < N → Fr [1402] V V' → BitS V' fc (cV V) σ n → ∃ V'', Lp_X4_weigh_111 (F_X4_weigh_209 fu) fu N V' (nI i - 1) = some (0, V'') ∧ Fr [1402] V V'' ∧ BitS V'' fc (cV V) (strI fc (ixV V) (aV V) (bV V) (cV V) i σ) n := by
  have h30 := hO.1
  intro i
  induction i with
  | zero =>
    intro N V' σ hi hN hF hS
    obtain ⟨N, rfl⟩ : ∃ N', N = N' + 1 := ⟨N - 1, by omega⟩
    have e : nI 0 - 1 < 0 := by decide
    refine ⟨V', ?_, hF, hS⟩
    simp (disch := omega) only [Lp_X4_weigh_111, F_X4_weigh_111, F_X4_weigh_209, e, bd_some, n10, n00, bv_eq, within_eq, in_eq, gd_T, gd_t, i00, i10, c_0, c_1, c_m1, ite10, ite01, setV_fn, setV_at, cntS, nI_pos, nI_clamp, nI_leI, nI_ltI, nI_eq, nI_1, if_true, if_false, not_true, not_false, and_self, and_true, true_and, false_and, and_false, or_false, false_or, or_true, true_or, not_false_eq_true, ite_self, ite_true, ite_false, reduceIte, Nat.reduceEqDiff, Nat.reduceMul, Nat.reduceAdd, Nat.reduceLT, Nat.reducePow, ne_eq]
  | succ i ih =>
    intro N V' σ hi hN hF hS
    obtain ⟨N, rfl⟩ : ∃ N', N = N' + 1 := ⟨N - 1, by omega⟩
    have hcl : cV V i < fu := by obtain ⟨c, hc⟩ := hO.2.2.2 i (by omega); rw [hc.at (by omega)]; have := hc.1; omega
    have hct : cntV V' 1401 = n := cnt_n (by decide) (by omega) (by rw [hF 1401 (by decide)]; exact hO.2.1)
    obtain ⟨V1, r1, r2, r3⟩ := lpW_in (fu := fu) (kx := F_X4_weigh_203 (Lp_X4_weigh_111 (F_X4_weigh_209 fu) fu N) (F_X4_weigh_209 fu) fu) hO (show i < n by omega) (cV V i) fu 0 V' σ (by omega) hcl hF hS
    obtain ⟨V2, s1, s2, s3⟩ := ih N V1 _ (by omega) (by omega) r2 r3
    refine ⟨V2, ?_, s2, s3⟩
    have e : nI (i + 1) - 1 = nI i := nI_pred i
    have e2 : nI i + (-1) = nI i - 1 := by grind
    simp (disch := omega) only [Lp_X4_weigh_111, F_X4_weigh_111, e, hct, bd_some, n10, n00, bv_eq, within_eq, in_eq, gd_T, gd_t, i00, i10, c_0, c_1, c_m1, ite10, ite01, setV_fn, setV_at, cntS, nI_pos, nI_clamp, nI_leI, nI_ltI, nI_eq, nI_1, if_true, if_false, not_true, not_false, and_self, and_true, true_and, false_and, and_false, or_false, false_or, or_true, true_or, not_false_eq_true, ite_self, ite_true, ite_false, reduceIte, Nat.reduceEqDiff, Nat.reduceMul, Nat.reduceAdd, Nat.reduceLT, Nat.reducePow, ne_eq]
    rw [nI_0] at r1
    rw [r1, F_X4_weigh_203, e2]; exact s1
theorem weigh_eq {fu n : Nat} {V : St} {wk t wo : Int32} (hfu : 1000 ≤ fu) (hO : I_ord V n) : ∃ V'', f_X4_weigh fu V wk t wo = some (0, V'') ∧ Fr [1402] V V'' ∧ BitS V'' (fcV V wo wk t) (cV V) (fin V wo wk t n) n := by
  obtain ⟨V1, r1, r2, r3⟩ := lpW1 (fu := fu) (wk := wk) (t := t) (wo := wo) (kx := F_X4_weigh_100 fu) hO n fu 0 V (by omega) (by have := hO.1; omega) (Fr.refl _ V) (fun i hi => by omega)
  obtain ⟨V2, s1, s2, s3⟩ := lpW_out (fu := fu) hfu hO n fu V1 (fun _ => false) (Nat.le_refl n) (by have := hO.1; omega) r2 r3
  refine ⟨V2, ?_, s2, s3⟩
  unfold f_X4_weigh
  rw [← nI_0, r1, F_X4_weigh_100, r2 1401 (by decide), hO.2.1]; exact s1
