/-! check -/
def tg (a b : Int32) : Int32 := (a <<< ((8 : Int32) &&& 31)) ||| (b &&& 255)
def tn (T : Nat → Int32) (i : Nat) : Int32 := tg (tg (tg (tg 0 (T (4 * i))) (T (4 * i + 1))) (T (4 * i + 2))) (T (4 * i + 3))
theorem numTape_eq {fu i : Nat} {V : St} {T : Nat → Int32} (hfu : 1000 ≤ fu) (hi : 4 * i + 4 ≤ 400) (hT : V 2113 0 = T) (h2 : V 2190 0 0 = 400) : f_X11_numberOnTape fu V (nI i) = some (tn T i, V) := by
  obtain ⟨N, rfl⟩ : ∃ N, fu = N + 5 := ⟨fu - 5, by omega⟩
  have hlen : lenV V 1002190 0 = 400 := by show (V 2190 0 0).toNatClampNeg = 400; rw [h2]; rfl
  have e4 : (4 : Int32) * nI i = nI (4 * i) := by rw [← pk_mul]; rfl
  have e5 : nI (4 * i) + 4 = nI (4 * i + 4) := nI_add _ 4
  have st : ∀ (M j : Nat) (a : Int32), j < 4 * i + 4 → Lp_X11_numberOnTape_6 (F_X11_numberOnTape_44 (N + 5)) (N + 5) (M + 1) V (nI i) a (nI j) = Lp_X11_numberOnTape_6 (F_X11_numberOnTape_44 (N + 5)) (N + 5) M V (nI i) (tg a (T j)) (nI (j + 1)) := by
    intro M j a hj
    have h1 : ¬ 4 * i + 4 ≤ j := by omega
    have h2 : ¬ (400 : Int32) ≤ nI j := nI_ge (b := 400) (by omega) (by omega)
    simp (disch := omega) only [Lp_X11_numberOnTape_6, F_X11_numberOnTape_6, e4, e5, h1, h2, hlen, hT, tg, bd_some, n10, n00, bv_eq, within_eq, in_eq, gd_T, gd_t, i00, i10, c_0, c_1, c_m1, ite10, ite01, setV_fn, setV_at, cntS, nI_pos, nI_clamp, nI_leI, nI_ltI, nI_eq, nI_1, if_true, if_false, not_true, not_false, and_self, and_true, true_and, false_and, and_false, or_false, false_or, or_true, true_or, not_false_eq_true, ite_self, ite_true, ite_false, reduceIte, Nat.reduceEqDiff, Nat.reduceMul, Nat.reduceAdd, Nat.reduceLT, Nat.reducePow, ne_eq]
  have hx : 4 * i + 4 ≤ 4 * i + 3 + 1 := by omega
  unfold f_X11_numberOnTape
  rw [e4, st (N + 4) (4 * i) 0 (by omega), st (N + 3) (4 * i + 1) _ (by omega), st (N + 2) (4 * i + 2) _ (by omega), st (N + 1) (4 * i + 3) _ (by omega)]
  simp (disch := omega) only [Lp_X11_numberOnTape_6, F_X11_numberOnTape_6, F_X11_numberOnTape_44, e4, e5, hx, bd_some, n10, n00, bv_eq, within_eq, in_eq, gd_T, gd_t, i00, i10, c_0, c_1, c_m1, ite10, ite01, setV_fn, setV_at, cntS, nI_pos, nI_clamp, nI_leI, nI_ltI, nI_eq, nI_1, if_true, if_false, not_true, not_false, and_self, and_true, true_and, false_and, and_false, or_false, false_or, or_true, true_or, not_false_eq_true, ite_self, ite_true, ite_false, reduceIte, Nat.reduceEqDiff, Nat.reduceMul, Nat.reduceAdd, Nat.reduceLT, Nat.reducePow, ne_eq]
  rfl
theorem tapeNum_eq {fu i : Nat} {V : St} {T : Nat → Int32} (hfu : 1000 ≤ fu) (hi : 4 * i + 4 ≤ 400) (hT : V 2241 0 = T) : f_X12_tapeNumber fu V (nI i) = some (tn T i, V) := by
  obtain ⟨N, rfl⟩ : ∃ N, fu = N + 5 := ⟨fu - 5, by omega⟩
  have e4 : (4 : Int32) * nI i = nI (4 * i) := by rw [← pk_mul]; rfl
  have e5 : nI (4 * i) + 4 = nI (4 * i + 4) := nI_add _ 4
  have st : ∀ (M j : Nat) (a : Int32), j < 4 * i + 4 → Lp_X12_tapeNumber_6 (F_X12_tapeNumber_37 (N + 5)) (N + 5) (M + 1) V (nI i) a (nI j) = Lp_X12_tapeNumber_6 (F_X12_tapeNumber_37 (N + 5)) (N + 5) M V (nI i) (tg a (T j)) (nI (j + 1)) := by
    intro M j a hj
    have h1 : ¬ 4 * i + 4 ≤ j := by omega
    simp (disch := omega) only [Lp_X12_tapeNumber_6, F_X12_tapeNumber_6, e4, e5, h1, hT, tg, bd_some, n10, n00, bv_eq, within_eq, in_eq, gd_T, gd_t, i00, i10, c_0, c_1, c_m1, ite10, ite01, setV_fn, setV_at, cntS, nI_pos, nI_clamp, nI_leI, nI_ltI, nI_eq, nI_1, if_true, if_false, not_true, not_false, and_self, and_true, true_and, false_and, and_false, or_false, false_or, or_true, true_or, not_false_eq_true, ite_self, ite_true, ite_false, reduceIte, Nat.reduceEqDiff, Nat.reduceMul, Nat.reduceAdd, Nat.reduceLT, Nat.reducePow, ne_eq]
  have hx : 4 * i + 4 ≤ 4 * i + 3 + 1 := by omega
  unfold f_X12_tapeNumber
  rw [e4, st (N + 4) (4 * i) 0 (by omega), st (N + 3) (4 * i + 1) _ (by omega), st (N + 2) (4 * i + 2) _ (by omega), st (N + 1) (4 * i + 3) _ (by omega)]
  simp (disch := omega) only [Lp_X12_tapeNumber_6, F_X12_tapeNumber_6, F_X12_tapeNumber_37, e4, e5, hx, bd_some, n10, n00, bv_eq, within_eq, in_eq, gd_T, gd_t, i00, i10, c_0, c_1, c_m1, ite10, ite01, setV_fn, setV_at, cntS, nI_pos, nI_clamp, nI_leI, nI_ltI, nI_eq, nI_1, if_true, if_false, not_true, not_false, and_self, and_true, true_and, false_and, and_false, or_false, false_or, or_true, true_or, not_false_eq_true, ite_self, ite_true, ite_false, reduceIte, Nat.reduceEqDiff, Nat.reduceMul, Nat.reduceAdd, Nat.reduceLT, Nat.reducePow, ne_eq]
  rfl
def stp (T : Nat → Int32) (n a x mk : Nat) (is : Int32) : Option Nat :=
  if is = 0 then none else if a = n then some (3 * a) else if ¬ tn T (3 * a) = nI x then some (3 * a) else if ¬ tn T (3 * a + 1) = nI mk then some (3 * a + 1) else if ¬ tn T (3 * a + 2) = is then some (3 * a + 2) else none
theorem c_part {fu n a x mk : Nat} {V : St} {is : Int32} {T : Nat → Int32} {kx : St → Int32 → RR} {ky : St → Int32 → Int32 → Int32 → Int32 → RR} (hfu : 1000 ≤ fu) (hn : 12 * n ≤ 400) (ha : a ≤ n) (hx : x < 30) (hmk : mk < 2) (hT : V 2113 0 = T) (h2 : V 2190 0 0 = 400) (his : 0 ≤ is) : Lp_X11_firstWrong_46 kx ky fu fu V (nI (3 * n)) (nI (3 * a)) (nI x) (nI mk) is 0 = match stp T n a x mk is with
    | some r => kx V (nI r)
    | none => ky V (nI (3 * n)) (nI (3 * (if is = 0 then a else a + 1))) (nI x) (nI mk) := by
  obtain ⟨N, rfl⟩ : ∃ N, fu = N + 5 := ⟨fu - 5, by omega⟩
  unfold stp
  by_cases h0 : is = 0
  · subst h0
    have : (0 : Int32) ≤ 0 := by decide
    simp only [Lp_X11_firstWrong_46, F_X11_firstWrong_46, this, if_true]
  have hp : ¬ is ≤ 0 := by grind
  rw [if_neg h0]
  have st : ∀ (M p : Nat) (q due : Int32), ¬ 3 ≤ q → (if q = 0 then nI x else if q = 1 then nI mk else is) = due → p < 3 * n → Lp_X11_firstWrong_46 kx ky (N + 5) (M + 1) V (nI (3 * n)) (nI p) (nI x) (nI mk) is q = if tn T p = due then Lp_X11_firstWrong_46 kx ky (N + 5) M V (nI (3 * n)) (nI (p + 1)) (nI x) (nI mk) is (q + 1) else kx V (nI p) := by
    intro M p q due hq hd hp3
    have l0 : ¬ nI (3 * n) ≤ nI p := nI_ge hp3 (by omega)
    have t0 := numTape_eq (fu := N + 5) (i := p) hfu (by omega) hT h2
    rw [Lp_X11_firstWrong_46, F_X11_firstWrong_46, if_neg hp, if_neg hq]
    subst hd
    by_cases c0 : q = 0
    · rw [if_pos c0, if_pos c0, F_X11_firstWrong_79, if_neg l0, t0, bd_some, nI_1]
    · rw [if_neg c0, if_neg c0]
      by_cases c1 : q = 1
      · rw [if_pos c1, if_pos c1, F_X11_firstWrong_79, if_neg l0, t0, bd_some, nI_1]
      · rw [if_neg c1, if_neg c1, F_X11_firstWrong_79, if_neg l0, t0, bd_some, nI_1]
  by_cases h1 : a = n
  · subst h1
    rw [if_pos rfl, Lp_X11_firstWrong_46, F_X11_firstWrong_46, if_neg hp, if_neg (by decide), if_pos rfl, F_X11_firstWrong_79, if_pos (nI_le (Nat.le_refl _) (by omega))]
  rw [if_neg h1, st (N + 4) (3 * a) 0 (nI x) (by decide) (if_pos rfl) (by omega)]
  by_cases c0 : tn T (3 * a) = nI x
  · rw [if_pos c0, if_neg (fun z => z c0), show (0 : Int32) + 1 = 1 by decide, st (N + 3) (3 * a + 1) 1 (nI mk) (by decide) (by rw [if_neg (by decide), if_pos rfl]) (by omega)]
    by_cases c1 : tn T (3 * a + 1) = nI mk
    · rw [if_pos c1, if_neg (fun z => z c1), show (1 : Int32) + 1 = 2 by decide, st (N + 2) (3 * a + 2) 2 is (by decide) (by rw [if_neg (by decide), if_neg (by decide)]) (by omega)]
      by_cases c2 : tn T (3 * a + 2) = is
      · rw [if_pos c2, if_neg (fun z => z c2), show (2 : Int32) + 1 = 3 by decide, Lp_X11_firstWrong_46, F_X11_firstWrong_46, if_neg hp, if_pos (by decide)]
        show ky V (nI (3 * n)) (nI (3 * a + 2 + 1)) (nI x) (nI mk) = ky V (nI (3 * n)) (nI (3 * (if is = 0 then a else a + 1))) (nI x) (nI mk)
        rw [if_neg h0, show 3 * a + 2 + 1 = 3 * (a + 1) by omega]
      · rw [if_neg c2, if_pos c2]
    · rw [if_neg c1, if_pos c1]
  · rw [if_neg c0, if_pos c0]
theorem r_part {fu n a x mk : Nat} {U : St} {is : Int32} {T : Nat → Int32} {kh : St → Int32 → Int32 → Int32 → Int32 → RR} {kx : St → Int32 → Int32 → Int32 → RR} (hfu : 1000 ≤ fu) (hn : 12 * n ≤ 400) (ha : a ≤ n) (hx : x < 30) (hmk : mk < 2) (hT : U 2241 0 = T) : F_X12_check_65 kh (F_X12_check_91 fu) (F_X12_check_105 fu) (F_X12_check_121 fu) kx fu U (nI n) (nI (3 * a)) (nI x) (nI mk) is = match stp T n a x mk is with
    | some r => some (nI r, U)
    | none => kh U (nI n) (nI (3 * (if is = 0 then a else a + 1))) (nI x) (nI mk + 1) := by
  unfold stp
  have e3 : (3 : Int32) * nI n = nI (3 * n) := by rw [← pk_mul]; rfl
  by_cases h0 : is = 0
  · subst h0
    simp only [F_X12_check_65, F_X12_check_129, if_true]
  rw [if_neg h0]
  by_cases h1 : a = n
  · subst h1
    simp (disch := omega) only [F_X12_check_65, F_X12_check_91, h0, e3, bd_some, n10, n00, bv_eq, within_eq, in_eq, gd_T, gd_t, i00, i10, c_0, c_1, c_m1, ite10, ite01, setV_fn, setV_at, cntS, nI_pos, nI_clamp, nI_leI, nI_ltI, nI_eq, nI_1, if_true, if_false, not_true, not_false, and_self, and_true, true_and, false_and, and_false, or_false, false_or, or_true, true_or, not_false_eq_true, ite_self, ite_true, ite_false, reduceIte, Nat.reduceEqDiff, Nat.reduceMul, Nat.reduceAdd, Nat.reduceLT, Nat.reducePow, ne_eq]
  have l0 : ¬ 3 * a = 3 * n := by omega
  have t0 := tapeNum_eq (fu := fu) (i := 3 * a) hfu (by omega) hT
  have t1 := tapeNum_eq (fu := fu) (i := 3 * a + 1) hfu (by omega) hT
  have t2 := tapeNum_eq (fu := fu) (i := 3 * a + 2) hfu (by omega) hT
  have a2 : nI (3 * a) + 2 = nI (3 * a + 2) := nI_add _ 2
  have a3 : nI (3 * a) + 3 = nI (3 * (a + 1)) := nI_add _ 3
  rw [if_neg h1]
  by_cases c0 : tn T (3 * a) = nI x
  · by_cases c1 : tn T (3 * a + 1) = nI mk
    · by_cases c2 : tn T (3 * a + 2) = is
      · simp (disch := omega) only [F_X12_check_65, F_X12_check_129, h0, e3, l0, t0, t1, t2, a2, a3, c0, c1, c2, bd_some, nI_1, nI_eq, if_true, if_false, not_true]
      · simp (disch := omega) only [F_X12_check_65, F_X12_check_121, h0, e3, l0, t0, t1, t2, a2, c0, c1, c2, bd_some, n10, n00, bv_eq, within_eq, in_eq, gd_T, gd_t, i00, i10, c_0, c_1, c_m1, ite10, ite01, setV_fn, setV_at, cntS, nI_pos, nI_clamp, nI_leI, nI_ltI, nI_eq, nI_1, if_true, if_false, not_true, not_false, and_self, and_true, true_and, false_and, and_false, or_false, false_or, or_true, true_or, not_false_eq_true, ite_self, ite_true, ite_false, reduceIte, Nat.reduceEqDiff, Nat.reduceMul, Nat.reduceAdd, Nat.reduceLT, Nat.reducePow, ne_eq]
    · simp (disch := omega) only [F_X12_check_65, F_X12_check_105, h0, e3, l0, t0, t1, c0, c1, bd_some, n10, n00, bv_eq, within_eq, in_eq, gd_T, gd_t, i00, i10, c_0, c_1, c_m1, ite10, ite01, setV_fn, setV_at, cntS, nI_pos, nI_clamp, nI_leI, nI_ltI, nI_eq, nI_1, if_true, if_false, not_true, not_false, and_self, and_true, true_and, false_and, and_false, or_false, false_or, or_true, true_or, not_false_eq_true, ite_self, ite_true, ite_false, reduceIte, Nat.reduceEqDiff, Nat.reduceMul, Nat.reduceAdd, Nat.reduceLT, Nat.reducePow, ne_eq]
  · simp (disch := omega) only [F_X12_check_65, F_X12_check_91, h0, e3, l0, t0, c0, bd_some, n10, n00, bv_eq, within_eq, in_eq, gd_T, gd_t, i00, i10, c_0, c_1, c_m1, ite10, ite01, setV_fn, setV_at, cntS, nI_pos, nI_clamp, nI_leI, nI_ltI, nI_eq, nI_1, if_true, if_false, not_true, not_false, and_self, and_true, true_and, false_and, and_false, or_false, false_or, or_true, true_or, not_false_eq_true, ite_self, ite_true, ite_false, reduceIte, Nat.reduceEqDiff, Nat.reduceMul, Nat.reduceAdd, Nat.reduceLT, Nat.reducePow, ne_eq]
theorem lp_chk {fu nC nT n : Nat} {V U : St} {T : Nat → Int32} (hfu : 1000 ≤ fu) (hth : I_thing V nC nT) (hn : 12 * n ≤ 400) (hT : V 2113 0 = T) (h2 : V 2190 0 0 = 400) (hU : U 2241 0 = T) (g1 : U 2204 = V 2204) (g2 : U 2221 = V 2221) (g3 : U 2222 = V 2222) : ∀ (N x a : Nat), x ≤ nT → nT < x + N → a ≤ n → ∃ r, Lp_X11_firstWrong_4 (F_X11_firstWrong_96 fu) (F_X11_firstWrong_119 fu) fu N V (nI (3 * n)) (nI (3 * a)) (nI x) = some (r, V) ∧ Lp_X12_check_27 (F_X12_check_91 fu) (F_X12_check_105 fu) (F_X12_check_121 fu) (F_X12_check_141 fu) fu N U (nI n) (nI (3 * a)) (nI x) = some (r, U) := by
  obtain ⟨h30, hn1, hn2, hfr, hx⟩ := hth
  have hc : cntV V 2105 = nT := cnt_n (by decide) (by omega) hn1
  have e3 : (3 : Int32) * nI n = nI (3 * n) := by rw [← pk_mul]; rfl
  obtain ⟨f', rfl⟩ : ∃ f', fu = f' + 3 := ⟨fu - 3, by omega⟩
  intro N
  induction N with
  | zero => intro x a h0 h; omega
  | succ N ih =>
    intro x a h0 h ha
    by_cases hi : nT ≤ x
    · refine ⟨if 3 * n ≤ 3 * a then -1 else nI (3 * a), ?_, ?_⟩
      · simp (disch := omega) only [Lp_X11_firstWrong_4, F_X11_firstWrong_4, F_X11_firstWrong_119, F_X11_firstWrong_129, hn1, hi, bd_some, n10, n00, bv_eq, within_eq, in_eq, gd_T, gd_t, i00, i10, c_0, c_1, c_m1, ite10, ite01, setV_fn, setV_at, cntS, nI_pos, nI_clamp, nI_leI, nI_ltI, nI_eq, nI_1, if_true, if_false, not_true, not_false, and_self, and_true, true_and, false_and, and_false, or_false, false_or, or_true, true_or, not_false_eq_true, ite_self, ite_true, ite_false, reduceIte, Nat.reduceEqDiff, Nat.reduceMul, Nat.reduceAdd, Nat.reduceLT, Nat.reducePow, ne_eq]
        split <;> rfl
      · simp (disch := omega) only [Lp_X12_check_27, F_X12_check_27, F_X12_check_141, F_X12_check_153, g1, hn2, hi, e3, bd_some, n10, n00, bv_eq, within_eq, in_eq, gd_T, gd_t, i00, i10, c_0, c_1, c_m1, ite10, ite01, setV_fn, setV_at, cntS, nI_pos, nI_clamp, nI_leI, nI_ltI, nI_eq, nI_1, if_true, if_false, not_true, not_false, and_self, and_true, true_and, false_and, and_false, or_false, false_or, or_true, true_or, not_false_eq_true, ite_self, ite_true, ite_false, reduceIte, Nat.reduceEqDiff, Nat.reduceMul, Nat.reduceAdd, Nat.reduceLT, Nat.reducePow, ne_eq]
        split <;> rfl
    · obtain ⟨p, len, wid, q⟩ := hx x (by omega)
      obtain ⟨-, -, -, -, -, -, -, -, q9, q10, q11, q12, q13, q14, -⟩ := q
      have A : ∀ (M mk a : Nat) (is : Int32) (kx : St → Int32 → Int32 → Int32 → RR), mk < 2 → a ≤ n → V 2006 x mk = is → 0 ≤ is → Lp_X11_firstWrong_18 (F_X11_firstWrong_96 (f' + 3)) kx (f' + 3) (M + 1) V (nI (3 * n)) (nI (3 * a)) (nI x) (nI mk) = match stp T n a x mk is with
          | some r => some (nI r, V)
          | none => Lp_X11_firstWrong_18 (F_X11_firstWrong_96 (f' + 3)) kx (f' + 3) M V (nI (3 * n)) (nI (3 * (if is = 0 then a else a + 1))) (nI x) (nI (mk + 1)) := by
        intro M mk a is kx hmk ha his hp
        have hl : ¬ (2 : Int32) ≤ nI mk := nI_ge (b := 2) hmk (by omega)
        have hpt := c_part (fu := f' + 3) (n := n) (a := a) (x := x) (mk := mk) (V := V) (is := is) (T := T) (kx := F_X11_firstWrong_96 (f' + 3)) (ky := F_X11_firstWrong_107 (Lp_X11_firstWrong_18 (F_X11_firstWrong_96 (f' + 3)) kx (f' + 3) M) (F_X11_firstWrong_96 (f' + 3)) kx (f' + 3)) hfu hn ha (by omega) hmk hT h2 hp
        have h1 : Lp_X11_firstWrong_18 (F_X11_firstWrong_96 (f' + 3)) kx (f' + 3) (M + 1) V (nI (3 * n)) (nI (3 * a)) (nI x) (nI mk) = Lp_X11_firstWrong_46 (F_X11_firstWrong_96 (f' + 3)) (F_X11_firstWrong_107 (Lp_X11_firstWrong_18 (F_X11_firstWrong_96 (f' + 3)) kx (f' + 3) M) (F_X11_firstWrong_96 (f' + 3)) kx (f' + 3)) (f' + 3) (f' + 3) V (nI (3 * n)) (nI (3 * a)) (nI x) (nI mk) is 0 := by
          rw [Lp_X11_firstWrong_18, F_X11_firstWrong_18, if_neg hl, hc, nI_clamp (by omega), nI_clamp (by omega), his, gd_t ⟨nI_pos (by omega), by omega⟩, gd_t (by intro q; rcases q with q | q; exact nI_pos (by omega) q; omega)]
        rw [h1, hpt]
        cases stp T n a x mk is with
        | some r => rfl
        | none => show F_X11_firstWrong_107 _ _ _ _ _ _ _ _ _ = _; rw [F_X11_firstWrong_107, nI_1]
      have B : ∀ (M mk a : Nat) (is : Int32) (kx : St → Int32 → Int32 → Int32 → RR), mk < 2 → a ≤ n → (if mk = 1 then V 2222 0 x else V 2221 0 x) = is → Lp_X12_check_38 (F_X12_check_91 (f' + 3)) (F_X12_check_105 (f' + 3)) (F_X12_check_121 (f' + 3)) kx (f' + 3) (M + 1) U (nI n) (nI (3 * a)) (nI x) (nI mk) = match stp T n a x mk is with
          | some r => some (nI r, U)
          | none => Lp_X12_check_38 (F_X12_check_91 (f' + 3)) (F_X12_check_105 (f' + 3)) (F_X12_check_121 (f' + 3)) kx (f' + 3) M U (nI n) (nI (3 * (if is = 0 then a else a + 1))) (nI x) (nI (mk + 1)) := by
        intro M mk a is kx hmk ha his
        have hl : ¬ (2 : Int32) ≤ nI mk := nI_ge (b := 2) hmk (by omega)
        have hpt := r_part (fu := f' + 3) (n := n) (a := a) (x := x) (mk := mk) (U := U) (is := is) (T := T) (kh := Lp_X12_check_38 (F_X12_check_91 (f' + 3)) (F_X12_check_105 (f' + 3)) (F_X12_check_121 (f' + 3)) kx (f' + 3) M) (kx := kx) hfu hn ha (by omega) hmk hU
        rw [nI_1] at hpt
        rw [← hpt, Lp_X12_check_38, F_X12_check_38, if_neg hl, nI_clamp (by omega), g2, g3, gd_t (by intro q; rcases q with q | q; exact nI_pos (by omega) q; omega), gd_t (by intro q; rcases q with q | q; exact nI_pos (by omega) q; omega)]
        rcases (show mk = 0 ∨ mk = 1 by omega) with rfl | rfl
        · rw [if_neg (by decide)]; rw [← his]; rfl
        · rw [if_pos (by decide)]; rw [← his]; rfl
      have A0 := A (f' + 2) 0 a (V 2221 0 x) (F_X11_firstWrong_113 (Lp_X11_firstWrong_4 (F_X11_firstWrong_96 (f' + 3)) (F_X11_firstWrong_119 (f' + 3)) (f' + 3) N) (F_X11_firstWrong_96 (f' + 3)) (F_X11_firstWrong_119 (f' + 3)) (f' + 3)) (by omega) ha q9 q11
      have B0 := B (f' + 2) 0 a (V 2221 0 x) (F_X12_check_135 (Lp_X12_check_27 (F_X12_check_91 (f' + 3)) (F_X12_check_105 (f' + 3)) (F_X12_check_121 (f' + 3)) (F_X12_check_141 (f' + 3)) (f' + 3) N) (F_X12_check_91 (f' + 3)) (F_X12_check_105 (f' + 3)) (F_X12_check_121 (f' + 3)) (F_X12_check_141 (f' + 3)) (f' + 3)) (by omega) ha (if_neg (by decide))
      have hC : Lp_X11_firstWrong_4 (F_X11_firstWrong_96 (f' + 3)) (F_X11_firstWrong_119 (f' + 3)) (f' + 3) (N + 1) V (nI (3 * n)) (nI (3 * a)) (nI x) = Lp_X11_firstWrong_18 (F_X11_firstWrong_96 (f' + 3)) (F_X11_firstWrong_113 (Lp_X11_firstWrong_4 (F_X11_firstWrong_96 (f' + 3)) (F_X11_firstWrong_119 (f' + 3)) (f' + 3) N) (F_X11_firstWrong_96 (f' + 3)) (F_X11_firstWrong_119 (f' + 3)) (f' + 3)) (f' + 3) (f' + 3) V (nI (3 * n)) (nI (3 * a)) (nI x) (nI 0) := by
        rw [Lp_X11_firstWrong_4, F_X11_firstWrong_4, hn1, if_neg (nI_ge (by omega) (by omega)), nI_0]
      have hR : Lp_X12_check_27 (F_X12_check_91 (f' + 3)) (F_X12_check_105 (f' + 3)) (F_X12_check_121 (f' + 3)) (F_X12_check_141 (f' + 3)) (f' + 3) (N + 1) U (nI n) (nI (3 * a)) (nI x) = Lp_X12_check_38 (F_X12_check_91 (f' + 3)) (F_X12_check_105 (f' + 3)) (F_X12_check_121 (f' + 3)) (F_X12_check_135 (Lp_X12_check_27 (F_X12_check_91 (f' + 3)) (F_X12_check_105 (f' + 3)) (F_X12_check_121 (f' + 3)) (F_X12_check_141 (f' + 3)) (f' + 3) N) (F_X12_check_91 (f' + 3)) (F_X12_check_105 (f' + 3)) (F_X12_check_121 (f' + 3)) (F_X12_check_141 (f' + 3)) (f' + 3)) (f' + 3) (f' + 3) U (nI n) (nI (3 * a)) (nI x) (nI 0) := by
        rw [Lp_X12_check_27, F_X12_check_27, g1, hn2, if_neg (nI_ge (by omega) (by omega)), nI_0]
      rw [hC, hR, A0, B0]
      have stle : ∀ (a mk : Nat) (is : Int32), a ≤ n → stp T n a x mk is = none → (if is = 0 then a else a + 1) ≤ n := fun a mk is ha h => by
        unfold stp at h
        by_cases z : is = 0
        · rw [if_pos z]; exact ha
        · rw [if_neg z] at h ⊢
          by_cases z1 : a = n
          · rw [if_pos z1] at h; cases h
          · omega
      cases hs0 : stp T n a x 0 (V 2221 0 x) with
      | some r => exact ⟨nI r, rfl, rfl⟩
      | none =>
        have ha1 := stle a 0 _ ha hs0
        generalize (if V 2221 0 x = 0 then a else a + 1) = a1 at ha1 ⊢
        have A1 := A (f' + 1) 1 a1 (V 2222 0 x) (F_X11_firstWrong_113 (Lp_X11_firstWrong_4 (F_X11_firstWrong_96 (f' + 3)) (F_X11_firstWrong_119 (f' + 3)) (f' + 3) N) (F_X11_firstWrong_96 (f' + 3)) (F_X11_firstWrong_119 (f' + 3)) (f' + 3)) (by omega) ha1 q10 q13
        have B1 := B (f' + 1) 1 a1 (V 2222 0 x) (F_X12_check_135 (Lp_X12_check_27 (F_X12_check_91 (f' + 3)) (F_X12_check_105 (f' + 3)) (F_X12_check_121 (f' + 3)) (F_X12_check_141 (f' + 3)) (f' + 3) N) (F_X12_check_91 (f' + 3)) (F_X12_check_105 (f' + 3)) (F_X12_check_121 (f' + 3)) (F_X12_check_141 (f' + 3)) (f' + 3)) (by omega) ha1 (if_pos rfl)
        show ∃ r, Lp_X11_firstWrong_18 _ _ _ (f' + 2) V _ _ _ (nI 1) = _ ∧ Lp_X12_check_38 _ _ _ _ _ (f' + 2) U _ _ _ (nI 1) = _
        rw [A1, B1]
        cases hs1 : stp T n a1 x 1 (V 2222 0 x) with
        | some r => exact ⟨nI r, rfl, rfl⟩
        | none =>
          have ha2 := stle a1 1 _ ha1 hs1
          generalize (if V 2222 0 x = 0 then a1 else a1 + 1) = a2 at ha2 ⊢
          obtain ⟨r, r1, r2⟩ := ih (x + 1) a2 (by omega) (by omega) ha2
          refine ⟨r, ?_, ?_⟩
          · show Lp_X11_firstWrong_18 _ _ _ (f' + 1) V _ _ _ (nI 2) = _
            rw [Lp_X11_firstWrong_18, F_X11_firstWrong_18, if_pos (by decide), F_X11_firstWrong_113, nI_1]; exact r1
          · show Lp_X12_check_38 _ _ _ _ _ (f' + 1) U _ _ _ (nI 2) = _
            rw [Lp_X12_check_38, F_X12_check_38, if_pos (by decide), F_X12_check_135, nI_1]; exact r2
theorem P_check {fu k : Nat} {V : St} (hfu : 1000 ≤ fu) (hI : Inv k V) (n : Int32) : Step k (fun V => f_X11_check fu V n) (fun V => f_X12_check fu V n) V := by
  have hI' := hI
  obtain ⟨nC, nD, nT, nM, nP, nK, nS, nR, nL, nO, hL, hmi, hta, hcl, hdr, hth, hla, hma, hor, hpe, hdo, hse, hru, hmk⟩ := hI
  have hta' := hta
  obtain ⟨t1, t2, ⟨t, t400, t3⟩, t4, t5, t6, t7⟩ := hta
  have hd : nI t / 12 = nI (t / 12) := pk_div (d := 12) (by omega) (by omega) (by omega)
  have h30 := hth.1
  by_cases h : 0 ≤ n ∧ n ≤ nI (t / 12)
  · obtain ⟨m, hm, rfl⟩ := nI_of (x := n) (by have := h.1; grind)
    have hm2 : m ≤ t / 12 := (nI_leI (by omega) (by omega)).mp h.2
    have e3 : (3 : Int32) * nI m = nI (3 * m) := by rw [← pk_mul]; rfl
    have hF1 : Fr [2114] V (setV V 2114 0 0 0) := (Fr.refl _ V).set (by decide)
    have hF2 : Fr [2114, 2242] V (setV (setV V 2114 0 0 0) 2242 0 0 0) := ((Fr.refl _ V).set (by decide)).set (by decide)
    obtain ⟨r, r1, r2⟩ := lp_chk (fu := fu) (V := setV V 2114 0 0 0) (U := setV (setV V 2114 0 0 0) 2242 0 0 0) (n := m) (T := V 2241 0) hfu (hth.fr hF1 (by decide)) (by omega) (by rw [setV_fn (by decide)]; exact t1) (by rw [setV_fn (by decide)]; exact t5) (by rw [setV_fn (by decide), setV_fn (by decide)]) (setV_fn (by decide)) (setV_fn (by decide)) (setV_fn (by decide)) fu 0 0 (by omega) (by omega) (by omega)
    refine ⟨r, setV V 2114 0 0 0, setV (setV V 2114 0 0 0) 2242 0 0 0, ?_, ?_, ?_⟩
    · have r1' : f_X11_firstWrong fu (setV V 2114 0 0 0) (nI (3 * m)) = some (r, setV V 2114 0 0 0) := r1
      simp only [f_X11_check, within_eq, bd_some, bv_eq, t2, t3, hd, h, e3, r1', ite10, and_self, not_true, if_false, if_true, n10]
    · have hn0 : ¬ nI m < 0 := nI_pos hm
      show f_X12_check fu _ (nI m) = _
      unfold f_X12_check
      rw [if_neg hn0, setV_fn (by decide), t3, hd, if_pos h.2, bv_eq]; exact r2
    · refine ⟨nC, nD, nT, nM, nP, nK, nS, nR, nL, nO, by omega, hmi.fr hF2 rfl, ?_, hcl.fr hF2 rfl, hdr.fr hF2 rfl, hth.fr hF2 rfl, hla.fr hF2 rfl, hma.fr hF2 rfl, hor.fr hF2 rfl, hpe.fr hF2 rfl, hdo.fr hF2 rfl, hse.fr hF2 rfl, hru.fr hF2 rfl, hmk.fr hF2 rfl⟩
      exact ⟨by rw [hF2 2113 (by decide), hF2 2241 (by decide)]; exact t1, by simp [setV], ⟨0, by omega, by simp [setV]; rfl⟩, by rw [hF2 2241 (by decide)]; exact t4, by rw [hF2 2190 (by decide)]; exact t5, by rw [hF2 2190 (by decide)]; exact t6, by rw [hF2 1908 (by decide)]; exact t7⟩
  · refine Step.same (r := -2) ?_ ?_ hI'
    · simp only [f_X11_check, within_eq, bd_some, t2, t3, hd, h, ite10, not_false_eq_true, if_false, if_true]
    · show f_X12_check fu V n = _
      unfold f_X12_check F_X12_check_15
      by_cases hn0 : n < 0
      · rw [if_pos hn0]
      · rw [if_neg hn0, t3, hd, if_neg (fun z => h ⟨by grind, z⟩)]
