/-! marks -/
theorem sm_congr {f g : Nat → Int32} : ∀ n, (∀ e, e < n → f e = g e) → sm f n = sm g n := by
  intro n
  induction n with
  | zero => intro _; rfl
  | succ n ih => intro h; unfold sm; rw [ih (fun e he => h e (by omega)), h n (by omega)]
theorem I_marks.add {V V' : St} {nT nM nL x w : Nat} {bb n : Int32} (h : I_marks V nT nM nL) (h30 : nT ≤ 30) (h12 : nM ≤ 12) (h0 : V' 2112 0 0 = nI (nL + 1)) (h1 : ∀ e, e < nL → V' 1361 e 0 = V 1361 e 0 ∧ V' 1362 e 0 = V 1362 e 0 ∧ V' 1363 e 0 = V 1363 e 0 ∧ V' 1364 e 0 = V 1364 e 0) (hx : V' 1361 nL 0 = nI x) (hb : V' 1362 nL 0 = bb) (hw : V' 1363 nL 0 = nI w) (hn : V' 1364 nL 0 = n) (hx2 : x < nT) (hw2 : w < 500)
    (hc : (bb = -1 ∧ V' 2275 = V 2275 ∧ ∀ q, V' 2276 0 q = if q = 500 * x + w then V 2276 0 q + n else V 2276 0 q) ∨ (∃ m, m < nM ∧ bb = nI m ∧ V' 2276 = V 2276 ∧ ∀ q, V' 2275 0 q = if q = 15000 * m + 500 * x + w then V 2275 0 q + n else V 2275 0 q)) : I_marks V' nT nM (nL + 1) := by
  obtain ⟨a0, a1, a2, a3⟩ := h
  refine ⟨h0, fun e he => ?_, fun m' x' w' hm' hx' hw' => ?_, fun x' w' hx' hw' => ?_⟩
  · by_cases hel : e = nL
    · subst hel
      refine ⟨x, w, hx2, hw2, hx, hw, ?_⟩
      rw [hb]
      rcases hc with ⟨c, -⟩ | ⟨m, c1, c2, -⟩
      · exact .inl c
      · exact .inr ⟨m, c1, c2⟩
    · obtain ⟨b1, b2, b3, b4⟩ := h1 e (by omega)
      obtain ⟨x0, w0, c⟩ := a1 e (by omega)
      rw [b1, b2, b3]; exact ⟨x0, w0, c⟩
  · have hs : sm (fun e => if V' 1361 e 0 = nI x' ∧ V' 1362 e 0 = nI m' ∧ V' 1363 e 0 = nI w' then V' 1364 e 0 else 0) nL = sm (fun e => if V 1361 e 0 = nI x' ∧ V 1362 e 0 = nI m' ∧ V 1363 e 0 = nI w' then V 1364 e 0 else 0) nL := sm_congr nL (fun e he => by
      obtain ⟨b1, b2, b3, b4⟩ := h1 e he
      simp only [b1, b2, b3, b4])
    have zz : ∀ q : Int32, q + 0 = q := fun q => by grind
    rw [sm, hs, hx, hb, hw, hn, ← a2 m' x' w' hm' hx' hw']
    rcases hc with ⟨c, c1, -⟩ | ⟨m, c1, c2, c3, c4⟩
    · rw [c1, c, if_neg (fun q => by have := ifneg_nI m' (by omega); rw [q.2.1] at this; exact cast this rfl), zz]
    · rw [c4, c2]
      by_cases hq : x = x' ∧ m = m' ∧ w = w'
      · obtain ⟨rfl, rfl, rfl⟩ := hq; rw [if_pos rfl, if_pos ⟨rfl, rfl, rfl⟩]
      · rw [if_neg (by omega), if_neg (fun z => hq ⟨(nI_eq (by omega) (by omega)).mp z.1, (nI_eq (by omega) (by omega)).mp z.2.1, (nI_eq (by omega) (by omega)).mp z.2.2⟩), zz]
  · have hs : sm (fun e => if V' 1361 e 0 = nI x' ∧ V' 1362 e 0 = -1 ∧ V' 1363 e 0 = nI w' then V' 1364 e 0 else 0) nL = sm (fun e => if V 1361 e 0 = nI x' ∧ V 1362 e 0 = -1 ∧ V 1363 e 0 = nI w' then V 1364 e 0 else 0) nL := sm_congr nL (fun e he => by
      obtain ⟨b1, b2, b3, b4⟩ := h1 e he
      simp only [b1, b2, b3, b4])
    have zz : ∀ q : Int32, q + 0 = q := fun q => by grind
    rw [sm, hs, hx, hb, hw, hn, ← a3 x' w' hx' hw']
    rcases hc with ⟨c, c1, c2⟩ | ⟨m, c1, c2, c3, c4⟩
    · rw [c2, c]
      by_cases hq : x = x' ∧ w = w'
      · obtain ⟨rfl, rfl⟩ := hq; rw [if_pos rfl, if_pos ⟨rfl, rfl, rfl⟩]
      · rw [if_neg (by omega), if_neg (fun z => hq ⟨(nI_eq (by omega) (by omega)).mp z.1, (nI_eq (by omega) (by omega)).mp z.2.2⟩), zz]
    · rw [c3, c2, if_neg (fun q => by have := ifneg_nI m (by omega); rw [q.2.1] at this; exact cast this rfl), zz]
theorem mkOK_ag {V V' : St} {nC nT n Li : Nat} (hcl : I_cloth V nC) (hth : I_thing V nC nT) (hla : I_lay V nT) (h : ∀ v, v ∈ [1506, 2003, 2103, 2105] → V' v = V v) (hn1 : V' Li 0 0 = nI n) (hn : n ≤ 1000) : mkOK V' Li = true := by
  have h0 := mkOK_I (Li := 2105) hcl hth hla hth.2.1 (by have := hth.1; omega)
  unfold mkOK qrb at h0 ⊢
  unfold cntV at h0 ⊢
  rw [h 1506 (by decide), h 2003 (by decide), h 2103 (by decide), h 2105 (by decide), hn1, nI_clamp (by omega)]
  rw [Bool.and_eq_true] at h0 ⊢
  exact ⟨Nat.ble_eq_true_of_le hn, h0.2⟩
/-! makes -/
noncomputable def mkRef (V : St) (nO m x : Nat) (n b : Int32) (kd : Bool) (c : Nat) : Int32 :=
  if lastV V (-1) (V 2201 0 0) (V 2201 0 0) nO 98 (nI x) (nI m) = -1 then
    (if b = 0 ∨ ¬ lastV V (-1) (V 2201 0 0) (V 2201 0 0) nO 109 (nI x) (nI m) = -1 then
      (if kd = true ∧ ¬ (V 2219 0 x * n + 36 - 1) / 36 ≤ V 2238 0 (20 * m + c) then -4 else
        if V 2234 0 m < V 2239 0 m + n ∨ ¬ V 2239 0 m + n ≤ V 2235 0 m * V 2236 0 m then -5 else 0)
      else -3)
    else -2
theorem whyNot_eq {fu nC nT nM nO m x c : Nat} {V : St} {n b : Int32} {kd : Bool} (hfu : 1000 ≤ fu) (hA : Ask V nC nT nM nO) (hnow : V 2101 0 0 = V 2201 0 0) (hm : m < nM) (hx : x < nT) (hb : b = 0 ∨ b = 1) (hkd : kd = true → V 2216 0 x = 0 ∧ c < nC ∧ V 2217 0 x = nI c) (hkd2 : kd = false → ¬ V 2216 0 x = 0) : ∃ V1, f_X11_whyNotMade fu V (nI m) (nI x) n b = some (mkRef V nO m x n b kd c, V1) ∧ Fr scr V V1 := by
  have h30 := hA.2.1.1
  have h12 := hA.2.2.1.1
  have h20 := hA.1.1
  obtain ⟨Va, a1, a2⟩ := askNow_eq (fu := fu) (L := 98) hfu hA (okT_nI hx) (okT_nI hm) (by decide)
  rw [hnow] at a1
  obtain ⟨p, len, wid, q⟩ := hA.2.1.2.2.2.2 x hx
  obtain ⟨-, q2, -, -, q5, -, q7, -⟩ := q
  obtain ⟨k1, k2, k3, k4, k5, k6, k7, k8, k9, k10, k11, -⟩ := hA.2.2.1.2.2.2.2.2.1 m hm
  have fin : ∀ W : St, Fr scr V W → F_X11_whyNotMade_35 fu W (nI m) (nI x) n = some (if kd = true ∧ ¬ (V 2219 0 x * n + 36 - 1) / 36 ≤ V 2238 0 (20 * m + c) then -4 else
        if V 2234 0 m < V 2239 0 m + n ∨ ¬ V 2239 0 m + n ≤ V 2235 0 m * V 2236 0 m then -5 else 0, W) := by
    intro W hW
    have ct : cntV W 2105 = nT := cnt_n (by decide) (by omega) (by rw [hW 2105 (by decide)]; exact hA.2.1.2.1)
    have cm : cntV W 2106 = nM := cnt_n (by decide) (by omega) (by rw [hW 2106 (by decide)]; exact hA.2.2.1.2.1)
    have w1 := hW 2001 (by decide); have w2 := hW 2002 (by decide); have w3 := hW 2005 (by decide); have w4 := hW 1606 (by decide); have w5 := hW 1602 (by decide); have w6 := hW 1608 (by decide); have w7 := hW 1603 (by decide); have w8 := hW 1604 (by decide)
    have t2 : F_X11_whyNotMade_62 fu W (nI m) n = some (if V 2234 0 m < V 2239 0 m + n ∨ ¬ V 2239 0 m + n ≤ V 2235 0 m * V 2236 0 m then -5 else 0, W) := by
      simp (disch := omega) only [F_X11_whyNotMade_62, F_X11_whyNotMade_93, F_X11_whyNotMade_99, cm, w5, w6, w7, w8, k2, k5, k6, k11, bd_some, n10, n00, bv_eq, within_eq, in_eq, gd_T, gd_t, i00, i10, c_0, c_1, c_m1, ite10, ite01, setV_fn, setV_at, cntS, nI_pos, nI_clamp, nI_leI, nI_ltI, nI_eq, nI_1, if_true, if_false, not_true, not_false, and_self, and_true, true_and, false_and, and_false, or_false, false_or, or_true, true_or, not_false_eq_true, ite_self, ite_true, ite_false, reduceIte, Nat.reduceEqDiff, Nat.reduceMul, Nat.reduceAdd, Nat.reduceLT, Nat.reducePow, ne_eq]
      by_cases z1 : V 2234 0 m < V 2239 0 m + n
      · simp [z1]
      · by_cases z2 : V 2239 0 m + n ≤ V 2235 0 m * V 2236 0 m
        · simp [z1, z2]
        · simp [z1, z2]
    cases hk : kd with
    | true =>
      obtain ⟨g1, g2, g3⟩ := hkd hk
      have g4 := k10 c (by omega)
      simp (disch := omega) only [F_X11_whyNotMade_35, f_X11_yardsFor, ct, cm, w1, w2, w3, w4, q2, q5, q7, g1, g3, g4, roundedUp_eq (show (0 : Int32) < 36 by decide), t2, bd_some, n10, n00, bv_eq, within_eq, in_eq, gd_T, gd_t, i00, i10, c_0, c_1, c_m1, ite10, ite01, setV_fn, setV_at, cntS, nI_pos, nI_clamp, nI_leI, nI_ltI, nI_eq, nI_1, if_true, if_false, not_true, not_false, and_self, and_true, true_and, false_and, and_false, or_false, false_or, or_true, true_or, not_false_eq_true, ite_self, ite_true, ite_false, reduceIte, Nat.reduceEqDiff, Nat.reduceMul, Nat.reduceAdd, Nat.reduceLT, Nat.reducePow, ne_eq]
      by_cases z : (V 2219 0 x * n + 36 - 1) / 36 ≤ V 2238 0 (20 * m + c)
      · simp [z]
      · simp [z]
    | false =>
      have g1 := hkd2 hk
      simp (disch := omega) only [F_X11_whyNotMade_35, ct, w1, q2, g1, t2, bd_some, n10, n00, bv_eq, within_eq, in_eq, gd_T, gd_t, i00, i10, c_0, c_1, c_m1, ite10, ite01, setV_fn, setV_at, cntS, nI_pos, nI_clamp, nI_leI, nI_ltI, nI_eq, nI_1, if_true, if_false, not_true, not_false, and_self, and_true, true_and, false_and, and_false, or_false, false_or, or_true, true_or, not_false_eq_true, ite_self, ite_true, ite_false, reduceIte, Nat.reduceEqDiff, Nat.reduceMul, Nat.reduceAdd, Nat.reduceLT, Nat.reducePow, ne_eq]
      simp
  unfold mkRef
  by_cases h1 : lastV V (-1) (V 2201 0 0) (V 2201 0 0) nO 98 (nI x) (nI m) = -1
  · rcases hb with rfl | rfl
    · refine ⟨Va, ?_, a2⟩
      simp only [f_X11_whyNotMade, a1, bd_some, h1, if_true, fin Va a2, true_or]
    · have hA1 := hA.fr a2 (by decide) (by decide) (by decide) (by decide)
      obtain ⟨Vb, b1, b2⟩ := askNow_eq (fu := fu) (L := 109) hfu hA1 (okT_nI hx) (okT_nI hm) (by decide)
      rw [a2 2101 (by decide), hnow, lastV_ag (av_fr a2 (by decide))] at b1
      refine ⟨Vb, ?_, a2.trans b2⟩
      by_cases h2 : lastV V (-1) (V 2201 0 0) (V 2201 0 0) nO 109 (nI x) (nI m) = -1
      · simp only [f_X11_whyNotMade, a1, b1, bd_some, h1, h2, if_true, n10, not_true, or_self, if_false]
      · simp only [f_X11_whyNotMade, a1, b1, bd_some, h1, h2, if_true, n10, if_false, fin Vb (a2.trans b2), not_false_eq_true, or_true]
  · refine ⟨Va, ?_, a2⟩
    simp only [f_X11_whyNotMade, a1, bd_some, h1, if_false]
