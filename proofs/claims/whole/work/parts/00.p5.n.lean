/-! makes (by program: makes.py) -/
theorem I_mak.put {V V' : St} {n m c : Nat} {d y : Int32} (h : I_mak V n) (hm : m < n) (hc : c < 20) (hF : Fr [1606, 1608, 2238, 2239] V V') (h1 : ∀ i j, V' 1608 i j = if i = m ∧ j = 0 then d else V 1608 i j) (h2 : ∀ q, V' 2239 0 q = if q = m then d else V 2239 0 q) (h3 : ∀ i j, V' 1606 i j = if i = m ∧ j = c then y else V 1606 i j) (h4 : ∀ q, V' 2238 0 q = if q = 20 * m + c then y else V 2238 0 q) : I_mak V' n := by
  obtain ⟨a1, a2, a3, a4, a5, a6, a7⟩ := h
  refine ⟨a1, by rw [hF 2106 (by decide)]; exact a2, by rw [hF 2232 (by decide)]; exact a3, fun q hq => ?_, fun q hq => ?_, fun q hq => ?_, by rw [hF 2107 (by decide), hF 2236 (by decide)]; exact a7⟩
  · rw [h2 q, if_neg (by omega), hF 2240 (by decide)]; exact a4 q hq
  · rw [h4 q, if_neg (by omega)]; exact a5 q hq
  · obtain ⟨q1, q2, q3, q4, q5, q6, q7, q8, q9, q10, q11, q12, q13⟩ := a6 q hq
    unfold MakV
    rw [hF 1601 (by decide), hF 2233 (by decide), hF 1602 (by decide), hF 2234 (by decide), hF 1603 (by decide), hF 2235 (by decide), hF 1604 (by decide), hF 2236 (by decide), hF 1605 (by decide), hF 2237 (by decide), hF 1607 (by decide), hF 2240 (by decide), h1 q 0, h2 q]
    refine ⟨q1, q2, q3, q4, q5, q6, q7, q8, q9, fun c' hc' => ?_, ?_, q12, q13⟩
    · rw [h3 q c', h4 (20 * q + c')]
      by_cases hz : q = m ∧ c' = c
      · rw [if_pos hz, if_pos (by omega)]
      · rw [if_neg hz, if_neg (by omega)]; exact q10 c' hc'
    · by_cases hz : q = m
      · rw [if_pos ⟨hz, rfl⟩, if_pos hz]
      · rw [if_neg (fun z => hz z.1), if_neg hz]; exact q11
theorem ite_id2 {c : Prop} [Decidable c] {a b : Int32} (h : c → b = a) : b = if c then a else b := by by_cases hc : c; (rw [if_pos hc]; exact h hc); (rw [if_neg hc])
theorem gd_T' {a : RR} : gd (true = true) a = a := if_pos rfl
theorem cntM {V : St} {Li n b : Nat} {gv : List Nat} {F : Nat → Nat → Int32} (h : b ≠ Li) (h2 : b ∉ gv) : cntV (mkV V Li n gv F) b = cntV V b := by unfold cntV; rw [mkV_fn h h2]
theorem I_thing.ag {V V' : St} {c n : Nat} (h : I_thing V c n) (e : ∀ v, v ∈ vI_thing → V' v = V v) : I_thing V' c n := by
  have e2001 : V' 2001 = V 2001 := e 2001 (by decide)
  have e2002 : V' 2002 = V 2002 := e 2002 (by decide)
  have e2003 : V' 2003 = V 2003 := e 2003 (by decide)
  have e2004 : V' 2004 = V 2004 := e 2004 (by decide)
  have e2005 : V' 2005 = V 2005 := e 2005 (by decide)
  have e2006 : V' 2006 = V 2006 := e 2006 (by decide)
  have e2007 : V' 2007 = V 2007 := e 2007 (by decide)
  have e2008 : V' 2008 = V 2008 := e 2008 (by decide)
  have e2009 : V' 2009 = V 2009 := e 2009 (by decide)
  have e2010 : V' 2010 = V 2010 := e 2010 (by decide)
  have e2090 : V' 2090 = V 2090 := e 2090 (by decide)
  have e2105 : V' 2105 = V 2105 := e 2105 (by decide)
  have e2204 : V' 2204 = V 2204 := e 2204 (by decide)
  have e2216 : V' 2216 = V 2216 := e 2216 (by decide)
  have e2217 : V' 2217 = V 2217 := e 2217 (by decide)
  have e2218 : V' 2218 = V 2218 := e 2218 (by decide)
  have e2219 : V' 2219 = V 2219 := e 2219 (by decide)
  have e2220 : V' 2220 = V 2220 := e 2220 (by decide)
  have e2221 : V' 2221 = V 2221 := e 2221 (by decide)
  have e2222 : V' 2222 = V 2222 := e 2222 (by decide)
  have e2223 : V' 2223 = V 2223 := e 2223 (by decide)
  have e2224 : V' 2224 = V 2224 := e 2224 (by decide)
  have e2225 : V' 2225 = V 2225 := e 2225 (by decide)
  simp only [I_thing, ThingV] at h ⊢
  simp only [e2001, e2002, e2003, e2004, e2005, e2006, e2007, e2008, e2009, e2010, e2090, e2105, e2204, e2216, e2217, e2218, e2219, e2220, e2221, e2222, e2223, e2224, e2225]
  exact h
theorem I_mak.ag {V V' : St} {n : Nat} (h : I_mak V n) (e : ∀ v, v ∈ vI_mak → V' v = V v) : I_mak V' n := by
  have e1601 : V' 1601 = V 1601 := e 1601 (by decide)
  have e1602 : V' 1602 = V 1602 := e 1602 (by decide)
  have e1603 : V' 1603 = V 1603 := e 1603 (by decide)
  have e1604 : V' 1604 = V 1604 := e 1604 (by decide)
  have e1605 : V' 1605 = V 1605 := e 1605 (by decide)
  have e1606 : V' 1606 = V 1606 := e 1606 (by decide)
  have e1607 : V' 1607 = V 1607 := e 1607 (by decide)
  have e1608 : V' 1608 = V 1608 := e 1608 (by decide)
  have e2106 : V' 2106 = V 2106 := e 2106 (by decide)
  have e2107 : V' 2107 = V 2107 := e 2107 (by decide)
  have e2232 : V' 2232 = V 2232 := e 2232 (by decide)
  have e2233 : V' 2233 = V 2233 := e 2233 (by decide)
  have e2234 : V' 2234 = V 2234 := e 2234 (by decide)
  have e2235 : V' 2235 = V 2235 := e 2235 (by decide)
  have e2236 : V' 2236 = V 2236 := e 2236 (by decide)
  have e2237 : V' 2237 = V 2237 := e 2237 (by decide)
  have e2238 : V' 2238 = V 2238 := e 2238 (by decide)
  have e2239 : V' 2239 = V 2239 := e 2239 (by decide)
  have e2240 : V' 2240 = V 2240 := e 2240 (by decide)
  simp only [I_mak, MakV] at h ⊢
  simp only [e1601, e1602, e1603, e1604, e1605, e1606, e1607, e1608, e2106, e2107, e2232, e2233, e2234, e2235, e2236, e2237, e2238, e2239, e2240]
  exact h
theorem nowN {V : St} (h : I_misc V) : ∃ w, w < 500 ∧ V 2201 0 0 = nI w := by
  obtain ⟨j, hj, e⟩ := nI_of2 (x := V 2201 0 0) (M := 499) (n := 499) (by decide) (by have := h.2.1; grind) h.2.2.1
  exact ⟨j, by omega, e⟩
theorem makes_0true {fu k m x c nC nD nT nM nP nK nS nR nL nO : Nat} {V : St} {n : Int32} (hfu : 1000 ≤ fu) (hk : k < 512) (hI' : Inv k V) (hL : nL ≤ k) (hmi : I_misc V) (hta : I_tape V) (hcl : I_cloth V nC) (hdr : I_draw V nD) (hth : I_thing V nC nT) (hla : I_lay V nT) (hma : I_mak V nM) (hor : I_ord V nO) (hpe : I_pers V nP) (hdo : I_dock V nT nK) (hse : I_seen V nS) (hru : I_rub V nR) (hmk : I_marks V nT nM nL) (hm : m < nM) (hx : x < nT) (hn : 1 ≤ n ∧ n ≤ 10000) (hs : V 2221 0 x + n ≤ 1000000) (hk0 : V 2216 0 x = 0) (hcn : c < nC) (hk1 : V 2217 0 x = nI c) : Step k (fun V => f_X11_makes fu V (nI m) (nI x) n 0) (fun V => f_X12_makes fu V (nI m) (nI x) n 0) V := by
  have hA : Ask V nC nT nM nO := ⟨hcl, hth, hma, hor⟩
  have hwo := hmi.2.2.2.2
  have hnow := hmi.1
  have h30 := hth.1
  have h12 := hma.1
  have h20 := hcl.1
  obtain ⟨w, hw, hwn⟩ := nowN hmi
  obtain ⟨W0, w1, w2⟩ := whyNot_eq (fu := fu) (n := n) (b := 0) (kd := true) (c := c) hfu hA hnow hm hx (.inl rfl) (fun _ => ⟨hk0, hcn, hk1⟩) (fun q => by cases q)
  obtain ⟨p, len, wid, q⟩ := hth.2.2.2.2 x hx
  obtain ⟨-, q2, -, -, q5, -, q7, -, q9, q10, q11, q12, q13, q14, -⟩ := q
  obtain ⟨k1, k2, k3, k4, k5, k6, k7, k8, k9, k10, k11, -⟩ := hma.2.2.2.2.2.1 m hm
  have ct : cntV V 2105 = nT := cnt_n (by decide) (by omega) hth.2.1
  have ct0 : cntV W0 2105 = nT := cnt_n (by decide) (by omega) (by rw [w2 2105 (by decide)]; exact hth.2.1)
  have cm0 : cntV W0 2106 = nM := cnt_n (by decide) (by omega) (by rw [w2 2106 (by decide)]; exact hma.2.1)
  have hs2 : ¬ 1000000 < V 2221 0 x + n := by grind
  have hml : nI nL < 512 := nI_lt (b := 512) (by omega) (by decide)
  have m0 := hmk.1
  by_cases hz : mkRef V nO m x n 0 true c = 0
  · have x1 := w2 2001 (by decide); have x2 := w2 2002 (by decide); have x3 := w2 2005 (by decide); have x4 := w2 1606 (by decide); have x5 := w2 1608 (by decide); have x6 := w2 2006 (by decide); have x7 := w2 2112 (by decide); have x8 := w2 2101 (by decide)
    rw [hz] at w1
    have hF1s : Fr [1606, 1608, 2006, 1402, 1403, 1404, 1405, 1406, 1407, 1408] V (setV (setV (setV (W0) 1606 m c (V 2238 0 (20 * m + c) - (V 2219 0 x * n + 36 - 1) / 36)) 1608 m 0 (V 2239 0 m + n)) 2006 x 0 (V 2221 0 x + n)) := ((((w2.weak (by decide))).set (by decide)).set (by decide)).set (by decide)
    have hF1 : Fr cws V (setV (setV (setV (W0) 1606 m c (V 2238 0 (20 * m + c) - (V 2219 0 x * n + 36 - 1) / 36)) 1608 m 0 (V 2239 0 m + n)) 2006 x 0 (V 2221 0 x + n)) := hF1s.weak (by decide)
    obtain ⟨U1, u1, u2⟩ := refMakes (fu := fu) (n := n) (b := 0) (s0 := V 2221 0 x) (kd := true) (c := c) hfu hA hwo hF1 hs hm hx (.inl rfl) (fun _ => ⟨hk0, hcn, hk1⟩) (fun q => by cases q)
    rw [if_pos hz] at u2
    have hFu : ∀ v, v ∉ cws → v ∉ rsc → U1 v = V v := fun v h1 h2 => by rw [u1 v h2, hF1 v h1]
    refine ⟨V 2222 0 x + (V 2221 0 x + n), setV (setV (setV (W0) 1606 m c (V 2238 0 (20 * m + c) - (V 2219 0 x * n + 36 - 1) / 36)) 1608 m 0 (V 2239 0 m + n)) 2006 x 0 (V 2221 0 x + n), setV (setV (setV (U1) 2238 0 (20 * m + c) (V 2238 0 (20 * m + c) - (V 2219 0 x * n + 36 - 1) / 36)) 2239 0 m (V 2239 0 m + n)) 2221 0 x (V 2221 0 x + n), ?_, ?_, ?_⟩
    · have hcm : V 2221 0 x + n + V 2222 0 x = V 2222 0 x + (V 2221 0 x + n) := by grind
      have g4 := k10 c (by omega)
      show f_X11_makes fu V (nI m) (nI x) n 0 = _
      have stA : f_X11_makes fu V (nI m) (nI x) n 0 = F_X11_makes_128 fu (setV (W0) 1606 m c (V 2238 0 (20 * m + c) - (V 2219 0 x * n + 36 - 1) / 36)) (nI m) (nI x) n 0 (nI m) (nI x) 0 := by
        simp (disch := omega) only [f_X11_makes, F_X11_makes_47, findThing_ok hth.2.1 (show nT ≤ 1000 by omega) hx, findMaker_ok hma.2.1 (show nM ≤ 1000 by omega) hm, hn, ct, ct0, cm0, q9, q10, hs2, m0, hml, w1, x1, x2, x3, x4, q2, q5, q7, hk0, g4, hk1, roundedUp_eq (show (0 : Int32) < 36 by decide), f_X11_yardsFor, bd_some, n10, n00, bv_eq, within_eq, in_eq, gd_T, gd_t, i00, i10, c_0, c_1, c_m1, ite10, ite01, setV_fn, setV_at, cntS, nI_pos, nI_clamp, nI_leI, nI_ltI, nI_eq, nI_1, if_true, if_false, not_true, not_false, and_self, and_true, true_and, false_and, and_false, or_false, false_or, or_true, true_or, not_false_eq_true, ite_self, ite_true, ite_false, reduceIte, Nat.reduceEqDiff, Nat.reduceMul, Nat.reduceAdd, Nat.reduceLT, Nat.reducePow, ne_eq]
      rw [stA]
      simp (disch := omega) only [F_X11_makes_128, F_X11_makes_178, ct0, cm0, x5, x6, k11, q9, q10, bd_some, n10, n00, bv_eq, within_eq, in_eq, gd_T, gd_t, i00, i10, c_0, c_1, c_m1, ite10, ite01, setV_fn, setV_at, cntS, nI_pos, nI_clamp, nI_leI, nI_ltI, nI_eq, nI_1, if_true, if_false, not_true, not_false, and_self, and_true, true_and, false_and, and_false, or_false, false_or, or_true, true_or, not_false_eq_true, ite_self, ite_true, ite_false, reduceIte, Nat.reduceEqDiff, Nat.reduceMul, Nat.reduceAdd, Nat.reduceLT, Nat.reducePow, ne_eq]
      rw [hcm]
    · have p1 : ∀ W : St, W 2204 0 0 = nI nT → f_X12_isThing fu W (nI x) = some (1, W) := fun W hW => isThing_ok hW (by omega) hx
      have p2 : ∀ W : St, W 2232 0 0 = nI nM → f_X12_isMaker fu W (nI m) = some (1, W) := fun W hW => isMaker_ok hW (by omega) hm
      show f_X12_makes fu _ (nI m) (nI x) n 0 = _
      unfold f_X12_makes
      rw [p2 _ (by rw [hF1 2232 (by decide)]; exact hma.2.2.1), bd_some, if_neg (by decide), p1 _ (by rw [hF1 2204 (by decide)]; exact hth.2.2.1), bd_some, if_neg (by decide), in_eq, bd_some, if_pos hn, if_neg (by decide), if_pos rfl, nI_clamp (by omega), hF1 2221 (by decide), gd_t (by intro q; rcases q with q | q; exact nI_pos (by omega) q; omega), u2]
      have y1 := hFu 2239 (by decide) (by decide); have y2 := hFu 2221 (by decide) (by decide); have y3 := hFu 2222 (by decide) (by decide); have y4 := hFu 2275 (by decide) (by decide); have y5 := hFu 2201 (by decide) (by decide)
      simp (disch := omega) only [F_X12_makes_245, Bool.false_eq_true, y1, y2, y3, y4, y5, hwn, ix15, ix5h, nI_add, bd_some, n10, n00, bv_eq, within_eq, in_eq, gd_T, gd_t, i00, i10, c_0, c_1, c_m1, ite10, ite01, setV_fn, setV_at, cntS, nI_pos, nI_clamp, nI_leI, nI_ltI, nI_eq, nI_1, if_true, if_false, not_true, not_false, and_self, and_true, true_and, false_and, and_false, or_false, false_or, or_true, true_or, not_false_eq_true, ite_self, ite_true, ite_false, reduceIte, Nat.reduceEqDiff, Nat.reduceMul, Nat.reduceAdd, Nat.reduceLT, Nat.reducePow, ne_eq]
    · have hF2 : Fr [1606, 1608, 2006, 1402, 1403, 1404, 1405, 1406, 1407, 1408, 2270, 2271, 2272, 2273, 2274, 2238, 2239, 2221] V (setV (setV (setV (U1) 2238 0 (20 * m + c) (V 2238 0 (20 * m + c) - (V 2219 0 x * n + 36 - 1) / 36)) 2239 0 m (V 2239 0 m + n)) 2221 0 x (V 2221 0 x + n)) := (((((hF1s.weak (by decide)).trans (u1.weak (by decide)))).set (by decide)).set (by decide)).set (by decide)
      have r1 : ∀ v, v ∉ rsc → U1 v = (setV (setV (setV (W0) 1606 m c (V 2238 0 (20 * m + c) - (V 2219 0 x * n + 36 - 1) / 36)) 1608 m 0 (V 2239 0 m + n)) 2006 x 0 (V 2221 0 x + n)) v := fun v hv => u1 v hv
      have e1608 := r1 1608 (by decide); have e1606 := r1 1606 (by decide); have e2006 := r1 2006 (by decide)
      have e2238 := hFu 2238 (by decide) (by decide); have e2239 := hFu 2239 (by decide) (by decide); have erv := hFu 2221 (by decide) (by decide)
      have x5 := w2 1608 (by decide); have x4 := w2 1606 (by decide); have x6 := w2 2006 (by decide)
      refine ⟨nC, nD, nT, nM, nP, nK, nS, nR, nL, nO, by omega, hmi.fr hF2 rfl, hta.fr hF2 rfl, hcl.fr hF2 rfl, hdr.fr hF2 rfl, ?_, hla.fr hF2 rfl, ?_, hor.fr hF2 rfl, hpe.fr hF2 rfl, hdo.fr hF2 rfl, hse.fr hF2 rfl, hru.fr hF2 rfl, hmk.fr hF2 rfl⟩
      · have hG : Fr [2006, 2221 + 0] V (fun v => if v = 2006 then (setV (setV (setV (U1) 2238 0 (20 * m + c) (V 2238 0 (20 * m + c) - (V 2219 0 x * n + 36 - 1) / 36)) 2239 0 m (V 2239 0 m + n)) 2221 0 x (V 2221 0 x + n)) 2006 else if v = 2221 then (setV (setV (setV (U1) 2238 0 (20 * m + c) (V 2238 0 (20 * m + c) - (V 2219 0 x * n + 36 - 1) / 36)) 2239 0 m (V 2239 0 m + n)) 2221 0 x (V 2221 0 x + n)) 2221 else V v) := fun v hv => by
          have h1 : v ≠ 2006 := fun q => hv (by rw [q]; decide)
          have h2 : v ≠ 2221 := fun q => hv (by rw [q]; decide)
          simp [h1, h2]
        have hp := hth.put (b := 0) (x := x) (v := V 2221 0 x + n) (by decide) (by grind) hs hx hG (fun i j => by
          show (setV (setV (setV (U1) 2238 0 (20 * m + c) (V 2238 0 (20 * m + c) - (V 2219 0 x * n + 36 - 1) / 36)) 2239 0 m (V 2239 0 m + n)) 2221 0 x (V 2221 0 x + n)) 2006 i j = _
          simp (disch := first | omega | decide) only [setV_fn, setV_at, mkV_fn]; rw [e2006]; simp (disch := first | omega | decide) only [setV_fn, setV_at, mkV_fn]; rw [x6]) (fun q => by
          show (setV (setV (setV (U1) 2238 0 (20 * m + c) (V 2238 0 (20 * m + c) - (V 2219 0 x * n + 36 - 1) / 36)) 2239 0 m (V 2239 0 m + n)) 2221 0 x (V 2221 0 x + n)) 2221 0 q = _
          simp (disch := first | omega | decide) only [setV_fn, setV_at, mkV_fn]; rw [erv]; simp)
        refine hp.ag (fun v hv => ?_)
        show _ = (if v = 2006 then (setV (setV (setV (U1) 2238 0 (20 * m + c) (V 2238 0 (20 * m + c) - (V 2219 0 x * n + 36 - 1) / 36)) 2239 0 m (V 2239 0 m + n)) 2221 0 x (V 2221 0 x + n)) 2006 else if v = 2221 then (setV (setV (setV (U1) 2238 0 (20 * m + c) (V 2238 0 (20 * m + c) - (V 2219 0 x * n + 36 - 1) / 36)) 2239 0 m (V 2239 0 m + n)) 2221 0 x (V 2221 0 x + n)) 2221 else V v)
        by_cases h1 : v = 2006
        · rw [if_pos h1, h1]
        · by_cases h2 : v = 2221
          · rw [if_neg h1, if_pos h2, h2]
          · rw [if_neg h1, if_neg h2]
            exact hF2 v ((show ∀ v, v ∈ vI_thing → v ≠ 2006 → v ≠ 2221 → v ∉ [1606, 1608, 2006, 1402, 1403, 1404, 1405, 1406, 1407, 1408, 2270, 2271, 2272, 2273, 2274, 2238, 2239, 2221] by decide) v hv h1 h2)
      · have hG : Fr [1606, 1608, 2238, 2239] V (fun v => if v = 1606 ∨ v = 1608 ∨ v = 2238 ∨ v = 2239 then (setV (setV (setV (U1) 2238 0 (20 * m + c) (V 2238 0 (20 * m + c) - (V 2219 0 x * n + 36 - 1) / 36)) 2239 0 m (V 2239 0 m + n)) 2221 0 x (V 2221 0 x + n)) v else V v) := fun v hv => by
          have h1 : ¬ (v = 1606 ∨ v = 1608 ∨ v = 2238 ∨ v = 2239) := fun q => hv (by rcases q with rfl | rfl | rfl | rfl <;> decide)
          simp only [h1, if_false]
        have hp := hma.put (m := m) (c := c) (d := V 2239 0 m + n) (y := V 2238 0 (20 * m + c) - (V 2219 0 x * n + 36 - 1) / 36) hm (by omega) hG (fun i j => by
          show (setV (setV (setV (U1) 2238 0 (20 * m + c) (V 2238 0 (20 * m + c) - (V 2219 0 x * n + 36 - 1) / 36)) 2239 0 m (V 2239 0 m + n)) 2221 0 x (V 2221 0 x + n)) 1608 i j = _
          simp (disch := first | omega | decide) only [setV_fn, setV_at, mkV_fn]; rw [e1608]; simp (disch := first | omega | decide) only [setV_fn, setV_at, mkV_fn]; rw [x5]) (fun q => by
          show (setV (setV (setV (U1) 2238 0 (20 * m + c) (V 2238 0 (20 * m + c) - (V 2219 0 x * n + 36 - 1) / 36)) 2239 0 m (V 2239 0 m + n)) 2221 0 x (V 2221 0 x + n)) 2239 0 q = _
          simp (disch := first | omega | decide) only [setV_fn, setV_at, mkV_fn]; rw [e2239]; simp) (fun i j => by
          show (setV (setV (setV (U1) 2238 0 (20 * m + c) (V 2238 0 (20 * m + c) - (V 2219 0 x * n + 36 - 1) / 36)) 2239 0 m (V 2239 0 m + n)) 2221 0 x (V 2221 0 x + n)) 1606 i j = _
          simp (disch := first | omega | decide) only [setV_fn, setV_at, mkV_fn]; rw [e1606]; simp (disch := first | omega | decide) only [setV_fn, setV_at, mkV_fn]; rw [x4]) (fun q => by
          show (setV (setV (setV (U1) 2238 0 (20 * m + c) (V 2238 0 (20 * m + c) - (V 2219 0 x * n + 36 - 1) / 36)) 2239 0 m (V 2239 0 m + n)) 2221 0 x (V 2221 0 x + n)) 2238 0 q = _
          simp (disch := first | omega | decide) only [setV_fn, setV_at, mkV_fn]; rw [e2238]; simp)
        refine hp.ag (fun v hv => ?_)
        show _ = (if v = 1606 ∨ v = 1608 ∨ v = 2238 ∨ v = 2239 then (setV (setV (setV (U1) 2238 0 (20 * m + c) (V 2238 0 (20 * m + c) - (V 2219 0 x * n + 36 - 1) / 36)) 2239 0 m (V 2239 0 m + n)) 2221 0 x (V 2221 0 x + n)) v else V v)
        by_cases h1 : v = 1606 ∨ v = 1608 ∨ v = 2238 ∨ v = 2239
        · rw [if_pos h1]
        · rw [if_neg h1]
          exact hF2 v ((show ∀ v, v ∈ vI_mak → ¬ (v = 1606 ∨ v = 1608 ∨ v = 2238 ∨ v = 2239) → v ∉ [1606, 1608, 2006, 1402, 1403, 1404, 1405, 1406, 1407, 1408, 2270, 2271, 2272, 2273, 2274, 2238, 2239, 2221] by decide) v hv h1)
  · have hF1 : Fr cws V W0 := w2.weak (by decide)
    obtain ⟨U1, u1, u2⟩ := refMakes (fu := fu) (n := n) (b := 0) (s0 := V 2221 0 x) (kd := true) (c := c) hfu hA hwo hF1 hs hm hx (.inl rfl) (fun _ => ⟨hk0, hcn, hk1⟩) (fun q => by cases q)
    rw [if_neg hz] at u2
    refine ⟨mkRef V nO m x n 0 true c, W0, U1, ?_, ?_, hI'.scr ((w2.weak (by decide)).trans (u1.weak (by decide)))⟩
    · show f_X11_makes fu V (nI m) (nI x) n 0 = _
      simp (disch := omega) only [f_X11_makes, F_X11_makes_47, findThing_ok hth.2.1 (show nT ≤ 1000 by omega) hx, findMaker_ok hma.2.1 (show nM ≤ 1000 by omega) hm, hn, ct, q9, q10, hs2, m0, hml, w1, hz, bd_some, n10, n00, bv_eq, within_eq, in_eq, gd_T, gd_t, i00, i10, c_0, c_1, c_m1, ite10, ite01, setV_fn, setV_at, cntS, nI_pos, nI_clamp, nI_leI, nI_ltI, nI_eq, nI_1, if_true, if_false, not_true, not_false, and_self, and_true, true_and, false_and, and_false, or_false, false_or, or_true, true_or, not_false_eq_true, ite_self, ite_true, ite_false, reduceIte, Nat.reduceEqDiff, Nat.reduceMul, Nat.reduceAdd, Nat.reduceLT, Nat.reducePow, ne_eq]
    · have p1 : ∀ W : St, W 2204 0 0 = nI nT → f_X12_isThing fu W (nI x) = some (1, W) := fun W hW => isThing_ok hW (by omega) hx
      have p2 : ∀ W : St, W 2232 0 0 = nI nM → f_X12_isMaker fu W (nI m) = some (1, W) := fun W hW => isMaker_ok hW (by omega) hm
      show f_X12_makes fu _ (nI m) (nI x) n 0 = _
      unfold f_X12_makes
      rw [p2 _ (by rw [hF1 2232 (by decide)]; exact hma.2.2.1), bd_some, if_neg (by decide), p1 _ (by rw [hF1 2204 (by decide)]; exact hth.2.2.1), bd_some, if_neg (by decide), in_eq, bd_some, if_pos hn, if_neg (by decide), if_pos rfl, nI_clamp (by omega), hF1 2221 (by decide), gd_t (by intro q; rcases q with q | q; exact nI_pos (by omega) q; omega), u2]
theorem makes_0false {fu k m x nC nD nT nM nP nK nS nR nL nO : Nat} {V : St} {n : Int32} (hfu : 1000 ≤ fu) (hk : k < 512) (hI' : Inv k V) (hL : nL ≤ k) (hmi : I_misc V) (hta : I_tape V) (hcl : I_cloth V nC) (hdr : I_draw V nD) (hth : I_thing V nC nT) (hla : I_lay V nT) (hma : I_mak V nM) (hor : I_ord V nO) (hpe : I_pers V nP) (hdo : I_dock V nT nK) (hse : I_seen V nS) (hru : I_rub V nR) (hmk : I_marks V nT nM nL) (hm : m < nM) (hx : x < nT) (hn : 1 ≤ n ∧ n ≤ 10000) (hs : V 2221 0 x + n ≤ 1000000) (hk0 : ¬ V 2216 0 x = 0) : Step k (fun V => f_X11_makes fu V (nI m) (nI x) n 0) (fun V => f_X12_makes fu V (nI m) (nI x) n 0) V := by
  have hA : Ask V nC nT nM nO := ⟨hcl, hth, hma, hor⟩
  have hwo := hmi.2.2.2.2
  have hnow := hmi.1
  have h30 := hth.1
  have h12 := hma.1
  have h20 := hcl.1
  obtain ⟨w, hw, hwn⟩ := nowN hmi
  obtain ⟨W0, w1, w2⟩ := whyNot_eq (fu := fu) (n := n) (b := 0) (kd := false) (c := 0) hfu hA hnow hm hx (.inl rfl) (fun q => by cases q) (fun _ => hk0)
  obtain ⟨p, len, wid, q⟩ := hth.2.2.2.2 x hx
  obtain ⟨-, q2, -, -, q5, -, q7, -, q9, q10, q11, q12, q13, q14, -⟩ := q
  obtain ⟨k1, k2, k3, k4, k5, k6, k7, k8, k9, k10, k11, -⟩ := hma.2.2.2.2.2.1 m hm
  have ct : cntV V 2105 = nT := cnt_n (by decide) (by omega) hth.2.1
  have ct0 : cntV W0 2105 = nT := cnt_n (by decide) (by omega) (by rw [w2 2105 (by decide)]; exact hth.2.1)
  have cm0 : cntV W0 2106 = nM := cnt_n (by decide) (by omega) (by rw [w2 2106 (by decide)]; exact hma.2.1)
  have hs2 : ¬ 1000000 < V 2221 0 x + n := by grind
  have hml : nI nL < 512 := nI_lt (b := 512) (by omega) (by decide)
  have m0 := hmk.1
  by_cases hz : mkRef V nO m x n 0 false 0 = 0
  · have x1 := w2 2001 (by decide); have x2 := w2 2002 (by decide); have x3 := w2 2005 (by decide); have x4 := w2 1606 (by decide); have x5 := w2 1608 (by decide); have x6 := w2 2006 (by decide); have x7 := w2 2112 (by decide); have x8 := w2 2101 (by decide)
    rw [hz] at w1
    have hF1s : Fr [1606, 1608, 2006, 1402, 1403, 1404, 1405, 1406, 1407, 1408] V (setV (setV (W0) 1608 m 0 (V 2239 0 m + n)) 2006 x 0 (V 2221 0 x + n)) := (((w2.weak (by decide))).set (by decide)).set (by decide)
    have hF1 : Fr cws V (setV (setV (W0) 1608 m 0 (V 2239 0 m + n)) 2006 x 0 (V 2221 0 x + n)) := hF1s.weak (by decide)
    obtain ⟨U1, u1, u2⟩ := refMakes (fu := fu) (n := n) (b := 0) (s0 := V 2221 0 x) (kd := false) (c := 0) hfu hA hwo hF1 hs hm hx (.inl rfl) (fun q => by cases q) (fun _ => hk0)
    rw [if_pos hz] at u2
    have hFu : ∀ v, v ∉ cws → v ∉ rsc → U1 v = V v := fun v h1 h2 => by rw [u1 v h2, hF1 v h1]
    refine ⟨V 2222 0 x + (V 2221 0 x + n), setV (setV (W0) 1608 m 0 (V 2239 0 m + n)) 2006 x 0 (V 2221 0 x + n), setV (setV (U1) 2239 0 m (V 2239 0 m + n)) 2221 0 x (V 2221 0 x + n), ?_, ?_, ?_⟩
    · have hcm : V 2221 0 x + n + V 2222 0 x = V 2222 0 x + (V 2221 0 x + n) := by grind
      show f_X11_makes fu V (nI m) (nI x) n 0 = _
      have stA : f_X11_makes fu V (nI m) (nI x) n 0 = F_X11_makes_128 fu (W0) (nI m) (nI x) n 0 (nI m) (nI x) 0 := by
        simp (disch := omega) only [f_X11_makes, F_X11_makes_47, findThing_ok hth.2.1 (show nT ≤ 1000 by omega) hx, findMaker_ok hma.2.1 (show nM ≤ 1000 by omega) hm, hn, ct, ct0, cm0, q9, q10, hs2, m0, hml, w1, x1, x2, x3, x4, q2, q5, q7, hk0, f_X11_yardsFor, bd_some, n10, n00, bv_eq, within_eq, in_eq, gd_T, gd_t, i00, i10, c_0, c_1, c_m1, ite10, ite01, setV_fn, setV_at, cntS, nI_pos, nI_clamp, nI_leI, nI_ltI, nI_eq, nI_1, if_true, if_false, not_true, not_false, and_self, and_true, true_and, false_and, and_false, or_false, false_or, or_true, true_or, not_false_eq_true, ite_self, ite_true, ite_false, reduceIte, Nat.reduceEqDiff, Nat.reduceMul, Nat.reduceAdd, Nat.reduceLT, Nat.reducePow, ne_eq]
      rw [stA]
      simp (disch := omega) only [F_X11_makes_128, F_X11_makes_178, ct0, cm0, x5, x6, k11, q9, q10, bd_some, n10, n00, bv_eq, within_eq, in_eq, gd_T, gd_t, i00, i10, c_0, c_1, c_m1, ite10, ite01, setV_fn, setV_at, cntS, nI_pos, nI_clamp, nI_leI, nI_ltI, nI_eq, nI_1, if_true, if_false, not_true, not_false, and_self, and_true, true_and, false_and, and_false, or_false, false_or, or_true, true_or, not_false_eq_true, ite_self, ite_true, ite_false, reduceIte, Nat.reduceEqDiff, Nat.reduceMul, Nat.reduceAdd, Nat.reduceLT, Nat.reducePow, ne_eq]
      rw [hcm]
    · have p1 : ∀ W : St, W 2204 0 0 = nI nT → f_X12_isThing fu W (nI x) = some (1, W) := fun W hW => isThing_ok hW (by omega) hx
      have p2 : ∀ W : St, W 2232 0 0 = nI nM → f_X12_isMaker fu W (nI m) = some (1, W) := fun W hW => isMaker_ok hW (by omega) hm
      show f_X12_makes fu _ (nI m) (nI x) n 0 = _
      unfold f_X12_makes
      rw [p2 _ (by rw [hF1 2232 (by decide)]; exact hma.2.2.1), bd_some, if_neg (by decide), p1 _ (by rw [hF1 2204 (by decide)]; exact hth.2.2.1), bd_some, if_neg (by decide), in_eq, bd_some, if_pos hn, if_neg (by decide), if_pos rfl, nI_clamp (by omega), hF1 2221 (by decide), gd_t (by intro q; rcases q with q | q; exact nI_pos (by omega) q; omega), u2]
      have y1 := hFu 2239 (by decide) (by decide); have y2 := hFu 2221 (by decide) (by decide); have y3 := hFu 2222 (by decide) (by decide); have y4 := hFu 2275 (by decide) (by decide); have y5 := hFu 2201 (by decide) (by decide)
      simp (disch := omega) only [F_X12_makes_245, Bool.false_eq_true, y1, y2, y3, y4, y5, hwn, ix15, ix5h, nI_add, bd_some, n10, n00, bv_eq, within_eq, in_eq, gd_T, gd_t, i00, i10, c_0, c_1, c_m1, ite10, ite01, setV_fn, setV_at, cntS, nI_pos, nI_clamp, nI_leI, nI_ltI, nI_eq, nI_1, if_true, if_false, not_true, not_false, and_self, and_true, true_and, false_and, and_false, or_false, false_or, or_true, true_or, not_false_eq_true, ite_self, ite_true, ite_false, reduceIte, Nat.reduceEqDiff, Nat.reduceMul, Nat.reduceAdd, Nat.reduceLT, Nat.reducePow, ne_eq]
    · have hF2 : Fr [1606, 1608, 2006, 1402, 1403, 1404, 1405, 1406, 1407, 1408, 2270, 2271, 2272, 2273, 2274, 2238, 2239, 2221] V (setV (setV (U1) 2239 0 m (V 2239 0 m + n)) 2221 0 x (V 2221 0 x + n)) := ((((hF1s.weak (by decide)).trans (u1.weak (by decide)))).set (by decide)).set (by decide)
      have r1 : ∀ v, v ∉ rsc → U1 v = (setV (setV (W0) 1608 m 0 (V 2239 0 m + n)) 2006 x 0 (V 2221 0 x + n)) v := fun v hv => u1 v hv
      have e1608 := r1 1608 (by decide); have e1606 := r1 1606 (by decide); have e2006 := r1 2006 (by decide)
      have e2238 := hFu 2238 (by decide) (by decide); have e2239 := hFu 2239 (by decide) (by decide); have erv := hFu 2221 (by decide) (by decide)
      have x5 := w2 1608 (by decide); have x4 := w2 1606 (by decide); have x6 := w2 2006 (by decide)
      refine ⟨nC, nD, nT, nM, nP, nK, nS, nR, nL, nO, by omega, hmi.fr hF2 rfl, hta.fr hF2 rfl, hcl.fr hF2 rfl, hdr.fr hF2 rfl, ?_, hla.fr hF2 rfl, ?_, hor.fr hF2 rfl, hpe.fr hF2 rfl, hdo.fr hF2 rfl, hse.fr hF2 rfl, hru.fr hF2 rfl, hmk.fr hF2 rfl⟩
      · have hG : Fr [2006, 2221 + 0] V (fun v => if v = 2006 then (setV (setV (U1) 2239 0 m (V 2239 0 m + n)) 2221 0 x (V 2221 0 x + n)) 2006 else if v = 2221 then (setV (setV (U1) 2239 0 m (V 2239 0 m + n)) 2221 0 x (V 2221 0 x + n)) 2221 else V v) := fun v hv => by
          have h1 : v ≠ 2006 := fun q => hv (by rw [q]; decide)
          have h2 : v ≠ 2221 := fun q => hv (by rw [q]; decide)
          simp [h1, h2]
        have hp := hth.put (b := 0) (x := x) (v := V 2221 0 x + n) (by decide) (by grind) hs hx hG (fun i j => by
          show (setV (setV (U1) 2239 0 m (V 2239 0 m + n)) 2221 0 x (V 2221 0 x + n)) 2006 i j = _
          simp (disch := first | omega | decide) only [setV_fn, setV_at, mkV_fn]; rw [e2006]; simp (disch := first | omega | decide) only [setV_fn, setV_at, mkV_fn]; rw [x6]) (fun q => by
          show (setV (setV (U1) 2239 0 m (V 2239 0 m + n)) 2221 0 x (V 2221 0 x + n)) 2221 0 q = _
          simp (disch := first | omega | decide) only [setV_fn, setV_at, mkV_fn]; rw [erv]; simp)
        refine hp.ag (fun v hv => ?_)
        show _ = (if v = 2006 then (setV (setV (U1) 2239 0 m (V 2239 0 m + n)) 2221 0 x (V 2221 0 x + n)) 2006 else if v = 2221 then (setV (setV (U1) 2239 0 m (V 2239 0 m + n)) 2221 0 x (V 2221 0 x + n)) 2221 else V v)
        by_cases h1 : v = 2006
        · rw [if_pos h1, h1]
        · by_cases h2 : v = 2221
          · rw [if_neg h1, if_pos h2, h2]
          · rw [if_neg h1, if_neg h2]
            exact hF2 v ((show ∀ v, v ∈ vI_thing → v ≠ 2006 → v ≠ 2221 → v ∉ [1606, 1608, 2006, 1402, 1403, 1404, 1405, 1406, 1407, 1408, 2270, 2271, 2272, 2273, 2274, 2238, 2239, 2221] by decide) v hv h1 h2)
      · have hG : Fr [1606, 1608, 2238, 2239] V (fun v => if v = 1606 ∨ v = 1608 ∨ v = 2238 ∨ v = 2239 then (setV (setV (U1) 2239 0 m (V 2239 0 m + n)) 2221 0 x (V 2221 0 x + n)) v else V v) := fun v hv => by
          have h1 : ¬ (v = 1606 ∨ v = 1608 ∨ v = 2238 ∨ v = 2239) := fun q => hv (by rcases q with rfl | rfl | rfl | rfl <;> decide)
          simp only [h1, if_false]
        have hp := hma.put (m := m) (c := 0) (d := V 2239 0 m + n) (y := V 2238 0 (20 * m + 0)) hm (by omega) hG (fun i j => by
          show (setV (setV (U1) 2239 0 m (V 2239 0 m + n)) 2221 0 x (V 2221 0 x + n)) 1608 i j = _
          simp (disch := first | omega | decide) only [setV_fn, setV_at, mkV_fn]; rw [e1608]; simp (disch := first | omega | decide) only [setV_fn, setV_at, mkV_fn]; rw [x5]) (fun q => by
          show (setV (setV (U1) 2239 0 m (V 2239 0 m + n)) 2221 0 x (V 2221 0 x + n)) 2239 0 q = _
          simp (disch := first | omega | decide) only [setV_fn, setV_at, mkV_fn]; rw [e2239]; simp) (fun i j => by
          show (setV (setV (U1) 2239 0 m (V 2239 0 m + n)) 2221 0 x (V 2221 0 x + n)) 1606 i j = _
          simp (disch := first | omega | decide) only [setV_fn, setV_at, mkV_fn]; rw [e1606]; simp (disch := first | omega | decide) only [setV_fn, setV_at, mkV_fn]; rw [x4]; exact (ite_id2 (fun hz => by rw [hz.1, hz.2]; exact k10 0 (by omega)))) (fun q => by
          show (setV (setV (U1) 2239 0 m (V 2239 0 m + n)) 2221 0 x (V 2221 0 x + n)) 2238 0 q = _
          simp (disch := first | omega | decide) only [setV_fn, setV_at, mkV_fn]; rw [e2238]; exact (ite_id2 (fun hz => by rw [hz])))
        refine hp.ag (fun v hv => ?_)
        show _ = (if v = 1606 ∨ v = 1608 ∨ v = 2238 ∨ v = 2239 then (setV (setV (U1) 2239 0 m (V 2239 0 m + n)) 2221 0 x (V 2221 0 x + n)) v else V v)
        by_cases h1 : v = 1606 ∨ v = 1608 ∨ v = 2238 ∨ v = 2239
        · rw [if_pos h1]
        · rw [if_neg h1]
          exact hF2 v ((show ∀ v, v ∈ vI_mak → ¬ (v = 1606 ∨ v = 1608 ∨ v = 2238 ∨ v = 2239) → v ∉ [1606, 1608, 2006, 1402, 1403, 1404, 1405, 1406, 1407, 1408, 2270, 2271, 2272, 2273, 2274, 2238, 2239, 2221] by decide) v hv h1)
  · have hF1 : Fr cws V W0 := w2.weak (by decide)
    obtain ⟨U1, u1, u2⟩ := refMakes (fu := fu) (n := n) (b := 0) (s0 := V 2221 0 x) (kd := false) (c := 0) hfu hA hwo hF1 hs hm hx (.inl rfl) (fun q => by cases q) (fun _ => hk0)
    rw [if_neg hz] at u2
    refine ⟨mkRef V nO m x n 0 false 0, W0, U1, ?_, ?_, hI'.scr ((w2.weak (by decide)).trans (u1.weak (by decide)))⟩
    · show f_X11_makes fu V (nI m) (nI x) n 0 = _
      simp (disch := omega) only [f_X11_makes, F_X11_makes_47, findThing_ok hth.2.1 (show nT ≤ 1000 by omega) hx, findMaker_ok hma.2.1 (show nM ≤ 1000 by omega) hm, hn, ct, q9, q10, hs2, m0, hml, w1, hz, bd_some, n10, n00, bv_eq, within_eq, in_eq, gd_T, gd_t, i00, i10, c_0, c_1, c_m1, ite10, ite01, setV_fn, setV_at, cntS, nI_pos, nI_clamp, nI_leI, nI_ltI, nI_eq, nI_1, if_true, if_false, not_true, not_false, and_self, and_true, true_and, false_and, and_false, or_false, false_or, or_true, true_or, not_false_eq_true, ite_self, ite_true, ite_false, reduceIte, Nat.reduceEqDiff, Nat.reduceMul, Nat.reduceAdd, Nat.reduceLT, Nat.reducePow, ne_eq]
    · have p1 : ∀ W : St, W 2204 0 0 = nI nT → f_X12_isThing fu W (nI x) = some (1, W) := fun W hW => isThing_ok hW (by omega) hx
      have p2 : ∀ W : St, W 2232 0 0 = nI nM → f_X12_isMaker fu W (nI m) = some (1, W) := fun W hW => isMaker_ok hW (by omega) hm
      show f_X12_makes fu _ (nI m) (nI x) n 0 = _
      unfold f_X12_makes
      rw [p2 _ (by rw [hF1 2232 (by decide)]; exact hma.2.2.1), bd_some, if_neg (by decide), p1 _ (by rw [hF1 2204 (by decide)]; exact hth.2.2.1), bd_some, if_neg (by decide), in_eq, bd_some, if_pos hn, if_neg (by decide), if_pos rfl, nI_clamp (by omega), hF1 2221 (by decide), gd_t (by intro q; rcases q with q | q; exact nI_pos (by omega) q; omega), u2]
theorem makes_1true {fu k m x c nC nD nT nM nP nK nS nR nL nO : Nat} {V : St} {n : Int32} (hfu : 1000 ≤ fu) (hk : k < 512) (hI' : Inv k V) (hL : nL ≤ k) (hmi : I_misc V) (hta : I_tape V) (hcl : I_cloth V nC) (hdr : I_draw V nD) (hth : I_thing V nC nT) (hla : I_lay V nT) (hma : I_mak V nM) (hor : I_ord V nO) (hpe : I_pers V nP) (hdo : I_dock V nT nK) (hse : I_seen V nS) (hru : I_rub V nR) (hmk : I_marks V nT nM nL) (hm : m < nM) (hx : x < nT) (hn : 1 ≤ n ∧ n ≤ 10000) (hs : V 2222 0 x + n ≤ 1000000) (hk0 : V 2216 0 x = 0) (hcn : c < nC) (hk1 : V 2217 0 x = nI c) : Step k (fun V => f_X11_makes fu V (nI m) (nI x) n 1) (fun V => f_X12_makes fu V (nI m) (nI x) n 1) V := by
  have hA : Ask V nC nT nM nO := ⟨hcl, hth, hma, hor⟩
  have hwo := hmi.2.2.2.2
  have hnow := hmi.1
  have h30 := hth.1
  have h12 := hma.1
  have h20 := hcl.1
  obtain ⟨w, hw, hwn⟩ := nowN hmi
  obtain ⟨W0, w1, w2⟩ := whyNot_eq (fu := fu) (n := n) (b := 1) (kd := true) (c := c) hfu hA hnow hm hx (.inr rfl) (fun _ => ⟨hk0, hcn, hk1⟩) (fun q => by cases q)
  obtain ⟨p, len, wid, q⟩ := hth.2.2.2.2 x hx
  obtain ⟨-, q2, -, -, q5, -, q7, -, q9, q10, q11, q12, q13, q14, -⟩ := q
  obtain ⟨k1, k2, k3, k4, k5, k6, k7, k8, k9, k10, k11, -⟩ := hma.2.2.2.2.2.1 m hm
  have ct : cntV V 2105 = nT := cnt_n (by decide) (by omega) hth.2.1
  have ct0 : cntV W0 2105 = nT := cnt_n (by decide) (by omega) (by rw [w2 2105 (by decide)]; exact hth.2.1)
  have cm0 : cntV W0 2106 = nM := cnt_n (by decide) (by omega) (by rw [w2 2106 (by decide)]; exact hma.2.1)
  have hs2 : ¬ 1000000 < V 2222 0 x + n := by grind
  have hml : nI nL < 512 := nI_lt (b := 512) (by omega) (by decide)
  have m0 := hmk.1
  by_cases hz : mkRef V nO m x n 1 true c = 0
  · have x1 := w2 2001 (by decide); have x2 := w2 2002 (by decide); have x3 := w2 2005 (by decide); have x4 := w2 1606 (by decide); have x5 := w2 1608 (by decide); have x6 := w2 2006 (by decide); have x7 := w2 2112 (by decide); have x8 := w2 2101 (by decide)
    rw [hz] at w1
    have hok : mkOK (setV (setV (setV (W0) 1606 m c (V 2238 0 (20 * m + c) - (V 2219 0 x * n + 36 - 1) / 36)) 1608 m 0 (V 2239 0 m + n)) 2006 x 1 (V 2222 0 x + n)) 2112 = true := mkOK_ag (n := nL) hcl hth hla (fun v hv => by
      have hne : ∀ u, u ∈ [1606, 1608, 2006] → v ≠ u := fun u hu => by intro q; subst q; revert hu hv; revert v; decide
      rw [setV_fn (hne 2006 (by decide)), setV_fn (hne 1608 (by decide)), setV_fn (hne 1606 (by decide))]
      exact w2 v ((show ∀ v, v ∈ [1506, 2003, 2103, 2105] → v ∉ scr by decide) v hv)) (by simp (disch := omega) only [setV_fn]; rw [x7]; exact m0) (by omega)
    have hF1s : Fr [1606, 1608, 2006, 2112, 1361, 1362, 1363, 1364, 1402, 1403, 1404, 1405, 1406, 1407, 1408] V (mkV (setV (setV (setV (W0) 1606 m c (V 2238 0 (20 * m + c) - (V 2219 0 x * n + 36 - 1) / 36)) 1608 m 0 (V 2239 0 m + n)) 2006 x 1 (V 2222 0 x + n)) 2112 nL gv_1360 (F_1360 (nI x) (nI m) (V 2201 0 0) n)) := (((((w2.weak (by decide))).set (by decide)).set (by decide)).set (by decide)).mk (by decide) (by decide)
    have hF1 : Fr cws V (mkV (setV (setV (setV (W0) 1606 m c (V 2238 0 (20 * m + c) - (V 2219 0 x * n + 36 - 1) / 36)) 1608 m 0 (V 2239 0 m + n)) 2006 x 1 (V 2222 0 x + n)) 2112 nL gv_1360 (F_1360 (nI x) (nI m) (V 2201 0 0) n)) := hF1s.weak (by decide)
    obtain ⟨U1, u1, u2⟩ := refMakes (fu := fu) (n := n) (b := 1) (s0 := V 2222 0 x) (kd := true) (c := c) hfu hA hwo hF1 hs hm hx (.inr rfl) (fun _ => ⟨hk0, hcn, hk1⟩) (fun q => by cases q)
    rw [if_pos hz] at u2
    have hFu : ∀ v, v ∉ cws → v ∉ rsc → U1 v = V v := fun v h1 h2 => by rw [u1 v h2, hF1 v h1]
    refine ⟨(V 2222 0 x + n) + V 2221 0 x, mkV (setV (setV (setV (W0) 1606 m c (V 2238 0 (20 * m + c) - (V 2219 0 x * n + 36 - 1) / 36)) 1608 m 0 (V 2239 0 m + n)) 2006 x 1 (V 2222 0 x + n)) 2112 nL gv_1360 (F_1360 (nI x) (nI m) (V 2201 0 0) n), setV (setV (setV (setV (U1) 2238 0 (20 * m + c) (V 2238 0 (20 * m + c) - (V 2219 0 x * n + 36 - 1) / 36)) 2239 0 m (V 2239 0 m + n)) 2222 0 x (V 2222 0 x + n)) 2275 0 (15000 * m + 500 * x + w) (V 2275 0 (15000 * m + 500 * x + w) + n), ?_, ?_, ?_⟩
    · have hcm : V 2221 0 x + (V 2222 0 x + n) = (V 2222 0 x + n) + V 2221 0 x := by grind
      have g4 := k10 c (by omega)
      show f_X11_makes fu V (nI m) (nI x) n 1 = _
      have stA : f_X11_makes fu V (nI m) (nI x) n 1 = F_X11_makes_128 fu (setV (W0) 1606 m c (V 2238 0 (20 * m + c) - (V 2219 0 x * n + 36 - 1) / 36)) (nI m) (nI x) n 1 (nI m) (nI x) 1 := by
        simp (disch := omega) only [f_X11_makes, F_X11_makes_47, findThing_ok hth.2.1 (show nT ≤ 1000 by omega) hx, findMaker_ok hma.2.1 (show nM ≤ 1000 by omega) hm, hn, ct, ct0, cm0, q9, q10, hs2, m0, hml, w1, x1, x2, x3, x4, q2, q5, q7, hk0, g4, hk1, roundedUp_eq (show (0 : Int32) < 36 by decide), f_X11_yardsFor, bd_some, n10, n00, bv_eq, within_eq, in_eq, gd_T, gd_t, i00, i10, c_0, c_1, c_m1, ite10, ite01, setV_fn, setV_at, cntS, nI_pos, nI_clamp, nI_leI, nI_ltI, nI_eq, nI_1, if_true, if_false, not_true, not_false, and_self, and_true, true_and, false_and, and_false, or_false, false_or, or_true, true_or, not_false_eq_true, ite_self, ite_true, ite_false, reduceIte, Nat.reduceEqDiff, Nat.reduceMul, Nat.reduceAdd, Nat.reduceLT, Nat.reducePow, ne_eq]
      rw [stA]
      have ey : (mkV (setV (setV (setV (W0) 1606 m c (V 2238 0 (20 * m + c) - (V 2219 0 x * n + 36 - 1) / 36)) 1608 m 0 (V 2239 0 m + n)) 2006 x 1 (V 2222 0 x + n)) 2112 nL gv_1360 (F_1360 (nI x) (nI m) (V 2201 0 0) n)) 2006 = (setV (setV (setV (W0) 1606 m c (V 2238 0 (20 * m + c) - (V 2219 0 x * n + 36 - 1) / 36)) 1608 m 0 (V 2239 0 m + n)) 2006 x 1 (V 2222 0 x + n)) 2006 := mkV_fn (by decide) (by decide)
      have ct1 : cntV (mkV (setV (setV (setV (W0) 1606 m c (V 2238 0 (20 * m + c) - (V 2219 0 x * n + 36 - 1) / 36)) 1608 m 0 (V 2239 0 m + n)) 2006 x 1 (V 2222 0 x + n)) 2112 nL gv_1360 (F_1360 (nI x) (nI m) (V 2201 0 0) n)) 2105 = nT := by
        rw [cntM (by decide) (by decide)]; simp (disch := omega) only [cntS]; exact ct0
      have hl : (setV (setV (setV (W0) 1606 m c (V 2238 0 (20 * m + c) - (V 2219 0 x * n + 36 - 1) / 36)) 1608 m 0 (V 2239 0 m + n)) 2006 x 1 (V 2222 0 x + n)) 2112 0 0 = nI nL := by simp (disch := omega) only [setV_fn]; rw [x7]; exact m0
      have hnw : (setV (setV (setV (W0) 1606 m c (V 2238 0 (20 * m + c) - (V 2219 0 x * n + 36 - 1) / 36)) 1608 m 0 (V 2239 0 m + n)) 2006 x 1 (V 2222 0 x + n)) 2101 0 0 = V 2201 0 0 := by simp (disch := omega) only [setV_fn]; rw [x8]; exact hnow
      have stB : F_X11_makes_128 fu (setV (W0) 1606 m c (V 2238 0 (20 * m + c) - (V 2219 0 x * n + 36 - 1) / 36)) (nI m) (nI x) n 1 (nI m) (nI x) 1 = F_X11_makes_178 fu (mkV (setV (setV (setV (W0) 1606 m c (V 2238 0 (20 * m + c) - (V 2219 0 x * n + 36 - 1) / 36)) 1608 m 0 (V 2239 0 m + n)) 2006 x 1 (V 2222 0 x + n)) 2112 nL gv_1360 (F_1360 (nI x) (nI m) (V 2201 0 0) n)) (nI x) := by
        simp (disch := omega) only [F_X11_makes_128, ct0, cm0, x5, x6, k11, q10, n10, bd_some, n10, n00, bv_eq, within_eq, in_eq, gd_T, gd_t, i00, i10, c_0, c_1, c_m1, ite10, ite01, setV_fn, setV_at, cntS, nI_pos, nI_clamp, nI_leI, nI_ltI, nI_eq, nI_1, if_true, if_false, not_true, not_false, and_self, and_true, true_and, false_and, and_false, or_false, false_or, or_true, true_or, not_false_eq_true, ite_self, ite_true, ite_false, reduceIte, Nat.reduceEqDiff, Nat.reduceMul, Nat.reduceAdd, Nat.reduceLT, Nat.reducePow, ne_eq]
        rw [x7, m0, nI_clamp (by omega), x8, hnow]
      rw [stB]
      simp (disch := omega) only [F_X11_makes_178, ct1, ey, x6, q9, q10, bd_some, n10, n00, bv_eq, within_eq, in_eq, gd_T, gd_t, i00, i10, c_0, c_1, c_m1, ite10, ite01, setV_fn, setV_at, cntS, nI_pos, nI_clamp, nI_leI, nI_ltI, nI_eq, nI_1, if_true, if_false, not_true, not_false, and_self, and_true, true_and, false_and, and_false, or_false, false_or, or_true, true_or, not_false_eq_true, ite_self, ite_true, ite_false, reduceIte, Nat.reduceEqDiff, Nat.reduceMul, Nat.reduceAdd, Nat.reduceLT, Nat.reducePow, ne_eq]
      rw [hcm]
    · have p1 : ∀ W : St, W 2204 0 0 = nI nT → f_X12_isThing fu W (nI x) = some (1, W) := fun W hW => isThing_ok hW (by omega) hx
      have p2 : ∀ W : St, W 2232 0 0 = nI nM → f_X12_isMaker fu W (nI m) = some (1, W) := fun W hW => isMaker_ok hW (by omega) hm
      show f_X12_makes fu _ (nI m) (nI x) n 1 = _
      unfold f_X12_makes
      rw [p2 _ (by rw [hF1 2232 (by decide)]; exact hma.2.2.1), bd_some, if_neg (by decide), p1 _ (by rw [hF1 2204 (by decide)]; exact hth.2.2.1), bd_some, if_neg (by decide), in_eq, bd_some, if_pos hn, if_neg (by decide), if_neg (by decide), nI_clamp (by omega), hF1 2222 (by decide), gd_t (by intro q; rcases q with q | q; exact nI_pos (by omega) q; omega), u2]
      have y1 := hFu 2239 (by decide) (by decide); have y2 := hFu 2221 (by decide) (by decide); have y3 := hFu 2222 (by decide) (by decide); have y4 := hFu 2275 (by decide) (by decide); have y5 := hFu 2201 (by decide) (by decide)
      simp (disch := omega) only [F_X12_makes_245, Bool.false_eq_true, y1, y2, y3, y4, y5, hwn, ix15, ix5h, nI_add, bd_some, n10, n00, bv_eq, within_eq, in_eq, gd_T, gd_t, i00, i10, c_0, c_1, c_m1, ite10, ite01, setV_fn, setV_at, cntS, nI_pos, nI_clamp, nI_leI, nI_ltI, nI_eq, nI_1, if_true, if_false, not_true, not_false, and_self, and_true, true_and, false_and, and_false, or_false, false_or, or_true, true_or, not_false_eq_true, ite_self, ite_true, ite_false, reduceIte, Nat.reduceEqDiff, Nat.reduceMul, Nat.reduceAdd, Nat.reduceLT, Nat.reducePow, ne_eq]
    · have hF2 : Fr [1606, 1608, 2006, 2112, 1361, 1362, 1363, 1364, 1402, 1403, 1404, 1405, 1406, 1407, 1408, 2270, 2271, 2272, 2273, 2274, 2238, 2239, 2222, 2275] V (setV (setV (setV (setV (U1) 2238 0 (20 * m + c) (V 2238 0 (20 * m + c) - (V 2219 0 x * n + 36 - 1) / 36)) 2239 0 m (V 2239 0 m + n)) 2222 0 x (V 2222 0 x + n)) 2275 0 (15000 * m + 500 * x + w) (V 2275 0 (15000 * m + 500 * x + w) + n)) := ((((((hF1s.weak (by decide)).trans (u1.weak (by decide)))).set (by decide)).set (by decide)).set (by decide)).set (by decide)
      have r1 : ∀ v, v ∉ rsc → U1 v = (mkV (setV (setV (setV (W0) 1606 m c (V 2238 0 (20 * m + c) - (V 2219 0 x * n + 36 - 1) / 36)) 1608 m 0 (V 2239 0 m + n)) 2006 x 1 (V 2222 0 x + n)) 2112 nL gv_1360 (F_1360 (nI x) (nI m) (V 2201 0 0) n)) v := fun v hv => u1 v hv
      have e1608 := r1 1608 (by decide); have e1606 := r1 1606 (by decide); have e2006 := r1 2006 (by decide)
      have e2238 := hFu 2238 (by decide) (by decide); have e2239 := hFu 2239 (by decide) (by decide); have erv := hFu 2222 (by decide) (by decide)
      have x5 := w2 1608 (by decide); have x4 := w2 1606 (by decide); have x6 := w2 2006 (by decide)
      refine ⟨nC, nD, nT, nM, nP, nK, nS, nR, nL + 1, nO, by omega, hmi.fr hF2 rfl, hta.fr hF2 rfl, hcl.fr hF2 rfl, hdr.fr hF2 rfl, ?_, hla.fr hF2 rfl, ?_, hor.fr hF2 rfl, hpe.fr hF2 rfl, hdo.fr hF2 rfl, hse.fr hF2 rfl, hru.fr hF2 rfl, ?_⟩
      · have hG : Fr [2006, 2221 + 1] V (fun v => if v = 2006 then (setV (setV (setV (setV (U1) 2238 0 (20 * m + c) (V 2238 0 (20 * m + c) - (V 2219 0 x * n + 36 - 1) / 36)) 2239 0 m (V 2239 0 m + n)) 2222 0 x (V 2222 0 x + n)) 2275 0 (15000 * m + 500 * x + w) (V 2275 0 (15000 * m + 500 * x + w) + n)) 2006 else if v = 2222 then (setV (setV (setV (setV (U1) 2238 0 (20 * m + c) (V 2238 0 (20 * m + c) - (V 2219 0 x * n + 36 - 1) / 36)) 2239 0 m (V 2239 0 m + n)) 2222 0 x (V 2222 0 x + n)) 2275 0 (15000 * m + 500 * x + w) (V 2275 0 (15000 * m + 500 * x + w) + n)) 2222 else V v) := fun v hv => by
          have h1 : v ≠ 2006 := fun q => hv (by rw [q]; decide)
          have h2 : v ≠ 2222 := fun q => hv (by rw [q]; decide)
          simp [h1, h2]
        have hp := hth.put (b := 1) (x := x) (v := V 2222 0 x + n) (by decide) (by grind) hs hx hG (fun i j => by
          show (setV (setV (setV (setV (U1) 2238 0 (20 * m + c) (V 2238 0 (20 * m + c) - (V 2219 0 x * n + 36 - 1) / 36)) 2239 0 m (V 2239 0 m + n)) 2222 0 x (V 2222 0 x + n)) 2275 0 (15000 * m + 500 * x + w) (V 2275 0 (15000 * m + 500 * x + w) + n)) 2006 i j = _
          simp (disch := first | omega | decide) only [setV_fn, setV_at, mkV_fn]; rw [e2006]; simp (disch := first | omega | decide) only [setV_fn, setV_at, mkV_fn]; rw [x6]) (fun q => by
          show (setV (setV (setV (setV (U1) 2238 0 (20 * m + c) (V 2238 0 (20 * m + c) - (V 2219 0 x * n + 36 - 1) / 36)) 2239 0 m (V 2239 0 m + n)) 2222 0 x (V 2222 0 x + n)) 2275 0 (15000 * m + 500 * x + w) (V 2275 0 (15000 * m + 500 * x + w) + n)) 2222 0 q = _
          simp (disch := first | omega | decide) only [setV_fn, setV_at, mkV_fn]; rw [erv]; simp)
        refine hp.ag (fun v hv => ?_)
        show _ = (if v = 2006 then (setV (setV (setV (setV (U1) 2238 0 (20 * m + c) (V 2238 0 (20 * m + c) - (V 2219 0 x * n + 36 - 1) / 36)) 2239 0 m (V 2239 0 m + n)) 2222 0 x (V 2222 0 x + n)) 2275 0 (15000 * m + 500 * x + w) (V 2275 0 (15000 * m + 500 * x + w) + n)) 2006 else if v = 2222 then (setV (setV (setV (setV (U1) 2238 0 (20 * m + c) (V 2238 0 (20 * m + c) - (V 2219 0 x * n + 36 - 1) / 36)) 2239 0 m (V 2239 0 m + n)) 2222 0 x (V 2222 0 x + n)) 2275 0 (15000 * m + 500 * x + w) (V 2275 0 (15000 * m + 500 * x + w) + n)) 2222 else V v)
        by_cases h1 : v = 2006
        · rw [if_pos h1, h1]
        · by_cases h2 : v = 2222
          · rw [if_neg h1, if_pos h2, h2]
          · rw [if_neg h1, if_neg h2]
            exact hF2 v ((show ∀ v, v ∈ vI_thing → v ≠ 2006 → v ≠ 2222 → v ∉ [1606, 1608, 2006, 2112, 1361, 1362, 1363, 1364, 1402, 1403, 1404, 1405, 1406, 1407, 1408, 2270, 2271, 2272, 2273, 2274, 2238, 2239, 2222, 2275] by decide) v hv h1 h2)
      · have hG : Fr [1606, 1608, 2238, 2239] V (fun v => if v = 1606 ∨ v = 1608 ∨ v = 2238 ∨ v = 2239 then (setV (setV (setV (setV (U1) 2238 0 (20 * m + c) (V 2238 0 (20 * m + c) - (V 2219 0 x * n + 36 - 1) / 36)) 2239 0 m (V 2239 0 m + n)) 2222 0 x (V 2222 0 x + n)) 2275 0 (15000 * m + 500 * x + w) (V 2275 0 (15000 * m + 500 * x + w) + n)) v else V v) := fun v hv => by
          have h1 : ¬ (v = 1606 ∨ v = 1608 ∨ v = 2238 ∨ v = 2239) := fun q => hv (by rcases q with rfl | rfl | rfl | rfl <;> decide)
          simp only [h1, if_false]
        have hp := hma.put (m := m) (c := c) (d := V 2239 0 m + n) (y := V 2238 0 (20 * m + c) - (V 2219 0 x * n + 36 - 1) / 36) hm (by omega) hG (fun i j => by
          show (setV (setV (setV (setV (U1) 2238 0 (20 * m + c) (V 2238 0 (20 * m + c) - (V 2219 0 x * n + 36 - 1) / 36)) 2239 0 m (V 2239 0 m + n)) 2222 0 x (V 2222 0 x + n)) 2275 0 (15000 * m + 500 * x + w) (V 2275 0 (15000 * m + 500 * x + w) + n)) 1608 i j = _
          simp (disch := first | omega | decide) only [setV_fn, setV_at, mkV_fn]; rw [e1608]; simp (disch := first | omega | decide) only [setV_fn, setV_at, mkV_fn]; rw [x5]) (fun q => by
          show (setV (setV (setV (setV (U1) 2238 0 (20 * m + c) (V 2238 0 (20 * m + c) - (V 2219 0 x * n + 36 - 1) / 36)) 2239 0 m (V 2239 0 m + n)) 2222 0 x (V 2222 0 x + n)) 2275 0 (15000 * m + 500 * x + w) (V 2275 0 (15000 * m + 500 * x + w) + n)) 2239 0 q = _
          simp (disch := first | omega | decide) only [setV_fn, setV_at, mkV_fn]; rw [e2239]; simp) (fun i j => by
          show (setV (setV (setV (setV (U1) 2238 0 (20 * m + c) (V 2238 0 (20 * m + c) - (V 2219 0 x * n + 36 - 1) / 36)) 2239 0 m (V 2239 0 m + n)) 2222 0 x (V 2222 0 x + n)) 2275 0 (15000 * m + 500 * x + w) (V 2275 0 (15000 * m + 500 * x + w) + n)) 1606 i j = _
          simp (disch := first | omega | decide) only [setV_fn, setV_at, mkV_fn]; rw [e1606]; simp (disch := first | omega | decide) only [setV_fn, setV_at, mkV_fn]; rw [x4]) (fun q => by
          show (setV (setV (setV (setV (U1) 2238 0 (20 * m + c) (V 2238 0 (20 * m + c) - (V 2219 0 x * n + 36 - 1) / 36)) 2239 0 m (V 2239 0 m + n)) 2222 0 x (V 2222 0 x + n)) 2275 0 (15000 * m + 500 * x + w) (V 2275 0 (15000 * m + 500 * x + w) + n)) 2238 0 q = _
          simp (disch := first | omega | decide) only [setV_fn, setV_at, mkV_fn]; rw [e2238]; simp)
        refine hp.ag (fun v hv => ?_)
        show _ = (if v = 1606 ∨ v = 1608 ∨ v = 2238 ∨ v = 2239 then (setV (setV (setV (setV (U1) 2238 0 (20 * m + c) (V 2238 0 (20 * m + c) - (V 2219 0 x * n + 36 - 1) / 36)) 2239 0 m (V 2239 0 m + n)) 2222 0 x (V 2222 0 x + n)) 2275 0 (15000 * m + 500 * x + w) (V 2275 0 (15000 * m + 500 * x + w) + n)) v else V v)
        by_cases h1 : v = 1606 ∨ v = 1608 ∨ v = 2238 ∨ v = 2239
        · rw [if_pos h1]
        · rw [if_neg h1]
          exact hF2 v ((show ∀ v, v ∈ vI_mak → ¬ (v = 1606 ∨ v = 1608 ∨ v = 2238 ∨ v = 2239) → v ∉ [1606, 1608, 2006, 2112, 1361, 1362, 1363, 1364, 1402, 1403, 1404, 1405, 1406, 1407, 1408, 2270, 2271, 2272, 2273, 2274, 2238, 2239, 2222, 2275] by decide) v hv h1)
      · have f1 := r1 1361 (by decide); have f2 := r1 1362 (by decide); have f3 := r1 1363 (by decide); have f4 := r1 1364 (by decide); have f5 := r1 2112 (by decide)
        have z1 := w2 1361 (by decide); have z2 := w2 1362 (by decide); have z3 := w2 1363 (by decide); have z4 := w2 1364 (by decide)
        have e2275 := hFu 2275 (by decide) (by decide); have e2276 := hFu 2276 (by decide) (by decide)
        refine hmk.add (x := x) (w := w) (bb := nI m) (n := n) h30 h12 ?_ (fun e he => ?_) ?_ ?_ ?_ ?_ hx hw (.inr ⟨m, hm, rfl, ?_, fun q => ?_⟩)
        · simp (disch := omega) only [setV_fn]; rw [f5, mkV_cnt]
        · have hne : ¬ e = nL := by omega
          simp (disch := first | omega | decide) only [setV_fn, f1, f2, f3, f4, mkV_at, hne, if_false, z1, z2, z3, z4, and_self]
        · simp (disch := first | omega | decide) only [setV_fn, f1, mkV_at, if_true, F_1360]
        · simp (disch := first | omega | decide) only [setV_fn, f2, mkV_at, if_true, F_1360, Nat.reduceEqDiff, if_false]
        · simp (disch := first | omega | decide) only [setV_fn, f3, mkV_at, if_true, F_1360, Nat.reduceEqDiff, if_false]; exact hwn
        · simp (disch := first | omega | decide) only [setV_fn, f4, mkV_at, if_true, F_1360, Nat.reduceEqDiff, if_false]
        · simp (disch := omega) only [setV_fn]; exact e2276
        · simp (disch := omega) only [setV_at, setV_fn]; rw [e2275]; by_cases hz : q = 15000 * m + 500 * x + w <;> simp [hz]
  · have hF1 : Fr cws V W0 := w2.weak (by decide)
    obtain ⟨U1, u1, u2⟩ := refMakes (fu := fu) (n := n) (b := 1) (s0 := V 2222 0 x) (kd := true) (c := c) hfu hA hwo hF1 hs hm hx (.inr rfl) (fun _ => ⟨hk0, hcn, hk1⟩) (fun q => by cases q)
    rw [if_neg hz] at u2
    refine ⟨mkRef V nO m x n 1 true c, W0, U1, ?_, ?_, hI'.scr ((w2.weak (by decide)).trans (u1.weak (by decide)))⟩
    · show f_X11_makes fu V (nI m) (nI x) n 1 = _
      simp (disch := omega) only [f_X11_makes, F_X11_makes_47, findThing_ok hth.2.1 (show nT ≤ 1000 by omega) hx, findMaker_ok hma.2.1 (show nM ≤ 1000 by omega) hm, hn, ct, q9, q10, hs2, m0, hml, w1, hz, bd_some, n10, n00, bv_eq, within_eq, in_eq, gd_T, gd_t, i00, i10, c_0, c_1, c_m1, ite10, ite01, setV_fn, setV_at, cntS, nI_pos, nI_clamp, nI_leI, nI_ltI, nI_eq, nI_1, if_true, if_false, not_true, not_false, and_self, and_true, true_and, false_and, and_false, or_false, false_or, or_true, true_or, not_false_eq_true, ite_self, ite_true, ite_false, reduceIte, Nat.reduceEqDiff, Nat.reduceMul, Nat.reduceAdd, Nat.reduceLT, Nat.reducePow, ne_eq]
    · have p1 : ∀ W : St, W 2204 0 0 = nI nT → f_X12_isThing fu W (nI x) = some (1, W) := fun W hW => isThing_ok hW (by omega) hx
      have p2 : ∀ W : St, W 2232 0 0 = nI nM → f_X12_isMaker fu W (nI m) = some (1, W) := fun W hW => isMaker_ok hW (by omega) hm
      show f_X12_makes fu _ (nI m) (nI x) n 1 = _
      unfold f_X12_makes
      rw [p2 _ (by rw [hF1 2232 (by decide)]; exact hma.2.2.1), bd_some, if_neg (by decide), p1 _ (by rw [hF1 2204 (by decide)]; exact hth.2.2.1), bd_some, if_neg (by decide), in_eq, bd_some, if_pos hn, if_neg (by decide), if_neg (by decide), nI_clamp (by omega), hF1 2222 (by decide), gd_t (by intro q; rcases q with q | q; exact nI_pos (by omega) q; omega), u2]
theorem makes_1false {fu k m x nC nD nT nM nP nK nS nR nL nO : Nat} {V : St} {n : Int32} (hfu : 1000 ≤ fu) (hk : k < 512) (hI' : Inv k V) (hL : nL ≤ k) (hmi : I_misc V) (hta : I_tape V) (hcl : I_cloth V nC) (hdr : I_draw V nD) (hth : I_thing V nC nT) (hla : I_lay V nT) (hma : I_mak V nM) (hor : I_ord V nO) (hpe : I_pers V nP) (hdo : I_dock V nT nK) (hse : I_seen V nS) (hru : I_rub V nR) (hmk : I_marks V nT nM nL) (hm : m < nM) (hx : x < nT) (hn : 1 ≤ n ∧ n ≤ 10000) (hs : V 2222 0 x + n ≤ 1000000) (hk0 : ¬ V 2216 0 x = 0) : Step k (fun V => f_X11_makes fu V (nI m) (nI x) n 1) (fun V => f_X12_makes fu V (nI m) (nI x) n 1) V := by
  have hA : Ask V nC nT nM nO := ⟨hcl, hth, hma, hor⟩
  have hwo := hmi.2.2.2.2
  have hnow := hmi.1
  have h30 := hth.1
  have h12 := hma.1
  have h20 := hcl.1
  obtain ⟨w, hw, hwn⟩ := nowN hmi
  obtain ⟨W0, w1, w2⟩ := whyNot_eq (fu := fu) (n := n) (b := 1) (kd := false) (c := 0) hfu hA hnow hm hx (.inr rfl) (fun q => by cases q) (fun _ => hk0)
  obtain ⟨p, len, wid, q⟩ := hth.2.2.2.2 x hx
  obtain ⟨-, q2, -, -, q5, -, q7, -, q9, q10, q11, q12, q13, q14, -⟩ := q
  obtain ⟨k1, k2, k3, k4, k5, k6, k7, k8, k9, k10, k11, -⟩ := hma.2.2.2.2.2.1 m hm
  have ct : cntV V 2105 = nT := cnt_n (by decide) (by omega) hth.2.1
  have ct0 : cntV W0 2105 = nT := cnt_n (by decide) (by omega) (by rw [w2 2105 (by decide)]; exact hth.2.1)
  have cm0 : cntV W0 2106 = nM := cnt_n (by decide) (by omega) (by rw [w2 2106 (by decide)]; exact hma.2.1)
  have hs2 : ¬ 1000000 < V 2222 0 x + n := by grind
  have hml : nI nL < 512 := nI_lt (b := 512) (by omega) (by decide)
  have m0 := hmk.1
  by_cases hz : mkRef V nO m x n 1 false 0 = 0
  · have x1 := w2 2001 (by decide); have x2 := w2 2002 (by decide); have x3 := w2 2005 (by decide); have x4 := w2 1606 (by decide); have x5 := w2 1608 (by decide); have x6 := w2 2006 (by decide); have x7 := w2 2112 (by decide); have x8 := w2 2101 (by decide)
    rw [hz] at w1
    have hok : mkOK (setV (setV (W0) 1608 m 0 (V 2239 0 m + n)) 2006 x 1 (V 2222 0 x + n)) 2112 = true := mkOK_ag (n := nL) hcl hth hla (fun v hv => by
      have hne : ∀ u, u ∈ [1606, 1608, 2006] → v ≠ u := fun u hu => by intro q; subst q; revert hu hv; revert v; decide
      rw [setV_fn (hne 2006 (by decide)), setV_fn (hne 1608 (by decide))]
      exact w2 v ((show ∀ v, v ∈ [1506, 2003, 2103, 2105] → v ∉ scr by decide) v hv)) (by simp (disch := omega) only [setV_fn]; rw [x7]; exact m0) (by omega)
    have hF1s : Fr [1606, 1608, 2006, 2112, 1361, 1362, 1363, 1364, 1402, 1403, 1404, 1405, 1406, 1407, 1408] V (mkV (setV (setV (W0) 1608 m 0 (V 2239 0 m + n)) 2006 x 1 (V 2222 0 x + n)) 2112 nL gv_1360 (F_1360 (nI x) (nI m) (V 2201 0 0) n)) := ((((w2.weak (by decide))).set (by decide)).set (by decide)).mk (by decide) (by decide)
    have hF1 : Fr cws V (mkV (setV (setV (W0) 1608 m 0 (V 2239 0 m + n)) 2006 x 1 (V 2222 0 x + n)) 2112 nL gv_1360 (F_1360 (nI x) (nI m) (V 2201 0 0) n)) := hF1s.weak (by decide)
    obtain ⟨U1, u1, u2⟩ := refMakes (fu := fu) (n := n) (b := 1) (s0 := V 2222 0 x) (kd := false) (c := 0) hfu hA hwo hF1 hs hm hx (.inr rfl) (fun q => by cases q) (fun _ => hk0)
    rw [if_pos hz] at u2
    have hFu : ∀ v, v ∉ cws → v ∉ rsc → U1 v = V v := fun v h1 h2 => by rw [u1 v h2, hF1 v h1]
    refine ⟨(V 2222 0 x + n) + V 2221 0 x, mkV (setV (setV (W0) 1608 m 0 (V 2239 0 m + n)) 2006 x 1 (V 2222 0 x + n)) 2112 nL gv_1360 (F_1360 (nI x) (nI m) (V 2201 0 0) n), setV (setV (setV (U1) 2239 0 m (V 2239 0 m + n)) 2222 0 x (V 2222 0 x + n)) 2275 0 (15000 * m + 500 * x + w) (V 2275 0 (15000 * m + 500 * x + w) + n), ?_, ?_, ?_⟩
    · have hcm : V 2221 0 x + (V 2222 0 x + n) = (V 2222 0 x + n) + V 2221 0 x := by grind
      show f_X11_makes fu V (nI m) (nI x) n 1 = _
      have stA : f_X11_makes fu V (nI m) (nI x) n 1 = F_X11_makes_128 fu (W0) (nI m) (nI x) n 1 (nI m) (nI x) 1 := by
        simp (disch := omega) only [f_X11_makes, F_X11_makes_47, findThing_ok hth.2.1 (show nT ≤ 1000 by omega) hx, findMaker_ok hma.2.1 (show nM ≤ 1000 by omega) hm, hn, ct, ct0, cm0, q9, q10, hs2, m0, hml, w1, x1, x2, x3, x4, q2, q5, q7, hk0, f_X11_yardsFor, bd_some, n10, n00, bv_eq, within_eq, in_eq, gd_T, gd_t, i00, i10, c_0, c_1, c_m1, ite10, ite01, setV_fn, setV_at, cntS, nI_pos, nI_clamp, nI_leI, nI_ltI, nI_eq, nI_1, if_true, if_false, not_true, not_false, and_self, and_true, true_and, false_and, and_false, or_false, false_or, or_true, true_or, not_false_eq_true, ite_self, ite_true, ite_false, reduceIte, Nat.reduceEqDiff, Nat.reduceMul, Nat.reduceAdd, Nat.reduceLT, Nat.reducePow, ne_eq]
      rw [stA]
      have ey : (mkV (setV (setV (W0) 1608 m 0 (V 2239 0 m + n)) 2006 x 1 (V 2222 0 x + n)) 2112 nL gv_1360 (F_1360 (nI x) (nI m) (V 2201 0 0) n)) 2006 = (setV (setV (W0) 1608 m 0 (V 2239 0 m + n)) 2006 x 1 (V 2222 0 x + n)) 2006 := mkV_fn (by decide) (by decide)
      have ct1 : cntV (mkV (setV (setV (W0) 1608 m 0 (V 2239 0 m + n)) 2006 x 1 (V 2222 0 x + n)) 2112 nL gv_1360 (F_1360 (nI x) (nI m) (V 2201 0 0) n)) 2105 = nT := by
        rw [cntM (by decide) (by decide)]; simp (disch := omega) only [cntS]; exact ct0
      have hl : (setV (setV (W0) 1608 m 0 (V 2239 0 m + n)) 2006 x 1 (V 2222 0 x + n)) 2112 0 0 = nI nL := by simp (disch := omega) only [setV_fn]; rw [x7]; exact m0
      have hnw : (setV (setV (W0) 1608 m 0 (V 2239 0 m + n)) 2006 x 1 (V 2222 0 x + n)) 2101 0 0 = V 2201 0 0 := by simp (disch := omega) only [setV_fn]; rw [x8]; exact hnow
      have stB : F_X11_makes_128 fu (W0) (nI m) (nI x) n 1 (nI m) (nI x) 1 = F_X11_makes_178 fu (mkV (setV (setV (W0) 1608 m 0 (V 2239 0 m + n)) 2006 x 1 (V 2222 0 x + n)) 2112 nL gv_1360 (F_1360 (nI x) (nI m) (V 2201 0 0) n)) (nI x) := by
        simp (disch := omega) only [F_X11_makes_128, ct0, cm0, x5, x6, k11, q10, n10, bd_some, n10, n00, bv_eq, within_eq, in_eq, gd_T, gd_t, i00, i10, c_0, c_1, c_m1, ite10, ite01, setV_fn, setV_at, cntS, nI_pos, nI_clamp, nI_leI, nI_ltI, nI_eq, nI_1, if_true, if_false, not_true, not_false, and_self, and_true, true_and, false_and, and_false, or_false, false_or, or_true, true_or, not_false_eq_true, ite_self, ite_true, ite_false, reduceIte, Nat.reduceEqDiff, Nat.reduceMul, Nat.reduceAdd, Nat.reduceLT, Nat.reducePow, ne_eq]
        rw [x7, m0, nI_clamp (by omega), x8, hnow]
      rw [stB]
      simp (disch := omega) only [F_X11_makes_178, ct1, ey, x6, q9, q10, bd_some, n10, n00, bv_eq, within_eq, in_eq, gd_T, gd_t, i00, i10, c_0, c_1, c_m1, ite10, ite01, setV_fn, setV_at, cntS, nI_pos, nI_clamp, nI_leI, nI_ltI, nI_eq, nI_1, if_true, if_false, not_true, not_false, and_self, and_true, true_and, false_and, and_false, or_false, false_or, or_true, true_or, not_false_eq_true, ite_self, ite_true, ite_false, reduceIte, Nat.reduceEqDiff, Nat.reduceMul, Nat.reduceAdd, Nat.reduceLT, Nat.reducePow, ne_eq]
      rw [hcm]
    · have p1 : ∀ W : St, W 2204 0 0 = nI nT → f_X12_isThing fu W (nI x) = some (1, W) := fun W hW => isThing_ok hW (by omega) hx
      have p2 : ∀ W : St, W 2232 0 0 = nI nM → f_X12_isMaker fu W (nI m) = some (1, W) := fun W hW => isMaker_ok hW (by omega) hm
      show f_X12_makes fu _ (nI m) (nI x) n 1 = _
      unfold f_X12_makes
      rw [p2 _ (by rw [hF1 2232 (by decide)]; exact hma.2.2.1), bd_some, if_neg (by decide), p1 _ (by rw [hF1 2204 (by decide)]; exact hth.2.2.1), bd_some, if_neg (by decide), in_eq, bd_some, if_pos hn, if_neg (by decide), if_neg (by decide), nI_clamp (by omega), hF1 2222 (by decide), gd_t (by intro q; rcases q with q | q; exact nI_pos (by omega) q; omega), u2]
      have y1 := hFu 2239 (by decide) (by decide); have y2 := hFu 2221 (by decide) (by decide); have y3 := hFu 2222 (by decide) (by decide); have y4 := hFu 2275 (by decide) (by decide); have y5 := hFu 2201 (by decide) (by decide)
      simp (disch := omega) only [F_X12_makes_245, Bool.false_eq_true, y1, y2, y3, y4, y5, hwn, ix15, ix5h, nI_add, bd_some, n10, n00, bv_eq, within_eq, in_eq, gd_T, gd_t, i00, i10, c_0, c_1, c_m1, ite10, ite01, setV_fn, setV_at, cntS, nI_pos, nI_clamp, nI_leI, nI_ltI, nI_eq, nI_1, if_true, if_false, not_true, not_false, and_self, and_true, true_and, false_and, and_false, or_false, false_or, or_true, true_or, not_false_eq_true, ite_self, ite_true, ite_false, reduceIte, Nat.reduceEqDiff, Nat.reduceMul, Nat.reduceAdd, Nat.reduceLT, Nat.reducePow, ne_eq]
    · have hF2 : Fr [1606, 1608, 2006, 2112, 1361, 1362, 1363, 1364, 1402, 1403, 1404, 1405, 1406, 1407, 1408, 2270, 2271, 2272, 2273, 2274, 2238, 2239, 2222, 2275] V (setV (setV (setV (U1) 2239 0 m (V 2239 0 m + n)) 2222 0 x (V 2222 0 x + n)) 2275 0 (15000 * m + 500 * x + w) (V 2275 0 (15000 * m + 500 * x + w) + n)) := (((((hF1s.weak (by decide)).trans (u1.weak (by decide)))).set (by decide)).set (by decide)).set (by decide)
      have r1 : ∀ v, v ∉ rsc → U1 v = (mkV (setV (setV (W0) 1608 m 0 (V 2239 0 m + n)) 2006 x 1 (V 2222 0 x + n)) 2112 nL gv_1360 (F_1360 (nI x) (nI m) (V 2201 0 0) n)) v := fun v hv => u1 v hv
      have e1608 := r1 1608 (by decide); have e1606 := r1 1606 (by decide); have e2006 := r1 2006 (by decide)
      have e2238 := hFu 2238 (by decide) (by decide); have e2239 := hFu 2239 (by decide) (by decide); have erv := hFu 2222 (by decide) (by decide)
      have x5 := w2 1608 (by decide); have x4 := w2 1606 (by decide); have x6 := w2 2006 (by decide)
      refine ⟨nC, nD, nT, nM, nP, nK, nS, nR, nL + 1, nO, by omega, hmi.fr hF2 rfl, hta.fr hF2 rfl, hcl.fr hF2 rfl, hdr.fr hF2 rfl, ?_, hla.fr hF2 rfl, ?_, hor.fr hF2 rfl, hpe.fr hF2 rfl, hdo.fr hF2 rfl, hse.fr hF2 rfl, hru.fr hF2 rfl, ?_⟩
      · have hG : Fr [2006, 2221 + 1] V (fun v => if v = 2006 then (setV (setV (setV (U1) 2239 0 m (V 2239 0 m + n)) 2222 0 x (V 2222 0 x + n)) 2275 0 (15000 * m + 500 * x + w) (V 2275 0 (15000 * m + 500 * x + w) + n)) 2006 else if v = 2222 then (setV (setV (setV (U1) 2239 0 m (V 2239 0 m + n)) 2222 0 x (V 2222 0 x + n)) 2275 0 (15000 * m + 500 * x + w) (V 2275 0 (15000 * m + 500 * x + w) + n)) 2222 else V v) := fun v hv => by
          have h1 : v ≠ 2006 := fun q => hv (by rw [q]; decide)
          have h2 : v ≠ 2222 := fun q => hv (by rw [q]; decide)
          simp [h1, h2]
        have hp := hth.put (b := 1) (x := x) (v := V 2222 0 x + n) (by decide) (by grind) hs hx hG (fun i j => by
          show (setV (setV (setV (U1) 2239 0 m (V 2239 0 m + n)) 2222 0 x (V 2222 0 x + n)) 2275 0 (15000 * m + 500 * x + w) (V 2275 0 (15000 * m + 500 * x + w) + n)) 2006 i j = _
          simp (disch := first | omega | decide) only [setV_fn, setV_at, mkV_fn]; rw [e2006]; simp (disch := first | omega | decide) only [setV_fn, setV_at, mkV_fn]; rw [x6]) (fun q => by
          show (setV (setV (setV (U1) 2239 0 m (V 2239 0 m + n)) 2222 0 x (V 2222 0 x + n)) 2275 0 (15000 * m + 500 * x + w) (V 2275 0 (15000 * m + 500 * x + w) + n)) 2222 0 q = _
          simp (disch := first | omega | decide) only [setV_fn, setV_at, mkV_fn]; rw [erv]; simp)
        refine hp.ag (fun v hv => ?_)
        show _ = (if v = 2006 then (setV (setV (setV (U1) 2239 0 m (V 2239 0 m + n)) 2222 0 x (V 2222 0 x + n)) 2275 0 (15000 * m + 500 * x + w) (V 2275 0 (15000 * m + 500 * x + w) + n)) 2006 else if v = 2222 then (setV (setV (setV (U1) 2239 0 m (V 2239 0 m + n)) 2222 0 x (V 2222 0 x + n)) 2275 0 (15000 * m + 500 * x + w) (V 2275 0 (15000 * m + 500 * x + w) + n)) 2222 else V v)
        by_cases h1 : v = 2006
        · rw [if_pos h1, h1]
        · by_cases h2 : v = 2222
          · rw [if_neg h1, if_pos h2, h2]
          · rw [if_neg h1, if_neg h2]
            exact hF2 v ((show ∀ v, v ∈ vI_thing → v ≠ 2006 → v ≠ 2222 → v ∉ [1606, 1608, 2006, 2112, 1361, 1362, 1363, 1364, 1402, 1403, 1404, 1405, 1406, 1407, 1408, 2270, 2271, 2272, 2273, 2274, 2238, 2239, 2222, 2275] by decide) v hv h1 h2)
      · have hG : Fr [1606, 1608, 2238, 2239] V (fun v => if v = 1606 ∨ v = 1608 ∨ v = 2238 ∨ v = 2239 then (setV (setV (setV (U1) 2239 0 m (V 2239 0 m + n)) 2222 0 x (V 2222 0 x + n)) 2275 0 (15000 * m + 500 * x + w) (V 2275 0 (15000 * m + 500 * x + w) + n)) v else V v) := fun v hv => by
          have h1 : ¬ (v = 1606 ∨ v = 1608 ∨ v = 2238 ∨ v = 2239) := fun q => hv (by rcases q with rfl | rfl | rfl | rfl <;> decide)
          simp only [h1, if_false]
        have hp := hma.put (m := m) (c := 0) (d := V 2239 0 m + n) (y := V 2238 0 (20 * m + 0)) hm (by omega) hG (fun i j => by
          show (setV (setV (setV (U1) 2239 0 m (V 2239 0 m + n)) 2222 0 x (V 2222 0 x + n)) 2275 0 (15000 * m + 500 * x + w) (V 2275 0 (15000 * m + 500 * x + w) + n)) 1608 i j = _
          simp (disch := first | omega | decide) only [setV_fn, setV_at, mkV_fn]; rw [e1608]; simp (disch := first | omega | decide) only [setV_fn, setV_at, mkV_fn]; rw [x5]) (fun q => by
          show (setV (setV (setV (U1) 2239 0 m (V 2239 0 m + n)) 2222 0 x (V 2222 0 x + n)) 2275 0 (15000 * m + 500 * x + w) (V 2275 0 (15000 * m + 500 * x + w) + n)) 2239 0 q = _
          simp (disch := first | omega | decide) only [setV_fn, setV_at, mkV_fn]; rw [e2239]; simp) (fun i j => by
          show (setV (setV (setV (U1) 2239 0 m (V 2239 0 m + n)) 2222 0 x (V 2222 0 x + n)) 2275 0 (15000 * m + 500 * x + w) (V 2275 0 (15000 * m + 500 * x + w) + n)) 1606 i j = _
          simp (disch := first | omega | decide) only [setV_fn, setV_at, mkV_fn]; rw [e1606]; simp (disch := first | omega | decide) only [setV_fn, setV_at, mkV_fn]; rw [x4]; exact (ite_id2 (fun hz => by rw [hz.1, hz.2]; exact k10 0 (by omega)))) (fun q => by
          show (setV (setV (setV (U1) 2239 0 m (V 2239 0 m + n)) 2222 0 x (V 2222 0 x + n)) 2275 0 (15000 * m + 500 * x + w) (V 2275 0 (15000 * m + 500 * x + w) + n)) 2238 0 q = _
          simp (disch := first | omega | decide) only [setV_fn, setV_at, mkV_fn]; rw [e2238]; exact (ite_id2 (fun hz => by rw [hz])))
        refine hp.ag (fun v hv => ?_)
        show _ = (if v = 1606 ∨ v = 1608 ∨ v = 2238 ∨ v = 2239 then (setV (setV (setV (U1) 2239 0 m (V 2239 0 m + n)) 2222 0 x (V 2222 0 x + n)) 2275 0 (15000 * m + 500 * x + w) (V 2275 0 (15000 * m + 500 * x + w) + n)) v else V v)
        by_cases h1 : v = 1606 ∨ v = 1608 ∨ v = 2238 ∨ v = 2239
        · rw [if_pos h1]
        · rw [if_neg h1]
          exact hF2 v ((show ∀ v, v ∈ vI_mak → ¬ (v = 1606 ∨ v = 1608 ∨ v = 2238 ∨ v = 2239) → v ∉ [1606, 1608, 2006, 2112, 1361, 1362, 1363, 1364, 1402, 1403, 1404, 1405, 1406, 1407, 1408, 2270, 2271, 2272, 2273, 2274, 2238, 2239, 2222, 2275] by decide) v hv h1)
      · have f1 := r1 1361 (by decide); have f2 := r1 1362 (by decide); have f3 := r1 1363 (by decide); have f4 := r1 1364 (by decide); have f5 := r1 2112 (by decide)
        have z1 := w2 1361 (by decide); have z2 := w2 1362 (by decide); have z3 := w2 1363 (by decide); have z4 := w2 1364 (by decide)
        have e2275 := hFu 2275 (by decide) (by decide); have e2276 := hFu 2276 (by decide) (by decide)
        refine hmk.add (x := x) (w := w) (bb := nI m) (n := n) h30 h12 ?_ (fun e he => ?_) ?_ ?_ ?_ ?_ hx hw (.inr ⟨m, hm, rfl, ?_, fun q => ?_⟩)
        · simp (disch := omega) only [setV_fn]; rw [f5, mkV_cnt]
        · have hne : ¬ e = nL := by omega
          simp (disch := first | omega | decide) only [setV_fn, f1, f2, f3, f4, mkV_at, hne, if_false, z1, z2, z3, z4, and_self]
        · simp (disch := first | omega | decide) only [setV_fn, f1, mkV_at, if_true, F_1360]
        · simp (disch := first | omega | decide) only [setV_fn, f2, mkV_at, if_true, F_1360, Nat.reduceEqDiff, if_false]
        · simp (disch := first | omega | decide) only [setV_fn, f3, mkV_at, if_true, F_1360, Nat.reduceEqDiff, if_false]; exact hwn
        · simp (disch := first | omega | decide) only [setV_fn, f4, mkV_at, if_true, F_1360, Nat.reduceEqDiff, if_false]
        · simp (disch := omega) only [setV_fn]; exact e2276
        · simp (disch := omega) only [setV_at, setV_fn]; rw [e2275]; by_cases hz : q = 15000 * m + 500 * x + w <;> simp [hz]
  · have hF1 : Fr cws V W0 := w2.weak (by decide)
    obtain ⟨U1, u1, u2⟩ := refMakes (fu := fu) (n := n) (b := 1) (s0 := V 2222 0 x) (kd := false) (c := 0) hfu hA hwo hF1 hs hm hx (.inr rfl) (fun q => by cases q) (fun _ => hk0)
    rw [if_neg hz] at u2
    refine ⟨mkRef V nO m x n 1 false 0, W0, U1, ?_, ?_, hI'.scr ((w2.weak (by decide)).trans (u1.weak (by decide)))⟩
    · show f_X11_makes fu V (nI m) (nI x) n 1 = _
      simp (disch := omega) only [f_X11_makes, F_X11_makes_47, findThing_ok hth.2.1 (show nT ≤ 1000 by omega) hx, findMaker_ok hma.2.1 (show nM ≤ 1000 by omega) hm, hn, ct, q9, q10, hs2, m0, hml, w1, hz, bd_some, n10, n00, bv_eq, within_eq, in_eq, gd_T, gd_t, i00, i10, c_0, c_1, c_m1, ite10, ite01, setV_fn, setV_at, cntS, nI_pos, nI_clamp, nI_leI, nI_ltI, nI_eq, nI_1, if_true, if_false, not_true, not_false, and_self, and_true, true_and, false_and, and_false, or_false, false_or, or_true, true_or, not_false_eq_true, ite_self, ite_true, ite_false, reduceIte, Nat.reduceEqDiff, Nat.reduceMul, Nat.reduceAdd, Nat.reduceLT, Nat.reducePow, ne_eq]
    · have p1 : ∀ W : St, W 2204 0 0 = nI nT → f_X12_isThing fu W (nI x) = some (1, W) := fun W hW => isThing_ok hW (by omega) hx
      have p2 : ∀ W : St, W 2232 0 0 = nI nM → f_X12_isMaker fu W (nI m) = some (1, W) := fun W hW => isMaker_ok hW (by omega) hm
      show f_X12_makes fu _ (nI m) (nI x) n 1 = _
      unfold f_X12_makes
      rw [p2 _ (by rw [hF1 2232 (by decide)]; exact hma.2.2.1), bd_some, if_neg (by decide), p1 _ (by rw [hF1 2204 (by decide)]; exact hth.2.2.1), bd_some, if_neg (by decide), in_eq, bd_some, if_pos hn, if_neg (by decide), if_neg (by decide), nI_clamp (by omega), hF1 2222 (by decide), gd_t (by intro q; rcases q with q | q; exact nI_pos (by omega) q; omega), u2]
