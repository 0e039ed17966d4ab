/-! buys, whole (by program: buys.py) -/
theorem buys_0 {fu k o x nC nD nT nM nP nK nS nR nL nO : Nat} {V : St} (hfu : 1000 ≤ fu) (hk : k < 512) (hI' : Inv k V) (hL : nL ≤ k) (hmi : I_misc V) (hta : I_tape V) (hcl : I_cloth V nC) (hdr : I_draw V nD) (hth : I_thing V nC nT) (hla : I_lay V nT) (hma : I_mak V nM) (hor : I_ord V nO) (hpe : I_pers V nP) (hdo : I_dock V nT nK) (hse : I_seen V nS) (hru : I_rub V nR) (hmk : I_marks V nT nM nL) (ho : o < nP) (hx : x < nT) : Step k (fun V => f_X11_buys fu V (nI o) (nI x) 0) (fun V => f_X12_buys fu V (nI o) (nI x) 0) V := by
  have hA : Ask V nC nT nM nO := ⟨hcl, hth, hma, hor⟩
  have hwo := hmi.2.2.2.2
  have hnow := hmi.1
  have h30 := hth.1
  have h40 := hpe.1
  have h12 := hma.1
  have h60 := hdo.1
  obtain ⟨w, hw, hwn⟩ := nowN hmi
  obtain ⟨p, len, wid, q⟩ := hth.2.2.2.2 x hx
  obtain ⟨-, -, -, -, -, -, -, -, q9, q10, q11, q12, q13, q14, -⟩ := q
  obtain ⟨e1, e2⟩ := hpe.2.2.2.2 o ho
  have ct : cntV V 2105 = nT := cnt_n (by decide) (by omega) hth.2.1
  have hml : nI nL < 512 := nI_lt (b := 512) (by omega) (by decide)
  have m0 := hmk.1
  have p1 : ∀ W : St, W 2204 0 0 = nI nT → f_X12_isThing fu W (nI x) = some (1, W) := fun W hW => isThing_ok hW (by omega) hx
  have p2 : ∀ W : St, W 2277 0 0 = nI nP → f_X12_isPerson fu W (nI o) = some (1, W) := fun W hW => isPerson_ok hW (by omega) ho
  have hC0 : f_X11_buys fu V (nI o) (nI x) 0 = F_X11_buys_48 fu V (nI o) (nI x) 0 (nI o) (nI x) 0 := by
    simp (disch := omega) only [f_X11_buys, findThing_ok hth.2.1 (show nT ≤ 1000 by omega) hx, findPerson_ok hpe.2.1 (show nP ≤ 1000 by omega) ho, m0, hml, bd_some, n10, n00, bv_eq, within_eq, in_eq, gd_T, gd_t, i00, i10, c_0, c_1, c_m1, ite10, ite01, setV_fn, setV_at, cntS, nI_pos, nI_clamp, nI_leI, nI_ltI, nI_eq, nI_1, if_true, if_false, not_true, not_false, and_self, and_true, true_and, false_and, and_false, or_false, false_or, or_true, true_or, not_false_eq_true, ite_self, ite_true, ite_false, reduceIte, Nat.reduceEqDiff, Nat.reduceMul, Nat.reduceAdd, Nat.reduceLT, Nat.reducePow, ne_eq]
  have hR0 : ∀ W : St, Fr bws2 V W → f_X12_buys fu W (nI o) (nI x) 0 = F_X12_buys_37 fu W (nI o) (nI x) 0 (V 2221 0 x) := fun W hW => by
    unfold f_X12_buys
    rw [p2 _ (by rw [hW 2277 (by decide)]; exact hpe.2.2.1), bd_some, if_neg (by decide), p1 _ (by rw [hW 2204 (by decide)]; exact hth.2.2.1), bd_some, if_neg (by decide), if_pos rfl, nI_clamp (by omega), hW 2221 (by decide), gd_t (by intro q; rcases q with q | q; exact nI_pos (by omega) q; omega)]
  by_cases hz : V 2221 0 x = 0
  · refine Step.same (r := -2) ?_ ?_ hI'
    · refine hC0.trans ?_
      simp (disch := omega) only [F_X11_buys_48, ct, q9, q10, hz, bd_some, n10, n00, bv_eq, within_eq, in_eq, gd_T, gd_t, i00, i10, c_0, c_1, c_m1, ite10, ite01, setV_fn, setV_at, cntS, nI_pos, nI_clamp, nI_leI, nI_ltI, nI_eq, nI_1, if_true, if_false, not_true, not_false, and_self, and_true, true_and, false_and, and_false, or_false, false_or, or_true, true_or, not_false_eq_true, ite_self, ite_true, ite_false, reduceIte, Nat.reduceEqDiff, Nat.reduceMul, Nat.reduceAdd, Nat.reduceLT, Nat.reducePow, ne_eq]
    · refine (hR0 V (Fr.refl _ V)).trans ?_
      rw [F_X12_buys_37, if_pos hz]
  obtain ⟨Wa, a1, a2⟩ := askNow_eq (fu := fu) (L := 112) hfu hA (okT_nI hx) (okT_m1 _) (by decide)
  have hmx := max0 (wo := -1) (wk := V 2201 0 0) (t := V 2201 0 0) (x := nI x) (m := -1) (L := 112) hor
  rw [hnow] at a1
  have hpt : (if 0 < lastV V (-1) (V 2201 0 0) (V 2201 0 0) nO 112 (nI x) (-1) then lastV V (-1) (V 2201 0 0) (V 2201 0 0) nO 112 (nI x) (-1) else 0) = ptV V nO x := hmx
  have hAa := hA.fr a2 (by decide) (by decide) (by decide) (by decide)
  have cpa : cntV Wa 2108 = nP := cnt_n (by decide) (by omega) (by rw [a2 2108 (by decide)]; exact hpe.2.1)
  have y1 := a2 1801 (by decide)
  by_cases h1 : ptV V nO x ≤ V 2278 0 o
  rotate_left
  · obtain ⟨U1, u1, u2⟩ := refBuys (fu := fu) (b := 0) (s0 := V 2221 0 x) (nP := nP) hfu hA hwo (a2.weak (show scr.all (fun v => bws2.contains v) = true by decide)) hz ho h40 hx
    rw [if_neg h1] at u2
    refine ⟨-3, Wa, U1, ?_, ?_, hI'.scr ((a2.weak (by decide)).trans (u1.weak (by decide)))⟩
    · refine hC0.trans ?_
      simp (disch := omega) only [F_X11_buys_48, ct, q9, q10, hz, a1, hpt, cpa, y1, e1, h1, bd_some, n10, n00, bv_eq, within_eq, in_eq, gd_T, gd_t, i00, i10, c_0, c_1, c_m1, ite10, ite01, setV_fn, setV_at, cntS, nI_pos, nI_clamp, nI_leI, nI_ltI, nI_eq, nI_1, if_true, if_false, not_true, not_false, and_self, and_true, true_and, false_and, and_false, or_false, false_or, or_true, true_or, not_false_eq_true, ite_self, ite_true, ite_false, reduceIte, Nat.reduceEqDiff, Nat.reduceMul, Nat.reduceAdd, Nat.reduceLT, Nat.reducePow, ne_eq]
    · exact (hR0 Wa (a2.weak (show scr.all (fun v => bws2.contains v) = true by decide))).trans u2
  obtain ⟨W0, b1, b2⟩ := paidNow_eq (fu := fu) hfu hAa (by rw [a2 2101 (by decide), a2 2201 (by decide)]; exact hnow) hx
  rw [paidV_ag (av_fr a2 (by decide)) (a2 2201 (by decide)) (a2 2220 (by decide))] at b1
  have hF0 : Fr scr V W0 := a2.trans b2
  have cp0 : cntV W0 2108 = nP := cnt_n (by decide) (by omega) (by rw [hF0 2108 (by decide)]; exact hpe.2.1)
  have ct0 : cntV W0 2105 = nT := cnt_n (by decide) (by omega) (by rw [hF0 2105 (by decide)]; exact hth.2.1)
  have z1 := hF0 1801 (by decide); have z2 := hF0 1802 (by decide); have z3 := hF0 2006 (by decide); have z4 := hF0 2112 (by decide); have z5 := hF0 2101 (by decide)
  by_cases h2 : paidV V nO x ≤ V 2279 0 o
  rotate_left
  · obtain ⟨U1, u1, u2⟩ := refBuys (fu := fu) (b := 0) (s0 := V 2221 0 x) (nP := nP) hfu hA hwo (hF0.weak (show scr.all (fun v => bws2.contains v) = true by decide)) hz ho h40 hx
    rw [if_pos h1, if_neg h2] at u2
    refine ⟨-4, W0, U1, ?_, ?_, hI'.scr ((hF0.weak (by decide)).trans (u1.weak (by decide)))⟩
    · refine hC0.trans ?_
      simp (disch := omega) only [F_X11_buys_48, ct, q9, q10, hz, a1, hpt, cpa, y1, e1, h1, b1, cp0, z2, e2, h2, bd_some, n10, n00, bv_eq, within_eq, in_eq, gd_T, gd_t, i00, i10, c_0, c_1, c_m1, ite10, ite01, setV_fn, setV_at, cntS, nI_pos, nI_clamp, nI_leI, nI_ltI, nI_eq, nI_1, if_true, if_false, not_true, not_false, and_self, and_true, true_and, false_and, and_false, or_false, false_or, or_true, true_or, not_false_eq_true, ite_self, ite_true, ite_false, reduceIte, Nat.reduceEqDiff, Nat.reduceMul, Nat.reduceAdd, Nat.reduceLT, Nat.reducePow, ne_eq]
    · exact (hR0 W0 (hF0.weak (show scr.all (fun v => bws2.contains v) = true by decide))).trans u2
  have hF4 : Fr [1801, 1802, 2006, 1402, 1403, 1404, 1405, 1406, 1407, 1408] V (setV (setV (setV W0 1801 o 0 (V 2278 0 o - ptV V nO x)) 1802 o 0 (V 2279 0 o - paidV V nO x)) 2006 x 0 (V 2221 0 x - 1)) := (((hF0.weak (by decide)).set (by decide)).set (by decide)).set (by decide)
  obtain ⟨W5, c1, c2, c3⟩ := lp_close1 (fu := fu) (n := nK) (xo := nI o) (xt := nI x) nK fu 0 (setV (setV (setV W0 1801 o 0 (V 2278 0 o - ptV V nO x)) 1802 o 0 (V 2279 0 o - paidV V nO x)) 2006 x 0 (V 2221 0 x - 1)) h60 (by rw [hF4 2109 (by decide)]; exact hdo.2.1) (by omega) (by omega)
  have hF5 : Fr [1801, 1802, 2006, 1105, 1402, 1403, 1404, 1405, 1406, 1407, 1408] V W5 := (hF4.weak (by decide)).trans (c2.weak (by decide))
  have hF5b : Fr bws2 V W5 := hF5.weak (by decide)
  obtain ⟨U1, u1, u2⟩ := refBuys (fu := fu) (b := 0) (s0 := V 2221 0 x) (nP := nP) hfu hA hwo hF5b hz ho h40 hx
  rw [if_pos h1, if_pos h2, if_pos rfl] at u2
  have hFu : Fr [1801, 1802, 2006, 1105, 1402, 1403, 1404, 1405, 1406, 1407, 1408, 2270, 2271, 2272, 2273, 2274, 2278, 2279, 2221, 2285] V (setV (setV (setV U1 2278 0 o (V 2278 0 o - ptV V nO x)) 2279 0 o (V 2279 0 o - paidV V nO x)) 2221 0 x (V 2221 0 x - 1)) := ((((hF5.weak (by decide)).trans (u1.weak (by decide))).set (by decide)).set (by decide)).set (by decide)
  obtain ⟨U5, d1, d2, d3⟩ := lp_close2 (fu := fu) (n := nK) (xo := nI o) (xt := nI x) (xp := paidV V nO x) nK fu 0 (setV (setV (setV U1 2278 0 o (V 2278 0 o - ptV V nO x)) 2279 0 o (V 2279 0 o - paidV V nO x)) 2221 0 x (V 2221 0 x - 1)) h60 (by rw [hFu 2280 (by decide)]; exact hdo.2.2.1) (by omega) (by omega)
  have hF6 : Fr [1801, 1802, 2006, 1105, 1402, 1403, 1404, 1405, 1406, 1407, 1408, 2270, 2271, 2272, 2273, 2274, 2278, 2279, 2221, 2285] V U5 := hFu.trans (d2.weak (by decide))
  refine ⟨paidV V nO x, W5, U5, ?_, ?_, ?_⟩
  · refine hC0.trans ?_
    rw [nI_0] at c1
    have c1' : f_X11_closeDockets fu (setV (setV (setV W0 1801 o 0 (V 2278 0 o - ptV V nO x)) 1802 o 0 (V 2279 0 o - paidV V nO x)) 2006 x 0 (V 2221 0 x - 1)) (nI o) (nI x) = some (0, W5) := c1
    simp (disch := omega) only [F_X11_buys_48, F_X11_buys_175, ct, q9, q10, hz, a1, hpt, cpa, y1, e1, h1, b1, cp0, ct0, z1, z2, z3, z4, z5, e2, h2, m0, hnow, c1', bd_some, n10, n00, bv_eq, within_eq, in_eq, gd_T, gd_t, i00, i10, c_0, c_1, c_m1, ite10, ite01, setV_fn, setV_at, cntS, nI_pos, nI_clamp, nI_leI, nI_ltI, nI_eq, nI_1, if_true, if_false, not_true, not_false, and_self, and_true, true_and, false_and, and_false, or_false, false_or, or_true, true_or, not_false_eq_true, ite_self, ite_true, ite_false, reduceIte, Nat.reduceEqDiff, Nat.reduceMul, Nat.reduceAdd, Nat.reduceLT, Nat.reducePow, ne_eq]
  · refine (hR0 W5 hF5b).trans ?_
    rw [u2, F_X12_buys_193]
    rw [nI_0] at d1
    exact d1
  · have r5 : ∀ v, v ∉ [1105] → W5 v = (setV (setV (setV W0 1801 o 0 (V 2278 0 o - ptV V nO x)) 1802 o 0 (V 2279 0 o - paidV V nO x)) 2006 x 0 (V 2221 0 x - 1)) v := fun v hv => c2 v hv
    have rU : ∀ v, v ∉ rsc → U1 v = W5 v := fun v hv => u1 v hv
    have gU : ∀ v, v ≠ 2278 → v ≠ 2279 → v ≠ 2221 → v ≠ 2285 → v ∉ rsc → U5 v = W5 v := fun v h1 h2 h3 h4 h5 => by
      rw [d2 v (by intro q; rw [List.mem_singleton] at q; exact h4 q), setV_fn h3, setV_fn h2, setV_fn h1, rU v h5]
    have f1801 := gU 1801 (by decide) (by decide) (by decide) (by decide) (by decide); have f1802 := gU 1802 (by decide) (by decide) (by decide) (by decide) (by decide); have f2006 := gU 2006 (by decide) (by decide) (by decide) (by decide) (by decide); have f1105 := gU 1105 (by decide) (by decide) (by decide) (by decide) (by decide)
    have s1801 := r5 1801 (by decide); have s1802 := r5 1802 (by decide); have s2006 := r5 2006 (by decide)
    have x2278 := d2 2278 (by decide); have x2279 := d2 2279 (by decide); have xrv := d2 2221 (by decide)
    have oU : ∀ v, v ∉ rsc → v ∉ [1801, 1802, 2006, 1105, 1402, 1403, 1404, 1405, 1406, 1407, 1408] → U1 v = V v := fun v h1 h2 => by rw [rU v h1, hF5 v h2]
    have o2278 := oU 2278 (by decide) (by decide); have o2279 := oU 2279 (by decide) (by decide); have orv := oU 2221 (by decide) (by decide); have o2285 := oU 2285 (by decide) (by decide); have o2281 := oU 2281 (by decide) (by decide); have o2282 := oU 2282 (by decide) (by decide)
    refine ⟨nC, nD, nT, nM, nP, nK, nS, nR, nL, nO, by omega, hmi.fr hF6 rfl, hta.fr hF6 rfl, hcl.fr hF6 rfl, hdr.fr hF6 rfl, ?_, hla.fr hF6 rfl, hma.fr hF6 rfl, hor.fr hF6 rfl, ?_, ?_, hse.fr hF6 rfl, hru.fr hF6 rfl, hmk.fr hF6 rfl⟩
    · have hG : Fr [2006, 2221 + 0] V (fun v => if v = 2006 then U5 2006 else if v = 2221 then U5 2221 else V v) := fun v hv => by
        have h1 : v ≠ 2006 := fun q => hv (by rw [q]; decide)
        have h2 : v ≠ 2221 := fun q => hv (by rw [q]; decide)
        simp [h1, h2]
      have hp := hth.put (b := 0) (x := x) (v := V 2221 0 x - 1) (by decide) (by grind) (by grind) hx hG (fun i j => by
        show U5 2006 i j = _
        rw [f2006, s2006]; simp (disch := first | omega | decide) only [setV_fn, setV_at, mkV_fn]; rw [z3]) (fun q => by
        show U5 2221 0 q = _
        rw [xrv]; simp (disch := first | omega | decide) only [setV_fn, setV_at, mkV_fn]; rw [orv]; simp)
      refine hp.ag (fun v hv => ?_)
      show _ = (if v = 2006 then U5 2006 else if v = 2221 then U5 2221 else V v)
      by_cases h1 : v = 2006
      · rw [if_pos h1, h1]
      · by_cases h2 : v = 2221
        · rw [if_neg h1, if_pos h2, h2]
        · rw [if_neg h1, if_neg h2]
          exact hF6 v ((show ∀ v, v ∈ vI_thing → v ≠ 2006 → v ≠ 2221 → v ∉ [1801, 1802, 2006, 1105, 1402, 1403, 1404, 1405, 1406, 1407, 1408, 2270, 2271, 2272, 2273, 2274, 2278, 2279, 2221, 2285] by decide) v hv h1 h2)
    · refine hpe.put (o := o) (a := V 2278 0 o - ptV V nO x) (b := V 2279 0 o - paidV V nO x) ho (hF6 2108 (by decide)) (hF6 2277 (by decide)) (fun i => ?_) (fun i => ?_) (fun i => ?_) (fun i => ?_)
      · rw [f1801, s1801]; simp (disch := first | omega | decide) only [setV_fn, setV_at, mkV_fn]; rw [z1]; simp
      · rw [f1802, s1802]; simp (disch := first | omega | decide) only [setV_fn, setV_at, mkV_fn]; rw [z2]; simp
      · rw [x2278]; simp (disch := first | omega | decide) only [setV_fn, setV_at, mkV_fn]; rw [o2278]; simp
      · rw [x2279]; simp (disch := first | omega | decide) only [setV_fn, setV_at, mkV_fn]; rw [o2279]; simp
    · refine hdo.close (xo := nI o) (xt := nI x) (fun v hv => hF6 v ((show ∀ v, v ∈ [1101, 1102, 1103, 1104, 2109, 2280, 2281, 2282, 2283, 2284] → v ∉ [1801, 1802, 2006, 1105, 1402, 1403, 1404, 1405, 1406, 1407, 1408, 2270, 2271, 2272, 2273, 2274, 2278, 2279, 2221, 2285] by decide) v hv)) (fun q => ?_) (fun q => ?_)
      · rw [f1105, c3 q, hF4 1101 (by decide), hF4 1102 (by decide), hF4 1105 (by decide)]
      · rw [d3 q, hFu 2281 (by decide), hFu 2282 (by decide)]
        simp (disch := first | omega | decide) only [setV_fn, setV_at, mkV_fn]
        rw [o2285]
theorem buys_1 {fu k o x nC nD nT nM nP nK nS nR nL nO : Nat} {V : St} (hfu : 1000 ≤ fu) (hk : k < 512) (hI' : Inv k V) (hL : nL ≤ k) (hmi : I_misc V) (hta : I_tape V) (hcl : I_cloth V nC) (hdr : I_draw V nD) (hth : I_thing V nC nT) (hla : I_lay V nT) (hma : I_mak V nM) (hor : I_ord V nO) (hpe : I_pers V nP) (hdo : I_dock V nT nK) (hse : I_seen V nS) (hru : I_rub V nR) (hmk : I_marks V nT nM nL) (ho : o < nP) (hx : x < nT) : Step k (fun V => f_X11_buys fu V (nI o) (nI x) 1) (fun V => f_X12_buys fu V (nI o) (nI x) 1) V := by
  have hA : Ask V nC nT nM nO := ⟨hcl, hth, hma, hor⟩
  have hwo := hmi.2.2.2.2
  have hnow := hmi.1
  have h30 := hth.1
  have h40 := hpe.1
  have h12 := hma.1
  have h60 := hdo.1
  obtain ⟨w, hw, hwn⟩ := nowN hmi
  obtain ⟨p, len, wid, q⟩ := hth.2.2.2.2 x hx
  obtain ⟨-, -, -, -, -, -, -, -, q9, q10, q11, q12, q13, q14, -⟩ := q
  obtain ⟨e1, e2⟩ := hpe.2.2.2.2 o ho
  have ct : cntV V 2105 = nT := cnt_n (by decide) (by omega) hth.2.1
  have hml : nI nL < 512 := nI_lt (b := 512) (by omega) (by decide)
  have m0 := hmk.1
  have p1 : ∀ W : St, W 2204 0 0 = nI nT → f_X12_isThing fu W (nI x) = some (1, W) := fun W hW => isThing_ok hW (by omega) hx
  have p2 : ∀ W : St, W 2277 0 0 = nI nP → f_X12_isPerson fu W (nI o) = some (1, W) := fun W hW => isPerson_ok hW (by omega) ho
  have hC0 : f_X11_buys fu V (nI o) (nI x) 1 = F_X11_buys_48 fu V (nI o) (nI x) 1 (nI o) (nI x) 1 := by
    simp (disch := omega) only [f_X11_buys, findThing_ok hth.2.1 (show nT ≤ 1000 by omega) hx, findPerson_ok hpe.2.1 (show nP ≤ 1000 by omega) ho, m0, hml, bd_some, n10, n00, bv_eq, within_eq, in_eq, gd_T, gd_t, i00, i10, c_0, c_1, c_m1, ite10, ite01, setV_fn, setV_at, cntS, nI_pos, nI_clamp, nI_leI, nI_ltI, nI_eq, nI_1, if_true, if_false, not_true, not_false, and_self, and_true, true_and, false_and, and_false, or_false, false_or, or_true, true_or, not_false_eq_true, ite_self, ite_true, ite_false, reduceIte, Nat.reduceEqDiff, Nat.reduceMul, Nat.reduceAdd, Nat.reduceLT, Nat.reducePow, ne_eq]
  have hR0 : ∀ W : St, Fr bws2 V W → f_X12_buys fu W (nI o) (nI x) 1 = F_X12_buys_37 fu W (nI o) (nI x) 1 (V 2222 0 x) := fun W hW => by
    unfold f_X12_buys
    rw [p2 _ (by rw [hW 2277 (by decide)]; exact hpe.2.2.1), bd_some, if_neg (by decide), p1 _ (by rw [hW 2204 (by decide)]; exact hth.2.2.1), bd_some, if_neg (by decide), if_neg (by decide), nI_clamp (by omega), hW 2222 (by decide), gd_t (by intro q; rcases q with q | q; exact nI_pos (by omega) q; omega)]
  by_cases hz : V 2222 0 x = 0
  · refine Step.same (r := -2) ?_ ?_ hI'
    · refine hC0.trans ?_
      simp (disch := omega) only [F_X11_buys_48, ct, q9, q10, hz, bd_some, n10, n00, bv_eq, within_eq, in_eq, gd_T, gd_t, i00, i10, c_0, c_1, c_m1, ite10, ite01, setV_fn, setV_at, cntS, nI_pos, nI_clamp, nI_leI, nI_ltI, nI_eq, nI_1, if_true, if_false, not_true, not_false, and_self, and_true, true_and, false_and, and_false, or_false, false_or, or_true, true_or, not_false_eq_true, ite_self, ite_true, ite_false, reduceIte, Nat.reduceEqDiff, Nat.reduceMul, Nat.reduceAdd, Nat.reduceLT, Nat.reducePow, ne_eq]
    · refine (hR0 V (Fr.refl _ V)).trans ?_
      rw [F_X12_buys_37, if_pos hz]
  obtain ⟨Wa, a1, a2⟩ := askNow_eq (fu := fu) (L := 112) hfu hA (okT_nI hx) (okT_m1 _) (by decide)
  have hmx := max0 (wo := -1) (wk := V 2201 0 0) (t := V 2201 0 0) (x := nI x) (m := -1) (L := 112) hor
  rw [hnow] at a1
  have hpt : (if 0 < lastV V (-1) (V 2201 0 0) (V 2201 0 0) nO 112 (nI x) (-1) then lastV V (-1) (V 2201 0 0) (V 2201 0 0) nO 112 (nI x) (-1) else 0) = ptV V nO x := hmx
  have hAa := hA.fr a2 (by decide) (by decide) (by decide) (by decide)
  have cpa : cntV Wa 2108 = nP := cnt_n (by decide) (by omega) (by rw [a2 2108 (by decide)]; exact hpe.2.1)
  have y1 := a2 1801 (by decide)
  by_cases h1 : ptV V nO x ≤ V 2278 0 o
  rotate_left
  · obtain ⟨U1, u1, u2⟩ := refBuys (fu := fu) (b := 1) (s0 := V 2222 0 x) (nP := nP) hfu hA hwo (a2.weak (show scr.all (fun v => bws2.contains v) = true by decide)) hz ho h40 hx
    rw [if_neg h1] at u2
    refine ⟨-3, Wa, U1, ?_, ?_, hI'.scr ((a2.weak (by decide)).trans (u1.weak (by decide)))⟩
    · refine hC0.trans ?_
      simp (disch := omega) only [F_X11_buys_48, ct, q9, q10, hz, a1, hpt, cpa, y1, e1, h1, bd_some, n10, n00, bv_eq, within_eq, in_eq, gd_T, gd_t, i00, i10, c_0, c_1, c_m1, ite10, ite01, setV_fn, setV_at, cntS, nI_pos, nI_clamp, nI_leI, nI_ltI, nI_eq, nI_1, if_true, if_false, not_true, not_false, and_self, and_true, true_and, false_and, and_false, or_false, false_or, or_true, true_or, not_false_eq_true, ite_self, ite_true, ite_false, reduceIte, Nat.reduceEqDiff, Nat.reduceMul, Nat.reduceAdd, Nat.reduceLT, Nat.reducePow, ne_eq]
    · exact (hR0 Wa (a2.weak (show scr.all (fun v => bws2.contains v) = true by decide))).trans u2
  obtain ⟨W0, b1, b2⟩ := paidNow_eq (fu := fu) hfu hAa (by rw [a2 2101 (by decide), a2 2201 (by decide)]; exact hnow) hx
  rw [paidV_ag (av_fr a2 (by decide)) (a2 2201 (by decide)) (a2 2220 (by decide))] at b1
  have hF0 : Fr scr V W0 := a2.trans b2
  have cp0 : cntV W0 2108 = nP := cnt_n (by decide) (by omega) (by rw [hF0 2108 (by decide)]; exact hpe.2.1)
  have ct0 : cntV W0 2105 = nT := cnt_n (by decide) (by omega) (by rw [hF0 2105 (by decide)]; exact hth.2.1)
  have z1 := hF0 1801 (by decide); have z2 := hF0 1802 (by decide); have z3 := hF0 2006 (by decide); have z4 := hF0 2112 (by decide); have z5 := hF0 2101 (by decide)
  by_cases h2 : paidV V nO x ≤ V 2279 0 o
  rotate_left
  · obtain ⟨U1, u1, u2⟩ := refBuys (fu := fu) (b := 1) (s0 := V 2222 0 x) (nP := nP) hfu hA hwo (hF0.weak (show scr.all (fun v => bws2.contains v) = true by decide)) hz ho h40 hx
    rw [if_pos h1, if_neg h2] at u2
    refine ⟨-4, W0, U1, ?_, ?_, hI'.scr ((hF0.weak (by decide)).trans (u1.weak (by decide)))⟩
    · refine hC0.trans ?_
      simp (disch := omega) only [F_X11_buys_48, ct, q9, q10, hz, a1, hpt, cpa, y1, e1, h1, b1, cp0, z2, e2, h2, bd_some, n10, n00, bv_eq, within_eq, in_eq, gd_T, gd_t, i00, i10, c_0, c_1, c_m1, ite10, ite01, setV_fn, setV_at, cntS, nI_pos, nI_clamp, nI_leI, nI_ltI, nI_eq, nI_1, if_true, if_false, not_true, not_false, and_self, and_true, true_and, false_and, and_false, or_false, false_or, or_true, true_or, not_false_eq_true, ite_self, ite_true, ite_false, reduceIte, Nat.reduceEqDiff, Nat.reduceMul, Nat.reduceAdd, Nat.reduceLT, Nat.reducePow, ne_eq]
    · exact (hR0 W0 (hF0.weak (show scr.all (fun v => bws2.contains v) = true by decide))).trans u2
  have hF4 : Fr [1801, 1802, 2006, 2112, 1361, 1362, 1363, 1364, 1402, 1403, 1404, 1405, 1406, 1407, 1408] V (mkV (setV (setV (setV W0 1801 o 0 (V 2278 0 o - ptV V nO x)) 1802 o 0 (V 2279 0 o - paidV V nO x)) 2006 x 1 (V 2222 0 x - 1)) 2112 nL gv_1360 (F_1360 (nI x) (-1) (V 2201 0 0) 1)) := ((((hF0.weak (by decide)).set (by decide)).set (by decide)).set (by decide)).mk (by decide) (by decide)
  have hok : mkOK (setV (setV (setV W0 1801 o 0 (V 2278 0 o - ptV V nO x)) 1802 o 0 (V 2279 0 o - paidV V nO x)) 2006 x 1 (V 2222 0 x - 1)) 2112 = true := mkOK_ag (n := nL) hcl hth hla (fun v hv => by
    have hne : ∀ u, u ∈ [1801, 1802, 2006] → v ≠ u := fun u hu => by intro q; subst q; revert hu hv; revert v; decide
    rw [setV_fn (hne 2006 (by decide)), setV_fn (hne 1802 (by decide)), setV_fn (hne 1801 (by decide))]
    exact hF0 v ((show ∀ v, v ∈ [1506, 2003, 2103, 2105] → v ∉ scr by decide) v hv)) (by simp (disch := omega) only [setV_fn]; rw [z4]; exact m0) (by omega)
  obtain ⟨W5, c1, c2, c3⟩ := lp_close1 (fu := fu) (n := nK) (xo := nI o) (xt := nI x) nK fu 0 (mkV (setV (setV (setV W0 1801 o 0 (V 2278 0 o - ptV V nO x)) 1802 o 0 (V 2279 0 o - paidV V nO x)) 2006 x 1 (V 2222 0 x - 1)) 2112 nL gv_1360 (F_1360 (nI x) (-1) (V 2201 0 0) 1)) h60 (by rw [hF4 2109 (by decide)]; exact hdo.2.1) (by omega) (by omega)
  have hF5 : Fr [1801, 1802, 2006, 2112, 1361, 1362, 1363, 1364, 1105, 1402, 1403, 1404, 1405, 1406, 1407, 1408] V W5 := (hF4.weak (by decide)).trans (c2.weak (by decide))
  have hF5b : Fr bws2 V W5 := hF5.weak (by decide)
  obtain ⟨U1, u1, u2⟩ := refBuys (fu := fu) (b := 1) (s0 := V 2222 0 x) (nP := nP) hfu hA hwo hF5b hz ho h40 hx
  rw [if_pos h1, if_pos h2, if_neg (by decide)] at u2
  rw [hwn, ix500, nI_clamp (by omega), gd_t (by intro q; rcases q with q | q; exact nI_pos (by omega) q; omega)] at u2
  have hFu : Fr [1801, 1802, 2006, 2112, 1361, 1362, 1363, 1364, 1105, 1402, 1403, 1404, 1405, 1406, 1407, 1408, 2270, 2271, 2272, 2273, 2274, 2278, 2279, 2222, 2276, 2285] V (setV (setV (setV (setV U1 2278 0 o (V 2278 0 o - ptV V nO x)) 2279 0 o (V 2279 0 o - paidV V nO x)) 2222 0 x (V 2222 0 x - 1)) 2276 0 (500 * x + w) (V 2276 0 (500 * x + w) + 1)) := (((((hF5.weak (by decide)).trans (u1.weak (by decide))).set (by decide)).set (by decide)).set (by decide)).set (by decide)
  obtain ⟨U5, d1, d2, d3⟩ := lp_close2 (fu := fu) (n := nK) (xo := nI o) (xt := nI x) (xp := paidV V nO x) nK fu 0 (setV (setV (setV (setV U1 2278 0 o (V 2278 0 o - ptV V nO x)) 2279 0 o (V 2279 0 o - paidV V nO x)) 2222 0 x (V 2222 0 x - 1)) 2276 0 (500 * x + w) (V 2276 0 (500 * x + w) + 1)) h60 (by rw [hFu 2280 (by decide)]; exact hdo.2.2.1) (by omega) (by omega)
  have hF6 : Fr [1801, 1802, 2006, 2112, 1361, 1362, 1363, 1364, 1105, 1402, 1403, 1404, 1405, 1406, 1407, 1408, 2270, 2271, 2272, 2273, 2274, 2278, 2279, 2222, 2276, 2285] V U5 := hFu.trans (d2.weak (by decide))
  refine ⟨paidV V nO x, W5, U5, ?_, ?_, ?_⟩
  · refine hC0.trans ?_
    rw [nI_0] at c1
    have c1' : f_X11_closeDockets fu (mkV (setV (setV (setV W0 1801 o 0 (V 2278 0 o - ptV V nO x)) 1802 o 0 (V 2279 0 o - paidV V nO x)) 2006 x 1 (V 2222 0 x - 1)) 2112 nL gv_1360 (F_1360 (nI x) (-1) (V 2201 0 0) 1)) (nI o) (nI x) = some (0, W5) := c1
    simp (disch := omega) only [F_X11_buys_48, F_X11_buys_175, ct, q9, q10, hz, a1, hpt, cpa, y1, e1, h1, b1, cp0, ct0, z1, z2, z3, z4, z5, e2, h2, m0, hnow, hok, c1', bd_some, n10, n00, bv_eq, within_eq, in_eq, gd_T, gd_t, i00, i10, c_0, c_1, c_m1, ite10, ite01, setV_fn, setV_at, cntS, nI_pos, nI_clamp, nI_leI, nI_ltI, nI_eq, nI_1, if_true, if_false, not_true, not_false, and_self, and_true, true_and, false_and, and_false, or_false, false_or, or_true, true_or, not_false_eq_true, ite_self, ite_true, ite_false, reduceIte, Nat.reduceEqDiff, Nat.reduceMul, Nat.reduceAdd, Nat.reduceLT, Nat.reducePow, ne_eq]
  · refine (hR0 W5 hF5b).trans ?_
    rw [u2, F_X12_buys_193]
    rw [nI_0] at d1
    exact d1
  · have r5 : ∀ v, v ∉ [1105] → W5 v = (mkV (setV (setV (setV W0 1801 o 0 (V 2278 0 o - ptV V nO x)) 1802 o 0 (V 2279 0 o - paidV V nO x)) 2006 x 1 (V 2222 0 x - 1)) 2112 nL gv_1360 (F_1360 (nI x) (-1) (V 2201 0 0) 1)) v := fun v hv => c2 v hv
    have rU : ∀ v, v ∉ rsc → U1 v = W5 v := fun v hv => u1 v hv
    have gU : ∀ v, v ≠ 2278 → v ≠ 2279 → v ≠ 2222 → v ≠ 2276 → v ≠ 2285 → v ∉ rsc → U5 v = W5 v := fun v h1 h2 h3 h6 h4 h5 => by
      rw [d2 v (by intro q; rw [List.mem_singleton] at q; exact h4 q), setV_fn h6, setV_fn h3, setV_fn h2, setV_fn h1, rU v h5]
    have f1801 := gU 1801 (by decide) (by decide) (by decide) (by decide) (by decide) (by decide); have f1802 := gU 1802 (by decide) (by decide) (by decide) (by decide) (by decide) (by decide); have f2006 := gU 2006 (by decide) (by decide) (by decide) (by decide) (by decide) (by decide); have f1105 := gU 1105 (by decide) (by decide) (by decide) (by decide) (by decide) (by decide)
    have s1801 := r5 1801 (by decide); have s1802 := r5 1802 (by decide); have s2006 := r5 2006 (by decide)
    have x2278 := d2 2278 (by decide); have x2279 := d2 2279 (by decide); have xrv := d2 2222 (by decide)
    have oU : ∀ v, v ∉ rsc → v ∉ [1801, 1802, 2006, 2112, 1361, 1362, 1363, 1364, 1105, 1402, 1403, 1404, 1405, 1406, 1407, 1408] → U1 v = V v := fun v h1 h2 => by rw [rU v h1, hF5 v h2]
    have o2278 := oU 2278 (by decide) (by decide); have o2279 := oU 2279 (by decide) (by decide); have orv := oU 2222 (by decide) (by decide); have o2285 := oU 2285 (by decide) (by decide); have o2281 := oU 2281 (by decide) (by decide); have o2282 := oU 2282 (by decide) (by decide)
    refine ⟨nC, nD, nT, nM, nP, nK, nS, nR, nL + 1, nO, by omega, hmi.fr hF6 rfl, hta.fr hF6 rfl, hcl.fr hF6 rfl, hdr.fr hF6 rfl, ?_, hla.fr hF6 rfl, hma.fr hF6 rfl, hor.fr hF6 rfl, ?_, ?_, hse.fr hF6 rfl, hru.fr hF6 rfl, ?_⟩
    · have hG : Fr [2006, 2221 + 1] V (fun v => if v = 2006 then U5 2006 else if v = 2222 then U5 2222 else V v) := fun v hv => by
        have h1 : v ≠ 2006 := fun q => hv (by rw [q]; decide)
        have h2 : v ≠ 2222 := fun q => hv (by rw [q]; decide)
        simp [h1, h2]
      have hp := hth.put (b := 1) (x := x) (v := V 2222 0 x - 1) (by decide) (by grind) (by grind) hx hG (fun i j => by
        show U5 2006 i j = _
        rw [f2006, s2006]; simp (disch := first | omega | decide) only [setV_fn, setV_at, mkV_fn]; rw [z3]) (fun q => by
        show U5 2222 0 q = _
        rw [xrv]; simp (disch := first | omega | decide) only [setV_fn, setV_at, mkV_fn]; rw [orv]; simp)
      refine hp.ag (fun v hv => ?_)
      show _ = (if v = 2006 then U5 2006 else if v = 2222 then U5 2222 else V v)
      by_cases h1 : v = 2006
      · rw [if_pos h1, h1]
      · by_cases h2 : v = 2222
        · rw [if_neg h1, if_pos h2, h2]
        · rw [if_neg h1, if_neg h2]
          exact hF6 v ((show ∀ v, v ∈ vI_thing → v ≠ 2006 → v ≠ 2222 → v ∉ [1801, 1802, 2006, 2112, 1361, 1362, 1363, 1364, 1105, 1402, 1403, 1404, 1405, 1406, 1407, 1408, 2270, 2271, 2272, 2273, 2274, 2278, 2279, 2222, 2276, 2285] by decide) v hv h1 h2)
    · refine hpe.put (o := o) (a := V 2278 0 o - ptV V nO x) (b := V 2279 0 o - paidV V nO x) ho (hF6 2108 (by decide)) (hF6 2277 (by decide)) (fun i => ?_) (fun i => ?_) (fun i => ?_) (fun i => ?_)
      · rw [f1801, s1801]; simp (disch := first | omega | decide) only [setV_fn, setV_at, mkV_fn]; rw [z1]; simp
      · rw [f1802, s1802]; simp (disch := first | omega | decide) only [setV_fn, setV_at, mkV_fn]; rw [z2]; simp
      · rw [x2278]; simp (disch := first | omega | decide) only [setV_fn, setV_at, mkV_fn]; rw [o2278]; simp
      · rw [x2279]; simp (disch := first | omega | decide) only [setV_fn, setV_at, mkV_fn]; rw [o2279]; simp
    · refine hdo.close (xo := nI o) (xt := nI x) (fun v hv => hF6 v ((show ∀ v, v ∈ [1101, 1102, 1103, 1104, 2109, 2280, 2281, 2282, 2283, 2284] → v ∉ [1801, 1802, 2006, 2112, 1361, 1362, 1363, 1364, 1105, 1402, 1403, 1404, 1405, 1406, 1407, 1408, 2270, 2271, 2272, 2273, 2274, 2278, 2279, 2222, 2276, 2285] by decide) v hv)) (fun q => ?_) (fun q => ?_)
      · rw [f1105, c3 q, hF4 1101 (by decide), hF4 1102 (by decide), hF4 1105 (by decide)]
      · rw [d3 q, hFu 2281 (by decide), hFu 2282 (by decide)]
        simp (disch := first | omega | decide) only [setV_fn, setV_at, mkV_fn]
        rw [o2285]
    · have f1 := gU 1361 (by decide) (by decide) (by decide) (by decide) (by decide) (by decide); have f2 := gU 1362 (by decide) (by decide) (by decide) (by decide) (by decide) (by decide); have f3 := gU 1363 (by decide) (by decide) (by decide) (by decide) (by decide) (by decide); have f4 := gU 1364 (by decide) (by decide) (by decide) (by decide) (by decide) (by decide); have f5 := gU 2112 (by decide) (by decide) (by decide) (by decide) (by decide) (by decide)
      have k1 := r5 1361 (by decide); have k2 := r5 1362 (by decide); have k3 := r5 1363 (by decide); have k4 := r5 1364 (by decide); have k5 := r5 2112 (by decide)
      have j1 := hF0 1361 (by decide); have j2 := hF0 1362 (by decide); have j3 := hF0 1363 (by decide); have j4 := hF0 1364 (by decide)
      have x2276 := d2 2276 (by decide); have o2276 := oU 2276 (by decide) (by decide)
      refine hmk.add (x := x) (w := w) (bb := -1) (n := 1) h30 h12 ?_ (fun e he => ?_) ?_ ?_ ?_ ?_ hx hw (.inl ⟨rfl, hF6 2275 (by decide), fun q => ?_⟩)
      · rw [f5, k5, mkV_cnt]
      · have hne : ¬ e = nL := by omega
        rw [f1, f2, f3, f4, k1, k2, k3, k4]
        simp (disch := first | omega | decide) only [setV_fn, mkV_at, hne, if_false, j1, j2, j3, j4, and_self]
      · rw [f1, k1]; simp (disch := first | omega | decide) only [mkV_at, if_true, F_1360]
      · rw [f2, k2]; simp (disch := first | omega | decide) only [mkV_at, if_true, F_1360, Nat.reduceEqDiff, if_false]
      · rw [f3, k3]; simp (disch := first | omega | decide) only [mkV_at, if_true, F_1360, Nat.reduceEqDiff, if_false]; exact hwn
      · rw [f4, k4]; simp (disch := first | omega | decide) only [mkV_at, if_true, F_1360, Nat.reduceEqDiff, if_false]
      · rw [x2276]; simp (disch := first | omega | decide) only [setV_fn, setV_at, mkV_fn]; rw [o2276]; by_cases hz : q = 500 * x + w <;> simp [hz]
