/-! order -/
def ordw : List Nat := [1401, 1701, 1702, 1703, 1704, 1705, 1706, 1707, 1708, 1709, 1790, 1901, 1902, 1903, 1904, 1905, 1906, 1907, 1908, 1909, 1910, 1911, 2114, 2242, 2243, 2244, 2245, 2246, 2247, 2248, 2249, 2250, 2251, 2252, 2253, 2254, 2255, 2256, 2257, 2258, 2260, 2261, 2262, 2263, 2264, 2265, 2266, 2267, 2268, 2269]
def rd0 (V : St) (n : Nat) : St := setV (setV (setV (setV (setV (setV (setV V 2114 0 0 0) 1908 0 0 0) 1909 0 0 (nI n)) 1910 0 0 0) 1911 0 0 0) 1906 0 0 0) 1907 0 0 0
def rr0 (Y : St) (n : Nat) : St := setV (setV (setV (setV Y 2243 0 0 0) 2244 0 0 (nI n)) 2248 0 0 0) 2250 0 0 0
theorem P_order {fu k : Nat} {V : St} (hfu : 1000 ≤ fu) (hI : Inv k V) (xf xt xn : Int32) : Step k (fun V => f_X11_order fu V xf xt xn) (fun V => f_X12_order fu V xf xt xn) V := by
  have hI' := hI
  obtain ⟨nC, nD, nT, nM, nP, nK, nS, nR, nL, nO, hL, hmi, hta, hcl, hdr, hth, hla, hma, hor, hpe, hdo, hse, hru, hmk⟩ := hI
  obtain ⟨t1, t2, ⟨t, t400, t3⟩, t4, t5, t6, t7⟩ := hta
  obtain ⟨o30, on1, on2, ox⟩ := hor
  rcases (Decidable.em (0 ≤ xf ∧ xf ≤ 499)).symm with h0 | h0
  · refine Step.same (r := -1) ?_ ?_ hI'
    · simp (disch := omega) only [f_X11_order, F_X11_order_33, h0, bd_some, n10, n00, bv_eq, within_eq, in_eq, gd_T, gd_t, i00, i10, c_0, c_1, c_m1, ite10, ite01, setV_fn, setV_at, cntS, nI_pos, nI_clamp, nI_leI, nI_ltI, nI_eq, nI_1, if_true, if_false, not_true, not_false, and_self, and_true, true_and, false_and, and_false, or_false, false_or, or_true, true_or, not_false_eq_true, ite_self, ite_true, ite_false, reduceIte, Nat.reduceEqDiff, Nat.reduceMul, Nat.reduceAdd, Nat.reduceLT, Nat.reducePow, ne_eq]
    · simp (disch := omega) only [f_X12_order, F_X12_order_46, week_eq, h0, bd_some, n10, n00, bv_eq, within_eq, in_eq, gd_T, gd_t, i00, i10, c_0, c_1, c_m1, ite10, ite01, setV_fn, setV_at, cntS, nI_pos, nI_clamp, nI_leI, nI_ltI, nI_eq, nI_1, if_true, if_false, not_true, not_false, and_self, and_true, true_and, false_and, and_false, or_false, false_or, or_true, true_or, not_false_eq_true, ite_self, ite_true, ite_false, reduceIte, Nat.reduceEqDiff, Nat.reduceMul, Nat.reduceAdd, Nat.reduceLT, Nat.reducePow, ne_eq]
  rcases (Decidable.em (xf ≤ xt ∧ xt ≤ 499)).symm with h1 | h1
  · refine Step.same (r := -1) ?_ ?_ hI'
    · simp (disch := omega) only [f_X11_order, F_X11_order_33, h0, h1, bd_some, n10, n00, bv_eq, within_eq, in_eq, gd_T, gd_t, i00, i10, c_0, c_1, c_m1, ite10, ite01, setV_fn, setV_at, cntS, nI_pos, nI_clamp, nI_leI, nI_ltI, nI_eq, nI_1, if_true, if_false, not_true, not_false, and_self, and_true, true_and, false_and, and_false, or_false, false_or, or_true, true_or, not_false_eq_true, ite_self, ite_true, ite_false, reduceIte, Nat.reduceEqDiff, Nat.reduceMul, Nat.reduceAdd, Nat.reduceLT, Nat.reducePow, ne_eq]
    · simp (disch := omega) only [f_X12_order, F_X12_order_46, week_eq, h0, h1, bd_some, n10, n00, bv_eq, within_eq, in_eq, gd_T, gd_t, i00, i10, c_0, c_1, c_m1, ite10, ite01, setV_fn, setV_at, cntS, nI_pos, nI_clamp, nI_leI, nI_ltI, nI_eq, nI_1, if_true, if_false, not_true, not_false, and_self, and_true, true_and, false_and, and_false, or_false, false_or, or_true, true_or, not_false_eq_true, ite_self, ite_true, ite_false, reduceIte, Nat.reduceEqDiff, Nat.reduceMul, Nat.reduceAdd, Nat.reduceLT, Nat.reducePow, ne_eq]
  rcases (Decidable.em (1 ≤ xn ∧ xn ≤ 160)).symm with h2 | h2
  · refine Step.same (r := -1) ?_ ?_ hI'
    · simp (disch := omega) only [f_X11_order, F_X11_order_33, h0, h1, h2, bd_some, n10, n00, bv_eq, within_eq, in_eq, gd_T, gd_t, i00, i10, c_0, c_1, c_m1, ite10, ite01, setV_fn, setV_at, cntS, nI_pos, nI_clamp, nI_leI, nI_ltI, nI_eq, nI_1, if_true, if_false, not_true, not_false, and_self, and_true, true_and, false_and, and_false, or_false, false_or, or_true, true_or, not_false_eq_true, ite_self, ite_true, ite_false, reduceIte, Nat.reduceEqDiff, Nat.reduceMul, Nat.reduceAdd, Nat.reduceLT, Nat.reducePow, ne_eq]
    · simp (disch := omega) only [f_X12_order, F_X12_order_46, week_eq, h0, h1, h2, bd_some, n10, n00, bv_eq, within_eq, in_eq, gd_T, gd_t, i00, i10, c_0, c_1, c_m1, ite10, ite01, setV_fn, setV_at, cntS, nI_pos, nI_clamp, nI_leI, nI_ltI, nI_eq, nI_1, if_true, if_false, not_true, not_false, and_self, and_true, true_and, false_and, and_false, or_false, false_or, or_true, true_or, not_false_eq_true, ite_self, ite_true, ite_false, reduceIte, Nat.reduceEqDiff, Nat.reduceMul, Nat.reduceAdd, Nat.reduceLT, Nat.reducePow, ne_eq]
  obtain ⟨n, n1, n2, rfl⟩ := in_nI (a := 1) (n := 161) (x := xn) h2 (by omega) (by omega)
  have hC0 : f_X11_order fu V xf xt (nI n) = if 30 ≤ nI nO then F_X11_order_58 fu V else (if nI n ≤ nI t then (bd (f_X9_read fu (setV V 2114 0 0 0) (nI n)) fun r17 V18 => if r17 = 0 then (gd (mkOK V18 1401 = true) <| gd (¬ V18 1906 0 0 < 0 ∧ (V18 1906 0 0).toNatClampNeg ≤ 12) <| gd (¬ V18 1907 0 0 < 0 ∧ (V18 1907 0 0).toNatClampNeg ≤ 160) <| bv (mkV V18 1401 (V18 1401 0 0).toNatClampNeg gv_1700 (F_1700 xf xt ((V18 2101 0 0)) (V18 1906 0 0) (V18 1907 0 0) (V18 1901 0) (V18 1902 0) (V18 1903 0) (V18 1904 0) (V18 1905 0))) fun V24 => some ((V24 1401 0 0) - 1, V24)) else (some (r17, V18))) else F_X11_order_58 fu V) := by
    rw [f_X11_order, within_eq, bd_some, if_pos h0, if_neg (by decide), within_eq, bd_some, if_pos h1, if_neg (by decide), within_eq, bd_some, if_pos h2, if_neg (by decide), on1, t2, t3]
    rfl
  have hR0 : ∀ Y : St, Y 2242 0 0 = nI t → Y 2258 0 0 = nI nO → f_X12_order fu Y xf xt (nI n) = if nI t < nI n then F_X12_order_46 fu Y else (if nI nO = 30 then F_X12_order_46 fu Y else (bd (f_X12_readsClause fu (rr0 Y n)) fun r23 V24 => Lp_X12_order_74 (F_X12_order_116 fu) fu fu V24 xf xt (r23))) := fun Y y1 y2 => by
    rw [f_X12_order, week_eq, bd_some, if_pos h0, if_neg (by decide), in_eq, bd_some, if_pos h1, if_neg (by decide), in_eq, bd_some, if_pos h2, if_neg (by decide), y1, y2]
    rfl
  by_cases hmx : nO = 30
  · refine Step.same (r := -1) ?_ ?_ hI'
    · refine hC0.trans ?_
      rw [if_pos (show (30 : Int32) ≤ nI nO by rw [hmx]; decide), F_X11_order_58]
    · refine (hR0 V t3 on2).trans ?_
      rw [if_pos (show nI nO = 30 by rw [hmx]; rfl), F_X12_order_46]
      split <;> rfl
  have hnO : nO < 30 := by omega
  rw [if_neg (show ¬ (30 : Int32) ≤ nI nO from nI_ge (b := 30) hnO (by omega))] at hC0
  by_cases htn : n ≤ t
  rotate_left
  · refine Step.same (r := -1) ?_ ?_ hI'
    · refine hC0.trans ?_
      rw [if_neg (nI_ge (by omega) (by omega)), F_X11_order_58]
    · refine (hR0 V t3 on2).trans ?_
      rw [if_pos (nI_lt (by omega) (by omega)), F_X12_order_46]
  rw [if_pos (nI_le htn (by omega))] at hC0
  have htx : isTx (V 2241 0) n := ⟨by omega, t4⟩
  have hF0 : Fr ordw V (rd0 V n) := (((((((Fr.refl _ V).set (by decide)).set (by decide)).set (by decide)).set (by decide)).set (by decide)).set (by decide)).set (by decide)
  have hrd : f_X9_read fu (setV V 2114 0 0 0) (nI n) = Lp_X9_read_37 (F_X9_read_50 fu) (F_X9_read_66 fu) (F_X9_read_77 fu) (F_X9_read_88 fu) fu fu (rd0 V n) (nI 0) := by
    have hl : lenV (setV (setV V 2114 0 0 0) 1908 0 0 0) 1002190 0 = 400 := by show ((setV (setV V 2114 0 0 0) 1908 0 0 0) 2190 0 0).toNatClampNeg = 400; rw [setV_fn (by decide), setV_fn (by decide), t5]; rfl
    rw [f_X9_read, bv_eq, hl, if_neg (show ¬ nI 400 < nI n from nI_nlt (by omega) (by omega)), bv_eq, bv_eq, bv_eq, bv_eq, bv_eq, nI_0]
    rfl
  have htC : TxC (rd0 V n) (V 2241 0) n := by
    unfold rd0
    refine ⟨htx, ?_, ?_, ?_, ?_⟩
    · rw [setV_fn (by decide), setV_fn (by decide), setV_fn (by decide), setV_fn (by decide), setV_fn (by decide), setV_at, if_pos ⟨rfl, rfl⟩]
    · rw [setV_fn (by decide), setV_fn (by decide), setV_fn (by decide), setV_fn (by decide), setV_at, if_pos ⟨rfl, rfl⟩]
    · rw [setV_fn (by decide), setV_fn (by decide), setV_fn (by decide), setV_fn (by decide), setV_fn (by decide), setV_fn (by decide), setV_fn (by decide)]; exact t5
    · rw [setV_fn (by decide), setV_fn (by decide), setV_fn (by decide), setV_fn (by decide), setV_fn (by decide), setV_fn (by decide), setV_fn (by decide)]; exact t1
  obtain ⟨c1, c2⟩ := text_C (fu := fu) (n := n) (T := V 2241 0) hfu 200 fu 0 0 0 (rd0 V n) (by omega) htC (by unfold rd0; rw [setV_fn (by decide), setV_fn (by decide), setV_fn (by decide), setV_at, if_pos ⟨rfl, rfl⟩, nI_0]) (by unfold rd0; rw [setV_at, if_pos ⟨rfl, rfl⟩, nI_0]) (by unfold rd0; rw [setV_fn (by decide), setV_at, if_pos ⟨rfl, rfl⟩, nI_0]) (by omega) (by omega) (by omega)
  -- what the reference does, on any such state
  have ref : ∀ Y : St, Fr ordw V Y → Y 2242 = V 2242 → Y 2258 = V 2258 → RT (rr0 Y n) (V 2241 0) n 0 0 0 ∧ f_X12_order fu Y xf xt (nI n) = RTx fu fu (rr0 Y n) xf xt := fun Y hY y1 y2 => by
    have hrt : RT (rr0 Y n) (V 2241 0) n 0 0 0 := by
      unfold rr0
      refine ⟨⟨htx, ?_, ?_⟩, ?_, ?_, ?_⟩
      · rw [setV_fn (by decide), setV_fn (by decide), setV_at, if_pos ⟨rfl, rfl⟩]
      · rw [setV_fn (by decide), setV_fn (by decide), setV_fn (by decide), setV_fn (by decide), hY 2241 (by decide)]
      · rw [setV_fn (by decide), setV_fn (by decide), setV_fn (by decide), setV_at, if_pos ⟨rfl, rfl⟩, nI_0]
      · rw [setV_fn (by decide), setV_at, if_pos ⟨rfl, rfl⟩, nI_0]
      · rw [setV_at, if_pos ⟨rfl, rfl⟩, nI_0]
    refine ⟨hrt, ?_⟩
    rw [hR0 Y (by rw [y1]; exact t3) (by rw [y2]; exact on2), if_neg (nI_nlt htn (by omega)), if_neg (show ¬ nI nO = 30 from fun z => hmx ((nI_eq (b := 30) (by omega) (by omega)).mp z)), text_0 hfu hrt (by omega) (by omega) (by omega)]
  obtain ⟨fu', rfl⟩ : ∃ N', fu = N' + 1 := ⟨fu - 1, by omega⟩
  have tape : ∀ W : St, Fr ordw V W → W 2114 0 0 = 0 → W 2242 0 0 = 0 → W 1908 0 0 = 0 → I_tape W := fun W hF w1 w2 w3 => ⟨by rw [hF 2113 (by decide), hF 2241 (by decide)]; exact t1, by rw [w1, w2], ⟨0, by omega, by rw [w2]; rfl⟩, by rw [hF 2241 (by decide)]; exact t4, by rw [hF 2190 (by decide)]; exact t5, by rw [hF 2190 (by decide)]; exact t6, .inl w3⟩
  cases hr : txL (hN (V 2241 0) n) n 200 0 0 with
  | inl f =>
    obtain ⟨V18, a1, a2⟩ := c1 f hr (by omega)
    have hf := txL_ne htx 200 0 0 f (by omega) hr
    have hF18 : Fr ordw V V18 := hF0.trans (Fr.weak a2 (by decide))
    have h2242 : V18 2242 = V 2242 := by rw [a2 2242 (by decide)]; unfold rd0; rw [setV_fn (by decide), setV_fn (by decide), setV_fn (by decide), setV_fn (by decide), setV_fn (by decide), setV_fn (by decide), setV_fn (by decide)]
    have h2258 : V18 2258 = V 2258 := by rw [a2 2258 (by decide)]; unfold rd0; rw [setV_fn (by decide), setV_fn (by decide), setV_fn (by decide), setV_fn (by decide), setV_fn (by decide), setV_fn (by decide), setV_fn (by decide)]
    rw [hrd, a1, bd_some, if_neg hf] at hC0
    obtain ⟨r0, r1⟩ := ref V18 hF18 h2242 h2258
    obtain ⟨U', u1, u2, u3⟩ := (text_R (fu := fu' + 1) (n := n) (T := V 2241 0) (x1 := xf) (x2 := xt) hfu 200 fu' 0 0 0 (rr0 V18 n) (by omega) r0 (by omega) (by omega) (by omega)).1 f hr (by omega)
    have hFr : Fr ordw V18 (rr0 V18 n) := ((((Fr.refl _ V18).set (by decide)).set (by decide)).set (by decide)).set (by decide)
    have hFU : Fr ordw V (setV U' 2242 0 0 0) := ((hF18.trans hFr).trans (Fr.weak u2 (by decide))).set (by decide)
    refine ⟨f, V18, setV U' 2242 0 0 0, hC0, ?_, ?_⟩
    · refine r1.trans ?_
      rw [u1, F_X12_order_116, bv_eq, if_pos rfl, setV_fn (show 2245 ≠ 2242 by decide), u3]
    · have hU : ∀ v, v ∉ rcw → v ≠ 2243 → v ≠ 2244 → v ≠ 2248 → v ≠ 2250 → U' v = V18 v := fun v q1 q2 q3 q4 q5 => by
        rw [u2 v q1]; unfold rr0; rw [setV_fn q5, setV_fn q4, setV_fn q3, setV_fn q2]
      have hor' : I_ord (setV U' 2242 0 0 0) nO := by
        have hFo : Fr [1901, 1902, 1903, 1904, 1905, 1906, 1907, 1908, 1909, 1910, 1911, 2114, 2242, 2243, 2244, 2245, 2246, 2247, 2248, 2249, 2250, 2251, 2252, 2253, 2254, 2255, 2256, 2257] V (setV U' 2242 0 0 0) := by
          have f0 : Fr [1901, 1902, 1903, 1904, 1905, 1906, 1907, 1908, 1909, 1910, 1911, 2114, 2242, 2243, 2244, 2245, 2246, 2247, 2248, 2249, 2250, 2251, 2252, 2253, 2254, 2255, 2256, 2257] V (rd0 V n) := (((((((Fr.refl _ V).set (by decide)).set (by decide)).set (by decide)).set (by decide)).set (by decide)).set (by decide)).set (by decide)
          exact (((f0.trans (Fr.weak a2 (by decide))).trans (((((Fr.refl _ V18).set (by decide)).set (by decide)).set (by decide)).set (by decide) : Fr _ V18 (rr0 V18 n))).trans (Fr.weak u2 (by decide))).set (by decide)
        exact I_ord.fr (V := V) ⟨o30, on1, on2, ox⟩ hFo rfl
      have hta' : I_tape (setV U' 2242 0 0 0) := tape _ hFU (by
        rw [setV_fn (by decide), hU 2114 (by decide) (by decide) (by decide) (by decide) (by decide), a2 2114 (by decide)]
        unfold rd0; rw [setV_fn (by decide), setV_fn (by decide), setV_fn (by decide), setV_fn (by decide), setV_fn (by decide), setV_fn (by decide), setV_at, if_pos ⟨rfl, rfl⟩]) (by rw [setV_at, if_pos ⟨rfl, rfl⟩]) (by
        rw [setV_fn (by decide), hU 1908 (by decide) (by decide) (by decide) (by decide) (by decide), a2 1908 (by decide)]
        unfold rd0; rw [setV_fn (by decide), setV_fn (by decide), setV_fn (by decide), setV_fn (by decide), setV_fn (by decide), setV_at, if_pos ⟨rfl, rfl⟩])
      exact ⟨nC, nD, nT, nM, nP, nK, nS, nR, nL, nO, by omega, hmi.fr hFU rfl, hta', hcl.fr hFU rfl, hdr.fr hFU rfl, hth.fr hFU rfl, hla.fr hFU rfl, hma.fr hFU rfl, hor', hpe.fr hFU rfl, hdo.fr hFU rfl, hse.fr hFU rfl, hru.fr hFU rfl, hmk.fr hFU rfl⟩
  | inr L =>
    obtain ⟨V18, e, a1, a2, a3, a4, a5, a6, a7, a8, a9, a10⟩ := c2 L hr
    rw [Nat.zero_add] at a3 a5
    have hF18 : Fr ordw V V18 := hF0.trans (Fr.weak a2 (by decide))
    have hr0 : ∀ v, v ∉ [2114, 1908, 1909, 1910, 1911, 1906, 1907] → rd0 V n v = V v := fun v hv => by
      simp only [List.mem_cons, List.not_mem_nil, or_false, not_or] at hv
      unfold rd0
      rw [setV_fn hv.2.2.2.2.2.2, setV_fn hv.2.2.2.2.2.1, setV_fn hv.2.2.2.2.1, setV_fn hv.2.2.2.1, setV_fn hv.2.2.1, setV_fn hv.2.1, setV_fn hv.1]
    have h18 : ∀ v, v ∉ clw → v ∉ [2114, 1908, 1909, 1910, 1911, 1906, 1907] → V18 v = V v := fun v q1 q2 => by rw [a2 v q1, hr0 v q2]
    have h1401 : V18 1401 0 0 = nI nO := by rw [h18 1401 (by decide) (by decide)]; exact on1
    have hok : mkOK V18 1401 = true := mkOK_I (hcl.fr hF18 rfl) (hth.fr hF18 rfl) (hla.fr hF18 rfl) h1401 (by omega)
    rw [hrd, a1, bd_some, if_pos rfl, gd_t hok, a3, nI_clamp (show L.length < 2 ^ 31 by omega), gd_t ⟨nI_pos (by omega), a5⟩, a4, nI_clamp (show e < 2 ^ 31 by omega), gd_t ⟨nI_pos (by omega), by omega⟩, h1401, nI_clamp (show nO < 2 ^ 31 by omega), bv_eq, mkV_cnt, nI_pred] at hC0
    obtain ⟨Y, hYd⟩ : ∃ Y, Y = mkV V18 1401 nO gv_1700 (F_1700 xf xt (V18 2101 0 0) (nI L.length) (nI e) (V18 1901 0) (V18 1902 0) (V18 1903 0) (V18 1904 0) (V18 1905 0)) := ⟨_, rfl⟩
    rw [← hYd] at hC0
    have hYf : ∀ v, v ≠ 1401 → v ∉ gv_1700 → Y v = V18 v := fun v q1 q2 => by rw [hYd]; exact mkV_fn q1 q2
    have hYF : Fr ordw V Y := fun v hv => by
      rw [hYf v (fun z => hv (by rw [z]; decide)) (fun z => hv ((show ∀ v, v ∈ gv_1700 → v ∈ ordw by decide) v z))]; exact hF18 v hv
    have hY0 : Y 1401 0 0 = nI (nO + 1) := by rw [hYd]; exact mkV_cnt _ _ _ _ _
    have hYn : ∀ v j, v ≠ 1401 → v ∈ gv_1700 → Y v nO j = F_1700 xf xt (V18 2101 0 0) (nI L.length) (nI e) (V18 1901 0) (V18 1902 0) (V18 1903 0) (V18 1904 0) (V18 1905 0) v j := fun v j q1 q2 => by rw [hYd, mkV_at q1 q2, if_pos rfl]
    have hYo : ∀ v i, v ≠ 1401 → v ∈ gv_1700 → i ≠ nO → Y v i = V v i := fun v i q1 q2 q3 => by
      funext j
      rw [hYd, mkV_at q1 q2, if_neg q3, h18 v (fun z => (show ∀ v, v ∈ gv_1700 → v ∉ clw by decide) v q2 z) ((show ∀ v, v ∈ gv_1700 → v ∉ [2114, 1908, 1909, 1910, 1911, 1906, 1907] by decide) v q2)]
    obtain ⟨r0, r1⟩ := ref Y hYF (by rw [hYf 2242 (by decide) (by decide), h18 2242 (by decide) (by decide)]) (by rw [hYf 2258 (by decide) (by decide), h18 2258 (by decide) (by decide)])
    obtain ⟨U', e', u1, u2, u3, u4, u5, u6, u7, u8, u9, u10⟩ := (text_R (fu := fu' + 1) (n := n) (T := V 2241 0) (x1 := xf) (x2 := xt) hfu 200 fu' 0 0 0 (rr0 Y n) (by omega) r0 (by omega) (by omega) (by omega)).2 L hr
    rw [Nat.zero_add] at u3
    have hU : ∀ v, v ∉ rcw → v ≠ 2243 → v ≠ 2244 → v ≠ 2248 → v ≠ 2250 → U' v = Y v := fun v q1 q2 q3 q4 q5 => by
      rw [u2 v q1]; unfold rr0; rw [setV_fn q5, setV_fn q4, setV_fn q3, setV_fn q2]
    have hUV : ∀ v, v ∉ ordw → U' v = V v := fun v hv => by
      rw [hU v (fun z => hv ((show ∀ v, v ∈ rcw → v ∈ ordw by decide) v z)) (fun z => hv (by rw [z]; decide)) (fun z => hv (by rw [z]; decide)) (fun z => hv (by rw [z]; decide)) (fun z => hv (by rw [z]; decide))]; exact hYF v hv
    have e58 : U' 2258 0 0 = nI nO := by rw [hU 2258 (by decide) (by decide) (by decide) (by decide) (by decide), hYf 2258 (by decide) (by decide), h18 2258 (by decide) (by decide)]; exact on2
    -- the rows of the order
    obtain ⟨A, hA⟩ : ∃ A, A = setV (setV (setV (setV (setV U' 2242 0 0 0) 2261 0 nO xf) 2262 0 nO xt) 2263 0 nO (V 2201 0 0)) 2264 0 nO (nI L.length) := ⟨_, rfl⟩
    have hAf : ∀ v, v ≠ 2242 → v ≠ 2261 → v ≠ 2262 → v ≠ 2263 → v ≠ 2264 → A v = U' v := fun v q1 q2 q3 q4 q5 => by rw [hA, setV_fn q5, setV_fn q4, setV_fn q3, setV_fn q2, setV_fn q1]
    have gO : ¬ (nI nO < 0 ∨ 30 ≤ nO) := fun w => w.elim (nI_pos (by omega)) (fun w => by omega)
    have h116 : F_X12_order_116 (fu' + 1) U' xf xt 1 = Lp_X12_order_180 (F_X12_order_218 (fu' + 1)) (fu' + 1) (fu' + 1) A (nI 0) := by
      rw [F_X12_order_116, bv_eq, if_neg (by decide)]
      rw [setV_fn (show 2258 ≠ 2242 by decide), e58, nI_clamp (show nO < 2 ^ 31 by omega), gd_t gO, bv_eq]
      rw [setV_fn (show 2258 ≠ 2261 by decide), setV_fn (show 2258 ≠ 2242 by decide), e58, nI_clamp (show nO < 2 ^ 31 by omega), gd_t gO, bv_eq]
      rw [setV_fn (show 2258 ≠ 2262 by decide), setV_fn (show 2258 ≠ 2261 by decide), setV_fn (show 2258 ≠ 2242 by decide), e58, nI_clamp (show nO < 2 ^ 31 by omega), gd_t gO, setV_fn (show 2201 ≠ 2262 by decide), setV_fn (show 2201 ≠ 2261 by decide), setV_fn (show 2201 ≠ 2242 by decide), hUV 2201 (by decide), bv_eq]
      rw [setV_fn (show 2258 ≠ 2263 by decide), setV_fn (show 2258 ≠ 2262 by decide), setV_fn (show 2258 ≠ 2261 by decide), setV_fn (show 2258 ≠ 2242 by decide), e58, nI_clamp (show nO < 2 ^ 31 by omega), gd_t gO, setV_fn (show 2250 ≠ 2263 by decide), setV_fn (show 2250 ≠ 2262 by decide), setV_fn (show 2250 ≠ 2261 by decide), setV_fn (show 2250 ≠ 2242 by decide), u3, bv_eq, ← hA, nI_0]
    have eA58 : A 2258 0 0 = nI nO := by rw [hAf 2258 (by decide) (by decide) (by decide) (by decide) (by decide)]; exact e58
    obtain ⟨B, b1, b2, b3⟩ := copy_codes (fu := fu' + 1) (m := nO) (e := e') (U := A) (kx := F_X12_order_218 (fu' + 1)) hnO (by omega) e' (fu' + 1) 0 A (by omega) (by omega) (Fr.refl _ A) eA58 (by rw [hAf 2248 (by decide) (by decide) (by decide) (by decide) (by decide)]; exact u4) (fun x => by rw [if_neg (by omega)])
    obtain ⟨D, d1, d2, d3⟩ := copy_rows (fu := fu' + 1) (m := nO) (K := L.length) (U := B) (kx := F_X12_order_336 (fu' + 1)) hnO a5 L.length (fu' + 1) 0 B (by omega) (by omega) (Fr.refl _ B) (by rw [b2 2258 (by decide)]; exact eA58) (by rw [b2 2250 (by decide), hAf 2250 (by decide) (by decide) (by decide) (by decide) (by decide)]; exact u3) (fun x => by unfold rwI; rw [if_neg (by omega), if_neg (by omega), if_neg (by omega), if_neg (by omega), if_neg (by omega)]; exact ⟨rfl, rfl, rfl, rfl, rfl⟩)
    have eD58 : D 2258 0 0 = nI nO := by rw [d2 2258 (by decide), b2 2258 (by decide)]; exact eA58
    have hDf : ∀ v, v ∉ cpw → v ≠ 2260 → v ≠ 2242 → v ≠ 2261 → v ≠ 2262 → v ≠ 2263 → v ≠ 2264 → D v = U' v := fun v q0 q1 q2 q3 q4 q5 q6 => by
      rw [d2 v q0, b2 v (by simp only [List.mem_cons, List.not_mem_nil, or_false]; exact q1)]; exact hAf v q2 q3 q4 q5 q6
    obtain ⟨W, hW⟩ : ∃ W, W = setV D 2258 0 0 (nI (nO + 1)) := ⟨_, rfl⟩
    have hWf : ∀ v, v ≠ 2258 → W v = D v := fun v q => by rw [hW, setV_fn q]
    have hWc : ∀ v, v ∈ gv_1700 → W v = Y v := fun v hv => by
      rw [hWf v (fun z => by rw [z] at hv; revert hv; decide), hDf v ((show ∀ v, v ∈ gv_1700 → v ∉ cpw by decide) v hv) (fun z => by rw [z] at hv; revert hv; decide) (fun z => by rw [z] at hv; revert hv; decide) (fun z => by rw [z] at hv; revert hv; decide) (fun z => by rw [z] at hv; revert hv; decide) (fun z => by rw [z] at hv; revert hv; decide) (fun z => by rw [z] at hv; revert hv; decide), hU v ((show ∀ v, v ∈ gv_1700 → v ∉ rcw by decide) v hv) (fun z => by rw [z] at hv; revert hv; decide) (fun z => by rw [z] at hv; revert hv; decide) (fun z => by rw [z] at hv; revert hv; decide) (fun z => by rw [z] at hv; revert hv; decide)]
    have hWF : Fr ordw V W := fun v hv => by
      have nm : ∀ x, x ∈ ordw → v ≠ x := fun x hx z => hv (by rw [z]; exact hx)
      rw [hWf v (nm 2258 (by decide)), hDf v (fun z => hv ((show ∀ v, v ∈ cpw → v ∈ ordw by decide) v z)) (nm 2260 (by decide)) (nm 2242 (by decide)) (nm 2261 (by decide)) (nm 2262 (by decide)) (nm 2263 (by decide)) (nm 2264 (by decide))]
      exact hUV v hv
    have hold : ∀ v, v ∈ [2260, 2261, 2262, 2263, 2264, 2265, 2266, 2267, 2268, 2269] → U' v = V v := fun v hv => by
      rw [hU v ((show ∀ v, v ∈ [2260, 2261, 2262, 2263, 2264, 2265, 2266, 2267, 2268, 2269] → v ∉ rcw by decide) v hv) (fun z => by rw [z] at hv; revert hv; decide) (fun z => by rw [z] at hv; revert hv; decide) (fun z => by rw [z] at hv; revert hv; decide) (fun z => by rw [z] at hv; revert hv; decide), hYf v (fun z => by rw [z] at hv; revert hv; decide) ((show ∀ v, v ∈ [2260, 2261, 2262, 2263, 2264, 2265, 2266, 2267, 2268, 2269] → v ∉ gv_1700 by decide) v hv), h18 v ((show ∀ v, v ∈ [2260, 2261, 2262, 2263, 2264, 2265, 2266, 2267, 2268, 2269] → v ∉ clw by decide) v hv) ((show ∀ v, v ∈ [2260, 2261, 2262, 2263, 2264, 2265, 2266, 2267, 2268, 2269] → v ∉ [2114, 1908, 1909, 1910, 1911, 1906, 1907] by decide) v hv)]
    have w61 : ∀ i, W 2261 0 i = if i = nO then xf else V 2261 0 i := fun i => by
      rw [hWf 2261 (by decide), d2 2261 (by decide), b2 2261 (by decide), hA, setV_fn (by decide), setV_fn (by decide), setV_fn (by decide), setV_at, setV_fn (by decide), hold 2261 (by decide)]; simp only [true_and]
    have w62 : ∀ i, W 2262 0 i = if i = nO then xt else V 2262 0 i := fun i => by
      rw [hWf 2262 (by decide), d2 2262 (by decide), b2 2262 (by decide), hA, setV_fn (by decide), setV_fn (by decide), setV_at, setV_fn (by decide), setV_fn (by decide), hold 2262 (by decide)]; simp only [true_and]
    have w63 : ∀ i, W 2263 0 i = if i = nO then V 2201 0 0 else V 2263 0 i := fun i => by
      rw [hWf 2263 (by decide), d2 2263 (by decide), b2 2263 (by decide), hA, setV_fn (by decide), setV_at, setV_fn (by decide), setV_fn (by decide), setV_fn (by decide), hold 2263 (by decide)]; simp only [true_and]
    have w64 : ∀ i, W 2264 0 i = if i = nO then nI L.length else V 2264 0 i := fun i => by
      rw [hWf 2264 (by decide), d2 2264 (by decide), b2 2264 (by decide), hA, setV_at, setV_fn (by decide), setV_fn (by decide), setV_fn (by decide), setV_fn (by decide), hold 2264 (by decide)]; simp only [true_and]
    have hB : ∀ v, v ∉ [2260] → v ≠ 2242 → v ≠ 2261 → v ≠ 2262 → v ≠ 2263 → v ≠ 2264 → B v = U' v := fun v q0 q1 q2 q3 q4 q5 => by rw [b2 v q0]; exact hAf v q1 q2 q3 q4 q5
    have w60 : ∀ x, W 2260 0 x = if 180 * nO ≤ x ∧ x < 180 * nO + e' then U' 2251 0 (x - 180 * nO) else V 2260 0 x := fun x => by
      rw [hWf 2260 (by decide), d2 2260 (by decide), b3 x, hAf 2251 (by decide) (by decide) (by decide) (by decide) (by decide), hAf 2260 (by decide) (by decide) (by decide) (by decide) (by decide), hold 2260 (by decide)]
    have wrow : ∀ x, W 2265 0 x = rwI nO x L.length (U' 2253 0) (V 2265 0) ∧ W 2268 0 x = rwI nO x L.length (U' 2256 0) (V 2268 0) ∧ W 2269 0 x = rwI nO x L.length (U' 2257 0) (V 2269 0) ∧ W 2266 0 x = rwI nO x L.length (fun i => nI (180 * nO) + U' 2254 0 i) (V 2266 0) ∧ W 2267 0 x = rwI nO x L.length (fun i => nI (180 * nO) + U' 2255 0 i) (V 2267 0) := fun x => by
      have := d3 x
      rw [hB 2253 (by decide) (by decide) (by decide) (by decide) (by decide) (by decide), hB 2254 (by decide) (by decide) (by decide) (by decide) (by decide) (by decide), hB 2255 (by decide) (by decide) (by decide) (by decide) (by decide) (by decide), hB 2256 (by decide) (by decide) (by decide) (by decide) (by decide) (by decide), hB 2257 (by decide) (by decide) (by decide) (by decide) (by decide) (by decide), hB 2265 (by decide) (by decide) (by decide) (by decide) (by decide) (by decide), hB 2266 (by decide) (by decide) (by decide) (by decide) (by decide) (by decide), hB 2267 (by decide) (by decide) (by decide) (by decide) (by decide) (by decide), hB 2268 (by decide) (by decide) (by decide) (by decide) (by decide) (by decide), hB 2269 (by decide) (by decide) (by decide) (by decide) (by decide) (by decide), hold 2265 (by decide), hold 2266 (by decide), hold 2267 (by decide), hold 2268 (by decide), hold 2269 (by decide)] at this
      rw [hWf 2265 (by decide), hWf 2266 (by decide), hWf 2267 (by decide), hWf 2268 (by decide), hWf 2269 (by decide)]
      exact this
    refine ⟨nI nO, Y, W, hC0, ?_, ?_⟩
    · refine r1.trans ?_
      rw [u1, h116, b1, F_X12_order_218, show Lp_X12_order_221 (F_X12_order_336 (fu' + 1)) (fu' + 1) (fu' + 1) B 0 = _ from d1, F_X12_order_336, eD58, nI_1, bv_eq, ← hW]
      rw [hW, setV_at, if_pos ⟨rfl, rfl⟩, nI_pred]
    · have hta' : I_tape W := tape W hWF (by
          rw [hWf 2114 (by decide), hDf 2114 (by decide) (by decide) (by decide) (by decide) (by decide) (by decide) (by decide), hU 2114 (by decide) (by decide) (by decide) (by decide) (by decide), hYf 2114 (by decide) (by decide), a2 2114 (by decide)]
          unfold rd0; rw [setV_fn (by decide), setV_fn (by decide), setV_fn (by decide), setV_fn (by decide), setV_fn (by decide), setV_fn (by decide), setV_at, if_pos ⟨rfl, rfl⟩]) (by
          rw [hWf 2242 (by decide), d2 2242 (by decide), b2 2242 (by decide), hA, setV_fn (by decide), setV_fn (by decide), setV_fn (by decide), setV_fn (by decide), setV_at, if_pos ⟨rfl, rfl⟩]) (by
          rw [hWf 1908 (by decide), hDf 1908 (by decide) (by decide) (by decide) (by decide) (by decide) (by decide) (by decide), hU 1908 (by decide) (by decide) (by decide) (by decide) (by decide), hYf 1908 (by decide) (by decide), a2 1908 (by decide)]
          unfold rd0; rw [setV_fn (by decide), setV_fn (by decide), setV_fn (by decide), setV_fn (by decide), setV_fn (by decide), setV_at, if_pos ⟨rfl, rfl⟩])
      have hor' : I_ord W (nO + 1) := by
        refine ⟨by omega, ?_, by rw [hW, setV_at, if_pos ⟨rfl, rfl⟩], fun i hi => ?_⟩
        · rw [hWf 1401 (by decide), hDf 1401 (by decide) (by decide) (by decide) (by decide) (by decide) (by decide) (by decide), hU 1401 (by decide) (by decide) (by decide) (by decide) (by decide)]; exact hY0
        · by_cases hio : i = nO
          · subst hio
            refine ⟨L.length, a5, ?_, ?_, ?_, ?_, ?_, fun j hj => ?_⟩
            · rw [hWc 1701 (by decide), hYn 1701 0 (by decide) (by decide), w61, if_pos rfl]; rfl
            · rw [hWc 1702 (by decide), hYn 1702 0 (by decide) (by decide), w62, if_pos rfl]; rfl
            · rw [hWc 1703 (by decide), hYn 1703 0 (by decide) (by decide), w63, if_pos rfl]
              show V18 2101 0 0 = V 2201 0 0
              rw [h18 2101 (by decide) (by decide)]; exact hmi.1
            · rw [hWc 1704 (by decide), hYn 1704 0 (by decide) (by decide)]; rfl
            · rw [w64, if_pos rfl]
            · obtain ⟨cl, hcl'⟩ : ∃ cl, L[j]? = some cl := ⟨L[j], List.getElem?_eq_getElem hj⟩
              obtain ⟨sj, ej, k1, k2, k3, k4, k5⟩ := rowsC_at L 0 0 a10 j cl hcl'
              obtain ⟨sr, er, m1, m2⟩ := rowsR_at L 0 0 u10 j cl hcl'
              rw [Nat.zero_add] at k1 k5 m1
              obtain ⟨p1, p2, p3, p4, p5, p6, p7⟩ := k1
              obtain ⟨q1, q2, q3, q4, q5, q6, q7, q8, q9⟩ := m1
              obtain ⟨ok1, ok2, ok3, ok4, ok5⟩ := k2
              have hlt : cl.1 < 256 := by rcases ok1 with z | z | z | z | z | z | z <;> omega
              obtain ⟨x1, x2, x3, x4, x5⟩ := wrow (12 * i + j)
              have hin : 12 * i ≤ 12 * i + j ∧ 12 * i + j < 12 * i + L.length := by omega
              unfold rwI at x1 x2 x3 x4 x5
              rw [if_pos hin, show 12 * i + j - 12 * i = j by omega] at x1 x2 x3 x4 x5
              rw [q1] at x1; rw [q2] at x2; rw [q3] at x3
              simp only [] at x4 x5
              rw [q4, nI_add] at x4; rw [q5, nI_add] at x5
              have hcl12 : (nI L.length).toNatClampNeg = L.length := nI_clamp (by omega)
              have hce : (nI e).toNatClampNeg = e := nI_clamp (by omega)
              have y5 : W 1705 i j = nI cl.1 := by
                rw [hWc 1705 (by decide), hYn 1705 j (by decide) (by decide)]
                show cpR (V18 1901 0) 12 (nI L.length).toNatClampNeg j = _
                rw [hcl12, cpR_lt hj]; exact p1
              have y6 : W 1706 i j = nI cl.2.1 := by
                rw [hWc 1706 (by decide), hYn 1706 j (by decide) (by decide)]
                show cpR (V18 1902 0) 12 (nI L.length).toNatClampNeg j = _
                rw [hcl12, cpR_lt hj]; exact p2
              have y7 : W 1707 i j = nI cl.2.2.1 := by
                rw [hWc 1707 (by decide), hYn 1707 j (by decide) (by decide)]
                show cpR (V18 1903 0) 12 (nI L.length).toNatClampNeg j = _
                rw [hcl12, cpR_lt hj]; exact p3
              have y8 : ∀ j', j' < L.length → W 1708 i j' = V18 1904 0 j' := fun j' hj' => by
                rw [hWc 1708 (by decide), hYn 1708 j' (by decide) (by decide)]
                show cpR (V18 1904 0) 12 (nI L.length).toNatClampNeg j' = _
                rw [hcl12, cpR_lt hj']
              have y9 : ∀ q, q < e → W 1709 i q = V18 1905 0 q := fun q hq => by
                rw [hWc 1709 (by decide), hYn 1709 q (by decide) (by decide)]
                show cpR (V18 1905 0) 160 (nI e).toNatClampNeg q = _
                rw [hce, cpR_lt hq]
              have y4 : W 1704 i 0 = nI L.length := by rw [hWc 1704 (by decide), hYn 1704 0 (by decide) (by decide)]; rfl
              have y90 : W 1790 i 0 = nI e := by rw [hWc 1790 (by decide), hYn 1790 0 (by decide) (by decide)]; rfl
              refine ⟨by rw [y5, x1], by rw [y6, x2], by rw [x2]; exact nI_pos' (by omega), fun hx => ?_, fun hx => ?_⟩
              · have h120 : cl.1 = 120 := (nI_eq (b := 120) (by omega) (by omega)).mp (by rw [← x1]; exact hx)
                obtain ⟨g1, g2⟩ := ok4 h120
                exact ⟨cl.2.1, cl.2.2.1, by omega, by omega, x2, y7, x3⟩
              · have h120 : cl.1 ≠ 120 := fun z => hx (by rw [x1, z]; rfl)
                obtain ⟨d, hd⟩ := ok5 h120
                have hCG := p6 d hd
                obtain ⟨hRF, hB'⟩ := q8 d hd
                have hnn := rowsR_nn L 0 0 e' u10
                refine ⟨fun F => decide (d (rs9 F) = some 1), fun f f' hff => ?_, fun fu2 V' g1 g2 g3 g4 g5 g6 => ?_, fun fu2 V' g1 g2 g3 g4 => ?_⟩
                · have : rs9 f = rs9 f' := by
                    funext q
                    unfold rs9
                    by_cases z : q < 9
                    · rw [if_pos z, if_pos z, hff q z]
                    · rw [if_neg z, if_neg z]
                  show decide (d (rs9 f) = some 1) = decide (d (rs9 f') = some 1)
                  rw [this]
                · exact hold_C (K := L.length) (eT := e) (V18 := V18) (s := sj) (e := ej) g1 g2 hnO hj a5 (by rw [g3]; exact y4) (by rw [g6]; exact y90) (by omega) k3 (by rw [g4, y8 j hj]; exact p4) (fun z => by rw [g4, y8 (j - 1) (by omega)]; exact k5 z) k4 (fun q hq => by rw [g5]; exact y9 q hq) hCG
                · refine hold_R (U := U') (s := sr) (e := er) g1 hnO (by omega) (by omega) (by rw [g3]; exact x4) (by rw [g4]; exact x5) (fun q hq => ?_) (fun q r1 r2 => hnn q r1 (by omega)) hRF
                  rw [g2 (180 * i + q) (by omega) (by omega), w60, if_pos (by omega), show 180 * i + q - 180 * i = q by omega]
          · obtain ⟨c, hc1, hc2, hc3, hc4, hc5, hc6, hc7⟩ := ox i (by omega)
            have hWo : ∀ v, v ≠ 1401 → v ∈ gv_1700 → W v i = V v i := fun v q1 q2 => by rw [hWc v q2]; exact hYo v i q1 q2 hio
            refine ⟨c, hc1, ?_, ?_, ?_, ?_, ?_, fun j hj => ?_⟩
            · rw [hWo 1701 (by decide) (by decide), w61, if_neg hio]; exact hc2
            · rw [hWo 1702 (by decide) (by decide), w62, if_neg hio]; exact hc3
            · rw [hWo 1703 (by decide) (by decide), w63, if_neg hio]; exact hc4
            · rw [hWo 1704 (by decide) (by decide)]; exact hc5
            · rw [w64, if_neg hio]; exact hc6
            · obtain ⟨x1, x2, x3, x4, x5⟩ := wrow (12 * i + j)
              have hin : ¬ (12 * nO ≤ 12 * i + j ∧ 12 * i + j < 12 * nO + L.length) := by omega
              unfold rwI at x1 x2 x3 x4 x5
              rw [if_neg hin] at x1 x2 x3 x4 x5
              obtain ⟨z1, z2, z3, z4, z5⟩ := hc7 j hj
              rw [x1, x2, x3, hWo 1705 (by decide) (by decide), hWo 1706 (by decide) (by decide), hWo 1707 (by decide) (by decide)]
              refine ⟨z1, z2, z3, z4, fun hx => (z5 hx).of (hWo 1704 (by decide) (by decide)) (hWo 1708 (by decide) (by decide)) (hWo 1709 (by decide) (by decide)) (hWo 1790 (by decide) (by decide)) (fun q q1 q2 => ?_) x4 x5⟩
              rw [w60, if_neg (by omega)]
      exact ⟨nC, nD, nT, nM, nP, nK, nS, nR, nL, nO + 1, by omega, hmi.fr hWF rfl, hta', hcl.fr hWF rfl, hdr.fr hWF rfl, hth.fr hWF rfl, hla.fr hWF rfl, hma.fr hWF rfl, hor', hpe.fr hWF rfl, hdo.fr hWF rfl, hse.fr hWF rfl, hru.fr hWF rfl, hmk.fr hWF rfl⟩
