/-! the tape -/
def by4 (x : Int32) (i : Nat) : Int32 := vp_nar .byte ((x >>> (nI (24 - 8 * i) &&& 31)).toInt8.toInt32)
def tp4 (f : Nat → Int32) (t : Nat) (x : Int32) : Nat → Int32 := fun j => if j = t then by4 x 0 else if j = t + 1 then by4 x 1 else if j = t + 2 then by4 x 2 else if j = t + 3 then by4 x 3 else f j
theorem nar_b (y : Int32) : vp_nar .byte y = y.toInt8.toInt32 := rfl
theorem i8_b (z : Int8) : -128 ≤ z.toInt32 ∧ z.toInt32 ≤ 127 := by
  have h1 := z.toInt_lt
  have h2 := z.le_toInt
  constructor <;> rw [Int32.le_iff_toInt_le, Int8.toInt_toInt32]
  · exact h2
  · have : (127 : Int32).toInt = 127 := by decide
    rw [this]; omega
theorem by4_b (x : Int32) (i : Nat) : -128 ≤ by4 x i ∧ by4 x i ≤ 127 := by unfold by4; rw [nar_b]; exact i8_b _
theorem tp4_b {f : Nat → Int32} {t : Nat} {x : Int32} (h : ∀ j, -128 ≤ f j ∧ f j ≤ 127) (j : Nat) : -128 ≤ tp4 f t x j ∧ tp4 f t x j ≤ 127 := by
  unfold tp4
  split
  · exact by4_b x 0
  · split
    · exact by4_b x 1
    · split
      · exact by4_b x 2
      · split
        · exact by4_b x 3
        · exact h j
theorem putOnTape_eq {fu t : Nat} {V : St} {x : Int32} (hfu : 1000 ≤ fu) (ht : t + 4 ≤ 400) (h1 : V 2114 0 0 = nI t) (h2 : V 2190 0 0 = 400) : ∃ V1, f_X11_putOnTape fu V x = some (0, V1) ∧ Fr [2113, 2114] V V1 ∧ V1 2114 0 0 = nI (t + 4) ∧ V1 2113 0 = tp4 (V 2113 0) t x := by
  obtain ⟨N, rfl⟩ : ∃ N, fu = N + 5 := ⟨fu - 5, by omega⟩
  have hlen : ∀ W : St, W 2190 0 0 = 400 → lenV W 1002190 0 = 400 := fun W hW => by show (W 2190 0 0).toNatClampNeg = 400; rw [hW]; rfl
  have a1 : ¬ (24 : Int32) < 0 := by decide
  have a2 : (24 : Int32) + (-8) = 16 := by decide
  have a3 : ¬ (16 : Int32) < 0 := by decide
  have a4 : (16 : Int32) + (-8) = 8 := by decide
  have a5 : ¬ (8 : Int32) < 0 := by decide
  have a6 : (8 : Int32) + (-8) = 0 := by decide
  have a7 : (0 : Int32) + (-8) < 0 := by decide
  have b0 : ¬ (400 : Int32) ≤ nI t := nI_ge (b := 400) (by omega) (by omega)
  have b1 : ¬ (400 : Int32) ≤ nI (t + 1) := nI_ge (b := 400) (by omega) (by omega)
  have b2 : ¬ (400 : Int32) ≤ nI (t + 1 + 1) := nI_ge (b := 400) (by omega) (by omega)
  have b3 : ¬ (400 : Int32) ≤ nI (t + 1 + 1 + 1) := nI_ge (b := 400) (by omega) (by omega)
  have st : ∀ (M j : Nat) (W : St) (s : Int32), W 2190 0 0 = 400 → W 2114 0 0 = nI j → j < 400 → ¬ s < 0 → Lp_X11_putOnTape_3 (F_X11_putOnTape_46 (N + 5)) (N + 5) (M + 1) W x s = Lp_X11_putOnTape_3 (F_X11_putOnTape_46 (N + 5)) (N + 5) M (setV (setV W 2113 0 j (vp_nar .byte ((x >>> (s &&& 31)).toInt8.toInt32))) 2114 0 0 (nI (j + 1))) x (s + (-8)) := by
    intro M j W s w1 w2 w3 w4
    have b0 : ¬ (400 : Int32) ≤ nI j := nI_ge (b := 400) (by omega) (by omega)
    rw [Lp_X11_putOnTape_3, F_X11_putOnTape_3, if_neg w4, w2, if_neg b0, hlen W w1, nI_clamp (by omega), gd_t (by intro q; rcases q with q | q; exact nI_pos (by omega) q; omega), bv_eq, bv_eq, setV_fn (by decide), w2, nI_1]
  refine ⟨setV (setV (setV (setV (setV (setV (setV (setV V 2113 0 t (by4 x 0)) 2114 0 0 (nI (t + 1))) 2113 0 (t + 1) (by4 x 1)) 2114 0 0 (nI (t + 1 + 1))) 2113 0 (t + 2) (by4 x 2)) 2114 0 0 (nI (t + 1 + 1 + 1))) 2113 0 (t + 3) (by4 x 3)) 2114 0 0 (nI (t + 4)), ?_, ?_, ?_, ?_⟩
  · unfold f_X11_putOnTape
    rw [st (N + 4) t V 24 h2 h1 (by omega) a1, a2, st (N + 3) (t + 1) _ 16 (by simp (disch := omega) only [setV_fn]; exact h2) (by simp [setV]) (by omega) a3, a4, st (N + 2) (t + 2) _ 8 (by simp (disch := omega) only [setV_fn]; exact h2) (by simp [setV]) (by omega) a5, a6, st (N + 1) (t + 3) _ 0 (by simp (disch := omega) only [setV_fn]; exact h2) (by simp [setV]) (by omega) (by decide), Lp_X11_putOnTape_3, F_X11_putOnTape_3, if_pos a7, F_X11_putOnTape_46]
    rfl
  · exact ((((((((Fr.refl _ V).set (by decide)).set (by decide)).set (by decide)).set (by decide)).set (by decide)).set (by decide)).set (by decide)).set (by decide)
  · simp [setV]
  · funext j
    simp (disch := omega) only [setV_fn, setV_at, tp4]
    by_cases e0 : j = t
    · subst e0; simp
    · by_cases e1 : j = t + 1
      · subst e1; simp
      · by_cases e2 : j = t + 2
        · subst e2; simp
        · by_cases e3 : j = t + 3
          · subst e3; simp
          · simp [e0, e1, e2, e3]
theorem types_eq {fu t : Nat} {V : St} {x : Int32} (hfu : 1000 ≤ fu) (ht : t + 4 ≤ 400) (h1 : V 2242 0 0 = nI t) : ∃ V1, f_X12_types fu V x = some (0, V1) ∧ Fr [2241, 2242] V V1 ∧ V1 2242 0 0 = nI (t + 4) ∧ V1 2241 0 = tp4 (V 2241 0) t x := by
  obtain ⟨N, rfl⟩ : ∃ N, fu = N + 5 := ⟨fu - 5, by omega⟩
  have a2 : (3 : Int32) + (-1) = 2 := by decide
  have a4 : (2 : Int32) + (-1) = 1 := by decide
  have a6 : (1 : Int32) + (-1) = 0 := by decide
  have a7 : (0 : Int32) + (-1) < 0 := by decide
  have st : ∀ (M j : Nat) (W : St) (s : Int32), W 2242 0 0 = nI j → j < 400 → ¬ s < 0 → Lp_X12_types_2 (F_X12_types_38 (N + 5)) (N + 5) (M + 1) W x s = Lp_X12_types_2 (F_X12_types_38 (N + 5)) (N + 5) M (setV (setV W 2241 0 j (vp_nar .byte ((x >>> ((8 * s) &&& 31)).toInt8.toInt32))) 2242 0 0 (nI (j + 1))) x (s + (-1)) := by
    intro M j W s w2 w3 w4
    rw [Lp_X12_types_2, F_X12_types_2, if_neg w4, w2, nI_clamp (by omega), gd_t (by intro q; rcases q with q | q; exact nI_pos (by omega) q; omega), bv_eq, bv_eq, setV_fn (by decide), w2, nI_1]
  refine ⟨setV (setV (setV (setV (setV (setV (setV (setV V 2241 0 t (by4 x 0)) 2242 0 0 (nI (t + 1))) 2241 0 (t + 1) (by4 x 1)) 2242 0 0 (nI (t + 1 + 1))) 2241 0 (t + 2) (by4 x 2)) 2242 0 0 (nI (t + 1 + 1 + 1))) 2241 0 (t + 3) (by4 x 3)) 2242 0 0 (nI (t + 4)), ?_, ?_, ?_, ?_⟩
  · unfold f_X12_types
    rw [st (N + 4) t V 3 h1 (by omega) (by decide), a2, st (N + 3) (t + 1) _ 2 (by simp [setV]) (by omega) (by decide), a4, st (N + 2) (t + 2) _ 1 (by simp [setV]) (by omega) (by decide), a6, st (N + 1) (t + 3) _ 0 (by simp [setV]) (by omega) (by decide), Lp_X12_types_2, F_X12_types_2, if_pos a7, F_X12_types_38]
    rfl
  · exact ((((((((Fr.refl _ V).set (by decide)).set (by decide)).set (by decide)).set (by decide)).set (by decide)).set (by decide)).set (by decide)).set (by decide)
  · simp [setV]
  · funext j
    simp (disch := omega) only [setV_fn, setV_at, tp4]
    by_cases e0 : j = t
    · subst e0; simp
    · by_cases e1 : j = t + 1
      · subst e1; simp
      · by_cases e2 : j = t + 2
        · subst e2; simp
        · by_cases e3 : j = t + 3
          · subst e3; simp
          · simp [e0, e1, e2, e3]
theorem P_feed {fu k : Nat} {V : St} (hfu : 1000 ≤ fu) (hI : Inv k V) (a b c d e : Int32) : Step k (fun V => f_X11_feed fu V a b c d e) (fun V => f_X12_feed fu V a b c d e) V := by
  have hI' := hI
  obtain ⟨nC, nD, nT, nM, nP, nK, nS, nR, nL, nO, hL, hmi, hta, hcl, hdr, hth, hla, hma, hor, hpe, hdo, hse, hru, hmk⟩ := hI
  obtain ⟨t1, t2, ⟨t, t400, t3⟩, t4, t5, t6, t7⟩ := hta
  have e1 : nI t + 20 = nI (t + 20) := nI_add t 20
  by_cases h : t + 20 ≤ 400
  · have h' : nI (t + 20) ≤ 400 := nI_le (b := 400) h (by omega)
    obtain ⟨A, a1, a2, a3, a4⟩ := putOnTape_eq (x := a) hfu (show t + 4 ≤ 400 by omega) (t2.trans t3) t5
    obtain ⟨B, b1, b2, b3, b4⟩ := putOnTape_eq (x := b) hfu (show t + 4 + 4 ≤ 400 by omega) a3 (by rw [a2 2190 (by decide)]; exact t5)
    have ab := a2.trans b2
    obtain ⟨C, c1, c2, c3, c4⟩ := putOnTape_eq (x := c) hfu (show t + 4 + 4 + 4 ≤ 400 by omega) b3 (by rw [ab 2190 (by decide)]; exact t5)
    have ac := ab.trans c2
    obtain ⟨D, d1, d2, d3, d4⟩ := putOnTape_eq (x := d) hfu (show t + 4 + 4 + 4 + 4 ≤ 400 by omega) c3 (by rw [ac 2190 (by decide)]; exact t5)
    have ad := ac.trans d2
    obtain ⟨E, f1, f2, f3, f4⟩ := putOnTape_eq (x := e) hfu (show t + 4 + 4 + 4 + 4 + 4 ≤ 400 by omega) d3 (by rw [ad 2190 (by decide)]; exact t5)
    have ae := ad.trans f2
    obtain ⟨A', a1', a2', a3', a4'⟩ := types_eq (V := E) (x := a) hfu (show t + 4 ≤ 400 by omega) (by rw [ae 2242 (by decide)]; exact t3)
    obtain ⟨B', b1', b2', b3', b4'⟩ := types_eq (x := b) hfu (show t + 4 + 4 ≤ 400 by omega) a3'
    obtain ⟨C', c1', c2', c3', c4'⟩ := types_eq (x := c) hfu (show t + 4 + 4 + 4 ≤ 400 by omega) b3'
    obtain ⟨D', d1', d2', d3', d4'⟩ := types_eq (x := d) hfu (show t + 4 + 4 + 4 + 4 ≤ 400 by omega) c3'
    obtain ⟨E', f1', f2', f3', f4'⟩ := types_eq (x := e) hfu (show t + 4 + 4 + 4 + 4 + 4 ≤ 400 by omega) d3'
    have be := (((a2'.trans b2').trans c2').trans d2').trans f2'
    have hF : Fr [2113, 2114, 2241, 2242] V E' := (ae.weak (by decide)).trans (be.weak (by decide))
    refine ⟨nI (t + 4 + 4 + 4 + 4 + 4), E, E', ?_, ?_, ?_⟩
    · show f_X11_feed fu V a b c d e = _
      unfold f_X11_feed
      rw [t2, t3, e1, if_pos h', a1, bd_some, b1, bd_some, c1, bd_some, d1, bd_some, f1, bd_some, f3]
    · show f_X12_feed fu E a b c d e = _
      unfold f_X12_feed
      rw [ae 2242 (by decide), t3, e1, if_pos h', a1', bd_some, b1', bd_some, c1', bd_some, d1', bd_some, f1', bd_some, f3']
    · refine ⟨nC, nD, nT, nM, nP, nK, nS, nR, nL, nO, by omega, hmi.fr hF rfl, ?_, hcl.fr hF rfl, hdr.fr hF rfl, hth.fr hF rfl, hla.fr hF rfl, hma.fr hF rfl, hor.fr hF rfl, hpe.fr hF rfl, hdo.fr hF rfl, hse.fr hF rfl, hru.fr hF rfl, hmk.fr hF rfl⟩
      have z1 : E' 2241 0 = E 2113 0 := by rw [f4', d4', c4', b4', a4', f4, d4, c4, b4, a4, ae 2241 (by decide), t1]
      refine ⟨by rw [be 2113 (by decide), z1], by rw [be 2114 (by decide), f3, f3'], ⟨_, by omega, f3'⟩, fun j => ?_, by rw [hF 2190 (by decide)]; exact t5, by rw [hF 2190 (by decide)]; exact t6, by rw [hF 1908 (by decide)]; exact t7⟩
      rw [f4', d4', c4', b4', a4', ae 2241 (by decide)]
      exact tp4_b (tp4_b (tp4_b (tp4_b (tp4_b t4)))) j
  · have h' : ¬ nI (t + 20) ≤ 400 := nI_ge (a := 400) (by omega) (by omega)
    refine Step.same (r := -1) ?_ ?_ hI'
    · show f_X11_feed fu V a b c d e = _
      unfold f_X11_feed; rw [t2, t3, e1, if_neg h']
    · show f_X12_feed fu V a b c d e = _
      unfold f_X12_feed; rw [t3, e1, if_neg h']
