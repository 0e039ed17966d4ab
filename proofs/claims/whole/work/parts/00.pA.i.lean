/-! the reference's sums -/
def RSm (fu N : Nat) (U : St) (b : Nat) : RR := Lp_X12_readsSum_14 (F_X12_readsSum_82 fu) (F_X12_readsSum_139 fu) fu N U (nI b)
def RFc (fu M N : Nat) (U : St) (b : Nat) : RR := bd (Lp_X12_readsFactor_0 (F_X12_readsFactor_18 fu) (F_X12_readsFactor_20 fu) fu M U) fun r V => if r = 0 then some (0, V) else RSm fu N V b
def wtN (U : St) (w : Nat) : Prop := ∀ i, i < w → ∃ x, x < 2 ^ 31 ∧ U 2252 0 i = nI x
theorem wtN.cg {U U' : St} {w : Nat} (h : wtN U w) (ha : agW U U' w) : wtN U' w := fun i hi => by rw [ha i hi]; exact h i hi
theorem tpOK.cg {U U' : St} {w : Nat} (h : tpOK U w) (ha : agW U U' w) : tpOK U' w := by
  rcases h with h | ⟨x, x1, x2, x3⟩
  · exact .inl h
  · by_cases z : w = 0
    · exact .inl z
    · exact .inr ⟨x, by rw [ha (w - 1) (by omega)]; exact x1, x2, x3⟩
def okRF (fu n : Nat) (T : Nat → Int32) (r : Nat → PR) (o : Nat) : Prop := ∀ (U : St) (p c w b M N : Nat), RQ U T n p o c w → c ≤ p → w ≤ p → p ≤ n → b ≤ w → wtN U w → n - p < M → n - p < N → (∀ f, r p = .inl f → ∃ U', RFc fu M N U b = some (0, U') ∧ Fr rfw U U' ∧ U' 2245 0 0 = f) ∧ (∀ a d, r p = .inr (a, d) → ∃ U' c' N', RFc fu M N U b = RSm fu N' U' b ∧ n - a < N' ∧ Fr rfw U U' ∧ RQ U' T n a o c' w ∧ p < a ∧ a ≤ n ∧ c < c' ∧ c' + p ≤ c + a ∧ agS U U' 0 c ∧ agW U U' w ∧ RFf U' c c' [d])
def noSg (j : Nat) : Prop := ¬ (j = 42 ∨ j = 47 ∨ j = 37) ∧ ¬ (j = 43 ∨ j = 45)
def SmE (fu n : Nat) (T : Nat → Int32) (U : St) (p o c w b : Nat) (R : RR) (a : Nat) (d : Den) : Prop := ∃ U' w' c1 N', R = RSm fu N' U' b ∧ n - a < N' ∧ Fr rfw U U' ∧ RQ U' T n a o c1 w' ∧ w ≤ w' ∧ w' ≤ 180 ∧ agW U U' w ∧ (∀ i, w ≤ i → i < w' → ∃ x, x < 2 ^ 31 ∧ U' 2252 0 i = nI x ∧ x / 1048576 ≠ 14) ∧ noSg (hN T n a) ∧ p < a ∧ a ≤ n ∧ ∃ U2 c2, f_X12_closesSums fu U' 1 = some (0, U2) ∧ Fr rfw U U2 ∧ RQ U2 T n a o c2 w ∧ agS U U2 0 c ∧ agW U U2 w ∧ c < c2 ∧ c2 + p ≤ c + a ∧ RFf U2 c c2 [d]
def okRS (fu n : Nat) (T : Nat → Int32) (r : Nat → PR) (o : Nat) : Prop := ∀ (U : St) (p c w b M N : Nat), RQ U T n p o c w → c ≤ p → w ≤ p → p ≤ n → b ≤ w → wtN U w → tpOK U w → n - p < M → n - p < N → (∀ f, r p = .inl f → ∃ U', RFc fu M N U b = some (0, U') ∧ Fr rfw U U' ∧ U' 2245 0 0 = f) ∧ (∀ a d, r p = .inr (a, d) → SmE fu n T U p o c w b (RFc fu M N U b) a d)
def psV (U : St) (p w op : Nat) : St := setV (setV (setV U 2252 0 w (nI (1048576 * op))) 2249 0 0 (nI (w + 1))) 2243 0 0 (nI (p + 1))
theorem psV_R {n p o c w op : Nat} {U : St} {T : Nat → Int32} (h : RQ U T n p o c w) : RQ (psV U p w op) T n (p + 1) o c (w + 1) ∧ Fr [2243, 2249, 2252] U (psV U p w op) ∧ psV U p w op 2252 0 w = nI (1048576 * op) ∧ agW U (psV U p w op) w ∧ agS U (psV U p w op) 0 c := by
  have hF : Fr [2243, 2249, 2252] U (psV U p w op) := (((Fr.refl _ U).set (by decide)).set (by decide)).set (by decide)
  obtain ⟨h1, h2, h3, h4, h5⟩ := h
  refine ⟨⟨h1.fr hF (by decide), ?_, ?_, ?_, ?_⟩, hF, ?_, fun i hi => ?_, fun k _ _ => by rw [hF 2251 (by decide)]⟩
  · unfold psV; rw [setV_at, if_pos ⟨rfl, rfl⟩]
  · rw [hF 2247 (by decide)]; exact h3
  · rw [hF 2248 (by decide)]; exact h4
  · unfold psV; rw [setV_fn (by decide), setV_at, if_pos ⟨rfl, rfl⟩]
  · unfold psV; rw [setV_fn (by decide), setV_fn (by decide), setV_at, if_pos ⟨rfl, rfl⟩]
  · unfold psV; rw [setV_fn (by decide), setV_fn (by decide), setV_at, if_neg (fun z => by omega)]
theorem push_R {fu n p o c w op N b : Nat} {U U2 : St} {T : Nat → Int32} {s0 : Int32} (hw : w < 180) (hcl : f_X12_closesSums fu U s0 = some (0, U2)) (h : RQ U2 T n p o c w) : F_X12_readsSum_38 (Lp_X12_readsSum_14 (F_X12_readsSum_82 fu) (F_X12_readsSum_139 fu) fu N) (F_X12_readsSum_82 fu) (F_X12_readsSum_139 fu) fu U (nI b) (nI op) s0 = RFc fu fu N (psV U2 p w op) b := by
  have g : ¬ (nI w < 0 ∨ 180 ≤ w) := fun w => w.elim (nI_pos (by omega)) (fun w => by omega)
  have em : (1048576 : Int32) * nI op = nI (1048576 * op) := by rw [show (1048576 : Int32) = nI 1048576 from rfl, pk_mul]
  rw [F_X12_readsSum_38, hcl, bd_some, h.2.2.2.2, nI_clamp (show w < 2 ^ 31 by omega), gd_t g, em, bv_eq, setV_fn (show 2249 ≠ 2252 by decide), h.2.2.2.2, nI_1, bv_eq, setV_fn (show 2243 ≠ 2249 by decide), setV_fn (show 2243 ≠ 2252 by decide), h.2.1, nI_1, bv_eq]
  rfl
theorem cn_le (S : Option (Nat × Den)) : cn S ≤ 1 := by
  cases S with
  | none => exact Nat.zero_le 1
  | some _ => exact Nat.le_refl 1
theorem sum_R {fu n o : Nat} {T : Nat → Int32} {rc : Nat → PR} (hfu : 1000 ≤ fu) (hrc : okRF fu n T rc o) : ∀ (j p c c0 p0 w b M N : Nat) (S P : Option (Nat × Den)) (U : St), n - p < j → n - p < M → n - p < N → RQ U T n p o c (w + cn S + cn P) → okSs S → okPp P → wtS U w S → wtS U (w + cn S) P → tpOK U w → wtN U w → b ≤ w → p ≤ n → p0 ≤ p → c0 ≤ c → c0 ≤ p0 → c + cn S + cn P + p0 ≤ c0 + p → w + cn S + cn P ≤ p → RFf U c0 c (pl P ++ pl S) → (∀ f, sumL (hN T n) rc j p S P = .inl f → ∃ U', RFc fu M N U b = some (0, U') ∧ Fr rfw U U' ∧ U' 2245 0 0 = f) ∧ (∀ a d, sumL (hN T n) rc j p S P = .inr (a, d) → ∃ U' w' c1 N', RFc fu M N U b = RSm fu N' U' b ∧ n - a < N' ∧ Fr rfw U U' ∧ RQ U' T n a o c1 w' ∧ w ≤ w' ∧ w' ≤ 180 ∧ agW U U' w ∧ (∀ i, w ≤ i → i < w' → ∃ x, x < 2 ^ 31 ∧ U' 2252 0 i = nI x ∧ x / 1048576 ≠ 14) ∧ noSg (hN T n a) ∧ p < a ∧ a ≤ n ∧ ∃ U2 c2, f_X12_closesSums fu U' 1 = some (0, U2) ∧ Fr rfw U U2 ∧ RQ U2 T n a o c2 w ∧ agS U U2 0 c ∧ agW U U2 w ∧ c < c2 ∧ c2 + p0 ≤ c0 + a ∧ RFf U2 c0 c2 [d]) := by
  intro j
  induction j with
  | zero => intro p c c0 p0 w b M N S P U h; omega
  | succ j ih =>
    intro p c c0 p0 w b M N S P U hj hM hN' hR hS hP hwS hwP htp hwn hb hp hp0 hc0 hcp hacc hwp hC
    have hn := hR.1.1.1
    have hcs1 := cn_le S
    have hcp1 := cn_le P
    have hwn' : wtN U (w + cn S + cn P) := fun i hi => by
      by_cases z : i < w
      · exact hwn i z
      · by_cases y : i < w + cn S
        · cases S with
          | none => exact absurd y (by show ¬ i < w + 0; omega)
          | some q =>
            obtain ⟨sg, dS⟩ := q
            have : i = w := by have : i < w + 1 := y
                               omega
            subst this
            have hsg := hS sg dS rfl
            exact ⟨_, by have : opN sg ≤ 9 := (opN_ok (.inl (hop_E hsg))).2
                         omega, hwS sg dS rfl⟩
        · cases P with
          | none => exact absurd hi (by show ¬ i < w + cn S + 0; omega)
          | some q =>
            obtain ⟨sg, dP⟩ := q
            have : i = w + cn S := by have : i < w + cn S + 1 := hi
                                      omega
            subst this
            have hsg := hP sg dP rfl
            exact ⟨_, by have : opN sg ≤ 9 := (opN_ok (.inl (hop_D hsg))).2
                         omega, hwP sg dP rfl⟩
    obtain ⟨r1, r2⟩ := hrc U p c (w + cn S + cn P) b M N hR (by omega) hwp hp (by omega) hwn' hM hN'
    rw [sumL]
    cases hr : rc p with
    | inl f0 =>
      obtain ⟨U', q1, q2, q3⟩ := r1 f0 hr
      exact ⟨fun f hf => ⟨U', q1, q2, by rw [q3]; exact Sum.inl.inj hf⟩, fun a d hf => (by cases hf)⟩
    | inr q =>
      obtain ⟨a, d⟩ := q
      obtain ⟨U1, c', N', q1, q2, q3, q4, q5, q6, q7, q8, q9, q10, q11⟩ := r2 a d hr
      have hle := hN_le (p := a) hR.1.1
      have hC1 : RFf U1 c0 c' (d :: (pl P ++ pl S)) := (hC.cg (fun k k1 k2 => q9 k (by omega) k2)).app q11
      have hwS1 : wtS U1 w S := fun sg d' e => by
        have : w < w + cn S + cn P := by rw [e]; show w < w + 1 + cn P; omega
        rw [q10 w this]; exact hwS sg d' e
      have hwP1 : wtS U1 (w + cn S) P := fun sg d' e => by
        have : w + cn S < w + cn S + cn P := by rw [e]; show w + cn S < w + cn S + 1; omega
        rw [q10 (w + cn S) this]; exact hwP sg d' e
      have htp1 : tpOK U1 w := htp.cg (fun i hi => q10 i (by omega))
      obtain ⟨⟨UA, a1, a2, a3, a4, a5, a6⟩, ⟨UB, b1, b2, b3, b4, b5, b6⟩⟩ := closes_R (fu := fu) (s0 := c0) hfu q4 (by omega) (by omega) hS hP hwS1 hwP1 htp1 (by omega) hC1
      have hh := here_R (fu := fu) q4.1 (by omega) q4.2.1
      obtain ⟨N', rfl⟩ : ∃ N2, N' = N2 + 1 := ⟨N' - 1, by omega⟩
      rw [q1]
      simp only []
      by_cases hD : hN T n a = 42 ∨ hN T n a = 47 ∨ hN T n a = 37
      · rw [if_pos hD]
        have han : a < n := (hN_lt hR.1.1).mp (by omega)
        have hon : 4 ≤ opN (hN T n a) ∧ opN (hN T n a) ≤ 9 := by rcases hD with z | z | z <;> rw [z] <;> decide
        have hun : RSm fu (N' + 1) U1 b = RFc fu fu N' (psV UA a (w + cn S) (opN (hN T n a))) b := by
          rw [← push_R (s0 := 0) (by omega) a1 a3, RSm, Lp_X12_readsSum_14, F_X12_readsSum_14, hh, bd_some, sgn_eq hle, bd_some, if_pos (show hN T n a = 43 ∨ hN T n a = 45 ∨ hN T n a = 42 ∨ hN T n a = 47 ∨ hN T n a = 37 by omega), if_neg (show ¬ nI (opN (hN T n a)) = -1 from fun z => by
            have q := nI_pos (n := opN (hN T n a)) (by omega)
            rw [z] at q; exact q (by decide)), if_pos (show (4 : Int32) ≤ nI (opN (hN T n a)) from nI_le (a := 4) hon.1 (by omega))]
        obtain ⟨s1, s2, s3, s4, s5⟩ := psV_R (op := opN (hN T n a)) a3
        obtain ⟨i1, i2⟩ := ih (a + 1) (c' + cn P) c0 p0 w b fu N' S (some (hN T n a, cmb P d)) (psV UA a (w + cn S) (opN (hN T n a))) (by omega) (by omega) (by omega) s1 hS (fun sg d' e => by
            have := Option.some.inj e
            simp only [Prod.mk.injEq] at this
            rw [← this.1]; exact hD) (fun sg d' e => by
            have : w < w + cn S := by rw [e]; show w < w + 1; omega
            rw [s4 w this, a5 w this]; exact hwS1 sg d' e) (fun sg d' e => by
            have := Option.some.inj e
            simp only [Prod.mk.injEq] at this
            rw [s3, this.1]) (htp1.cg (fun i hi => by rw [s4 i (by omega), a5 i (by omega)])) (hwn.cg (fun i hi => by rw [s4 i (by omega), a5 i (by omega), q10 i (by omega)])) hb (by omega) (by omega) (by omega) hcp (by show c' + cn P + cn S + 1 + p0 ≤ c0 + (a + 1); omega) (by show w + cn S + 1 ≤ a + 1; omega) (a6.cg (fun k k1 k2 => s5 k (by omega) k2))
        rw [hun]
        have hF : Fr rfw U (psV UA a (w + cn S) (opN (hN T n a))) := (q3.trans a2).trans (Fr.weak s2 (by decide))
        have hWa : agW U (psV UA a (w + cn S) (opN (hN T n a))) w := fun i hi => by rw [s4 i (by omega), a5 i (by omega), q10 i (by omega)]
        refine ⟨fun f hf => ?_, fun a' d' hf => ?_⟩
        · obtain ⟨U', z1, z2, z3⟩ := i1 f hf
          exact ⟨U', z1, hF.trans z2, z3⟩
        · obtain ⟨U', w', c1, N2, z1, z2, z3, z4, z5, z6, z7, z8, z9, z10, z11, U2, c2, y1, y2, y3, y4, y5, y6, y7, y8⟩ := i2 a' d' hf
          refine ⟨U', w', c1, N2, z1, z2, hF.trans z3, z4, z5, z6, fun i hi => by rw [z7 i hi]; exact hWa i hi, z8, z9, by omega, z11, U2, c2, y1, hF.trans y2, y3, fun k k1 k2 => ?_, fun i hi => by rw [y5 i hi]; exact hWa i hi, by omega, y7, y8⟩
          rw [y4 k k1 (by omega), s5 k k1 (by omega), a4 k k1 (by omega)]; exact q9 k k1 k2
      · rw [if_neg hD]
        by_cases hE : hN T n a = 43 ∨ hN T n a = 45
        · rw [if_pos hE]
          have han : a < n := (hN_lt hR.1.1).mp (by omega)
          have hon : opN (hN T n a) < 4 := by rcases hE with z | z <;> rw [z] <;> decide
          have hun : RSm fu (N' + 1) U1 b = RFc fu fu N' (psV UB a w (opN (hN T n a))) b := by
            rw [← push_R (s0 := 1) (by omega) b1 b3, RSm, Lp_X12_readsSum_14, F_X12_readsSum_14, hh, bd_some, sgn_eq hle, bd_some, if_pos (show hN T n a = 43 ∨ hN T n a = 45 ∨ hN T n a = 42 ∨ hN T n a = 47 ∨ hN T n a = 37 by omega), if_neg (show ¬ nI (opN (hN T n a)) = -1 from fun z => by
              have q := nI_pos (n := opN (hN T n a)) (by omega)
              rw [z] at q; exact q (by decide)), if_neg (show ¬ (4 : Int32) ≤ nI (opN (hN T n a)) from nI_ge (b := 4) hon (by omega))]
          obtain ⟨s1, s2, s3, s4, s5⟩ := psV_R (op := opN (hN T n a)) b3
          obtain ⟨i1, i2⟩ := ih (a + 1) (c' + cn P + cn S) c0 p0 w b fu N' (some (hN T n a, cmb S (cmb P d))) none (psV UB a w (opN (hN T n a))) (by omega) (by omega) (by omega) s1 (fun sg d' e => by
              have := Option.some.inj e
              simp only [Prod.mk.injEq] at this
              rw [← this.1]; exact hE) (fun sg d' e => (by cases e)) (fun sg d' e => by
              have := Option.some.inj e
              simp only [Prod.mk.injEq] at this
              rw [s3, this.1]) (fun sg d' e => (by cases e)) (htp1.cg (fun i hi => by rw [s4 i hi, b5 i hi])) (hwn.cg (fun i hi => by rw [s4 i hi, b5 i hi, q10 i (by omega)])) hb (by omega) (by omega) (by omega) hcp (by show c' + cn P + cn S + 1 + 0 + p0 ≤ c0 + (a + 1); omega) (by show w + 1 + 0 ≤ a + 1; omega) (b6.cg (fun k k1 k2 => s5 k (by omega) k2))
          rw [hun]
          have hF : Fr rfw U (psV UB a w (opN (hN T n a))) := (q3.trans b2).trans (Fr.weak s2 (by decide))
          have hWa : agW U (psV UB a w (opN (hN T n a))) w := fun i hi => by rw [s4 i hi, b5 i hi, q10 i (by omega)]
          refine ⟨fun f hf => ?_, fun a' d' hf => ?_⟩
          · obtain ⟨U', z1, z2, z3⟩ := i1 f hf
            exact ⟨U', z1, hF.trans z2, z3⟩
          · obtain ⟨U', w', c1, N2, z1, z2, z3, z4, z5, z6, z7, z8, z9, z10, z11, U2, c2, y1, y2, y3, y4, y5, y6, y7, y8⟩ := i2 a' d' hf
            refine ⟨U', w', c1, N2, z1, z2, hF.trans z3, z4, z5, z6, fun i hi => by rw [z7 i hi]; exact hWa i hi, z8, z9, by omega, z11, U2, c2, y1, hF.trans y2, y3, fun k k1 k2 => ?_, fun i hi => by rw [y5 i hi]; exact hWa i hi, by omega, y7, y8⟩
            rw [y4 k k1 (by omega), s5 k k1 (by omega), b4 k k1 (by omega)]; exact q9 k k1 k2
        · rw [if_neg hE]
          refine ⟨fun f hf => (by cases hf), fun a' d' hf => ?_⟩
          obtain ⟨rfl, rfl⟩ := inr2 hf
          refine ⟨U1, w + cn S + cn P, c', N' + 1, rfl, q2, q3, q4, by omega, by omega, fun i hi => q10 i (by omega), fun i i1 i2 => ?_, ⟨hD, hE⟩, q5, q6, UB, c' + cn P + cn S, b1, q3.trans b2, b3, fun k k1 k2 => by rw [b4 k k1 (by omega)]; exact q9 k k1 k2, fun i hi => by rw [b5 i hi, q10 i (by omega)], by omega, by omega, b6⟩
          by_cases y : i < w + cn S
          · cases S with
            | none => exact absurd y (by show ¬ i < w + 0; omega)
            | some q =>
              obtain ⟨sg, dS⟩ := q
              have : i = w := by have : i < w + 1 := y
                                 omega
              subst this
              have hsg := hS sg dS rfl
              have h9 := (opN_ok (.inl (hop_E hsg))).2
              exact ⟨1048576 * opN sg, by omega, hwS1 sg dS rfl, by omega⟩
          · cases P with
            | none => exact absurd i2 (by show ¬ i < w + cn S + 0; omega)
            | some q =>
              obtain ⟨sg, dP⟩ := q
              have : i = w + cn S := by have : i < w + cn S + 1 := i2
                                        omega
              subst this
              have hsg := hP sg dP rfl
              have h9 := (opN_ok (.inl (hop_D hsg))).2
              exact ⟨1048576 * opN sg, by omega, hwP1 sg dP rfl, by omega⟩
/-- factors and sums, for the reference, by turns -/
theorem facsum_R {fu n : Nat} {T : Nat → Int32} (hfu : 1000 ≤ fu) : ∀ (m o : Nat), 1 ≤ o → o ≤ 6 → (bnd 3 o ≤ m → okRF fu n T (fun p => sp (hN T n) m 3 p o) o) ∧ (bnd 2 o ≤ m → okRS fu n T (fun p => sp (hN T n) m 2 p o) o) := by
  intro m
  induction m with
  | zero =>
    intro o _ _
    refine ⟨fun hb => ?_, fun hb => ?_⟩
    · unfold bnd at hb; simp at hb
    · unfold bnd at hb; simp at hb
  | succ m ih =>
    intro o ho1 ho6
    refine ⟨fun hb => ?_, fun hb => ?_⟩
    · intro U p c w b M N hR hcp hwp hp hbw hwn hM hN'
      have hn := hR.1.1.1
      have hle := hN_le (p := p) hR.1.1
      have hh := here_R (fu := fu) hR.1 (by omega) hR.2.1
      obtain ⟨M, rfl⟩ : ∃ M', M = M' + 1 := ⟨M - 1, by omega⟩
      show (∀ f, sp (hN T n) (m + 1) 3 p o = .inl f → _) ∧ (∀ a d, sp (hN T n) (m + 1) 3 p o = .inr (a, d) → _)
      rw [sp]
      by_cases hA : hN T n p = 91
      · rw [if_pos hA]
        have hpn : p < n := (hN_lt hR.1.1).mp (by omega)
        by_cases ho : o < 6
        · rw [if_pos ho]
          obtain ⟨s1, s2, s3, s4, s5⟩ := opens_R (fu := fu) (what := 14) hR (by omega) ho
          have hrec := (ih (o + 1) (by omega) (by omega)).2 (by unfold bnd at hb ⊢; simp at hb ⊢; omega)
          obtain ⟨r1, r2⟩ := hrec (opV2 U p o w 14) (p + 1) c (w + 1) b M N s2 (by omega) (by omega) (by omega) (by omega) (fun i hi => by
            by_cases z : i = w
            · subst z; exact ⟨_, by omega, s4⟩
            · rw [s5 i (by omega)]; exact hwn i (by omega)) (.inr ⟨1048576 * 14, s4, by omega, by omega⟩) (by omega) (by omega)
          simp only [] at r1 r2
          have hun : RFc fu (M + 1) N U b = RFc fu M N (opV2 U p o w 14) b := by
            rw [RFc, RFc, Lp_X12_readsFactor_0, F_X12_readsFactor_0, hh, bd_some, if_pos (show hI (hN T n p) = 91 by rw [hI_91 hle]; exact hA), show f_X12_opens fu U 14 = _ from s1, bd_some, if_neg (by decide)]
          rw [hun]
          have hF1 : Fr rfw U (opV2 U p o w 14) := Fr.weak s3 (by decide)
          cases hr : sp (hN T n) m 2 (p + 1) (o + 1) with
          | inl f0 =>
            obtain ⟨U', q1, q2, q3⟩ := r1 f0 hr
            exact ⟨fun f hf => ⟨U', q1, hF1.trans q2, by rw [q3]; exact Sum.inl.inj hf⟩, fun a d hf => (by cases hf)⟩
          | inr q =>
            obtain ⟨a, d⟩ := q
            obtain ⟨U', w', c1, N', z1, z2, z3, z4, z5, z6, z7, z8, z9, z10, z11, U2, c2, y1, y2, y3, y4, y5, y6, y7, y8⟩ := r2 a d hr
            have hle1 := hN_le (p := a) hR.1.1
            have hh1 := here_R (fu := fu) z4.1 (by omega) z4.2.1
            obtain ⟨N', rfl⟩ : ∃ N2, N' = N2 + 1 := ⟨N' - 1, by omega⟩
            have hw14 : U' 2252 0 w = nI (1048576 * 14) := by rw [z7 w (by omega)]; exact s4
            have hall : ∀ i, b ≤ i → i < w' → ∃ x, x < 2 ^ 31 ∧ U' 2252 0 i = nI x := fun i i1 i2 => by
              by_cases q : i < w
              · rw [z7 i (by omega), s5 i q]; exact hwn i q
              · by_cases q2 : i = w
                · subst q2; exact ⟨_, by omega, hw14⟩
                · obtain ⟨x, x1, x2, -⟩ := z8 i (by omega) i2
                  exact ⟨x, x1, x2⟩
            have hos : f_X12_hasOpenSum fu U' (nI b) = some (1, U') := by
              rcases has_R (fu := fu) (w := w') (b := b) z6 z4.2.2.2.2 hall fu b (Nat.le_refl b) (by omega) (by omega) with ⟨g1, -⟩ | ⟨-, g2⟩
              · exact g1
              · exact absurd (by omega) (g2 w _ hbw (by omega) hw14 (by omega))
            have hstep : RSm fu (N' + 1) U' b = if hI (hN T n a) = 93 then Lp_X12_readsSum_14 (F_X12_readsSum_82 fu) (F_X12_readsSum_139 fu) fu N' (setV (setV (setV U2 2249 0 0 (nI w)) 2247 0 0 (nI o)) 2243 0 0 (nI (a + 1))) (nI b) else some (0, setV U' 2245 0 0 (flt 1 a)) := by
              have hng : ¬ (hN T n a = 43 ∨ hN T n a = 45 ∨ hN T n a = 42 ∨ hN T n a = 47 ∨ hN T n a = 37) := by
                have n1 := z9.1; have n2 := z9.2; omega
              rw [RSm, Lp_X12_readsSum_14, F_X12_readsSum_14, hh1, bd_some, sgn_eq hle1, bd_some, if_neg hng, if_pos rfl, hh1, bd_some]
              by_cases hc : hI (hN T n a) = 93
              · rw [if_pos hc, if_pos hc, hos, bd_some, if_neg (by decide), y1, bd_some, y3.2.2.2.2, show nI (w + 1) - 1 = nI w from nI_pred w, bv_eq, setV_fn (show 2247 ≠ 2249 by decide), y3.2.2.1, show nI (o + 1) - 1 = nI o from nI_pred o, bv_eq, setV_fn (show 2243 ≠ 2247 by decide), setV_fn (show 2243 ≠ 2249 by decide), y3.2.1, nI_1, bv_eq, F_X12_readsSum_164]
              · rw [if_neg hc, if_neg hc, F_X12_readsSum_139, hos, bd_some, if_neg (by decide), z4.2.1, show f_X12_wrong fu U' 1 (nI a) = _ from wrong_R, bd_some, gd_t (.inl rfl)]
            rw [z1, hstep]
            simp only [thn]
            by_cases hc : hN T n a = 93
            · rw [if_pos (show hI (hN T n a) = 93 by rw [hI_93 hle1]; exact hc), if_pos hc]
              have han : a < n := (hN_lt hR.1.1).mp (by omega)
              refine ⟨fun f hf => (by cases hf), fun a' d' hf => ?_⟩
              obtain ⟨rfl, rfl⟩ := inr2 hf
              have hF3 : Fr rfw U2 (setV (setV (setV U2 2249 0 0 (nI w)) 2247 0 0 (nI o)) 2243 0 0 (nI (a + 1))) := (((Fr.refl _ U2).set (by decide)).set (by decide)).set (by decide)
              have hU51 : ∀ k, (setV (setV (setV U2 2249 0 0 (nI w)) 2247 0 0 (nI o)) 2243 0 0 (nI (a + 1))) 2251 0 k = U2 2251 0 k := fun k => by rw [setV_fn (by decide), setV_fn (by decide), setV_fn (by decide)]
              refine ⟨_, c2, N', rfl, by omega, (hF1.trans y2).trans hF3, ⟨y3.1.fr hF3 (by decide), by rw [setV_at, if_pos ⟨rfl, rfl⟩], by rw [setV_fn (by decide), setV_at, if_pos ⟨rfl, rfl⟩], by rw [setV_fn (by decide), setV_fn (by decide), setV_fn (by decide)]; exact y3.2.2.2.1, by rw [setV_fn (by decide), setV_fn (by decide), setV_at, if_pos ⟨rfl, rfl⟩]⟩, by omega, by omega, y6, by omega, fun k k1 k2 => ?_, fun i hi => ?_, y8.cg (fun k _ _ => hU51 k)⟩
              · rw [hU51 k, y4 k k1 k2, s3 2251 (by decide)]
              · rw [setV_fn (by decide), setV_fn (by decide), setV_fn (by decide), y5 i (by omega)]; exact s5 i hi
            · rw [if_neg (show ¬ hI (hN T n a) = 93 by rw [hI_93 hle1]; exact hc), if_neg hc]
              exact ⟨fun f hf => ⟨_, rfl, (hF1.trans z3).set (by decide), by rw [setV_at, if_pos ⟨rfl, rfl⟩]; exact Sum.inl.inj hf⟩, fun a d hf => (by cases hf)⟩
        · rw [if_neg ho]
          have e6 : o = 6 := by omega
          subst e6
          refine ⟨fun f hf => ⟨setV U 2245 0 0 (flt 5 p), ?_, (Fr.refl _ U).set (by decide), by rw [setV_at, if_pos ⟨rfl, rfl⟩]; exact Sum.inl.inj hf⟩, fun a d hf => (by cases hf)⟩
          rw [RFc, Lp_X12_readsFactor_0, F_X12_readsFactor_0, hh, bd_some, if_pos (show hI (hN T n p) = 91 by rw [hI_91 hle]; exact hA), show f_X12_opens fu U 14 = _ from opens_6 (what := 14) hR, bd_some, if_pos rfl, F_X12_readsFactor_18, bd_some, if_pos rfl]
      · rw [if_neg hA]
        have hd := digit_R (fu := fu) hR.1 (by omega) hR.2.1
        have hun : Lp_X12_readsFactor_0 (F_X12_readsFactor_18 fu) (F_X12_readsFactor_20 fu) fu (M + 1) U = F_X12_readsFactor_20 fu U := by
          rw [Lp_X12_readsFactor_0, F_X12_readsFactor_0, hh, bd_some, if_neg (show ¬ hI (hN T n p) = 91 by rw [hI_91 hle]; exact hA)]
        by_cases hD : 48 ≤ hN T n p ∧ hN T n p ≤ 57
        · rw [if_pos hD]
          rw [if_pos hD] at hd
          obtain ⟨r1, r2⟩ := num_R (fu := fu) (most := 99999) hfu (by omega) hR.1 hp hR.2.1
          have hun2 : RFc fu (M + 1) N U b = bd (bd (f_X12_readsNumber fu U (nI 99999)) fun r11 V12 => if r11 = 0 then (some (0, V12)) else (bd (f_X12_says fu V12 (nI 0) (V12 2246 0 0)) fun r15 V16 => some (1, V16))) fun r V => if r = 0 then some (0, V) else RSm fu N V b := by
            rw [RFc, hun, F_X12_readsFactor_20, hd, bd_some, if_neg (by decide)]; rfl
          rw [hun2]
          cases hr : spNum (hN T n) 99999 p with
          | inl f0 =>
            obtain ⟨U', q1, q2, q3⟩ := r1 f0 hr
            refine ⟨fun f hf => ⟨U', ?_, Fr.weak q2 (by decide), by rw [q3]; exact Sum.inl.inj hf⟩, fun a d hf => (by cases hf)⟩
            rw [q1, bd_some, if_pos rfl, bd_some, if_pos rfl]
          | inr q =>
            obtain ⟨a, v⟩ := q
            obtain ⟨U1, q1, q2, q3, q4⟩ := r2 a v hr
            obtain ⟨t1, t2, t3, -, t5⟩ := spNum_adv hR.1.1 hr
            have e48 : U1 2248 0 0 = nI c := by rw [q2 2248 (by decide)]; exact hR.2.2.2.1
            have hsy := says_R (fu := fu) (op := 0) (v := v) (U := U1) (by omega) e48
            rw [q1, bd_some, if_neg (by decide), q4, hsy, bd_some, bd_some, if_neg (by decide)]
            refine ⟨fun f hf => (by cases hf), fun a' d' hf => ?_⟩
            obtain ⟨rfl, rfl⟩ := inr2 hf
            rw [Nat.mul_zero, Nat.zero_add]
            have hF : Fr rfw U (syV U1 c v) := (Fr.weak q2 (by decide)).trans (Fr.weak (syV_fr U1 c v) (by decide))
            have hcw : sdV (syV U1 c v) c = v := syV_cw (by omega)
            refine ⟨syV U1 c v, c + 1, N, rfl, by omega, hF, ⟨hR.1.fr hF (by decide), by rw [syV_fr U1 c v 2243 (by decide)]; exact q3, by rw [syV_fr U1 c v 2247 (by decide), q2 2247 (by decide)]; exact hR.2.2.1, syV_sz, by rw [syV_fr U1 c v 2249 (by decide), q2 2249 (by decide)]; exact hR.2.2.2.2⟩, t1, t2, by omega, by omega, fun k _ k2 => by rw [syV_old (by omega), q2 2251 (by decide)], fun i _ => by rw [syV_fr U1 c v 2252 (by decide), q2 2252 (by decide)], FLR.num (by omega) hcw, fun k k1 k2 => ?_⟩
            have : k = c := by omega
            subst this; rw [syV_new]; exact nI_pos (by omega)
        · rw [if_neg hD]
          rw [if_neg hD] at hd
          have hun2 : RFc fu (M + 1) N U b = bd (if (if lix (hN T n p) < 9 then nI (lix (hN T n p)) else -1) = -1 then (bd (f_X12_wrong fu U (nI 1) (nI p)) fun r17 V18 => gd (r17 = 0 ∨ r17 = 1) <| some (r17, V18)) else (bd (f_X12_says fu U (nI 1) (if lix (hN T n p) < 9 then nI (lix (hN T n p)) else -1)) fun r12 V13 => bv (setV V13 2243 0 0 ((V13 2243 0 0) + 1)) fun V15 => some (1, V15))) fun r V => if r = 0 then some (0, V) else RSm fu N V b := by
            rw [RFc, hun, F_X12_readsFactor_20, hd, bd_some, if_pos rfl, hh, bd_some, fact_eq (by omega), bd_some, hR.2.1]; rfl
          rw [hun2]
          by_cases hL : lix (hN T n p) < 9
          · rw [if_pos hL, if_pos hL]
            have hpn : p < n := (hN_lt hR.1.1).mp (by
              refine Classical.byContradiction (fun z => ?_)
              have : hN T n p = 256 := by omega
              rw [this] at hL; exact absurd hL (by decide))
            have hsy := says_R (fu := fu) (op := 1) (v := lix (hN T n p)) (U := U) (by omega) hR.2.2.2.1
            rw [if_neg (show ¬ nI (lix (hN T n p)) = -1 from fun z => by
              have q := nI_pos (n := lix (hN T n p)) (by omega)
              rw [z] at q; exact q (by decide)), hsy, bd_some, syV_fr U c _ 2243 (by decide), hR.2.1, nI_1, bv_eq, bd_some, if_neg (by decide)]
            refine ⟨fun f hf => (by cases hf), fun a' d' hf => ?_⟩
            obtain ⟨rfl, rfl⟩ := inr2 hf
            have hF : Fr rfw U (setV (syV U c (1048576 * 1 + lix (hN T n p))) 2243 0 0 (nI (p + 1))) := (Fr.weak (syV_fr U c _) (by decide)).set (by decide)
            have hcw : sdV (setV (syV U c (1048576 * 1 + lix (hN T n p))) 2243 0 0 (nI (p + 1))) c = 1048576 + lix (hN T n p) := by unfold sdV; rw [setV_fn (by decide), syV_new, nI_clamp (by omega)]
            refine ⟨_, c + 1, N, rfl, by omega, hF, ⟨hR.1.fr hF (by decide), by rw [setV_at, if_pos ⟨rfl, rfl⟩], by rw [setV_fn (by decide), syV_fr U c _ 2247 (by decide)]; exact hR.2.2.1, by rw [setV_fn (by decide)]; exact syV_sz, by rw [setV_fn (by decide), syV_fr U c _ 2249 (by decide)]; exact hR.2.2.2.2⟩, by omega, by omega, by omega, by omega, fun k _ k2 => by rw [setV_fn (by decide), syV_old (by omega)], fun i _ => by rw [setV_fn (by decide), syV_fr U c _ 2252 (by decide)], FLR.ltr hL hcw, fun k k1 k2 => ?_⟩
            have : k = c := by omega
            subst this; rw [setV_fn (by decide), syV_new]; exact nI_pos (by omega)
          · rw [if_neg hL, if_neg hL, if_pos rfl, wrong_R, bd_some, gd_t (.inl rfl), bd_some, if_pos rfl]
            exact ⟨fun f hf => ⟨_, rfl, (Fr.refl _ U).set (by decide), by rw [setV_at, if_pos ⟨rfl, rfl⟩]; exact Sum.inl.inj hf⟩, fun a d hf => (by cases hf)⟩
    · intro U p c w b M N hR hcp hwp hp hbw hwn htp hM hN'
      have hn := hR.1.1.1
      have hrc := (ih o ho1 ho6).1 (by unfold bnd at hb ⊢; simp at hb ⊢; omega)
      obtain ⟨i1, i2⟩ := sum_R (fu := fu) hfu hrc 200 p c c p w b M N none none U (by omega) hM hN' hR (fun _ _ z => (by cases z)) (fun _ _ z => (by cases z)) (fun _ _ z => (by cases z)) (fun _ _ z => (by cases z)) htp hwn hbw hp (Nat.le_refl _) (Nat.le_refl _) hcp (by show c + 0 + 0 + p ≤ c + p; omega) (by show w + 0 + 0 ≤ p; omega) ⟨FLR.nil, fun k k1 k2 => by omega⟩
      show (∀ f, sp (hN T n) (m + 1) 2 p o = .inl f → _) ∧ (∀ a d, sp (hN T n) (m + 1) 2 p o = .inr (a, d) → _)
      rw [sp]
      exact ⟨i1, i2⟩
