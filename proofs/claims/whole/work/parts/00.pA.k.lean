/-! the reference's conditions and pieces -/
def RCn (fu N : Nat) (U : St) : RR := Lp_X12_readsCondition_40 (F_X12_readsCondition_81 fu) (F_X12_readsCondition_90 fu) (F_X12_readsCondition_143 fu) (F_X12_readsCondition_170 fu) fu N U
def RAn (fu N M : Nat) (U : St) : RR := Lp_X12_readsCondition_92 (F_X12_readsCondition_143 fu) (F_X12_readsCondition_152 (Lp_X12_readsCondition_40 (F_X12_readsCondition_81 fu) (F_X12_readsCondition_90 fu) (F_X12_readsCondition_143 fu) (F_X12_readsCondition_170 fu) fu N) (F_X12_readsCondition_81 fu) (F_X12_readsCondition_90 fu) (F_X12_readsCondition_143 fu) (F_X12_readsCondition_170 fu) fu) fu M U
def REn (fu E N M : Nat) (U : St) : RR := bd (Lp_X12_endsPiece_0 (F_X12_endsPiece_39 fu) fu E U) fun _ V => RAn fu N M V
def tpC (U : St) (w : Nat) : Prop := 1 ≤ w ∧ ∃ x, x < 2 ^ 31 ∧ U 2252 0 (w - 1) = nI x ∧ 10 ≤ x / 1048576
theorem tpC.ok {U : St} {w : Nat} (h : tpC U w) : tpOK U w := by
  obtain ⟨h1, x, x1, x2, x3⟩ := h
  exact .inr ⟨x, x2, x1, by omega⟩
theorem tpC.cg {U U' : St} {w : Nat} (h : tpC U w) (ha : agW U U' w) : tpC U' w := by
  obtain ⟨h1, x, x1, x2, x3⟩ := h
  exact ⟨h1, x, x1, by rw [ha (w - 1) (by omega)]; exact x2, x3⟩
def PcE (fu n : Nat) (T : Nat → Int32) (U : St) (p o c w : Nat) (R : RR) (a : Nat) (d : Den) : Prop := ∃ U' c' E N' M, R = REn fu E N' M U' ∧ w < E ∧ n - a < N' ∧ n - a < M ∧ Fr rfw U U' ∧ RQ U' T n a o c' w ∧ p < a ∧ a ≤ n ∧ c < c' ∧ c' + p ≤ c + a ∧ agS U U' 0 c ∧ agW U U' w ∧ RFf U' c c' [d] ∧ isB d
def okRP (fu n : Nat) (T : Nat → Int32) (r : Nat → PR) (o : Nat) : Prop := ∀ (U : St) (p c w N : Nat), RQ U T n p o c w → c ≤ p → w ≤ p → p ≤ n → wtN U w → tpC U w → n - p < N → (∀ f, r p = .inl f → ∃ U', RCn fu N U = some (0, U') ∧ Fr rfw U U' ∧ U' 2245 0 0 = f) ∧ (∀ a d, r p = .inr (a, d) → PcE fu n T U p o c w (RCn fu N U) a d)
def CnE (fu n : Nat) (T : Nat → Int32) (U : St) (p o c0 p0 w : Nat) (R : RR) (a : Nat) (d : Den) : Prop := ∃ U' c' w' N' M, R = RAn fu N' M U' ∧ n - a < N' ∧ n - a < M ∧ Fr rfw U U' ∧ RQ U' T n a o c' w' ∧ hN T n a ≠ 38 ∧ hN T n a ≠ 124 ∧ p < a ∧ a ≤ n ∧ ∃ U2, f_X12_lands fu U' 1 = some (0, U2) ∧ Fr rfw U U2 ∧ RQ U2 T n a o c' w ∧ agS U U2 0 c0 ∧ agW U U2 w ∧ c0 < c' ∧ c' + p0 ≤ c0 + a ∧ RFf U2 c0 c' [d] ∧ isB d
def okRC (fu n : Nat) (T : Nat → Int32) (r : Nat → PR) (o : Nat) : Prop := ∀ (U : St) (p c w N : Nat), RQ U T n p o c w → c ≤ p → w ≤ p → p ≤ n → wtN U w → 1 ≤ w → U 2252 0 (w - 1) = nI (1048576 * 13) → n - p < N → (∀ f, r p = .inl f → ∃ U', RCn fu N U = some (0, U') ∧ Fr rfw U U' ∧ U' 2245 0 0 = f) ∧ (∀ a d, r p = .inr (a, d) → CnE fu n T U p o c p w (RCn fu N U) a d)
/-- behind a piece, where no ! waits -/
theorem ends_0 {fu n p o c w E N M : Nat} {U : St} {T : Nat → Int32} (h : RQ U T n p o c w) (hw : w ≤ 180) (hE : 0 < E) (ht : 1 ≤ w ∧ ∃ x, x < 2 ^ 31 ∧ U 2252 0 (w - 1) = nI x ∧ 11 ≤ x / 1048576) : REn fu E N M U = RAn fu N M U := by
  obtain ⟨E, rfl⟩ : ∃ E', E = E' + 1 := ⟨E - 1, by omega⟩
  obtain ⟨h1, x, x1, x2, x3⟩ := ht
  obtain ⟨v, rfl⟩ : ∃ v, w = v + 1 := ⟨w - 1, by omega⟩
  have hlt : x / 1048576 < 2 ^ 31 := Nat.lt_of_le_of_lt (Nat.div_le_self _ _) x1
  have htp := top_S (fu := fu) (U := U) (w := v) (x := x) (by omega) x1 h.2.2.2.2 x2
  rw [REn, Lp_X12_endsPiece_0, F_X12_endsPiece_0, htp, bd_some, if_neg (show ¬ nI (x / 1048576) = 10 from fun z => by have := (nI_eq (b := 10) hlt (by omega)).mp z; omega), F_X12_endsPiece_39, bd_some]
/-- behind a piece, where a ! waits -/
theorem ends_1 {fu n p o c w E N M : Nat} {U : St} {T : Nat → Int32} (h : RQ U T n p (o + 1) c (w + 1)) (hw : w < 180) (hc : c < 180) (hv : U 2252 0 w = nI (1048576 * 10)) : ∃ U', REn fu (E + 1) N M U = REn fu E N M U' ∧ Fr rfw U U' ∧ RQ U' T n p o (c + 1) w ∧ agS U U' 0 c ∧ agW U U' w ∧ U' 2251 0 c = nI 10485760 := by
  have htp := top_S (fu := fu) (U := U) (w := w) (x := 1048576 * 10) hw (by omega) h.2.2.2.2 hv
  have hdv : 1048576 * 10 / 1048576 = 10 := by omega
  rw [hdv] at htp
  have hsy := says_R (fu := fu) (op := 10) (v := 0) (U := U) hc h.2.2.2.1
  have hF1 := syV_fr U c (1048576 * 10 + 0)
  have hF : Fr rfw U (setV (setV (syV U c (1048576 * 10 + 0)) 2249 0 0 (nI w)) 2247 0 0 (nI o)) := ((Fr.weak hF1 (by decide)).set (by decide)).set (by decide)
  refine ⟨setV (setV (syV U c (1048576 * 10 + 0)) 2249 0 0 (nI w)) 2247 0 0 (nI o), ?_, hF, ⟨h.1.fr hF (by decide), ?_, ?_, ?_, ?_⟩, fun k _ k2 => ?_, fun i _ => ?_, ?_⟩
  · rw [REn, REn, Lp_X12_endsPiece_0, F_X12_endsPiece_0, htp, bd_some, if_pos (show nI 10 = 10 from rfl), show f_X12_says fu U 10 0 = _ from hsy, bd_some, hF1 2249 (by decide), h.2.2.2.2, show nI (w + 1) - 1 = nI w from nI_pred w, bv_eq, setV_fn (show 2247 ≠ 2249 by decide), hF1 2247 (by decide), h.2.2.1, show nI (o + 1) - 1 = nI o from nI_pred o, bv_eq]
  · rw [setV_fn (by decide), setV_fn (by decide), hF1 2243 (by decide)]; exact h.2.1
  · rw [setV_at, if_pos ⟨rfl, rfl⟩]
  · rw [setV_fn (by decide), setV_fn (by decide)]; exact syV_sz
  · rw [setV_fn (by decide), setV_at, if_pos ⟨rfl, rfl⟩]
  · rw [setV_fn (by decide), setV_fn (by decide), syV_old (by omega)]
  · rw [setV_fn (by decide), setV_fn (by decide), hF1 2252 (by decide)]
  · rw [setV_fn (by decide), setV_fn (by decide), syV_new]
/-- the loop over the pieces of a condition -/
theorem cnd_R {fu n o : Nat} {T : Nat → Int32} {rc : Nat → PR} (hfu : 1000 ≤ fu) (hrc : okRP fu n T rc o) : ∀ (j p c c0 p0 w N : Nat) (q : Qd) (pO pA : Option Nat) (U : St), n - p < j → n - p < N → RQ U T n p o c (w + cO pO + cO pA) → wtN U w → lvl U w pO pA c → U 2252 0 (w - 1) = nI (1048576 * 13) → p ≤ n → p0 ≤ p → c0 ≤ c → c0 ≤ p0 → c + p0 ≤ c0 + p → w + cO pO + cO pA ≤ p → QRf (sdV U) c0 c q pO pA → nnR U c0 c → (∀ f, cndL (hN T n) rc j p q = .inl f → ∃ U', RCn fu N U = some (0, U') ∧ Fr rfw U U' ∧ U' 2245 0 0 = f) ∧ (∀ a d, cndL (hN T n) rc j p q = .inr (a, d) → CnE fu n T U p o c0 p0 w (RCn fu N U) a d) := by
  intro j
  induction j with
  | zero => intro p c c0 p0 w N q pO pA U h; omega
  | succ j ih =>
    intro p c c0 p0 w N q pO pA U hj hN' hR hwn hl h13 hp hp0 hc0 hcp hacc hwp hQ hnn
    have hn := hR.1.1.1
    have cO1 := cO_le pO
    have cA1 := cO_le pA
    have hll := hl
    obtain ⟨hw1, -, hlO, hlA, hdj⟩ := hl
    have hwn' : wtN U (w + cO pO + cO pA) := fun i hi => by
      by_cases z : i < w
      · exact hwn i z
      · by_cases y : i < w + cO pO
        · cases pO with
          | none => exact absurd y (by show ¬ i < w + 0; omega)
          | some r =>
            have : i = w := by have : i < w + 1 := y
                               omega
            subst this
            exact ⟨_, by have := (hlO r rfl).1; omega, (hlO r rfl).2.1⟩
        · cases pA with
          | none => exact absurd hi (by show ¬ i < w + cO pO + 0; omega)
          | some r =>
            have : i = w + cO pO := by have : i < w + cO pO + 1 := hi
                                       omega
            subst this
            exact ⟨_, by have := (hlA r rfl).1; omega, (hlA r rfl).2.1⟩
    have htop : ∃ x, x < 2 ^ 31 ∧ U 2252 0 (w + cO pO + cO pA - 1) = nI x ∧ 11 ≤ x / 1048576 := by
      cases pA with
      | some r =>
        refine ⟨1048576 * 11 + r, by have := (hlA r rfl).1; omega, ?_, by omega⟩
        have e : w + cO pO + cO (some r) - 1 = w + cO pO := by show w + cO pO + 1 - 1 = _; omega
        rw [e]; exact (hlA r rfl).2.1
      | none =>
        cases pO with
        | some r =>
          refine ⟨1048576 * 12 + r, by have := (hlO r rfl).1; omega, ?_, by omega⟩
          have e : w + cO (some r) + cO none - 1 = w := by show w + 1 + 0 - 1 = _; omega
          rw [e]; exact (hlO r rfl).2.1
        | none =>
          have e : w + cO none + cO none - 1 = w - 1 := rfl
          exact ⟨1048576 * 13, by omega, by rw [e]; exact h13, by omega⟩
    obtain ⟨r1, r2⟩ := hrc U p c (w + cO pO + cO pA) N hR (by omega) hwp hp hwn' ⟨by omega, by obtain ⟨x, x1, x2, x3⟩ := htop; exact ⟨x, x1, x2, by omega⟩⟩ hN'
    rw [cndL]
    cases hr : rc p with
    | inl f0 =>
      obtain ⟨U', q1, q2, q3⟩ := r1 f0 hr
      exact ⟨fun f hf => ⟨U', q1, q2, by rw [q3]; exact Sum.inl.inj hf⟩, fun a d hf => (by cases hf)⟩
    | inr v =>
      obtain ⟨a, d⟩ := v
      obtain ⟨U1, c', E, N1, M, q1, qE, qN, qM, q3, q4, q5, q6, q7, q8, q9, q10, q11, qB⟩ := r2 a d hr
      have hle := hN_le (p := a) hR.1.1
      have htop1 : 1 ≤ w + cO pO + cO pA ∧ ∃ x, x < 2 ^ 31 ∧ U1 2252 0 (w + cO pO + cO pA - 1) = nI x ∧ 11 ≤ x / 1048576 := by
        obtain ⟨x, x1, x2, x3⟩ := htop
        exact ⟨by omega, x, x1, by rw [q10 _ (by omega)]; exact x2, x3⟩
      have hRA := ends_0 (fu := fu) (E := E) (N := N1) (M := M) q4 (by omega) (by omega) htop1
      rw [hRA] at q1
      have hl1 : lvl U1 w pO pA c' := by
        refine ⟨hw1, ⟨1048576 * 13, by omega, by rw [q10 _ (by omega)]; exact h13, by omega⟩, fun r e => ?_, fun r e => ?_, hdj⟩
        · obtain ⟨b1, b2, x, b3, b4, b5⟩ := hlO r e
          have : w < w + cO pO + cO pA := by rw [e]; show w < w + 1 + cO pA; omega
          exact ⟨by omega, by rw [q10 w this]; exact b2, x, b3, by rw [q9 r (by omega) b1]; exact b4, b5⟩
        · obtain ⟨b1, b2, x, b3, b4, b5⟩ := hlA r e
          have : w + cO pO < w + cO pO + cO pA := by rw [e]; show w + cO pO < w + cO pO + 1; omega
          exact ⟨by omega, by rw [q10 _ this]; exact b2, x, b3, by rw [q9 r (by omega) b1]; exact b4, b5⟩
      have hQ1 : QRf (sdV U1) c0 c q pO pA := hQ.cg (agS.c (fun k k1 k2 => q9 k (by omega) k2))
      have hnn1 : nnR U1 c0 c' := nnR.app (hnn.cg (fun k k1 k2 => q9 k (by omega) k2)) q11.2
      obtain ⟨⟨UA, a1, a2, a3, a4, a5, a6⟩, ⟨UB, b1, b2, b3, b4, b5, b6⟩⟩ := lands_R (fu := fu) (s0 := c0) hfu q4 (by omega) (by omega) hl1
      have hh := here_R (fu := fu) q4.1 (by omega) q4.2.1
      obtain ⟨M, rfl⟩ : ∃ M', M = M' + 1 := ⟨M - 1, by omega⟩
      obtain ⟨hb5, hb6⟩ : (∀ r, pO = some r → c0 ≤ r ∧ r < c) ∧ (∀ r, pA = some r → c0 ≤ r ∧ r < c) := ⟨hQ.2.2.2.2.1, hQ.2.2.2.2.2.1⟩
      have hnot41 : ∀ (h41 : hN T n a ≠ 41), RAn fu N1 (M + 1) U1 = F_X12_readsCondition_152 (Lp_X12_readsCondition_40 (F_X12_readsCondition_81 fu) (F_X12_readsCondition_90 fu) (F_X12_readsCondition_143 fu) (F_X12_readsCondition_170 fu) fu N1) (F_X12_readsCondition_81 fu) (F_X12_readsCondition_90 fu) (F_X12_readsCondition_143 fu) (F_X12_readsCondition_170 fu) fu U1 := fun h41 => by
        rw [RAn, Lp_X12_readsCondition_92, F_X12_readsCondition_92, hh, bd_some, if_neg (show ¬ hI (hN T n a) = 41 by rw [hI_41 hle]; exact h41)]
      simp only []
      by_cases hA : hN T n a = 38
      · rw [if_pos hA]
        have han : a < n := (hN_lt hR.1.1).mp (by omega)
        obtain ⟨s1, s2, s3, s4, s5, s6, s7⟩ := jumps_R (fu := fu) (op := 11) a3 (by omega) (by omega) (by omega)
        have hhA := here_R (fu := fu) a3.1 (by omega) a3.2.1
        have hun : RCn fu N U = RCn fu N1 (jmV UA a c' (w + cO pO) 11) := by
          rw [q1, hnot41 (by omega), F_X12_readsCondition_152, hh, bd_some, if_pos (show hI (hN T n a) = 38 by rw [hI_38 hle]; exact hA), F_X12_readsCondition_180, hh, bd_some, if_neg (show ¬ hI (hN T n a) = 124 by rw [hI_124 hle]; omega), F_X12_readsCondition_195, a1, bd_some, hhA, bd_some, if_pos (show hI (hN T n a) = 38 by rw [hI_38 hle]; exact hA), F_X12_readsCondition_215, show f_X12_jumps fu UA 11 = _ from s1, bd_some]
          rfl
        rw [hun]
        have hF : Fr rfw U (jmV UA a c' (w + cO pO) 11) := (q3.trans (Fr.weak a2 (by decide))).trans s3
        have hWa : agW U (jmV UA a c' (w + cO pO) 11) (w + cO pO) := fun i hi => by rw [s5 i hi, a2 2252 (by decide), q10 i (by omega)]
        have hagc : agC (sdV UA) (sdV (jmV UA a c' (w + cO pO) 11)) 0 c' := agS.c s6
        have hlnd : lnd (sdV U1) (sdV (jmV UA a c' (w + cO pO) 11)) c0 c' pO pA false := by
          obtain ⟨l1, l2, l3⟩ := a4
          refine ⟨fun k k1 k2 k3 k4 => ?_, fun z => (by cases z), fun r hr' => ?_⟩
          · rw [hagc k (by omega) k2]; exact l1 k k1 k2 k3 k4
          · have := hb6 r hr'
            rw [hagc r (by omega) (by omega)]; exact l3 r hr'
        have hw11 : sdV (jmV UA a c' (w + cO pO) 11) c' = 1048576 * 11 := by unfold sdV; rw [s7, nI_clamp (by omega)]
        have hQ2 : QRf (sdV (jmV UA a c' (w + cO pO) 11)) c0 (c' + 1) (qAnd q d) pO (some c') := QRf.and hQ1 qB q11.1 (by omega) hdj hlnd (by rw [hw11])
        have hnn2 : nnR (jmV UA a c' (w + cO pO) 11) c0 (c' + 1) := nnR.app (e := c') (fun k k1 k2 => by
          rw [s6 k (by omega) k2]
          rcases a6 k with z | z
          · rw [← z]; exact hnn1 k k1 k2
          · exact z) (fun k k1 k2 => by
          have : k = c' := by omega
          subst this; rw [s7]; exact nI_pos (by omega))
        obtain ⟨i1, i2⟩ := ih (a + 1) (c' + 1) c0 p0 w N1 (qAnd q d) pO (some c') (jmV UA a c' (w + cO pO) 11) (by omega) (by omega) s2 (hwn.cg (fun i hi => hWa i (by omega))) ⟨hw1, ⟨1048576 * 13, by omega, by rw [hWa _ (by omega)]; exact h13, by omega⟩, fun r e => by
            obtain ⟨g1, g2, x, g3, g4, g5⟩ := hl1.2.2.1 r e
            have hrA : some r ≠ pA := fun z => by
              rcases hdj with y | y
              · rw [y] at e; cases e
              · exact y (e.trans z)
            have : w < w + cO pO := by rw [e]; show w < w + 1; omega
            exact ⟨by omega, by rw [s5 w this, a2 2252 (by decide)]; exact g2, x, g3, by rw [s6 r (by omega) g1, a5 r hrA]; exact g4, g5⟩, fun r e => by
            have : c' = r := Option.some.inj e
            subst this
            exact ⟨by omega, s4, 1048576 * 11, by omega, s7, by omega⟩, by
            cases pO with
            | none => exact .inl rfl
            | some r => exact .inr (fun z => by have := (hb5 r rfl).2; have := Option.some.inj z; omega)⟩ (by rw [hWa _ (by omega)]; exact h13) (by omega) (by omega) (by omega) hcp (by omega) (by show w + cO pO + 1 ≤ a + 1; omega) hQ2 hnn2
        refine ⟨fun f hf => ?_, fun a' d' hf => ?_⟩
        · obtain ⟨U', z1, z2, z3⟩ := i1 f hf
          exact ⟨U', z1, hF.trans z2, z3⟩
        · obtain ⟨U', c2, w', N2, M2, z1, z2, z3, z4, z5, z6, z7, z8, z9, U2, y1, y2, y3, y4, y5, y6, y7, y8, y9⟩ := i2 a' d' hf
          refine ⟨U', c2, w', N2, M2, z1, z2, z3, hF.trans z4, z5, z6, z7, by omega, z9, U2, y1, hF.trans y2, y3, fun k k1 k2 => ?_, fun i hi => by rw [y5 i hi]; exact hWa i (by omega), y6, y7, y8, y9⟩
          have nk : some k ≠ pA := fun z => by have := (hb6 k z.symm).1; omega
          rw [y4 k k1 k2, s6 k k1 (by omega), a5 k nk]; exact q9 k k1 (by omega)
      · rw [if_neg hA]
        by_cases hB : hN T n a = 124
        · rw [if_pos hB]
          have han : a < n := (hN_lt hR.1.1).mp (by omega)
          obtain ⟨s1, s2, s3, s4, s5, s6, s7⟩ := jumps_R (fu := fu) (op := 12) b3 (by omega) (by omega) (by omega)
          have hhB := here_R (fu := fu) b3.1 (by omega) b3.2.1
          have hun : RCn fu N U = RCn fu N1 (jmV UB a c' w 12) := by
            rw [q1, hnot41 (by omega), F_X12_readsCondition_152, hh, bd_some, if_neg (show ¬ hI (hN T n a) = 38 by rw [hI_38 hle]; exact hA), hh, bd_some, if_pos (show hI (hN T n a) = 124 by rw [hI_124 hle]; exact hB), F_X12_readsCondition_180, hh, bd_some, if_pos (show hI (hN T n a) = 124 by rw [hI_124 hle]; exact hB), F_X12_readsCondition_195, b1, bd_some, hhB, bd_some, if_neg (show ¬ hI (hN T n a) = 38 by rw [hI_38 hle]; exact hA), F_X12_readsCondition_215, show f_X12_jumps fu UB 12 = _ from s1, bd_some]
            rfl
          rw [hun]
          have hF : Fr rfw U (jmV UB a c' w 12) := (q3.trans (Fr.weak b2 (by decide))).trans s3
          have hWa : agW U (jmV UB a c' w 12) w := fun i hi => by rw [s5 i hi, b2 2252 (by decide), q10 i (by omega)]
          have hagc : agC (sdV UB) (sdV (jmV UB a c' w 12)) 0 c' := agS.c s6
          have hlnd : lnd (sdV U1) (sdV (jmV UB a c' w 12)) c0 c' pO pA true := by
            obtain ⟨l1, l2, l3⟩ := b4
            refine ⟨fun k k1 k2 k3 k4 => ?_, fun _ r hr' => ?_, fun r hr' => ?_⟩
            · rw [hagc k (by omega) k2]; exact l1 k k1 k2 k3 k4
            · have := hb5 r hr'
              rw [hagc r (by omega) (by omega)]; exact l2 rfl r hr'
            · have := hb6 r hr'
              rw [hagc r (by omega) (by omega)]; exact l3 r hr'
          have hw12 : sdV (jmV UB a c' w 12) c' = 1048576 * 12 := by unfold sdV; rw [s7, nI_clamp (by omega)]
          have hQ2 : QRf (sdV (jmV UB a c' w 12)) c0 (c' + 1) (qOr q d) (some c') none := QRf.or hQ1 qB q11.1 (by omega) hlnd (by rw [hw12])
          have hnn2 : nnR (jmV UB a c' w 12) c0 (c' + 1) := nnR.app (e := c') (fun k k1 k2 => by
            rw [s6 k (by omega) k2]
            rcases b6 k with z | z
            · rw [← z]; exact hnn1 k k1 k2
            · exact z) (fun k k1 k2 => by
            have : k = c' := by omega
            subst this; rw [s7]; exact nI_pos (by omega))
          obtain ⟨i1, i2⟩ := ih (a + 1) (c' + 1) c0 p0 w N1 (qOr q d) (some c') none (jmV UB a c' w 12) (by omega) (by omega) s2 (hwn.cg hWa) ⟨hw1, ⟨1048576 * 13, by omega, by rw [hWa _ (by omega)]; exact h13, by omega⟩, fun r e => by
              have : c' = r := Option.some.inj e
              subst this
              exact ⟨by omega, s4, 1048576 * 12, by omega, s7, by omega⟩, fun r e => (by cases e), .inr (fun z => (by cases z))⟩ (by rw [hWa _ (by omega)]; exact h13) (by omega) (by omega) (by omega) hcp (by omega) (by show w + 1 + 0 ≤ a + 1; omega) hQ2 hnn2
          refine ⟨fun f hf => ?_, fun a' d' hf => ?_⟩
          · obtain ⟨U', z1, z2, z3⟩ := i1 f hf
            exact ⟨U', z1, hF.trans z2, z3⟩
          · obtain ⟨U', c2, w', N2, M2, z1, z2, z3, z4, z5, z6, z7, z8, z9, U2, y1, y2, y3, y4, y5, y6, y7, y8, y9⟩ := i2 a' d' hf
            refine ⟨U', c2, w', N2, M2, z1, z2, z3, hF.trans z4, z5, z6, z7, by omega, z9, U2, y1, hF.trans y2, y3, fun k k1 k2 => ?_, fun i hi => by rw [y5 i hi]; exact hWa i hi, y6, y7, y8, y9⟩
            have nk : some k ≠ pA := fun z => by have := (hb6 k z.symm).1; omega
            have nk2 : some k ≠ pO := fun z => by have := (hb5 k z.symm).1; omega
            rw [y4 k k1 k2, s6 k k1 (by omega), b5 k nk nk2]; exact q9 k k1 (by omega)
        · rw [if_neg hB]
          refine ⟨fun f hf => (by cases hf), fun a' d' hf => ?_⟩
          obtain ⟨rfl, rfl⟩ := inr2 hf
          refine ⟨U1, c', _, N1, M + 1, q1, qN, qM, q3, q4, hA, hB, q5, q6, UB, b1, q3.trans (Fr.weak b2 (by decide)), b3, fun k k1 k2 => ?_, fun i hi => by rw [b2 2252 (by decide), q10 i (by omega)], by omega, by omega, ⟨QRf.fin hQ1 q11.1 (by omega) b4, fun k k1 k2 => ?_⟩, isB_end qB⟩
          · have nk : some k ≠ pA := fun z => by have := (hb6 k z.symm).1; omega
            have nk2 : some k ≠ pO := fun z => by have := (hb5 k z.symm).1; omega
            rw [b5 k nk nk2]; exact q9 k k1 (by omega)
          · rcases b6 k with z | z
            · rw [← z]; exact hnn1 k k1 k2
            · exact z
