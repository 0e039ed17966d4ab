/-! the class's sums and conditions -/
theorem hop_D {j : Nat} (h : j = 42 ∨ j = 47 ∨ j = 37) : isOp j := by unfold isOp; omega
theorem hop_E {j : Nat} (h : j = 43 ∨ j = 45) : isOp j := by unfold isOp; omega
theorem sum_C {fu n m o : Nat} {T : Nat → Int32} {rc : Nat → PR} (hfu : 1000 ≤ fu) (hrc : okR fu n T (g_rd fu m 3) rc 3 o) : ∀ (j N i p s s0 p0 : Nat) (S P : Option (Nat × Den)) (V : St), n - p < j → n - p < N → i ≤ p → p ≤ n → p0 ≤ p → s0 ≤ s → s0 ≤ p0 → s + cn S + cn P + p0 ≤ s0 + p → TxC V T n → V 1910 0 0 = nI p → V 1907 0 0 = nI s → okSg S → okSg P → CF V s0 s (pl P ++ pl S) → (∀ f, sumL (hN T n) rc j p S P = .inl f → ∃ V', Lp_X9_readSum_7 (g_rd fu m 3) (F_X9_readSum_24 (g_rd fu m 3) fu) (F_X9_readSum_82 (g_rd fu m 3) fu) (F_X9_readSum_103 (g_rd fu m 3) fu) fu N V (nI o) (sgI S) (sgI P) (nI i) = some (0, V') ∧ Fr rdw V V' ∧ V' 1911 0 0 = f) ∧ (∀ a d, sumL (hN T n) rc j p S P = .inr (a, d) → ∃ V' e, Lp_X9_readSum_7 (g_rd fu m 3) (F_X9_readSum_24 (g_rd fu m 3) fu) (F_X9_readSum_82 (g_rd fu m 3) fu) (F_X9_readSum_103 (g_rd fu m 3) fu) fu N V (nI o) (sgI S) (sgI P) (nI i) = some (1, V') ∧ Fr rdw V V' ∧ V' 1910 0 0 = nI a ∧ V' 1907 0 0 = nI e ∧ p < a ∧ a ≤ n ∧ s < e ∧ e + p0 ≤ s0 + a ∧ agV V V' 0 s ∧ CF V' s0 e [d]) := by
  intro j
  induction j with
  | zero => intro N i p s s0 p0 S P V h; omega
  | succ j ih =>
    intro N i p s s0 p0 S P V hj hN' hip hp hp0 hs0 hsp hacc ht e1 e7 hS hP hC
    obtain ⟨N, rfl⟩ : ∃ N', N = N' + 1 := ⟨N - 1, by omega⟩
    have hn := ht.1.1
    have hend : ¬ nI n < nI i := nI_nlt (by omega) (by omega)
    obtain ⟨r1, r2⟩ := hrc V p s ht e1 e7 (by omega) hp
    rw [sumL]
    cases hr : rc p with
    | inl f0 =>
      obtain ⟨V', q1, q2, q3⟩ := r1 f0 hr
      refine ⟨fun f hf => ⟨V', ?_, q2, by rw [q3]; exact Sum.inl.inj hf⟩, fun a d hf => (by cases hf)⟩
      rw [Lp_X9_readSum_7, F_X9_readSum_7, ht.2.2.1, if_neg hend, q1, bd_some, if_pos rfl, F_X9_readSum_24]
    | inr w =>
      obtain ⟨a, d⟩ := w
      obtain ⟨V1, e', q1, q2, q3, q4, q5, q6, q7, q8, q9, q10⟩ := r2 a d hr
      have q10 : CF V1 s e' [d] := q10
      have hC1 : CF V1 s0 e' (d :: (pl P ++ pl S)) := (hC.cg (fun k k1 k2 => q9 k (by omega) k2)).app q10
      obtain ⟨V2, b1, b2, b3, b4, b5⟩ := emitP (fu := fu) (K := fun V => F_X9_readSum_39 (g_rd fu m 3) (Lp_X9_readSum_7 (g_rd fu m 3) (F_X9_readSum_24 (g_rd fu m 3) fu) (F_X9_readSum_82 (g_rd fu m 3) fu) (F_X9_readSum_103 (g_rd fu m 3) fu) fu N) (F_X9_readSum_24 (g_rd fu m 3) fu) (F_X9_readSum_82 (g_rd fu m 3) fu) (F_X9_readSum_103 (g_rd fu m 3) fu) fu V (nI o) (sgI S) 0 (nI i)) hP (by omega) (by omega) q4 hC1
      have hun : Lp_X9_readSum_7 (g_rd fu m 3) (F_X9_readSum_24 (g_rd fu m 3) fu) (F_X9_readSum_82 (g_rd fu m 3) fu) (F_X9_readSum_103 (g_rd fu m 3) fu) fu (N + 1) V (nI o) (sgI S) (sgI P) (nI i) = F_X9_readSum_39 (g_rd fu m 3) (Lp_X9_readSum_7 (g_rd fu m 3) (F_X9_readSum_24 (g_rd fu m 3) fu) (F_X9_readSum_82 (g_rd fu m 3) fu) (F_X9_readSum_103 (g_rd fu m 3) fu) fu N) (F_X9_readSum_24 (g_rd fu m 3) fu) (F_X9_readSum_82 (g_rd fu m 3) fu) (F_X9_readSum_103 (g_rd fu m 3) fu) fu V2 (nI o) (sgI S) 0 (nI i) := by
        rw [← b1, Lp_X9_readSum_7, F_X9_readSum_7, ht.2.2.1, if_neg hend, q1, bd_some, if_neg (by decide)]
        by_cases z : sgI P = 0
        · rw [if_pos z, if_pos z, z]
        · rw [if_neg z, if_neg z]
      have hF2 : Fr rdw V V2 := q2.trans (Fr.weak b2 (by decide))
      have ht2 := ht.fr hF2 (by decide)
      have e12 : V2 1910 0 0 = nI a := by rw [b2 1910 (by decide)]; exact q3
      have hh := here_C (fu := fu) ht2 (by omega) e12
      have hle := hN_le (p := a) ht.1
      have hag2 : agV V V2 0 s := fun k k1 k2 => by rw [b4 k k1 (by omega)]; exact q9 k k1 k2
      rw [hun]
      have hun2 : F_X9_readSum_39 (g_rd fu m 3) (Lp_X9_readSum_7 (g_rd fu m 3) (F_X9_readSum_24 (g_rd fu m 3) fu) (F_X9_readSum_82 (g_rd fu m 3) fu) (F_X9_readSum_103 (g_rd fu m 3) fu) fu N) (F_X9_readSum_24 (g_rd fu m 3) fu) (F_X9_readSum_82 (g_rd fu m 3) fu) (F_X9_readSum_103 (g_rd fu m 3) fu) fu V2 (nI o) (sgI S) 0 (nI i) = if (if hN T n a = 42 ∨ hN T n a = 47 ∨ hN T n a = 37 then (1 : Int32) else 0) = 0 then (if sgI S = 0 then F_X9_readSum_72 (g_rd fu m 3) (Lp_X9_readSum_7 (g_rd fu m 3) (F_X9_readSum_24 (g_rd fu m 3) fu) (F_X9_readSum_82 (g_rd fu m 3) fu) (F_X9_readSum_103 (g_rd fu m 3) fu) fu N) (F_X9_readSum_24 (g_rd fu m 3) fu) (F_X9_readSum_82 (g_rd fu m 3) fu) (F_X9_readSum_103 (g_rd fu m 3) fu) fu V2 (nI o) 0 (nI i) (hI (hN T n a)) else bd (f_X9_emit fu V2 (sgI S) 0) fun _ V10 => F_X9_readSum_72 (g_rd fu m 3) (Lp_X9_readSum_7 (g_rd fu m 3) (F_X9_readSum_24 (g_rd fu m 3) fu) (F_X9_readSum_82 (g_rd fu m 3) fu) (F_X9_readSum_103 (g_rd fu m 3) fu) fu N) (F_X9_readSum_24 (g_rd fu m 3) fu) (F_X9_readSum_82 (g_rd fu m 3) fu) (F_X9_readSum_103 (g_rd fu m 3) fu) fu V10 (nI o) 0 (nI i) (hI (hN T n a))) else F_X9_readSum_87 (g_rd fu m 3) (Lp_X9_readSum_7 (g_rd fu m 3) (F_X9_readSum_24 (g_rd fu m 3) fu) (F_X9_readSum_82 (g_rd fu m 3) fu) (F_X9_readSum_103 (g_rd fu m 3) fu) fu N) (F_X9_readSum_24 (g_rd fu m 3) fu) (F_X9_readSum_82 (g_rd fu m 3) fu) (F_X9_readSum_103 (g_rd fu m 3) fu) fu V2 (nI o) (sgI S) (hI (hN T n a)) (nI i) := by
        rw [F_X9_readSum_39, hh, bd_some, io_eq (by decide) (ioD (hN T n a) (by omega)), bd_some]
      rw [hun2]
      simp only []
      by_cases hD : hN T n a = 42 ∨ hN T n a = 47 ∨ hN T n a = 37
      · rw [if_neg (show ¬ (if hN T n a = 42 ∨ hN T n a = 47 ∨ hN T n a = 37 then (1 : Int32) else 0) = 0 by rw [if_pos hD]; decide), if_pos hD]
        have han : a < n := (hN_lt ht.1).mp (by omega)
        have hF3 : Fr rdw V (setV V2 1910 0 0 (nI (a + 1))) := hF2.set (by decide)
        have hhi : hI (hN T n a) = nI (hN T n a) := by unfold hI; rw [if_pos (by omega)]
        obtain ⟨i1, i2⟩ := ih N (i + 1) (a + 1) (e' + cn P) s0 p0 S (some (hN T n a, cmb P d)) (setV V2 1910 0 0 (nI (a + 1))) (by omega) (by omega) (by omega) (by omega) (by omega) (by omega) hsp (by show e' + cn P + cn S + 1 + p0 ≤ s0 + (a + 1); omega) (ht.fr hF3 (by decide)) (by rw [setV_at, if_pos ⟨rfl, rfl⟩]) (by rw [setV_fn (by decide)]; exact b3) hS (fun sg d' z => by
          have := Option.some.inj z
          simp only [Prod.mk.injEq] at this
          rw [← this.1]; exact hop_D hD) (b5.cg (fun k _ _ => by rw [setV_fn (by decide)]))
        have hun3 : F_X9_readSum_87 (g_rd fu m 3) (Lp_X9_readSum_7 (g_rd fu m 3) (F_X9_readSum_24 (g_rd fu m 3) fu) (F_X9_readSum_82 (g_rd fu m 3) fu) (F_X9_readSum_103 (g_rd fu m 3) fu) fu N) (F_X9_readSum_24 (g_rd fu m 3) fu) (F_X9_readSum_82 (g_rd fu m 3) fu) (F_X9_readSum_103 (g_rd fu m 3) fu) fu V2 (nI o) (sgI S) (hI (hN T n a)) (nI i) = Lp_X9_readSum_7 (g_rd fu m 3) (F_X9_readSum_24 (g_rd fu m 3) fu) (F_X9_readSum_82 (g_rd fu m 3) fu) (F_X9_readSum_103 (g_rd fu m 3) fu) fu N (setV V2 1910 0 0 (nI (a + 1))) (nI o) (sgI S) (sgI (some (hN T n a, cmb P d))) (nI (i + 1)) := by
          rw [F_X9_readSum_87, e12, nI_1, nI_1, bv_eq, hhi]; rfl
        rw [hun3]
        refine ⟨fun f hf => ?_, fun a' d' hf => ?_⟩
        · obtain ⟨V', z1, z2, z3⟩ := i1 f hf
          exact ⟨V', z1, hF3.trans z2, z3⟩
        · obtain ⟨V', e'', z1, z2, z3, z4, z5, z6, z7, z8, z9, z10⟩ := i2 a' d' hf
          refine ⟨V', e'', z1, hF3.trans z2, z3, z4, by omega, z6, by omega, z8, fun k k1 k2 => ?_, z10⟩
          rw [z9 k k1 (by omega), setV_fn (by decide)]; exact hag2 k k1 k2
      · rw [if_pos (show (if hN T n a = 42 ∨ hN T n a = 47 ∨ hN T n a = 37 then (1 : Int32) else 0) = 0 by rw [if_neg hD]), if_neg hD]
        obtain ⟨V3, c1, c2, c3, c4, c5⟩ := emitP (fu := fu) (K := fun V => F_X9_readSum_72 (g_rd fu m 3) (Lp_X9_readSum_7 (g_rd fu m 3) (F_X9_readSum_24 (g_rd fu m 3) fu) (F_X9_readSum_82 (g_rd fu m 3) fu) (F_X9_readSum_103 (g_rd fu m 3) fu) fu N) (F_X9_readSum_24 (g_rd fu m 3) fu) (F_X9_readSum_82 (g_rd fu m 3) fu) (F_X9_readSum_103 (g_rd fu m 3) fu) fu V (nI o) 0 (nI i) (hI (hN T n a))) (rest := []) hS (show s0 ≤ e' + cn P by omega) (by omega) b3 (by rw [List.append_nil]; exact b5)
        rw [c1]
        have hF3 : Fr rdw V V3 := hF2.trans (Fr.weak c2 (by decide))
        have ht3 := ht.fr hF3 (by decide)
        have e13 : V3 1910 0 0 = nI a := by rw [c2 1910 (by decide)]; exact e12
        have hag3 : agV V V3 0 s := fun k k1 k2 => by rw [c4 k k1 (by omega)]; exact hag2 k k1 k2
        have hio := io_eq (fu := fu) (V := V3) (k := 4) (by decide) (ioE (hN T n a) (by omega))
        rw [F_X9_readSum_72, hio, bd_some]
        by_cases hE : hN T n a = 43 ∨ hN T n a = 45
        · rw [if_neg (show ¬ (if hN T n a = 43 ∨ hN T n a = 45 then (1 : Int32) else 0) = 0 by rw [if_pos hE]; decide), if_pos hE]
          have han : a < n := (hN_lt ht.1).mp (by omega)
          have hF4 : Fr rdw V (setV V3 1910 0 0 (nI (a + 1))) := hF3.set (by decide)
          have hhi : hI (hN T n a) = nI (hN T n a) := by unfold hI; rw [if_pos (by omega)]
          obtain ⟨i1, i2⟩ := ih N (i + 1) (a + 1) (e' + cn P + cn S) s0 p0 (some (hN T n a, cmb S (cmb P d))) none (setV V3 1910 0 0 (nI (a + 1))) (by omega) (by omega) (by omega) (by omega) (by omega) (by omega) hsp (by show e' + cn P + cn S + 1 + 0 + p0 ≤ s0 + (a + 1); omega) (ht.fr hF4 (by decide)) (by rw [setV_at, if_pos ⟨rfl, rfl⟩]) (by rw [setV_fn (by decide)]; exact c3) (fun sg d' z => by
            have := Option.some.inj z
            simp only [Prod.mk.injEq] at this
            rw [← this.1]; exact hop_E hE) (fun sg d' z => (by cases z)) (c5.cg (fun k _ _ => by rw [setV_fn (by decide)]))
          have hun3 : F_X9_readSum_87 (g_rd fu m 3) (Lp_X9_readSum_7 (g_rd fu m 3) (F_X9_readSum_24 (g_rd fu m 3) fu) (F_X9_readSum_82 (g_rd fu m 3) fu) (F_X9_readSum_103 (g_rd fu m 3) fu) fu N) (F_X9_readSum_24 (g_rd fu m 3) fu) (F_X9_readSum_82 (g_rd fu m 3) fu) (F_X9_readSum_103 (g_rd fu m 3) fu) fu V3 (nI o) (hI (hN T n a)) 0 (nI i) = Lp_X9_readSum_7 (g_rd fu m 3) (F_X9_readSum_24 (g_rd fu m 3) fu) (F_X9_readSum_82 (g_rd fu m 3) fu) (F_X9_readSum_103 (g_rd fu m 3) fu) fu N (setV V3 1910 0 0 (nI (a + 1))) (nI o) (sgI (some (hN T n a, cmb S (cmb P d)))) (sgI none) (nI (i + 1)) := by
            rw [F_X9_readSum_87, e13, nI_1, nI_1, bv_eq, hhi]; rfl
          rw [hun3]
          refine ⟨fun f hf => ?_, fun a' d' hf => ?_⟩
          · obtain ⟨V', z1, z2, z3⟩ := i1 f hf
            exact ⟨V', z1, hF4.trans z2, z3⟩
          · obtain ⟨V', e'', z1, z2, z3, z4, z5, z6, z7, z8, z9, z10⟩ := i2 a' d' hf
            refine ⟨V', e'', z1, hF4.trans z2, z3, z4, by omega, z6, by omega, z8, fun k k1 k2 => ?_, z10⟩
            rw [z9 k k1 (by omega), setV_fn (by decide)]; exact hag3 k k1 k2
        · rw [if_pos (show (if hN T n a = 43 ∨ hN T n a = 45 then (1 : Int32) else 0) = 0 by rw [if_neg hE]), if_neg hE]
          refine ⟨fun f hf => (by cases hf), fun a' d' hf => ?_⟩
          have := Sum.inr.inj hf
          simp only [Prod.mk.injEq] at this
          obtain ⟨rfl, rfl⟩ := this
          exact ⟨V3, _, by rw [F_X9_readSum_82], hF3, e13, c3, q5, q6, by omega, by omega, hag3, c5⟩
theorem cnd_C {fu n m o : Nat} {T : Nat → Int32} {rc : Nat → PR} (hfu : 1000 ≤ fu) (hrc : okR fu n T (g_rd fu m 1) rc 1 o) : ∀ (j N i p s s0 p0 pt : Nat) (q : Qd) (V : St), n - p < j → n - p < N → i ≤ p → p ≤ n → p0 ≤ p → s0 ≤ pt → pt ≤ s → s0 ≤ p0 → s + p0 ≤ s0 + p → TxC V T n → V 1910 0 0 = nI p → V 1907 0 0 = nI s → QC (kwV V) s0 s q → nnC V s0 s → (∀ k, s0 ≤ k → k < pt → kwV V k ≠ 38) → (∀ f, cndL (hN T n) rc j p q = .inl f → ∃ V', Lp_X9_readCondition_13 (g_rd fu m 1) (F_X9_readCondition_30 (g_rd fu m 1) fu) (F_X9_readCondition_70 (g_rd fu m 1) fu) (F_X9_readCondition_108 (g_rd fu m 1) fu) fu N V (nI o) (nI s0) (nI pt) (nI i) = some (0, V') ∧ Fr rdw V V' ∧ V' 1911 0 0 = f) ∧ (∀ a d, cndL (hN T n) rc j p q = .inr (a, d) → ∃ V' e, Lp_X9_readCondition_13 (g_rd fu m 1) (F_X9_readCondition_30 (g_rd fu m 1) fu) (F_X9_readCondition_70 (g_rd fu m 1) fu) (F_X9_readCondition_108 (g_rd fu m 1) fu) fu N V (nI o) (nI s0) (nI pt) (nI i) = some (1, V') ∧ Fr rdw V V' ∧ V' 1910 0 0 = nI a ∧ V' 1907 0 0 = nI e ∧ p < a ∧ a ≤ n ∧ s < e ∧ e + p0 ≤ s0 + a ∧ agV V V' 0 s0 ∧ CG V' s0 e d) := by
  intro j
  induction j with
  | zero => intro N i p s s0 p0 pt q V h; omega
  | succ j ih =>
    intro N i p s s0 p0 pt q V hj hN' hip hp hp0 hs0 hpt hsp hacc ht e1 e7 hQ hnn hpc
    obtain ⟨N, rfl⟩ : ∃ N', N = N' + 1 := ⟨N - 1, by omega⟩
    have hn := ht.1.1
    have hend : ¬ nI n < nI i := nI_nlt (by omega) (by omega)
    obtain ⟨r1, r2⟩ := hrc V p s ht e1 e7 (by omega) hp
    rw [cndL]
    cases hr : rc p with
    | inl f0 =>
      obtain ⟨V', q1, q2, q3⟩ := r1 f0 hr
      refine ⟨fun f hf => ⟨V', ?_, q2, by rw [q3]; exact Sum.inl.inj hf⟩, fun a d hf => (by cases hf)⟩
      rw [Lp_X9_readCondition_13, F_X9_readCondition_13, ht.2.2.1, if_neg hend, q1, bd_some, if_pos rfl, F_X9_readCondition_30]
    | inr w =>
      obtain ⟨a, d⟩ := w
      obtain ⟨V1, e', q1, q2, q3, q4, q5, q6, q7, q8, q9, q10⟩ := r2 a d hr
      have q10 : CG V1 s e' d := q10
      obtain ⟨gg, gcl, gnn⟩ := q10
      have hQ1 : QC (kwV V1) s0 s q := hQ.cg (agV.c (fun k k1 k2 => q9 k (by omega) k2))
      have hnn1 : nnC V1 s0 e' := nnC.app (hnn.cg (fun k k1 k2 => q9 k (by omega) k2)) gnn
      have hpc1 : ∀ k, s0 ≤ k → k < pt → kwV V1 k ≠ 38 := fun k k1 k2 => by
        unfold kwV; rw [q9 k (by omega) (by omega)]; exact hpc k k1 k2
      have ht1 := ht.fr q2 (by decide)
      have hh := here_C (fu := fu) ht1 (by omega) q3
      have hle := hN_le (p := a) ht.1
      have hun : Lp_X9_readCondition_13 (g_rd fu m 1) (F_X9_readCondition_30 (g_rd fu m 1) fu) (F_X9_readCondition_70 (g_rd fu m 1) fu) (F_X9_readCondition_108 (g_rd fu m 1) fu) fu (N + 1) V (nI o) (nI s0) (nI pt) (nI i) = if hI (hN T n a) = 38 then (bd (f_X9_emit fu V1 (nI 38) (nI 0)) fun r13 V14 => F_X9_readCondition_92 (g_rd fu m 1) (Lp_X9_readCondition_13 (g_rd fu m 1) (F_X9_readCondition_30 (g_rd fu m 1) fu) (F_X9_readCondition_70 (g_rd fu m 1) fu) (F_X9_readCondition_108 (g_rd fu m 1) fu) fu N) (F_X9_readCondition_30 (g_rd fu m 1) fu) (F_X9_readCondition_70 (g_rd fu m 1) fu) (F_X9_readCondition_108 (g_rd fu m 1) fu) fu V14 (nI o) (nI s0) (nI pt) (nI i)) else (bd (Lp_X9_leadHere_2 (F_X9_leadHere_41 fu) fu fu V1 (nI 38) (nI pt)) fun r10 V11 => if hI (hN T n a) = 124 then (bd (f_X9_emit fu V11 (nI 124) (nI 0)) fun r14 V15 => F_X9_readCondition_92 (g_rd fu m 1) (Lp_X9_readCondition_13 (g_rd fu m 1) (F_X9_readCondition_30 (g_rd fu m 1) fu) (F_X9_readCondition_70 (g_rd fu m 1) fu) (F_X9_readCondition_108 (g_rd fu m 1) fu) fu N) (F_X9_readCondition_30 (g_rd fu m 1) fu) (F_X9_readCondition_70 (g_rd fu m 1) fu) (F_X9_readCondition_108 (g_rd fu m 1) fu) fu V15 (nI o) (nI s0) ((V15 1907 0 0)) (nI i)) else (F_X9_readCondition_70 (g_rd fu m 1) fu V11 (nI s0))) := by
        rw [Lp_X9_readCondition_13, F_X9_readCondition_13, ht.2.2.1, if_neg hend, q1, bd_some, if_neg (by decide), hh, bd_some]
        rfl
      rw [hun]
      simp only []
      by_cases hA : hN T n a = 38
      · rw [if_pos (show hI (hN T n a) = 38 by rw [hI_38 hle]; exact hA), if_pos hA]
        have han : a < n := (hN_lt ht.1).mp (by omega)
        have he := emit_C (fu := fu) (V := V1) (s := e') (sg := 38) (num := 0) (by omega) (by omega) (by omega) q4
        rw [he, bd_some]
        have hF2 : Fr rdw V (setV (emV V1 e' 38) 1910 0 0 (nI (a + 1))) := (q2.trans (Fr.weak (emV_fr V1 e' 38) (by decide))).set (by decide)
        have hag : agV V1 (setV (emV V1 e' 38) 1910 0 0 (nI (a + 1))) 0 e' := fun k _ k2 => by rw [setV_fn (by decide), emV_old (by omega)]
        have hcw : kwV (setV (emV V1 e' 38) 1910 0 0 (nI (a + 1))) e' = 38 := by unfold kwV; rw [setV_fn (by decide), emV_new]; rfl
        have e10 : emV V1 e' 38 1910 0 0 = nI a := by rw [emV_fr V1 e' 38 1910 (by decide)]; exact q3
        have hun3 : F_X9_readCondition_92 (g_rd fu m 1) (Lp_X9_readCondition_13 (g_rd fu m 1) (F_X9_readCondition_30 (g_rd fu m 1) fu) (F_X9_readCondition_70 (g_rd fu m 1) fu) (F_X9_readCondition_108 (g_rd fu m 1) fu) fu N) (F_X9_readCondition_30 (g_rd fu m 1) fu) (F_X9_readCondition_70 (g_rd fu m 1) fu) (F_X9_readCondition_108 (g_rd fu m 1) fu) fu (emV V1 e' (256 * 0 + 38)) (nI o) (nI s0) (nI pt) (nI i) = Lp_X9_readCondition_13 (g_rd fu m 1) (F_X9_readCondition_30 (g_rd fu m 1) fu) (F_X9_readCondition_70 (g_rd fu m 1) fu) (F_X9_readCondition_108 (g_rd fu m 1) fu) fu N (setV (emV V1 e' 38) 1910 0 0 (nI (a + 1))) (nI o) (nI s0) (nI pt) (nI (i + 1)) := by
          rw [show 256 * 0 + 38 = 38 from rfl, F_X9_readCondition_92, e10, nI_1, nI_1, bv_eq]
        rw [hun3]
        obtain ⟨i1, i2⟩ := ih N (i + 1) (a + 1) (e' + 1) s0 p0 pt (qAnd q d) (setV (emV V1 e' 38) 1910 0 0 (nI (a + 1))) (by omega) (by omega) (by omega) (by omega) (by omega) hs0 (by omega) hsp (by omega) (ht.fr hF2 (by decide)) (by rw [setV_at, if_pos ⟨rfl, rfl⟩]) (by rw [setV_fn (by decide)]; exact emV_sz) (QC.and (e := s) (e2 := e') (hQ1.cg (agV.c (fun k k1 k2 => hag k (by omega) (by omega)))) (gg.cg (agV.c (fun k k1 k2 => hag k (by omega) k2))) (gcl.cg (agV.c (fun k k1 k2 => hag k (by omega) k2))) hcw) (nnC.app (hnn1.cg (fun k k1 k2 => hag k (by omega) k2)) (fun k k1 k2 => by
          have : k = e' := by omega
          subst this
          rw [setV_fn (by decide), emV_new]; exact nI_pos (by omega))) (fun k k1 k2 => by unfold kwV; rw [hag k (by omega) (by omega)]; exact hpc1 k k1 k2)
        refine ⟨fun f hf => ?_, fun a' d' hf => ?_⟩
        · obtain ⟨V', z1, z2, z3⟩ := i1 f hf
          exact ⟨V', z1, hF2.trans z2, z3⟩
        · obtain ⟨V', e'', z1, z2, z3, z4, z5, z6, z7, z8, z9, z10⟩ := i2 a' d' hf
          refine ⟨V', e'', z1, hF2.trans z2, z3, z4, by omega, z6, by omega, z8, fun k k1 k2 => ?_, z10⟩
          rw [z9 k k1 k2, hag k k1 (by omega)]; exact q9 k k1 (by omega)
      · rw [if_neg (show ¬ hI (hN T n a) = 38 by rw [hI_38 hle]; exact hA), if_neg hA]
        obtain ⟨V2, l1, l2, l3⟩ := lead_C (fu := fu) (c := 38) (e := e') hfu (by omega) (by omega) (e' - pt) fu pt V1 (by omega) (by omega) q4
        rw [l1, bd_some]
        have hk38 : ∀ k, k < e' → s0 ≤ k → (V1 1905 0 k = nI 38 ↔ kwV V1 k = 38) := fun k k1 k2 => by
          unfold kwV
          have hnn' := hnn1 k k2 k1
          obtain ⟨w, w1, w2⟩ := nI_of hnn'
          rw [w2, nI_clamp w1]
          exact nI_eq (by omega) (by omega)
        have hk124 : ∀ k, k < e' → s0 ≤ k → (V1 1905 0 k = nI 124 ↔ kwV V1 k = 124) := fun k k1 k2 => by
          unfold kwV
          have hnn' := hnn1 k k2 k1
          obtain ⟨w, w1, w2⟩ := nI_of hnn'
          rw [w2, nI_clamp w1]
          exact nI_eq (by omega) (by omega)
        have hcw2 : ∀ k, s0 ≤ k → k < e' → kwV V2 k = if kwV V1 k = 38 then 256 * e' + 38 else kwV V1 k := fun k k1 k2 => by
          have h3 := l3 k
          by_cases z : kwV V1 k = 38
          · have hp' : pt ≤ k := Classical.byContradiction (fun y => hpc1 k k1 (by omega) z)
            rw [if_pos ⟨hp', k2, (hk38 k k2 k1).mpr z⟩] at h3
            rw [if_pos z]; unfold kwV; rw [h3, nI_clamp (by omega)]
          · rw [if_neg (fun y => z ((hk38 k k2 k1).mp y.2.2))] at h3
            rw [if_neg z]; unfold kwV; rw [h3]
        have hnn2 : nnC V2 s0 e' := fun k k1 k2 => by
          rw [l3 k]
          split
          · exact nI_pos (by omega)
          · exact hnn1 k k1 k2
        have e72 : V2 1907 0 0 = nI e' := by rw [l2 1907 (by decide)]; exact q4
        have hpre2 : agV V V2 0 s0 := fun k k1 k2 => by
          rw [l3 k, if_neg (by omega)]; exact q9 k k1 (by omega)
        by_cases hB : hN T n a = 124
        · rw [if_pos (show hI (hN T n a) = 124 by rw [hI_124 hle]; exact hB), if_pos hB]
          have han : a < n := (hN_lt ht.1).mp (by omega)
          have he := emit_C (fu := fu) (V := V2) (s := e') (sg := 124) (num := 0) (by omega) (by omega) (by omega) e72
          rw [he, bd_some]
          have hF2 : Fr rdw V (setV (emV V2 e' 124) 1910 0 0 (nI (a + 1))) := ((q2.trans (Fr.weak l2 (by decide))).trans (Fr.weak (emV_fr V2 e' 124) (by decide))).set (by decide)
          have hag : agV V2 (setV (emV V2 e' 124) 1910 0 0 (nI (a + 1))) 0 e' := fun k _ k2 => by rw [setV_fn (by decide), emV_old (by omega)]
          have hcw : kwV (setV (emV V2 e' 124) 1910 0 0 (nI (a + 1))) e' = 124 := by unfold kwV; rw [setV_fn (by decide), emV_new]; rfl
          have e10 : emV V2 e' 124 1910 0 0 = nI a := by rw [emV_fr V2 e' 124 1910 (by decide), l2 1910 (by decide)]; exact q3
          have hun3 : F_X9_readCondition_92 (g_rd fu m 1) (Lp_X9_readCondition_13 (g_rd fu m 1) (F_X9_readCondition_30 (g_rd fu m 1) fu) (F_X9_readCondition_70 (g_rd fu m 1) fu) (F_X9_readCondition_108 (g_rd fu m 1) fu) fu N) (F_X9_readCondition_30 (g_rd fu m 1) fu) (F_X9_readCondition_70 (g_rd fu m 1) fu) (F_X9_readCondition_108 (g_rd fu m 1) fu) fu (emV V2 e' (256 * 0 + 124)) (nI o) (nI s0) (emV V2 e' (256 * 0 + 124) 1907 0 0) (nI i) = Lp_X9_readCondition_13 (g_rd fu m 1) (F_X9_readCondition_30 (g_rd fu m 1) fu) (F_X9_readCondition_70 (g_rd fu m 1) fu) (F_X9_readCondition_108 (g_rd fu m 1) fu) fu N (setV (emV V2 e' 124) 1910 0 0 (nI (a + 1))) (nI o) (nI s0) (nI (e' + 1)) (nI (i + 1)) := by
            rw [show 256 * 0 + 124 = 124 from rfl, F_X9_readCondition_92, e10, emV_sz, nI_1, nI_1, bv_eq]
          rw [hun3]
          have hcwA : ∀ k, s0 ≤ k → k < e' → kwV (setV (emV V2 e' 124) 1910 0 0 (nI (a + 1))) k = if kwV V1 k = 38 then 256 * e' + 38 else kwV V1 k := fun k k1 k2 => by
            rw [agV.c hag k (by omega) k2]; exact hcw2 k k1 k2
          obtain ⟨i1, i2⟩ := ih N (i + 1) (a + 1) (e' + 1) s0 p0 (e' + 1) (qOr q d) (setV (emV V2 e' 124) 1910 0 0 (nI (a + 1))) (by omega) (by omega) (by omega) (by omega) (by omega) (by omega) (Nat.le_refl _) hsp (by omega) (ht.fr hF2 (by decide)) (by rw [setV_at, if_pos ⟨rfl, rfl⟩]) (by rw [setV_fn (by decide)]; exact emV_sz) (QC.or (e := s) (e2 := e') hQ1 gg gcl q7 hcwA hcw) (nnC.app (hnn2.cg (fun k k1 k2 => hag k (by omega) k2)) (fun k k1 k2 => by
            have : k = e' := by omega
            subst this
            rw [setV_fn (by decide), emV_new]; exact nI_pos (by omega))) (fun k k1 k2 => by
            by_cases y : k = e'
            · subst y; rw [hcw]; omega
            · rw [hcwA k k1 (by omega)]
              by_cases z : kwV V1 k = 38
              · rw [if_pos z]; omega
              · rw [if_neg z]; exact z)
          refine ⟨fun f hf => ?_, fun a' d' hf => ?_⟩
          · obtain ⟨V', z1, z2, z3⟩ := i1 f hf
            exact ⟨V', z1, hF2.trans z2, z3⟩
          · obtain ⟨V', e'', z1, z2, z3, z4, z5, z6, z7, z8, z9, z10⟩ := i2 a' d' hf
            refine ⟨V', e'', z1, hF2.trans z2, z3, z4, by omega, z6, by omega, z8, fun k k1 k2 => ?_, z10⟩
            rw [z9 k k1 k2, hag k k1 (by omega)]; exact hpre2 k k1 k2
        · rw [if_neg (show ¬ hI (hN T n a) = 124 by rw [hI_124 hle]; exact hB), if_neg hB]
          refine ⟨fun f hf => (by cases hf), fun a' d' hf => ?_⟩
          have := Sum.inr.inj hf
          simp only [Prod.mk.injEq] at this
          obtain ⟨rfl, rfl⟩ := this
          obtain ⟨V3, k1, k2, k3⟩ := lead_C (fu := fu) (c := 124) (e := e') hfu (by omega) (by omega) (e' - s0) fu s0 V2 (by omega) (by omega) e72
          have hcw3 : ∀ k, s0 ≤ k → k < e' → kwV V3 k = ptC (kwV V1) e' e' k := fun k h1 h2 => by
            have h3 := k3 k
            have hc2 := hcw2 k h1 h2
            unfold ptC
            have hv2 : V2 1905 0 k = nI 124 ↔ kwV V2 k = 124 := by
              unfold kwV
              obtain ⟨w, w1, w2⟩ := nI_of (hnn2 k h1 h2)
              rw [w2, nI_clamp w1]
              exact nI_eq (by omega) (by omega)
            by_cases z : kwV V1 k = 38
            · rw [if_pos z] at hc2 ⊢
              rw [if_neg (fun y => by have := hv2.mp y.2.2; omega)] at h3
              rw [← hc2]; unfold kwV; rw [h3]
            · rw [if_neg z] at hc2 ⊢
              by_cases y : kwV V1 k = 124
              · rw [if_pos y]
                rw [if_pos ⟨h1, h2, hv2.mpr (by rw [hc2, y])⟩] at h3
                unfold kwV; rw [h3, nI_clamp (by omega)]
              · rw [if_neg y]
                rw [if_neg (fun w => y (by rw [← hc2]; exact hv2.mp w.2.2))] at h3
                rw [← hc2]; unfold kwV; rw [h3]
          refine ⟨V3, e', ?_, (q2.trans (Fr.weak l2 (by decide))).trans (Fr.weak k2 (by decide)), ?_, ?_, q5, q6, q7, by omega, fun k h1 h2 => ?_, hQ1.fin gg gcl hcw3, fun k h1 h2 => ?_, fun k h1 h2 => ?_⟩
          · rw [F_X9_readCondition_70, show f_X9_leadHere fu V2 124 (nI s0) = some (0, V3) from k1, bd_some]
          · rw [k2 1910 (by decide), l2 1910 (by decide)]; exact q3
          · rw [k2 1907 (by decide)]; exact e72
          · rw [k3 k, if_neg (by omega)]; exact hpre2 k h1 h2
          · rw [hcw3 k h1 h2]
            unfold ptC
            by_cases z : kwV V1 k = 38
            · rw [if_pos z]; omega
            · rw [if_neg z]
              by_cases y : kwV V1 k = 124
              · rw [if_pos y]; omega
              · rw [if_neg y]; exact ⟨z, y⟩
          · rw [k3 k]
            split
            · exact nI_pos (by omega)
            · exact hnn2 k h1 h2
