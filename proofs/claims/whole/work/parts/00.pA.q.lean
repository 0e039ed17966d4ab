/-! the reference's clauses and texts -/
def rcw : List Nat := [2243, 2245, 2246, 2247, 2248, 2249, 2250, 2251, 2252, 2253, 2254, 2255, 2256, 2257]
def agRR (U U' : St) (k : Nat) : Prop := ∀ i, i < k → U' 2253 0 i = U 2253 0 i ∧ U' 2254 0 i = U 2254 0 i ∧ U' 2255 0 i = U 2255 0 i ∧ U' 2256 0 i = U 2256 0 i ∧ U' 2257 0 i = U 2257 0 i
def rowR (U : St) (k s e : Nat) (cl : Cls) : Prop := U 2253 0 k = nI cl.1 ∧ U 2256 0 k = nI cl.2.1 ∧ U 2257 0 k = nI cl.2.2.1 ∧ U 2254 0 k = nI s ∧ U 2255 0 k = nI e ∧ s ≤ e ∧ nnR U s e ∧ (∀ d, cl.2.2.2 = some d → RFf U s e [d] ∧ isB d) ∧ (cl.2.2.2 = none → e = s)
theorem rowR.cg {U U' : St} {k s e : Nat} {cl : Cls} (h : rowR U k s e cl) (h1 : U' 2253 0 k = U 2253 0 k ∧ U' 2254 0 k = U 2254 0 k ∧ U' 2255 0 k = U 2255 0 k ∧ U' 2256 0 k = U 2256 0 k ∧ U' 2257 0 k = U 2257 0 k) (h2 : agS U U' s e) : rowR U' k s e cl := by
  obtain ⟨a1, a2, a3, a4, a5, a6, a7, a8, a9⟩ := h
  exact ⟨by rw [h1.1]; exact a1, by rw [h1.2.2.2.1]; exact a2, by rw [h1.2.2.2.2]; exact a3, by rw [h1.2.1]; exact a4, by rw [h1.2.2.1]; exact a5, a6, a7.cg h2, fun d hd => ⟨(a8 d hd).1.cg h2, (a8 d hd).2⟩, a9⟩
def RT (U : St) (T : Nat → Int32) (n p c k : Nat) : Prop := TxR U T n ∧ U 2243 0 0 = nI p ∧ U 2248 0 0 = nI c ∧ U 2250 0 0 = nI k
theorem cond_R {fu n a c k : Nat} {U : St} {T : Nat → Int32} (hfu : 1000 ≤ fu) (h : RT U T n a c k) (hc : c ≤ a) (ha : a ≤ n) : (∀ f, spCd (hN T n) a = .inl f → ∃ U', f_X12_readsCondition fu U = some (0, U') ∧ Fr rfw U U' ∧ U' 2245 0 0 = f) ∧ (∀ b d, spCd (hN T n) a = .inr (b, d) → ∃ U' c', f_X12_readsCondition fu U = some (1, U') ∧ Fr rfw U U' ∧ RT U' T n b c' k ∧ c < c' ∧ c' + a ≤ c + b ∧ agS U U' 0 c ∧ RFf U' c c' [d] ∧ isB d) := by
  obtain ⟨ht, h2, h3, h4⟩ := h
  have hn := ht.1.1
  have hle := hN_le (p := a) ht.1
  have hh := here_R (fu := fu) ht (by omega) h2
  unfold spCd
  by_cases hA : hN T n a = 40
  · rw [if_pos hA]
    have han : a < n := (hN_lt ht.1).mp (by omega)
    have hF0 : Fr rfw U (setV (setV U 2247 0 0 0) 2249 0 0 0) := ((Fr.refl _ U).set (by decide)).set (by decide)
    have hR0 : RQ (setV (setV U 2247 0 0 0) 2249 0 0 0) T n a 0 c 0 := ⟨ht.fr hF0 (by decide), by rw [setV_fn (by decide), setV_fn (by decide)]; exact h2, by rw [setV_fn (by decide), setV_at, if_pos ⟨rfl, rfl⟩, nI_0], by rw [setV_fn (by decide), setV_fn (by decide)]; exact h3, by rw [setV_at, if_pos ⟨rfl, rfl⟩, nI_0]⟩
    obtain ⟨s1, s2, s3, s4, s5⟩ := opens_R (fu := fu) (what := 13) hR0 (by omega) (by omega)
    have hF1 : Fr rfw U (opV2 (setV (setV U 2247 0 0 0) 2249 0 0 0) a 0 0 13) := hF0.trans (Fr.weak s3 (by decide))
    obtain ⟨r1, r2⟩ := (rd_R (fu := fu) (n := n) (T := T) hfu 30 1 (by omega) (by omega)).2 (by decide) (opV2 (setV (setV U 2247 0 0 0) 2249 0 0 0) a 0 0 13) (a + 1) c 1 fu s2 (by omega) (by omega) (by omega) (fun i hi => by
      have : i = 0 := by omega
      subst this; exact ⟨_, by omega, s4⟩) (by omega) s4 (by omega)
    simp only [] at r1 r2
    have hun : f_X12_readsCondition fu U = RCn fu fu (opV2 (setV (setV U 2247 0 0 0) 2249 0 0 0) a 0 0 13) := by
      rw [f_X12_readsCondition, hh, bd_some, if_pos (show hI (hN T n a) = 40 by rw [hI_40 hle]; exact hA), bv_eq, bv_eq, show f_X12_opens fu (setV (setV U 2247 0 0 0) 2249 0 0 0) 13 = _ from s1, bd_some, if_neg (by decide)]
      rfl
    have h51 : ∀ q, opV2 (setV (setV U 2247 0 0 0) 2249 0 0 0) a 0 0 13 2251 0 q = U 2251 0 q := fun q => by rw [s3 2251 (by decide), setV_fn (by decide), setV_fn (by decide)]
    rw [hun]
    cases hr : sp (hN T n) 30 0 (a + 1) 1 with
    | inl f0 =>
      obtain ⟨U', q1, q2, q3⟩ := r1 f0 hr
      exact ⟨fun f hf => ⟨U', q1, hF1.trans q2, by rw [q3]; exact Sum.inl.inj hf⟩, fun a d hf => (by cases hf)⟩
    | inr w =>
      obtain ⟨b, d⟩ := w
      obtain ⟨U', c2, w', N2, M, z1, z2, z3, z4, z5, z6, z7, z8, z9, U2, y1, y2, y3, y4, y5, y6, y7, y8, y9⟩ := r2 b d hr
      have hle1 := hN_le (p := b) ht.1
      have hh1 := here_R (fu := fu) z5.1 (by omega) z5.2.1
      obtain ⟨M, rfl⟩ : ∃ M', M = M' + 1 := ⟨M - 1, by omega⟩
      rw [z1]
      simp only [thn]
      by_cases hcc : hN T n b = 41
      · rw [if_pos hcc]
        have hbn : b < n := (hN_lt ht.1).mp (by omega)
        have hstep : RAn fu N2 (M + 1) U' = some (1, setV (setV (setV U2 2249 0 0 (nI 0)) 2247 0 0 (nI 0)) 2243 0 0 (nI (b + 1))) := by
          rw [RAn, Lp_X12_readsCondition_92, F_X12_readsCondition_92, hh1, bd_some, if_pos (show hI (hN T n b) = 41 by rw [hI_41 hle1]; exact hcc), y1, bd_some, y3.2.2.2.2, show nI 1 - 1 = nI 0 from nI_pred 0, bv_eq, setV_fn (show 2247 ≠ 2249 by decide), y3.2.2.1, show nI 1 - 1 = nI 0 from nI_pred 0, bv_eq, setV_fn (show 2243 ≠ 2247 by decide), setV_fn (show 2243 ≠ 2249 by decide), y3.2.1, nI_1, bv_eq, setV_fn (show 2249 ≠ 2243 by decide), setV_fn (show 2249 ≠ 2247 by decide), setV_at, if_pos (show 0 = 0 ∧ 0 = 0 from ⟨rfl, rfl⟩), if_pos (show nI 0 = 0 from rfl), F_X12_readsCondition_143]
        rw [hstep]
        refine ⟨fun f hf => (by cases hf), fun b' d' hf => ?_⟩
        obtain ⟨rfl, rfl⟩ := inr2 hf
        have hF3 : Fr rfw U2 (setV (setV (setV U2 2249 0 0 (nI 0)) 2247 0 0 (nI 0)) 2243 0 0 (nI (b + 1))) := (((Fr.refl _ U2).set (by decide)).set (by decide)).set (by decide)
        have hU51 : ∀ q, (setV (setV (setV U2 2249 0 0 (nI 0)) 2247 0 0 (nI 0)) 2243 0 0 (nI (b + 1))) 2251 0 q = U2 2251 0 q := fun q => by rw [setV_fn (by decide), setV_fn (by decide), setV_fn (by decide)]
        have hFF := (hF1.trans y2).trans hF3
        refine ⟨_, c2, rfl, hFF, ⟨ht.fr hFF (by decide), by rw [setV_at, if_pos ⟨rfl, rfl⟩], by rw [setV_fn (by decide), setV_fn (by decide), setV_fn (by decide)]; exact y3.2.2.2.1, by rw [hFF 2250 (by decide)]; exact h4⟩, y6, by omega, fun q k1 k2 => ?_, y8.cg (fun q _ _ => hU51 q), y9⟩
        rw [hU51 q, y4 q k1 k2, h51 q]
      · rw [if_neg hcc]
        have hstep : RAn fu N2 (M + 1) U' = some (0, setV U' 2245 0 0 (flt 1 b)) := by
          rw [RAn, Lp_X12_readsCondition_92, F_X12_readsCondition_92, hh1, bd_some, if_neg (show ¬ hI (hN T n b) = 41 by rw [hI_41 hle1]; exact hcc), F_X12_readsCondition_152, hh1, bd_some, if_neg (show ¬ hI (hN T n b) = 38 by rw [hI_38 hle1]; exact z6), hh1, bd_some, if_neg (show ¬ hI (hN T n b) = 124 by rw [hI_124 hle1]; exact z7), F_X12_readsCondition_170, z5.2.1, show f_X12_wrong fu U' 1 (nI b) = _ from wrong_R, bd_some, gd_t (.inl rfl)]
        rw [hstep]
        exact ⟨fun f hf => ⟨_, rfl, (hF1.trans z4).set (by decide), by rw [setV_at, if_pos ⟨rfl, rfl⟩]; exact Sum.inl.inj hf⟩, fun a d hf => (by cases hf)⟩
  · rw [if_neg hA]
    refine ⟨fun f hf => ⟨setV U 2245 0 0 (flt 1 a), ?_, (Fr.refl _ U).set (by decide), by rw [setV_at, if_pos ⟨rfl, rfl⟩]; exact Sum.inl.inj hf⟩, fun a d hf => (by cases hf)⟩
    rw [f_X12_readsCondition, hh, bd_some, if_neg (show ¬ hI (hN T n a) = 40 by rw [hI_40 hle]; exact hA), h2, show f_X12_wrong fu U 1 (nI a) = _ from wrong_R, bd_some, gd_t (.inl rfl)]
theorem takes_R {fu n p c : Nat} {U : St} {T : Nat → Int32} (ht : TxR U T n) (hp : p ≤ n) (hc : c < 256) (e : U 2243 0 0 = nI p) : f_X12_takes fu U (nI c) = if hN T n p = c then some (1, setV U 2243 0 0 (nI (p + 1))) else some (0, setV U 2245 0 0 (flt 1 p)) := by
  have hn := ht.1.1
  have hh := here_R (fu := fu) ht (by omega) e
  have hle := hN_le (p := p) ht.1
  rw [f_X12_takes, hh, bd_some]
  by_cases z : hN T n p = c
  · rw [if_pos z, if_pos ((hI_eq hle hc).mpr z), e, nI_1, bv_eq]
  · rw [if_neg z, if_neg (fun y => z ((hI_eq hle hc).mp y)), e, show f_X12_wrong fu U 1 (nI p) = _ from wrong_R, bd_some, gd_t (.inl rfl)]
/-- the row of a clause, begun -/
def bgV (U : St) (k c : Nat) (x1 : Int32) (v : Nat) : St := setV (setV (setV (setV U 2253 0 k x1) 2256 0 k (nI v)) 2257 0 k 0) 2254 0 k (nI c)
theorem bgV_fr (U : St) (k c : Nat) (x1 : Int32) (v : Nat) : Fr [2253, 2254, 2256, 2257] U (bgV U k c x1 v) := ((((Fr.refl _ U).set (by decide)).set (by decide)).set (by decide)).set (by decide)
theorem begin_R {fu k c v : Nat} {U : St} {x1 : Int32} (hk : k < 12) (e0 : U 2250 0 0 = nI k) (e8 : U 2248 0 0 = nI c) (e6 : U 2246 0 0 = nI v) : F_X12_readsClause_102 fu U x1 = (if x1 = 120 then (bd (f_X12_takes fu (bgV U k c x1 v) (nI 46)) fun r17 V18 => if r17 = 0 then (F_X12_readsClause_165 fu V18) else (bd (f_X12_readsNumber fu V18 (nI 11)) fun r21 V22 => if r21 = 0 then (F_X12_readsClause_165 fu V22) else (bv (setV V22 2257 (0) k ((V22 2246 0 0))) fun V26 => F_X12_readsClause_189 fu V26 (nI k)))) else (bd (f_X12_readsCondition fu (bgV U k c x1 v)) fun r14 V15 => if r14 = 0 then (some (0, V15)) else (F_X12_readsClause_189 fu V15 (nI k)))) := by
  have g : ¬ (nI k < 0 ∨ 12 ≤ k) := fun w => w.elim (nI_pos (by omega)) (fun w => by omega)
  rw [F_X12_readsClause_102, e0, nI_clamp (show k < 2 ^ 31 by omega), gd_t g, bv_eq, gd_t g, setV_fn (show 2246 ≠ 2253 by decide), e6, bv_eq, gd_t g, bv_eq, gd_t g, setV_fn (show 2248 ≠ 2257 by decide), setV_fn (show 2248 ≠ 2256 by decide), setV_fn (show 2248 ≠ 2253 by decide), e8, bv_eq]
  simp only [gd_t g]
  rfl
theorem end_R {fu k c : Nat} {U : St} (hk : k < 12) (e0 : U 2250 0 0 = nI k) (e8 : U 2248 0 0 = nI c) : F_X12_readsClause_189 fu U (nI k) = some (1, setV (setV U 2255 0 k (nI c)) 2250 0 0 (nI (k + 1))) := by
  have g : ¬ (nI k < 0 ∨ 12 ≤ k) := fun w => w.elim (nI_pos (by omega)) (fun w => by omega)
  rw [F_X12_readsClause_189, nI_clamp (show k < 2 ^ 31 by omega), gd_t g, e8, bv_eq, setV_fn (show 2250 ≠ 2255 by decide), e0, nI_1, bv_eq]
theorem clause_R {fu n p k c : Nat} {U : St} {T : Nat → Int32} (hfu : 1000 ≤ fu) (h : RT U T n p c k) (hk : k ≤ 12) (hc : c ≤ p) (hp : p ≤ n) : (∀ f, spCl (hN T n) p k = .inl f → ∃ U', f_X12_readsClause fu U = some (0, U') ∧ Fr rcw U U' ∧ U' 2245 0 0 = f) ∧ (∀ a cl, spCl (hN T n) p k = .inr (a, cl) → ∃ U' c', f_X12_readsClause fu U = some (1, U') ∧ Fr rcw U U' ∧ RT U' T n a c' (k + 1) ∧ k < 12 ∧ c' ≤ a ∧ agRR U U' k ∧ agS U U' 0 c ∧ rowR U' k c c' cl) := by
  obtain ⟨ht, h2, h3, h4⟩ := h
  have hn := ht.1.1
  have hle := hN_le (p := p) ht.1
  have hh := here_R (fu := fu) ht (by omega) h2
  have hlt := letter_eq (fu := fu) (V := U) hle
  have hun : f_X12_readsClause fu U = if (if hN T n p = 98 ∨ hN T n p = 109 ∨ hN T n p = 112 ∨ hN T n p = 99 ∨ hN T n p = 103 ∨ hN T n p = 100 ∨ hN T n p = 120 then (1 : Int32) else 0) = 0 then some (0, setV U 2245 0 0 (flt 1 p)) else (if nI k = nI 12 then some (0, setV U 2245 0 0 (flt 4 p)) else (if hI (hN T n p) = 98 then (F_X12_readsClause_102 fu (setV (setV U 2243 0 0 (nI (p + 1))) 2246 0 0 0) (hI (hN T n p))) else (if hI (hN T n p) = 109 then (F_X12_readsClause_102 fu (setV (setV U 2243 0 0 (nI (p + 1))) 2246 0 0 0) (hI (hN T n p))) else (if hI (hN T n p) = 100 then (F_X12_readsClause_94 fu (setV (setV U 2243 0 0 (nI (p + 1))) 2246 0 0 0) (hI (hN T n p)) (nI 100)) else (if hI (hN T n p) = 120 then (F_X12_readsClause_94 fu (setV (setV U 2243 0 0 (nI (p + 1))) 2246 0 0 0) (hI (hN T n p)) (nI 29)) else (F_X12_readsClause_94 fu (setV (setV U 2243 0 0 (nI (p + 1))) 2246 0 0 0) (hI (hN T n p)) (nI 99999))))))) := by
    rw [f_X12_readsClause, hh, bd_some, hlt, bd_some, h2, h4, nI_1, show f_X12_wrong fu U 1 (nI p) = _ from wrong_R, show f_X12_wrong fu U 4 (nI p) = _ from wrong_R, bd_some, gd_t (.inl rfl), bd_some, gd_t (.inl rfl), bv_eq, bv_eq]
    rfl
  rw [hun]
  unfold spCl
  by_cases hL : hN T n p = 98 ∨ hN T n p = 109 ∨ hN T n p = 112 ∨ hN T n p = 99 ∨ hN T n p = 103 ∨ hN T n p = 100 ∨ hN T n p = 120
  · rw [if_neg (show ¬ (if hN T n p = 98 ∨ hN T n p = 109 ∨ hN T n p = 112 ∨ hN T n p = 99 ∨ hN T n p = 103 ∨ hN T n p = 100 ∨ hN T n p = 120 then (1 : Int32) else 0) = 0 by rw [if_pos hL]; decide), if_pos hL]
    have hpn : p < n := (hN_lt ht.1).mp (by omega)
    by_cases hk12 : k = 12
    · rw [if_pos hk12, if_pos (by rw [hk12])]
      exact ⟨fun f hf => ⟨_, rfl, (Fr.refl _ U).set (by decide), by rw [setV_at, if_pos ⟨rfl, rfl⟩]; exact Sum.inl.inj hf⟩, fun a d hf => (by cases hf)⟩
    · rw [if_neg hk12, if_neg (show ¬ nI k = nI 12 from fun z => hk12 ((nI_eq (by omega) (by omega)).mp z))]
      have hk' : k < 12 := by omega
      have hhi : hI (hN T n p) = nI (hN T n p) := by unfold hI; rw [if_pos (by omega)]
      have hF1 : Fr rcw U (setV (setV U 2243 0 0 (nI (p + 1))) 2246 0 0 0) := ((Fr.refl _ U).set (by decide)).set (by decide)
      have ht1 := ht.fr hF1 (by decide)
      have e43 : setV (setV U 2243 0 0 (nI (p + 1))) 2246 0 0 0 2243 0 0 = nI (p + 1) := by rw [setV_fn (by decide), setV_at, if_pos ⟨rfl, rfl⟩]
      have e46 : setV (setV U 2243 0 0 (nI (p + 1))) 2246 0 0 0 2246 0 0 = nI 0 := by rw [setV_at, if_pos ⟨rfl, rfl⟩, nI_0]
      -- behind the number
      have rest : ∀ (a v : Nat) (U1 : St), p < a → a ≤ n → U1 2243 0 0 = nI a → U1 2246 0 0 = nI v → Fr [2243, 2245, 2246] (setV (setV U 2243 0 0 (nI (p + 1))) 2246 0 0 0) U1 → ¬ hN T n p = 120 → (∀ f, (match spCd (hN T n) a with
          | .inl f => .inl f
          | .inr (b, d) => .inr (b, (hN T n p, v, 0, some d)) : Sum Int32 (Nat × Cls)) = .inl f → ∃ U', F_X12_readsClause_102 fu U1 (hI (hN T n p)) = some (0, U') ∧ Fr rcw U U' ∧ U' 2245 0 0 = f) ∧ (∀ a' cl, (match spCd (hN T n) a with
          | .inl f => .inl f
          | .inr (b, d) => .inr (b, (hN T n p, v, 0, some d)) : Sum Int32 (Nat × Cls)) = .inr (a', cl) → ∃ U' c', F_X12_readsClause_102 fu U1 (hI (hN T n p)) = some (1, U') ∧ Fr rcw U U' ∧ RT U' T n a' c' (k + 1) ∧ k < 12 ∧ c' ≤ a' ∧ agRR U U' k ∧ agS U U' 0 c ∧ rowR U' k c c' cl) := fun a v U1 h1' h2' h3' h4' hF hX => by
        have hF2 : Fr rcw U U1 := hF1.trans (Fr.weak hF (by decide))
        have hpre : ∀ v', v' ∈ [2248, 2250, 2251, 2253, 2254, 2255, 2256, 2257] → U1 v' = U v' := fun v' hv' => by
          rw [hF v' (by revert v'; decide), setV_fn (by rintro rfl; revert hv'; decide), setV_fn (by rintro rfl; revert hv'; decide)]
        have hbf := bgV_fr U1 k c (hI (hN T n p)) v
        have hF3 : Fr rcw U (bgV U1 k c (hI (hN T n p)) v) := hF2.trans (Fr.weak hbf (by decide))
        have hbg := begin_R (fu := fu) (x1 := hI (hN T n p)) hk' (by rw [hpre 2250 (by decide)]; exact h4) (by rw [hpre 2248 (by decide)]; exact h3) h4'
        rw [if_neg (show ¬ hI (hN T n p) = 120 by rw [hI_120 hle]; exact hX)] at hbg
        rw [hbg]
        obtain ⟨i1, i2⟩ := cond_R (fu := fu) (k := k) hfu (U := bgV U1 k c (hI (hN T n p)) v) ⟨ht.fr hF3 (by decide), by rw [hbf 2243 (by decide)]; exact h3', by rw [hbf 2248 (by decide), hpre 2248 (by decide)]; exact h3, by rw [hbf 2250 (by decide), hpre 2250 (by decide)]; exact h4⟩ (by omega) h2'
        cases hr : spCd (hN T n) a with
        | inl f0 =>
          obtain ⟨U', q1, q2, q3⟩ := i1 f0 hr
          refine ⟨fun f hf => ⟨U', ?_, hF3.trans (Fr.weak q2 (by decide)), by rw [q3]; exact Sum.inl.inj hf⟩, fun a d hf => (by cases hf)⟩
          rw [q1, bd_some, if_pos rfl]
        | inr w =>
          obtain ⟨b, d⟩ := w
          obtain ⟨U2, c', q1, q2, q3, q4, q5, q6, q7, q8⟩ := i2 b d hr
          obtain ⟨g1, g2, g3, g4⟩ := q3
          have hb := spCd_adv ht.1 h2' hr
          refine ⟨fun f hf => (by cases hf), fun a' cl hf => ?_⟩
          have := Sum.inr.inj hf
          simp only [Prod.mk.injEq] at this
          obtain ⟨rfl, rfl⟩ := this
          have hF4 : Fr rcw U (setV (setV U2 2255 0 k (nI c')) 2250 0 0 (nI (k + 1))) := ((hF3.trans (Fr.weak q2 (by decide))).set (by decide)).set (by decide)
          have hU51 : ∀ q, (setV (setV U2 2255 0 k (nI c')) 2250 0 0 (nI (k + 1))) 2251 0 q = U2 2251 0 q := fun q => by rw [setV_fn (by decide), setV_fn (by decide)]
          have hne : ∀ i, i < k → ¬ (0 = 0 ∧ i = k) := fun i hi z => by omega
          have hrow : ∀ v', v' ∈ [2253, 2254, 2256, 2257] → (setV (setV U2 2255 0 k (nI c')) 2250 0 0 (nI (k + 1))) v' = bgV U1 k c (hI (hN T n p)) v v' := fun v' hv' => by
            rw [setV_fn (by rintro rfl; revert hv'; decide), setV_fn (by rintro rfl; revert hv'; decide), q2 v' (by revert v'; decide)]
          refine ⟨setV (setV U2 2255 0 k (nI c')) 2250 0 0 (nI (k + 1)), c', ?_, hF4, ⟨ht.fr hF4 (by decide), by rw [setV_fn (by decide), setV_fn (by decide)]; exact g2, by rw [setV_fn (by decide), setV_fn (by decide)]; exact g3, by rw [setV_at, if_pos ⟨rfl, rfl⟩]⟩, hk', by omega, fun i hi => ⟨?_, ?_, ?_, ?_, ?_⟩, fun q k1 k2 => ?_, ⟨?_, ?_, ?_, ?_, ?_, by omega, q7.2.cg (fun q _ _ => hU51 q), fun d' hd => ?_, fun hd => (by cases hd)⟩⟩
          · rw [q1, bd_some, if_neg (by decide)]; exact end_R hk' g4 g3
          · rw [hrow 2253 (by decide)]; unfold bgV; rw [setV_fn (by decide), setV_fn (by decide), setV_fn (by decide), setV_at, if_neg (hne i hi), hpre 2253 (by decide)]
          · rw [hrow 2254 (by decide)]; unfold bgV; rw [setV_at, if_neg (hne i hi), setV_fn (by decide), setV_fn (by decide), setV_fn (by decide), hpre 2254 (by decide)]
          · rw [setV_fn (by decide), setV_at, if_neg (hne i hi), q2 2255 (by decide), hbf 2255 (by decide), hpre 2255 (by decide)]
          · rw [hrow 2256 (by decide)]; unfold bgV; rw [setV_fn (by decide), setV_fn (by decide), setV_at, if_neg (hne i hi), setV_fn (by decide), hpre 2256 (by decide)]
          · rw [hrow 2257 (by decide)]; unfold bgV; rw [setV_fn (by decide), setV_at, if_neg (hne i hi), setV_fn (by decide), setV_fn (by decide), hpre 2257 (by decide)]
          · rw [hU51 q, q6 q k1 k2, hbf 2251 (by decide), hpre 2251 (by decide)]
          · rw [hrow 2253 (by decide)]; unfold bgV; rw [setV_fn (by decide), setV_fn (by decide), setV_fn (by decide), setV_at, if_pos ⟨rfl, rfl⟩, hhi]
          · rw [hrow 2256 (by decide)]; unfold bgV; rw [setV_fn (by decide), setV_fn (by decide), setV_at, if_pos ⟨rfl, rfl⟩]
          · rw [hrow 2257 (by decide)]; unfold bgV; rw [setV_fn (by decide), setV_at, if_pos ⟨rfl, rfl⟩]; rfl
          · rw [hrow 2254 (by decide)]; unfold bgV; rw [setV_at, if_pos ⟨rfl, rfl⟩]
          · rw [setV_fn (by decide), setV_at, if_pos ⟨rfl, rfl⟩]
          · rw [← Option.some.inj hd]; exact ⟨q7.cg (fun q _ _ => hU51 q), q8⟩
      by_cases hB : hN T n p = 98 ∨ hN T n p = 109
      · rw [if_neg (show ¬ hN T n p = 120 by omega)]
        have hno : spNo (hN T n) p = .inr (p + 1, 0) := by unfold spNo; rw [if_pos hB]
        rw [hno]
        have hsel : (if hI (hN T n p) = 98 then (F_X12_readsClause_102 fu (setV (setV U 2243 0 0 (nI (p + 1))) 2246 0 0 0) (hI (hN T n p))) else (if hI (hN T n p) = 109 then (F_X12_readsClause_102 fu (setV (setV U 2243 0 0 (nI (p + 1))) 2246 0 0 0) (hI (hN T n p))) else (if hI (hN T n p) = 100 then (F_X12_readsClause_94 fu (setV (setV U 2243 0 0 (nI (p + 1))) 2246 0 0 0) (hI (hN T n p)) (nI 100)) else (if hI (hN T n p) = 120 then (F_X12_readsClause_94 fu (setV (setV U 2243 0 0 (nI (p + 1))) 2246 0 0 0) (hI (hN T n p)) (nI 29)) else (F_X12_readsClause_94 fu (setV (setV U 2243 0 0 (nI (p + 1))) 2246 0 0 0) (hI (hN T n p)) (nI 99999)))))) = F_X12_readsClause_102 fu (setV (setV U 2243 0 0 (nI (p + 1))) 2246 0 0 0) (hI (hN T n p)) := by
          rcases hB with z | z
          · rw [if_pos (show hI (hN T n p) = 98 by rw [hI_98 hle]; exact z)]
          · rw [if_neg (show ¬ hI (hN T n p) = 98 by rw [hI_98 hle]; omega), if_pos (show hI (hN T n p) = 109 by rw [hI_109 hle]; exact z)]
        rw [hsel]
        exact rest (p + 1) 0 _ (by omega) (by omega) e43 e46 (Fr.refl _ _) (by omega)
      · have hsel : (if hI (hN T n p) = 98 then (F_X12_readsClause_102 fu (setV (setV U 2243 0 0 (nI (p + 1))) 2246 0 0 0) (hI (hN T n p))) else (if hI (hN T n p) = 109 then (F_X12_readsClause_102 fu (setV (setV U 2243 0 0 (nI (p + 1))) 2246 0 0 0) (hI (hN T n p))) else (if hI (hN T n p) = 100 then (F_X12_readsClause_94 fu (setV (setV U 2243 0 0 (nI (p + 1))) 2246 0 0 0) (hI (hN T n p)) (nI 100)) else (if hI (hN T n p) = 120 then (F_X12_readsClause_94 fu (setV (setV U 2243 0 0 (nI (p + 1))) 2246 0 0 0) (hI (hN T n p)) (nI 29)) else (F_X12_readsClause_94 fu (setV (setV U 2243 0 0 (nI (p + 1))) 2246 0 0 0) (hI (hN T n p)) (nI 99999)))))) = bd (f_X12_readsNumber fu (setV (setV U 2243 0 0 (nI (p + 1))) 2246 0 0 0) (nI (if hN T n p = 100 then 100 else if hN T n p = 120 then 29 else 99999))) fun r1 V2 => if r1 = 0 then (some (0, V2)) else (F_X12_readsClause_102 fu V2 (hI (hN T n p))) := by
          rw [if_neg (show ¬ hI (hN T n p) = 98 by rw [hI_98 hle]; omega), if_neg (show ¬ hI (hN T n p) = 109 by rw [hI_109 hle]; omega)]
          by_cases z : hN T n p = 100
          · rw [if_pos (show hI (hN T n p) = 100 by rw [hI_100 hle]; exact z), if_pos z, F_X12_readsClause_94]
          · rw [if_neg (show ¬ hI (hN T n p) = 100 by rw [hI_100 hle]; exact z), if_neg z]
            by_cases y : hN T n p = 120
            · rw [if_pos (show hI (hN T n p) = 120 by rw [hI_120 hle]; exact y), if_pos y, F_X12_readsClause_94]
            · rw [if_neg (show ¬ hI (hN T n p) = 120 by rw [hI_120 hle]; exact y), if_neg y, F_X12_readsClause_94]
        rw [hsel]
        obtain ⟨r1, r2⟩ := num_R (fu := fu) (most := if hN T n p = 100 then 100 else if hN T n p = 120 then 29 else 99999) hfu (by split <;> (try split) <;> omega) ht1 (by omega) e43
        by_cases hX : hN T n p = 120
        · rw [if_pos hX]
          have e29 : (if hN T n p = 100 then 100 else if hN T n p = 120 then 29 else 99999) = 29 := by rw [if_neg (by omega), if_pos hX]
          rw [e29] at r1 r2 ⊢
          cases hr : spNum (hN T n) 29 (p + 1) with
          | inl f0 =>
            obtain ⟨U', q1, q2, q3⟩ := r1 f0 hr
            refine ⟨fun f hf => ⟨U', ?_, hF1.trans (Fr.weak q2 (by decide)), by rw [q3]; exact Sum.inl.inj hf⟩, fun a d hf => (by cases hf)⟩
            rw [q1, bd_some, if_pos rfl]
          | inr w =>
            obtain ⟨a, v⟩ := w
            obtain ⟨U1, q1, q2, q3, q4⟩ := r2 a v hr
            obtain ⟨s1, s2, s3, s4, s5⟩ := spNum_adv ht.1 hr
            have hF2 : Fr rcw U U1 := hF1.trans (Fr.weak q2 (by decide))
            have hpre : ∀ v', v' ∈ [2248, 2250, 2251, 2253, 2254, 2255, 2256, 2257] → U1 v' = U v' := fun v' hv' => by
              rw [q2 v' (by revert v'; decide), setV_fn (by rintro rfl; revert hv'; decide), setV_fn (by rintro rfl; revert hv'; decide)]
            have hbf := bgV_fr U1 k c (hI (hN T n p)) v
            have hF3 : Fr rcw U (bgV U1 k c (hI (hN T n p)) v) := hF2.trans (Fr.weak hbf (by decide))
            have hbg := begin_R (fu := fu) (x1 := hI (hN T n p)) hk' (by rw [hpre 2250 (by decide)]; exact h4) (by rw [hpre 2248 (by decide)]; exact h3) q4
            rw [if_pos (show hI (hN T n p) = 120 by rw [hI_120 hle]; exact hX)] at hbg
            have htk := takes_R (fu := fu) (c := 46) (ht.fr hF3 (by decide)) s2 (by omega) (by rw [hbf 2243 (by decide)]; exact q3)
            rw [q1, bd_some, if_neg (by decide), hbg, htk]
            simp only []
            by_cases hcc : hN T n a = 46
            · rw [if_pos hcc, if_pos hcc, bd_some, if_neg (by decide)]
              have han : a < n := (hN_lt ht.1).mp (by omega)
              have hF4 : Fr rcw U (setV (bgV U1 k c (hI (hN T n p)) v) 2243 0 0 (nI (a + 1))) := hF3.set (by decide)
              obtain ⟨t1, t2⟩ := num_R (fu := fu) (most := 11) (p := a + 1) hfu (by omega) (ht.fr hF4 (by decide)) (by omega) (by rw [setV_at, if_pos ⟨rfl, rfl⟩])
              cases hr2 : spNum (hN T n) 11 (a + 1) with
              | inl f0 =>
                obtain ⟨U', z1, z2, z3⟩ := t1 f0 hr2
                refine ⟨fun f hf => ⟨U', ?_, hF4.trans (Fr.weak z2 (by decide)), by rw [z3]; exact Sum.inl.inj hf⟩, fun a d hf => (by cases hf)⟩
                rw [z1, bd_some, if_pos rfl, F_X12_readsClause_165]
              | inr w =>
                obtain ⟨b, v2⟩ := w
                obtain ⟨U2, z1, z2, z3, z4⟩ := t2 b v2 hr2
                obtain ⟨u1, u2, u3, u4, u5⟩ := spNum_adv ht.1 hr2
                refine ⟨fun f hf => (by cases hf), fun a' cl hf => ?_⟩
                have := Sum.inr.inj hf
                simp only [Prod.mk.injEq] at this
                obtain ⟨rfl, rfl⟩ := this
                have hpre2 : ∀ v', v' ∈ [2248, 2250, 2251, 2255] → U2 v' = U v' := fun v' hv' => by
                  rw [z2 v' (by revert v'; decide), setV_fn (by rintro rfl; revert hv'; decide), hbf v' (by revert v'; decide), hpre v' (by revert v'; decide)]
                have hrow : ∀ v', v' ∈ [2253, 2254, 2256, 2257] → U2 v' = bgV U1 k c (hI (hN T n p)) v v' := fun v' hv' => by
                  rw [z2 v' (by revert v'; decide), setV_fn (by rintro rfl; revert hv'; decide)]
                have hF5 : Fr rcw U (setV (setV (setV U2 2257 0 k (nI v2)) 2255 0 k (nI c)) 2250 0 0 (nI (k + 1))) := (((hF4.trans (Fr.weak z2 (by decide))).set (by decide)).set (by decide)).set (by decide)
                have hne : ∀ i, i < k → ¬ (0 = 0 ∧ i = k) := fun i hi z => by omega
                have hend := end_R (fu := fu) (k := k) (c := c) (U := setV U2 2257 0 k (nI v2)) hk' (by rw [setV_fn (by decide), hpre2 2250 (by decide)]; exact h4) (by rw [setV_fn (by decide), hpre2 2248 (by decide)]; exact h3)
                have hU51 : ∀ q, (setV (setV (setV U2 2257 0 k (nI v2)) 2255 0 k (nI c)) 2250 0 0 (nI (k + 1))) 2251 0 q = U 2251 0 q := fun q => by rw [setV_fn (by decide), setV_fn (by decide), setV_fn (by decide), hpre2 2251 (by decide)]
                refine ⟨setV (setV (setV U2 2257 0 k (nI v2)) 2255 0 k (nI c)) 2250 0 0 (nI (k + 1)), c, ?_, hF5, ⟨ht.fr hF5 (by decide), by rw [setV_fn (by decide), setV_fn (by decide), setV_fn (by decide)]; exact z3, by rw [setV_fn (by decide), setV_fn (by decide), setV_fn (by decide), hpre2 2248 (by decide)]; exact h3, by rw [setV_at, if_pos ⟨rfl, rfl⟩]⟩, hk', by omega, fun i hi => ⟨?_, ?_, ?_, ?_, ?_⟩, fun q _ _ => hU51 q, ⟨?_, ?_, ?_, ?_, ?_, Nat.le_refl c, fun q k1 k2 => by omega, fun d' hd => (by cases hd), fun _ => rfl⟩⟩
                · rw [z1, bd_some, if_neg (by decide), z4, bv_eq]; exact hend
                · rw [setV_fn (by decide), setV_fn (by decide), setV_fn (by decide), hrow 2253 (by decide)]; unfold bgV; rw [setV_fn (by decide), setV_fn (by decide), setV_fn (by decide), setV_at, if_neg (hne i hi), hpre 2253 (by decide)]
                · rw [setV_fn (by decide), setV_fn (by decide), setV_fn (by decide), hrow 2254 (by decide)]; unfold bgV; rw [setV_at, if_neg (hne i hi), setV_fn (by decide), setV_fn (by decide), setV_fn (by decide), hpre 2254 (by decide)]
                · rw [setV_fn (by decide), setV_at, if_neg (hne i hi), setV_fn (by decide), hpre2 2255 (by decide)]
                · rw [setV_fn (by decide), setV_fn (by decide), setV_fn (by decide), hrow 2256 (by decide)]; unfold bgV; rw [setV_fn (by decide), setV_fn (by decide), setV_at, if_neg (hne i hi), setV_fn (by decide), hpre 2256 (by decide)]
                · rw [setV_fn (by decide), setV_fn (by decide), setV_at, if_neg (hne i hi), hrow 2257 (by decide)]; unfold bgV; rw [setV_fn (by decide), setV_at, if_neg (hne i hi), setV_fn (by decide), setV_fn (by decide), hpre 2257 (by decide)]
                · rw [setV_fn (by decide), setV_fn (by decide), setV_fn (by decide), hrow 2253 (by decide)]; unfold bgV; rw [setV_fn (by decide), setV_fn (by decide), setV_fn (by decide), setV_at, if_pos ⟨rfl, rfl⟩, hhi, hX]
                · rw [setV_fn (by decide), setV_fn (by decide), setV_fn (by decide), hrow 2256 (by decide)]; unfold bgV; rw [setV_fn (by decide), setV_fn (by decide), setV_at, if_pos ⟨rfl, rfl⟩]
                · rw [setV_fn (by decide), setV_fn (by decide), setV_at, if_pos ⟨rfl, rfl⟩]
                · rw [setV_fn (by decide), setV_fn (by decide), setV_fn (by decide), hrow 2254 (by decide)]; unfold bgV; rw [setV_at, if_pos ⟨rfl, rfl⟩]
                · rw [setV_fn (by decide), setV_at, if_pos ⟨rfl, rfl⟩]
            · rw [if_neg hcc, if_neg hcc, bd_some, if_pos rfl, F_X12_readsClause_165]
              exact ⟨fun f hf => ⟨_, rfl, hF3.set (by decide), by rw [setV_at, if_pos ⟨rfl, rfl⟩]; exact Sum.inl.inj hf⟩, fun a d hf => (by cases hf)⟩
        · rw [if_neg hX]
          have hno : spNo (hN T n) p = spNum (hN T n) (if hN T n p = 100 then 100 else if hN T n p = 120 then 29 else 99999) (p + 1) := by unfold spNo; rw [if_neg hB, if_neg hX]
          rw [hno]
          cases hr : spNum (hN T n) (if hN T n p = 100 then 100 else if hN T n p = 120 then 29 else 99999) (p + 1) with
          | inl f0 =>
            obtain ⟨U', q1, q2, q3⟩ := r1 f0 hr
            refine ⟨fun f hf => ⟨U', ?_, hF1.trans (Fr.weak q2 (by decide)), by rw [q3]; exact Sum.inl.inj hf⟩, fun a d hf => (by cases hf)⟩
            rw [q1, bd_some, if_pos rfl]
          | inr w =>
            obtain ⟨a, v⟩ := w
            obtain ⟨U1, q1, q2, q3, q4⟩ := r2 a v hr
            obtain ⟨s1, s2, s3, s4, s5⟩ := spNum_adv ht.1 hr
            rw [q1, bd_some, if_neg (by decide)]
            exact rest a v U1 (by omega) s2 q3 q4 q2 hX
  · rw [if_pos (show (if hN T n p = 98 ∨ hN T n p = 109 ∨ hN T n p = 112 ∨ hN T n p = 99 ∨ hN T n p = 103 ∨ hN T n p = 100 ∨ hN T n p = 120 then (1 : Int32) else 0) = 0 by rw [if_neg hL]), if_neg hL]
    exact ⟨fun f hf => ⟨_, rfl, (Fr.refl _ U).set (by decide), by rw [setV_at, if_pos ⟨rfl, rfl⟩]; exact Sum.inl.inj hf⟩, fun a d hf => (by cases hf)⟩
