/-! the reference's conditions: small steps -/
theorem readsSum_R {fu n m p o c w : Nat} {U : St} {T : Nat → Int32} (hfu : 1000 ≤ fu) (ho1 : 1 ≤ o) (ho6 : o ≤ 6) (hm : bnd 2 o ≤ m) (hR : RQ U T n p o c w) (hcp : c ≤ p) (hwp : w ≤ p) (hp : p ≤ n) (hwn : wtN U w) (htp : tpOK U w) : (∀ f, sp (hN T n) m 2 p o = .inl f → ∃ U', f_X12_readsSum fu U = some (0, U') ∧ Fr rfw U U' ∧ U' 2245 0 0 = f) ∧ (∀ a d, sp (hN T n) m 2 p o = .inr (a, d) → ∃ U' c', f_X12_readsSum fu U = some (1, U') ∧ Fr rfw U U' ∧ RQ U' T n a o c' w ∧ p < a ∧ a ≤ n ∧ c < c' ∧ c' + p ≤ c + a ∧ agS U U' 0 c ∧ agW U U' w ∧ RFf U' c c' [d]) := by
  have hn := hR.1.1.1
  have hun : f_X12_readsSum fu U = RFc fu fu fu U w := by rw [f_X12_readsSum, hR.2.2.2.2]; rfl
  obtain ⟨r1, r2⟩ := (facsum_R (fu := fu) (n := n) (T := T) hfu m o ho1 ho6).2 hm U p c w w fu fu hR hcp hwp hp (Nat.le_refl w) hwn htp (by omega) (by omega)
  rw [hun]
  refine ⟨r1, fun a d hf => ?_⟩
  obtain ⟨U', w', c1, N', z1, z2, z3, z4, z5, z6, z7, z8, z9, z10, z11, U2, c2, y1, y2, y3, y4, y5, y6, y7, y8⟩ := r2 a d hf
  have hle1 := hN_le (p := a) hR.1.1
  have hh1 := here_R (fu := fu) z4.1 (by omega) z4.2.1
  obtain ⟨N', rfl⟩ : ∃ N2, N' = N2 + 1 := ⟨N' - 1, by omega⟩
  have hos : f_X12_hasOpenSum fu U' (nI w) = some (0, U') := by
    rcases has_R (fu := fu) (w := w') (b := w) z6 z4.2.2.2.2 (fun i i1 i2 => by
      obtain ⟨x, x1, x2, -⟩ := z8 i i1 i2
      exact ⟨x, x1, x2⟩) fu w (Nat.le_refl w) z5 (by omega) with ⟨-, k, x, k1, k2, k3, k4, k5⟩ | ⟨g1, -⟩
    · obtain ⟨x', x1, x2, x3⟩ := z8 k k1 k2
      have : x = x' := (nI_eq k4 x1).mp (by rw [← k3, x2])
      subst this; exact absurd k5 x3
    · exact g1
  have h139 : F_X12_readsSum_139 fu U' (nI w) = some (1, U2) := by rw [F_X12_readsSum_139, hos, bd_some, if_pos rfl, y1, bd_some]
  have hng : ¬ (hN T n a = 43 ∨ hN T n a = 45 ∨ hN T n a = 42 ∨ hN T n a = 47 ∨ hN T n a = 37) := by
    have n1 := z9.1; have n2 := z9.2; omega
  refine ⟨U2, c2, ?_, y2, y3, z10, z11, y6, y7, y4, y5, y8⟩
  rw [z1, RSm, Lp_X12_readsSum_14, F_X12_readsSum_14, hh1, bd_some, sgn_eq hle1, bd_some, if_neg hng, if_pos rfl, hh1, bd_some]
  by_cases hc : hI (hN T n a) = 93
  · rw [if_pos hc, hos, bd_some, if_pos rfl, h139]
  · rw [if_neg hc, h139]
/-! leading the words that wait -/
def cO (q : Option Nat) : Nat := match q with
  | none => 0
  | some _ => 1
theorem cO_le (q : Option Nat) : cO q ≤ 1 := by
  cases q with
  | none => exact Nat.zero_le 1
  | some _ => exact Nat.le_refl 1
theorem land_1 {fu n p o c w q op N : Nat} {U : St} {T : Nat → Int32} {x1 : Int32} (h : RQ U T n p o c (w + 1)) (hw : w < 180) (hc : c < 1000) (hq : q < 180) (hop : op = 11 ∨ (op = 12 ∧ x1 = 1)) (hv : U 2252 0 w = nI (1048576 * op + q)) (hs : ∃ x, x < 2 ^ 31 ∧ U 2251 0 q = nI x ∧ x / 1048576 = op) : ∃ U', Lp_X12_lands_0 (F_X12_lands_76 fu) fu (N + 1) U x1 = Lp_X12_lands_0 (F_X12_lands_76 fu) fu N U' x1 ∧ Fr [2249, 2251] U U' ∧ RQ U' T n p o c w ∧ (∀ k, U' 2251 0 k = if k = q then nI (1048576 * op + c) else U 2251 0 k) := by
  obtain ⟨x, x1', x2, x3⟩ := hs
  have hop2 : op ≤ 12 := by omega
  have ht := top_S (fu := fu) (U := U) (x := 1048576 * op + q) hw (by omega) h.2.2.2.2 hv
  have hdv : (1048576 * op + q) / 1048576 = op := by omega
  rw [hdv] at ht
  have hmd : nI (1048576 * op + q) - nI (1048576 * op + q) / 1048576 * 1048576 = nI q := by
    rw [show (1048576 : Int32) = nI 1048576 from rfl, pk_rem (by omega) (by omega) (by omega)]
    congr 1; omega
  have e1 : nI (w + 1) - 1 = nI w := nI_pred w
  have g1 : ¬ (nI w < 0 ∨ 180 ≤ w) := fun w => w.elim (nI_pos (by omega)) (fun w => by omega)
  have g2 : ¬ (nI q < 0 ∨ 180 ≤ q) := fun w => w.elim (nI_pos (by omega)) (fun w => by omega)
  have e2 : nI x / 1048576 = nI op := by rw [show (1048576 : Int32) = nI 1048576 from rfl, pk_div x1' (by omega) (by omega), x3]
  have e3 : (1048576 : Int32) * nI op + nI c = nI (1048576 * op + c) := by rw [show (1048576 : Int32) = nI 1048576 from rfl, pk_mul, nI_add]
  have hF : Fr [2249, 2251] U (setV (setV U 2251 0 q (nI (1048576 * op + c))) 2249 0 0 (nI w)) := ((Fr.refl _ U).set (by decide)).set (by decide)
  have h22 : F_X12_lands_22 (Lp_X12_lands_0 (F_X12_lands_76 fu) fu N) (F_X12_lands_76 fu) fu U x1 = Lp_X12_lands_0 (F_X12_lands_76 fu) fu N (setV (setV U 2251 0 q (nI (1048576 * op + c))) 2249 0 0 (nI w)) x1 := by
    rw [F_X12_lands_22, h.2.2.2.2, e1, nI_clamp (show w < 2 ^ 31 by omega), gd_t g1, hv, hmd, nI_clamp (show q < 2 ^ 31 by omega), gd_t g2, gd_t g2, x2, e2, h.2.2.2.1, e3, bv_eq, setV_fn (show 2249 ≠ 2251 by decide), h.2.2.2.2, e1, bv_eq]
  refine ⟨_, ?_, hF, ⟨h.1.fr hF (by decide), ?_, ?_, ?_, ?_⟩, fun k => ?_⟩
  · rw [← h22, Lp_X12_lands_0, F_X12_lands_0, ht, bd_some]
    rcases hop with z | ⟨z, y⟩
    · subst z; rw [if_pos (show nI 11 = 11 from rfl)]
    · subst z y; rw [if_neg (show ¬ nI 12 = 11 by decide), if_neg (by decide), ht, bd_some, if_pos (show nI 12 = 12 from rfl)]
  · rw [hF 2243 (by decide)]; exact h.2.1
  · rw [hF 2247 (by decide)]; exact h.2.2.1
  · rw [hF 2248 (by decide)]; exact h.2.2.2.1
  · rw [setV_at, if_pos ⟨rfl, rfl⟩]
  · rw [setV_fn (by decide), setV_at]
    by_cases z : k = q
    · rw [if_pos ⟨rfl, z⟩, if_pos z]
    · rw [if_neg (fun y => z y.2), if_neg z]
theorem land_end {fu n p o c w N : Nat} {U : St} {T : Nat → Int32} {x1 : Int32} (h : RQ U T n p o c (w + 1)) (hw : w < 180) (hv : ∃ x, x < 2 ^ 31 ∧ U 2252 0 w = nI x ∧ x / 1048576 ≠ 11 ∧ (x1 = 0 ∨ x / 1048576 ≠ 12)) : Lp_X12_lands_0 (F_X12_lands_76 fu) fu (N + 1) U x1 = some (0, U) := by
  obtain ⟨x, v1, v2, v3, v4⟩ := hv
  have hlt : x / 1048576 < 2 ^ 31 := Nat.lt_of_le_of_lt (Nat.div_le_self _ _) v1
  have ht := top_S (fu := fu) (U := U) (x := x) hw v1 h.2.2.2.2 v2
  rw [Lp_X12_lands_0, F_X12_lands_0, ht, bd_some, if_neg (show ¬ nI (x / 1048576) = 11 from fun z => v3 ((nI_eq (b := 11) hlt (by omega)).mp z))]
  by_cases z : x1 = 0
  · rw [if_pos z, F_X12_lands_76]
  · rw [if_neg z, ht, bd_some, if_neg (show ¬ nI (x / 1048576) = 12 from fun y => (v4.resolve_left z) ((nI_eq (b := 12) hlt (by omega)).mp y)), F_X12_lands_76]
/-- what waits on a level: pO, pA; below them a mark that is none of theirs -/
def lvl (U : St) (w : Nat) (pO pA : Option Nat) (c : Nat) : Prop := 1 ≤ w ∧ (∃ x, x < 2 ^ 31 ∧ U 2252 0 (w - 1) = nI x ∧ 13 ≤ x / 1048576) ∧ (∀ q, pO = some q → q < c ∧ U 2252 0 w = nI (1048576 * 12 + q) ∧ ∃ x, x < 2 ^ 31 ∧ U 2251 0 q = nI x ∧ x / 1048576 = 12) ∧ (∀ q, pA = some q → q < c ∧ U 2252 0 (w + cO pO) = nI (1048576 * 11 + q) ∧ ∃ x, x < 2 ^ 31 ∧ U 2251 0 q = nI x ∧ x / 1048576 = 11) ∧ (pO = none ∨ pO ≠ pA)
theorem lands_R {fu n p o c w s0 : Nat} {U : St} {T : Nat → Int32} {pO pA : Option Nat} (hfu : 1000 ≤ fu) (h : RQ U T n p o c (w + cO pO + cO pA)) (hw : w + cO pO + cO pA ≤ 180) (hc : c ≤ 180) (hl : lvl U w pO pA c) : (∃ U', f_X12_lands fu U 0 = some (0, U') ∧ Fr [2249, 2251] U U' ∧ RQ U' T n p o c (w + cO pO) ∧ lnd (sdV U) (sdV U') s0 c pO pA false ∧ (∀ k, some k ≠ pA → U' 2251 0 k = U 2251 0 k) ∧ (∀ k, U 2251 0 k = U' 2251 0 k ∨ ¬ U' 2251 0 k < 0)) ∧ (∃ U', f_X12_lands fu U 1 = some (0, U') ∧ Fr [2249, 2251] U U' ∧ RQ U' T n p o c w ∧ lnd (sdV U) (sdV U') s0 c pO pA true ∧ (∀ k, some k ≠ pA → some k ≠ pO → U' 2251 0 k = U 2251 0 k) ∧ (∀ k, U 2251 0 k = U' 2251 0 k ∨ ¬ U' 2251 0 k < 0)) := by
  obtain ⟨fu', rfl⟩ : ∃ N', fu = N' + 3 := ⟨fu - 3, by omega⟩
  obtain ⟨hw1, ⟨xb, xb1, xb2, xb3⟩, hO, hA, hdj⟩ := hl
  have cO1 := cO_le pO
  have cA1 := cO_le pA
  -- the words of pA
  have stepA : ∀ x1 : Int32, ∃ U' N', Lp_X12_lands_0 (F_X12_lands_76 (fu' + 3)) (fu' + 3) (fu' + 3) U x1 = Lp_X12_lands_0 (F_X12_lands_76 (fu' + 3)) (fu' + 3) N' U' x1 ∧ fu' + 2 ≤ N' ∧ Fr [2249, 2251] U U' ∧ RQ U' T n p o c (w + cO pO) ∧ (∀ k, U' 2251 0 k = if some k = pA then nI (11534336 + c) else U 2251 0 k) := fun x1 => by
    cases pA with
    | none => exact ⟨U, fu' + 3, rfl, by omega, Fr.refl _ U, h, fun k => by rw [if_neg (fun z => (by cases z))]⟩
    | some q =>
      obtain ⟨a1, a2, a3⟩ := hA q rfl
      have hw' : w + cO pO + 1 ≤ 180 := hw
      obtain ⟨U', b1, b2, b3, b4⟩ := land_1 (fu := fu' + 3) (N := fu' + 2) (x1 := x1) (op := 11) (q := q) (w := w + cO pO) h (by omega) (by omega) (by omega) (.inl rfl) a2 a3
      refine ⟨U', fu' + 2, b1, Nat.le_refl _, b2, b3, fun k => ?_⟩
      rw [b4 k]
      by_cases z : k = q
      · rw [if_pos z, if_pos (by rw [z])]
      · rw [if_neg z, if_neg (fun y => z (Option.some.inj y))]
  constructor
  · obtain ⟨U', N', a1, a2, a3, a4, a5⟩ := stepA 0
    obtain ⟨N', rfl⟩ : ∃ N2, N' = N2 + 1 := ⟨N' - 1, by omega⟩
    refine ⟨U', ?_, a3, a4, ⟨fun k k1 k2 _ k4 => ?_, fun z => (by cases z), fun q hq => ?_⟩, fun k hk => by rw [a5 k, if_neg hk], fun k => ?_⟩
    · rw [f_X12_lands, a1]
      cases pO with
      | none =>
        obtain ⟨v, rfl⟩ : ∃ v, w = v + 1 := ⟨w - 1, by omega⟩
        exact land_end (w := v) a4 (by omega) ⟨xb, xb1, by rw [a3 2252 (by decide)]; exact xb2, by omega, .inl rfl⟩
      | some q =>
        obtain ⟨b1, b2, b3⟩ := hO q rfl
        have hw' : w + 1 + cO pA ≤ 180 := hw
        exact land_end (w := w) a4 (by omega) ⟨1048576 * 12 + q, by omega, by rw [a3 2252 (by decide)]; exact b2, by omega, .inl rfl⟩
    · unfold sdV; rw [a5 k, if_neg k4]
    · unfold sdV; rw [a5 q, if_pos hq.symm, nI_clamp (by omega)]
    · rw [a5 k]
      by_cases z : some k = pA
      · rw [if_pos z]; exact .inr (nI_pos (by omega))
      · rw [if_neg z]; exact .inl rfl
  · obtain ⟨U', N', a1, a2, a3, a4, a5⟩ := stepA 1
    obtain ⟨N', rfl⟩ : ∃ N2, N' = N2 + 2 := ⟨N' - 2, by omega⟩
    obtain ⟨v, hv⟩ : ∃ v, w = v + 1 := ⟨w - 1, by omega⟩
    cases pO with
    | none =>
      refine ⟨U', ?_, a3, a4, ⟨fun k k1 k2 _ k4 => ?_, fun _ q hq => (by cases hq), fun q hq => ?_⟩, fun k hk _ => by rw [a5 k, if_neg hk], fun k => ?_⟩
      · rw [f_X12_lands, a1]
        subst hv
        exact land_end (w := v) a4 (by omega) ⟨xb, xb1, by rw [a3 2252 (by decide)]; exact xb2, by omega, .inr (by omega)⟩
      · unfold sdV; rw [a5 k, if_neg k4]
      · unfold sdV; rw [a5 q, if_pos hq.symm, nI_clamp (by omega)]
      · rw [a5 k]
        by_cases z : some k = pA
        · rw [if_pos z]; exact .inr (nI_pos (by omega))
        · rw [if_neg z]; exact .inl rfl
    | some q =>
      obtain ⟨b1, b2, b3⟩ := hO q rfl
      have hne : some q ≠ pA := hdj.resolve_left (fun z => (by cases z))
      have hw' : w + 1 + cO pA ≤ 180 := hw
      obtain ⟨U2, c1, c2, c3, c4⟩ := land_1 (fu := fu' + 3) (N := N' + 1) (x1 := 1) (op := 12) (q := q) (w := w) a4 (by omega) (by omega) (by omega) (.inr ⟨rfl, rfl⟩) (by rw [a3 2252 (by decide)]; exact b2) (by rw [a5 q, if_neg hne]; exact b3)
      refine ⟨U2, ?_, a3.trans c2, c3, ⟨fun k k1 k2 k3 k4 => ?_, fun _ q' hq => ?_, fun q' hq => ?_⟩, fun k hk hk2 => ?_, fun k => ?_⟩
      · rw [f_X12_lands, a1, c1]
        subst hv
        exact land_end (w := v) c3 (by omega) ⟨xb, xb1, by rw [c2 2252 (by decide), a3 2252 (by decide)]; exact xb2, by omega, .inr (by omega)⟩
      · unfold sdV; rw [c4 k, if_neg (fun z => k3 rfl (by rw [z])), a5 k, if_neg k4]
      · have : q = q' := Option.some.inj hq
        subst this
        unfold sdV; rw [c4 q, if_pos rfl, nI_clamp (by omega)]
      · have hne2 : ¬ q' = q := fun z => hne (by rw [← z]; exact hq.symm)
        unfold sdV; rw [c4 q', if_neg hne2, a5 q', if_pos hq.symm, nI_clamp (by omega)]
      · rw [c4 k, if_neg (fun z => hk2 (by rw [z])), a5 k, if_neg hk]
      · rw [c4 k]
        by_cases y : k = q
        · rw [if_pos y]; exact .inr (nI_pos (by omega))
        · rw [if_neg y, a5 k]
          by_cases z : some k = pA
          · rw [if_pos z]; exact .inr (nI_pos (by omega))
          · rw [if_neg z]; exact .inl rfl
def jmV (U : St) (p c w op : Nat) : St := setV (syV (setV (setV U 2252 0 w (nI (1048576 * op + c))) 2249 0 0 (nI (w + 1))) c (1048576 * op)) 2243 0 0 (nI (p + 1))
theorem jumps_R {fu n p o c w op : Nat} {U : St} {T : Nat → Int32} (h : RQ U T n p o c w) (hw : w < 180) (hc : c < 180) (hop : op ≤ 14) : f_X12_jumps fu U (nI op) = some (0, jmV U p c w op) ∧ RQ (jmV U p c w op) T n (p + 1) o (c + 1) (w + 1) ∧ Fr rfw U (jmV U p c w op) ∧ jmV U p c w op 2252 0 w = nI (1048576 * op + c) ∧ agW U (jmV U p c w op) w ∧ agS U (jmV U p c w op) 0 c ∧ jmV U p c w op 2251 0 c = nI (1048576 * op) := by
  obtain ⟨h1, h2, h3, h4, h5⟩ := h
  have g : ¬ (nI w < 0 ∨ 180 ≤ w) := fun w => w.elim (nI_pos (by omega)) (fun w => by omega)
  have e3 : (1048576 : Int32) * nI op + nI c = nI (1048576 * op + c) := by rw [show (1048576 : Int32) = nI 1048576 from rfl, pk_mul, nI_add]
  have hF0 : Fr [2249, 2252] U (setV (setV U 2252 0 w (nI (1048576 * op + c))) 2249 0 0 (nI (w + 1))) := ((Fr.refl _ U).set (by decide)).set (by decide)
  have hF1 := syV_fr (setV (setV U 2252 0 w (nI (1048576 * op + c))) 2249 0 0 (nI (w + 1))) c (1048576 * op)
  have hF : Fr rfw U (jmV U p c w op) := ((Fr.weak hF0 (by decide)).trans (Fr.weak hF1 (by decide))).set (by decide)
  have hsy := says_R (fu := fu) (op := op) (v := 0) (U := setV (setV U 2252 0 w (nI (1048576 * op + c))) 2249 0 0 (nI (w + 1))) hc (by rw [hF0 2248 (by decide)]; exact h4)
  rw [Nat.add_zero (1048576 * op), nI_0] at hsy
  refine ⟨?_, ⟨h1.fr hF (by decide), ?_, ?_, ?_, ?_⟩, hF, ?_, fun i hi => ?_, fun k _ k2 => ?_, ?_⟩
  · rw [f_X12_jumps, h5, nI_clamp (show w < 2 ^ 31 by omega), gd_t g, h4, e3, bv_eq, setV_fn (show 2249 ≠ 2252 by decide), h5, nI_1, bv_eq, hsy, bd_some, hF1 2243 (by decide), hF0 2243 (by decide), h2, nI_1, bv_eq]
    rfl
  · unfold jmV; rw [setV_at, if_pos ⟨rfl, rfl⟩]
  · unfold jmV; rw [setV_fn (by decide), hF1 2247 (by decide), hF0 2247 (by decide)]; exact h3
  · unfold jmV; rw [setV_fn (by decide)]; exact syV_sz
  · unfold jmV; rw [setV_fn (by decide), hF1 2249 (by decide), setV_at, if_pos ⟨rfl, rfl⟩]
  · unfold jmV; rw [setV_fn (by decide), hF1 2252 (by decide), setV_fn (by decide), setV_at, if_pos ⟨rfl, rfl⟩]
  · unfold jmV; rw [setV_fn (by decide), hF1 2252 (by decide), setV_fn (by decide), setV_at, if_neg (fun z => by omega)]
  · unfold jmV; rw [setV_fn (by decide), syV_old (by omega), hF0 2251 (by decide)]
  · unfold jmV; rw [setV_fn (by decide), syV_new]
