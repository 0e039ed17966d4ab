/-! the reference's isBearing -/
theorem cut_le {A B c : Nat → Nat} {S : Nat → Bool} : ∀ n, cut n A B c S ≤ 60 * n := by
  intro n
  induction n with
  | zero => exact Nat.le_refl 0
  | succ n ih =>
    unfold cut at ih ⊢
    unfold sN
    have := tbo_le (c n)
    split <;> omega
def RfB (V : St) (d j s l : Nat) (A B LJ LP c : Nat → Nat) : Prop := d < 22 ∧ j ≤ 8 ∧ s ≤ 8 ∧ l ≤ 8 ∧ V 2209 0 d = nI s ∧ V 2210 0 d = nI l ∧ (∀ k, k < s → A k < j ∧ B k < j ∧ A k ≠ B k ∧ c k < 3 ∧ V 2211 0 (8 * d + k) = nI (A k) ∧ V 2212 0 (8 * d + k) = nI (B k) ∧ V 2226 0 k = nI (c k)) ∧ ∀ q, q < l → 1 ≤ LJ q ∧ LJ q < j ∧ LP q ≤ 500 ∧ V 2214 0 (8 * d + q) = nI (LJ q) ∧ V 2215 0 (8 * d + q) = nI (LP q)
theorem RfB.fr {V V' : St} {d j s l : Nat} {A B LJ LP c : Nat → Nat} (h : RfB V d j s l A B LJ LP c) (hF : Fr [2228, 2229] V V') : RfB V' d j s l A B LJ LP c := by
  unfold RfB at h ⊢
  rw [hF 2209 (by decide), hF 2210 (by decide), hF 2211 (by decide), hF 2212 (by decide), hF 2226 (by decide), hF 2214 (by decide), hF 2215 (by decide)]; exact h
theorem led_le {d j s src : Nat} {V : St} {A B c : Nat → Nat} {fl : Nat → Int} {led : Int} (hs0 : src ≠ 0) (h : RfD V d j s A B c fl) (hl : LedF s A B fl src led) : led ≤ 480 := by
  have hx := h.2.2.2.2
  have hs := h.2.2.1
  have h1 := hl (fun v => decide (v = src)) (by simp) (by simp; exact fun z => hs0 z.symm)
  have h2 := net_le (s := s) (A := A) (B := B) (S := fun v => decide (v = src)) (fl := fl) (cap := fun k => (tbo (c k) : Int)) (fun k hk => by
    obtain ⟨a1, a2, a3, a4, a5, a6, a7, a8, a9, a10⟩ := hx k hk
    exact ⟨a9, a10⟩)
  rw [cutI_cut] at h2
  have h3 := cut_le (A := A) (B := B) (c := c) (S := fun v => decide (v = src)) s
  omega
theorem lb_flow {fu d j s q src : Nat} {A B c : Nat → Nat} {kx : St → Int32 → Int32 → Int32 → RR} (hfu : 1000 ≤ fu) (hsrc : src < 8) (hs0 : src ≠ 0) (hq : 8 * d + q < 176) : ∀ (n N : Nat) (W : St) (fl : Nat → Int) (led m : Int), RfD W d j s A B c fl → W 2214 0 (8 * d + q) = nI src → LedF s A B fl src led → 0 ≤ led → 480 - led < n → n + 1 ≤ N → 1 ≤ m → m ≤ 100000 → ∃ W' led', Lp_X12_isBearing_38 kx fu N W (nI d) (nI q) (zI led) (zI m) = kx W' (nI d) (nI q) (zI led') ∧ Fr [2228, 2229] W W' ∧ 0 ≤ led' ∧ led' ≤ 480 ∧ ∀ p : Nat, ((p : Int) ≤ led') ↔ ∀ S : Nat → Bool, S 0 = false → S src = true → p ≤ cut s A B c S := by
  intro n
  induction n with
  | zero =>
    intro N W fl led m h _ hl h0 h1
    have := led_le hs0 h hl
    omega
  | succ n ih =>
    intro N W fl led m h hw hl h0 h1 hN hm hm2
    obtain ⟨N, rfl⟩ : ∃ N', N = N' + 1 := ⟨N - 1, by omega⟩
    have hle := led_le hs0 h hl
    have hpos : ¬ zI m ≤ 0 := by
      have e0 : (0 : Int32) = zI 0 := rfl
      rw [e0, zI_le (by omega) (by omega) (by omega) (by omega)]; omega
    have hun : ∀ r V1, f_X12_moreFlow fu W (nI d) (nI src) = some (r, V1) → Lp_X12_isBearing_38 kx fu (N + 1) W (nI d) (nI q) (zI led) (zI m) = Lp_X12_isBearing_38 kx fu N V1 (nI d) (nI q) (zI led + r) r := fun r V1 hr => by
      simp (disch := omega) only [Lp_X12_isBearing_38, F_X12_isBearing_38, hpos, ix8, hw, hr, bd_some, n10, n00, bv_eq, within_eq, in_eq, gd_T, gd_t, i00, i10, c_0, c_1, c_m1, ite10, ite01, setV_fn, setV_at, cntS, nI_pos, nI_clamp, nI_leI, nI_ltI, nI_eq, nI_1, if_true, if_false, not_true, not_false, and_self, and_true, true_and, false_and, and_false, or_false, false_or, or_true, true_or, not_false_eq_true, ite_self, ite_true, ite_false, reduceIte, Nat.reduceEqDiff, Nat.reduceMul, Nat.reduceAdd, Nat.reduceLT, Nat.reducePow, ne_eq]
    rcases moreFlow_eq hfu hsrc hs0 h with ⟨V', a1, a2, a3, S0, a4, a5, a6, a7⟩ | ⟨V', m', fl', a1, a2, a3, a4, a5, a6⟩
    · refine ⟨V', led, ?_, a2, h0, hle, fun p => ?_⟩
      · obtain ⟨N, rfl⟩ : ∃ N', N = N' + 1 := ⟨N - 1, by omega⟩
        rw [hun _ _ a1, Lp_X12_isBearing_38, F_X12_isBearing_38, if_pos (by decide)]
        congr 1
        exact Int32.add_zero _
      · exact bears_one (fun k hk => by
          obtain ⟨a1, a2, a3, a4, a5, a6, a7, a8, a9, a10⟩ := a3.2.2.2.2 k hk
          exact ⟨a9, a10⟩) hl a4 a5 a6 a7
    · obtain ⟨W', led', b1, b2, b3, b4, b5⟩ := ih N V' fl' (led + m') m' a5 (by rw [a2 2214 (by decide)]; exact hw) (a6 led hl) (by omega) (by omega) (by omega) a3 a4
      refine ⟨W', led', ?_, a2.trans b2, b3, b4, b5⟩
      rw [hun _ _ a1, zI_add]; exact b1
theorem lb_clear {fu : Nat} {x1 x2 : Int32} {kx : St → Int32 → Int32 → RR} : ∀ (r N i : Nat) (V : St), i + r = 8 → r < N → ∃ W, Lp_X12_isBearing_14 kx fu N V x1 x2 (nI i) = kx W x1 x2 ∧ Fr [2228] V W ∧ ∀ q, q < 8 → W 2228 0 q = if i ≤ q then 0 else V 2228 0 q := by
  intro r
  induction r with
  | zero =>
    intro N i V hi hN
    obtain ⟨N, rfl⟩ : ∃ N', N = N' + 1 := ⟨N - 1, by omega⟩
    have : i = 8 := by omega
    subst this
    refine ⟨V, ?_, Fr.refl _ V, fun q hq => by rw [if_neg (by omega)]⟩
    rw [Lp_X12_isBearing_14, F_X12_isBearing_14, if_pos (by decide)]
  | succ r ih =>
    intro N i V hi hN
    obtain ⟨N, rfl⟩ : ∃ N', N = N' + 1 := ⟨N - 1, by omega⟩
    have hlt : ¬ (8 : Int32) ≤ nI i := nI_ge (b := 8) (by omega) (by omega)
    obtain ⟨W, a1, a2, a3⟩ := ih N (i + 1) (setV V 2228 0 i 0) (by omega) (by omega)
    refine ⟨W, ?_, ((Fr.refl _ V).set (by decide)).trans a2, fun q hq => ?_⟩
    · rw [← a1]
      simp (disch := omega) only [Lp_X12_isBearing_14, F_X12_isBearing_14, hlt, bd_some, n10, n00, bv_eq, within_eq, in_eq, gd_T, gd_t, i00, i10, c_0, c_1, c_m1, ite10, ite01, setV_fn, setV_at, cntS, nI_pos, nI_clamp, nI_leI, nI_ltI, nI_eq, nI_1, if_true, if_false, not_true, not_false, and_self, and_true, true_and, false_and, and_false, or_false, false_or, or_true, true_or, not_false_eq_true, ite_self, ite_true, ite_false, reduceIte, Nat.reduceEqDiff, Nat.reduceMul, Nat.reduceAdd, Nat.reduceLT, Nat.reducePow, ne_eq]
    · rw [a3 q hq, setV_at]
      by_cases z : q = i
      · subst z
        rw [if_neg (by omega), if_pos ⟨rfl, rfl⟩, if_pos (Nat.le_refl q)]
      · rw [if_neg (show ¬ (0 = 0 ∧ q = i) from fun y => z y.2)]
        have : (i + 1 ≤ q) = (i ≤ q) := by apply propext; omega
        simp only [this]
theorem isBearing_eq {fu d j s l : Nat} {V : St} {A B LJ LP c : Nat → Nat} (hfu : 1000 ≤ fu) (h : RfB V d j s l A B LJ LP c) : ∃ V1, Fr [2228, 2229] V V1 ∧ ((Bears s l A B LJ LP c ∧ f_X12_isBearing fu V (nI d) = some (1, V1)) ∨ (¬ Bears s l A B LJ LP c ∧ f_X12_isBearing fu V (nI d) = some (0, V1))) := by
  have key : ∀ (r N q : Nat) (W : St), q + r = l → r < N → RfB W d j s l A B LJ LP c → (∀ q', q' < q → ∀ S : Nat → Bool, S 0 = false → S (LJ q') = true → LP q' ≤ cut s A B c S) → ∃ V1, Fr [2228, 2229] W V1 ∧ ((Bears s l A B LJ LP c ∧ Lp_X12_isBearing_2 (F_X12_isBearing_84 fu) (F_X12_isBearing_92 fu) fu N W (nI d) (nI q) = some (1, V1)) ∨ (¬ Bears s l A B LJ LP c ∧ Lp_X12_isBearing_2 (F_X12_isBearing_84 fu) (F_X12_isBearing_92 fu) fu N W (nI d) (nI q) = some (0, V1))) := by
    intro r
    induction r with
    | zero =>
      intro N q W hq hN hW hB
      obtain ⟨N, rfl⟩ : ∃ N', N = N' + 1 := ⟨N - 1, by omega⟩
      have : q = l := by omega
      subst this
      obtain ⟨hd, hj, hs, hl, e1, e2, hst, hlo⟩ := hW
      have hle : q ≤ q := Nat.le_refl q
      refine ⟨W, Fr.refl _ W, .inl ⟨fun S hS q' hq' hS' => hB q' hq' S hS hS', ?_⟩⟩
      simp (disch := omega) only [Lp_X12_isBearing_2, F_X12_isBearing_2, F_X12_isBearing_92, e2, hle, bd_some, n10, n00, bv_eq, within_eq, in_eq, gd_T, gd_t, i00, i10, c_0, c_1, c_m1, ite10, ite01, setV_fn, setV_at, cntS, nI_pos, nI_clamp, nI_leI, nI_ltI, nI_eq, nI_1, if_true, if_false, not_true, not_false, and_self, and_true, true_and, false_and, and_false, or_false, false_or, or_true, true_or, not_false_eq_true, ite_self, ite_true, ite_false, reduceIte, Nat.reduceEqDiff, Nat.reduceMul, Nat.reduceAdd, Nat.reduceLT, Nat.reducePow, ne_eq]
    | succ r ih =>
      intro N q W hq hN hW hB
      obtain ⟨N, rfl⟩ : ∃ N', N = N' + 1 := ⟨N - 1, by omega⟩
      have hWW := hW
      obtain ⟨hd, hj, hs, hl, e1, e2, hst, hlo⟩ := hW
      have hle : ¬ l ≤ q := by omega
      obtain ⟨g1, g2, g3, g4, g5⟩ := hlo q (by omega)
      obtain ⟨W1, a1, a2, a3⟩ := lb_clear (fu := fu) (x1 := nI d) (x2 := nI q) (kx := F_X12_isBearing_33 (Lp_X12_isBearing_2 (F_X12_isBearing_84 fu) (F_X12_isBearing_92 fu) fu N) (F_X12_isBearing_84 fu) (F_X12_isBearing_92 fu) fu) 8 fu 0 W (by omega) (by omega)
      rw [nI_0] at a1
      have hF1 : Fr [2228, 2229] W W1 := a2.weak (by decide)
      have hW1 := hWW.fr hF1
      obtain ⟨-, -, -, -, f1, f2, fst, flo⟩ := hW1
      have hR : RfD W1 d j s A B c (fun _ => 0) := ⟨hd, hj, hs, f1, fun k hk => by
        obtain ⟨k1, k2, k3, k4, k5, k6, k7⟩ := fst k hk
        refine ⟨k1, k2, k3, k4, k5, k6, k7, ?_, by show -(tbo (c k) : Int) ≤ 0; omega, by show (0 : Int) ≤ tbo (c k); omega⟩
        rw [a3 k (by omega), if_pos (by omega)]; rfl⟩
      have hL0 : LedF s A B (fun _ => 0) (LJ q) 0 := fun S _ _ => by
        have : ∀ n, sI (fun k => (0 : Int) * (ind (S (A k)) - ind (S (B k)))) n = 0 := by
          intro n
          induction n with
          | zero => rfl
          | succ n ih => rw [sI, ih, Int.zero_mul]; rfl
        exact this s
      obtain ⟨W2, led, b1, b2, b3, b4, b5⟩ := lb_flow (fu := fu) (kx := F_X12_isBearing_69 (Lp_X12_isBearing_2 (F_X12_isBearing_84 fu) (F_X12_isBearing_92 fu) fu N) (F_X12_isBearing_84 fu) (F_X12_isBearing_92 fu) fu) (q := q) hfu (show LJ q < 8 by omega) (by omega) (by omega) 500 fu W1 _ 0 1 hR (flo q (by omega)).2.2.2.1 hL0 (by omega) (by omega) (by omega) (by omega) (by omega)
      have hF2 : Fr [2228, 2229] W W2 := hF1.trans b2
      have hW2 := hWW.fr hF2
      obtain ⟨-, -, -, -, -, -, -, flo2⟩ := hW2
      have w5 := (flo2 q (by omega)).2.2.2.2
      have hun : Lp_X12_isBearing_2 (F_X12_isBearing_84 fu) (F_X12_isBearing_92 fu) fu (N + 1) W (nI d) (nI q) = F_X12_isBearing_69 (Lp_X12_isBearing_2 (F_X12_isBearing_84 fu) (F_X12_isBearing_92 fu) fu N) (F_X12_isBearing_84 fu) (F_X12_isBearing_92 fu) fu W2 (nI d) (nI q) (zI led) := by
        rw [← b1]
        simp (disch := omega) only [Lp_X12_isBearing_2, F_X12_isBearing_2, e2, hle, bd_some, n10, n00, bv_eq, within_eq, in_eq, gd_T, gd_t, i00, i10, c_0, c_1, c_m1, ite10, ite01, setV_fn, setV_at, cntS, nI_pos, nI_clamp, nI_leI, nI_ltI, nI_eq, nI_1, if_true, if_false, not_true, not_false, and_self, and_true, true_and, false_and, and_false, or_false, false_or, or_true, true_or, not_false_eq_true, ite_self, ite_true, ite_false, reduceIte, Nat.reduceEqDiff, Nat.reduceMul, Nat.reduceAdd, Nat.reduceLT, Nat.reducePow, ne_eq]
        rw [a1, F_X12_isBearing_33]
        rfl
      have hcmp : (nI (LP q) ≤ zI led) ↔ ((LP q : Nat) : Int) ≤ led := by
        rw [← zI_nat]; exact zI_le (by omega) (by omega) (by omega) (by omega)
      by_cases cc : ((LP q : Nat) : Int) ≤ led
      · have c2 := hcmp.mpr cc
        obtain ⟨V1, d1, d2⟩ := ih N (q + 1) W2 (by omega) (by omega) (hWW.fr hF2) (fun q' hq' S hS hS' => by
          by_cases z : q' = q
          · subst z; exact (b5 (LP q')).mp cc S hS hS'
          · exact hB q' (by omega) S hS hS')
        refine ⟨V1, hF2.trans d1, ?_⟩
        have : Lp_X12_isBearing_2 (F_X12_isBearing_84 fu) (F_X12_isBearing_92 fu) fu (N + 1) W (nI d) (nI q) = Lp_X12_isBearing_2 (F_X12_isBearing_84 fu) (F_X12_isBearing_92 fu) fu N W2 (nI d) (nI (q + 1)) := by
          rw [hun]
          simp (disch := omega) only [F_X12_isBearing_69, ix8, w5, c2, bd_some, n10, n00, bv_eq, within_eq, in_eq, gd_T, gd_t, i00, i10, c_0, c_1, c_m1, ite10, ite01, setV_fn, setV_at, cntS, nI_pos, nI_clamp, nI_leI, nI_ltI, nI_eq, nI_1, if_true, if_false, not_true, not_false, and_self, and_true, true_and, false_and, and_false, or_false, false_or, or_true, true_or, not_false_eq_true, ite_self, ite_true, ite_false, reduceIte, Nat.reduceEqDiff, Nat.reduceMul, Nat.reduceAdd, Nat.reduceLT, Nat.reducePow, ne_eq]
        rw [this]; exact d2
      · have c2 : ¬ nI (LP q) ≤ zI led := fun z => cc (hcmp.mp z)
        refine ⟨W2, hF2, .inr ⟨fun hb => cc ((b5 (LP q)).mpr (fun S hS hS' => hb S hS q (by omega) hS')), ?_⟩⟩
        rw [hun]
        simp (disch := omega) only [F_X12_isBearing_69, F_X12_isBearing_84, ix8, w5, c2, bd_some, n10, n00, bv_eq, within_eq, in_eq, gd_T, gd_t, i00, i10, c_0, c_1, c_m1, ite10, ite01, setV_fn, setV_at, cntS, nI_pos, nI_clamp, nI_leI, nI_ltI, nI_eq, nI_1, if_true, if_false, not_true, not_false, and_self, and_true, true_and, false_and, and_false, or_false, false_or, or_true, true_or, not_false_eq_true, ite_self, ite_true, ite_false, reduceIte, Nat.reduceEqDiff, Nat.reduceMul, Nat.reduceAdd, Nat.reduceLT, Nat.reducePow, ne_eq]
  have hl := h.2.2.2.1
  obtain ⟨V1, a1, a2⟩ := key l fu 0 V (by omega) (by omega) h (fun q' hq' => by omega)
  exact ⟨V1, a1, a2⟩
/-! bears -/
theorem DrawV.toC {V : St} {nD d j s l : Nat} {A B T LJ LP : Nat → Nat} (h : DrawV V d j s l A B T LJ LP) (hd : d < nD) (h22 : nD ≤ 22) (hn : V 2104 0 0 = nI nD) : DrC V nD d j s l A B LJ LP := by
  obtain ⟨b1, b2, b3, b4, e5, e6, e7, e8, b9, b10, b11, b12, b13⟩ := h
  refine ⟨hd, h22, hn, b1, b2, b3, b4, e5, e7, b9, fun k hk => ?_, fun k hk => ?_⟩
  · obtain ⟨a1, a2, a3, a4, a5, a6, a7, a8, a9, a10⟩ := b11 k hk
    exact ⟨a1, a2, a5, a7⟩
  · obtain ⟨a1, a2, a3, a4, a5, a6, a7, a8⟩ := b12 k hk
    exact ⟨a1, a2, a3, a4, a5, a7⟩
theorem DrawV.toB {V : St} {nD d j s l : Nat} {A B T LJ LP c : Nat → Nat} (h : DrawV V d j s l A B T LJ LP) (hd : d < nD) (h22 : nD ≤ 22) (hc : ∀ k, k < s → c k < 3 ∧ V 2226 0 k = nI (c k)) : RfB V d j s l A B LJ LP c := by
  obtain ⟨b1, b2, b3, b4, e5, e6, e7, e8, b9, b10, b11, b12, b13⟩ := h
  refine ⟨by omega, b2, b3, b4, e8, b10, fun k hk => ?_, fun k hk => ?_⟩
  · obtain ⟨a1, a2, a3, a4, a5, a6, a7, a8, a9, a10⟩ := b11 k hk
    exact ⟨a1, a2, a3, (hc k hk).1, a6, a8, (hc k hk).2⟩
  · obtain ⟨a1, a2, a3, a4, a5, a6, a7, a8⟩ := b12 k hk
    exact ⟨a1, a2, a4, a6, a8⟩
theorem DrawV.fr {V V' : St} {d j s l : Nat} {A B T LJ LP : Nat → Nat} {ws : List Nat} (h : DrawV V d j s l A B T LJ LP) (hF : Fr ws V V') (hd : vI_draw.all (fun v => !ws.contains v) = true) : DrawV V' d j s l A B T LJ LP := by
  have e := hF.all hd
  unfold DrawV at h ⊢
  rw [e 1201 (by decide), e 1202 (by decide), e 1203 (by decide), e 1204 (by decide), e 1205 (by decide), e 1206 (by decide), e 1211 (by decide), e 1212 (by decide), e 1213 (by decide), e 1215 (by decide), e 1216 (by decide), e 2208 (by decide), e 2209 (by decide), e 2210 (by decide), e 2211 (by decide), e 2212 (by decide), e 2213 (by decide), e 2214 (by decide), e 2215 (by decide)]; exact h
theorem lb_copy {fu d s : Nat} {kx : St → Int32 → RR} {T : Nat → Nat} (hd : d < 22) (hs : s ≤ 8) : ∀ (r N i : Nat) (V : St), i + r = s → r < N → V 2209 0 d = nI s → (∀ k, k < s → V 2213 0 (8 * d + k) = nI (T k)) → (∀ k, k < i → V 2226 0 k = nI (T k)) → ∃ W, Lp_X12_bears_12 kx fu N V (nI d) (nI i) = kx W (nI d) ∧ Fr [2226] V W ∧ ∀ k, k < s → W 2226 0 k = nI (T k) := by
  intro r
  induction r with
  | zero =>
    intro N i V hi hN e1 e2 e3
    obtain ⟨N, rfl⟩ : ∃ N', N = N' + 1 := ⟨N - 1, by omega⟩
    have : i = s := by omega
    subst this
    have hle : i ≤ i := Nat.le_refl i
    refine ⟨V, ?_, Fr.refl _ V, e3⟩
    simp (disch := omega) only [Lp_X12_bears_12, F_X12_bears_12, e1, hle, bd_some, n10, n00, bv_eq, within_eq, in_eq, gd_T, gd_t, i00, i10, c_0, c_1, c_m1, ite10, ite01, setV_fn, setV_at, cntS, nI_pos, nI_clamp, nI_leI, nI_ltI, nI_eq, nI_1, if_true, if_false, not_true, not_false, and_self, and_true, true_and, false_and, and_false, or_false, false_or, or_true, true_or, not_false_eq_true, ite_self, ite_true, ite_false, reduceIte, Nat.reduceEqDiff, Nat.reduceMul, Nat.reduceAdd, Nat.reduceLT, Nat.reducePow, ne_eq]
  | succ r ih =>
    intro N i V hi hN e1 e2 e3
    obtain ⟨N, rfl⟩ : ∃ N', N = N' + 1 := ⟨N - 1, by omega⟩
    have hle : ¬ s ≤ i := by omega
    have w2 := e2 i (by omega)
    obtain ⟨W, a1, a2, a3⟩ := ih N (i + 1) (setV V 2226 0 i (nI (T i))) (by omega) (by omega) (by simp (disch := omega) only [setV_fn]; exact e1) (fun k hk => by simp (disch := omega) only [setV_fn]; exact e2 k hk) (fun k hk => by
      rw [setV_at]
      by_cases z : k = i
      · subst z; rw [if_pos ⟨rfl, rfl⟩]
      · rw [if_neg (fun y => z y.2)]; exact e3 k (by omega))
    refine ⟨W, ?_, ((Fr.refl _ V).set (by decide)).trans a2, a3⟩
    rw [← a1]
    simp (disch := omega) only [Lp_X12_bears_12, F_X12_bears_12, e1, hle, ix8, w2, bd_some, n10, n00, bv_eq, within_eq, in_eq, gd_T, gd_t, i00, i10, c_0, c_1, c_m1, ite10, ite01, setV_fn, setV_at, cntS, nI_pos, nI_clamp, nI_leI, nI_ltI, nI_eq, nI_1, if_true, if_false, not_true, not_false, and_self, and_true, true_and, false_and, and_false, or_false, false_or, or_true, true_or, not_false_eq_true, ite_self, ite_true, ite_false, reduceIte, Nat.reduceEqDiff, Nat.reduceMul, Nat.reduceAdd, Nat.reduceLT, Nat.reducePow, ne_eq]
theorem P_bears {fu k : Nat} {V : St} (hfu : 1000 ≤ fu) (hI : Inv k V) (xd : Int32) : Step k (fun V => f_X11_bears fu V xd) (fun V => f_X12_bears fu V xd) V := by
  have hI' := hI
  obtain ⟨nC, nD, nT, nM, nP, nK, nS, nR, nL, nO, hL, hmi, hta, hcl, hdr, hth, hla, hma, hor, hpe, hdo, hse, hru, hmk⟩ := hI
  have hdr' := hdr
  obtain ⟨h22, hn1, hn2, hfr, hx⟩ := hdr
  have hc : cntV V 2104 = nD := cnt_n (by decide) (by omega) hn1
  rcases ix_or xd (show nD < 2 ^ 31 by omega) with hv | ⟨d, hd, rfl⟩
  · refine Step.same (r := -1) ?_ ?_ hI'
    · simp (disch := omega) only [f_X11_bears, findDrawing_no hn1 (by omega) hv, bd_some, n10, n00, bv_eq, within_eq, in_eq, gd_T, gd_t, i00, i10, c_0, c_1, c_m1, ite10, ite01, setV_fn, setV_at, cntS, nI_pos, nI_clamp, nI_leI, nI_ltI, nI_eq, nI_1, if_true, if_false, not_true, not_false, and_self, and_true, true_and, false_and, and_false, or_false, false_or, or_true, true_or, not_false_eq_true, ite_self, ite_true, ite_false, reduceIte, Nat.reduceEqDiff, Nat.reduceMul, Nat.reduceAdd, Nat.reduceLT, Nat.reducePow, ne_eq]
    · simp (disch := omega) only [f_X12_bears, isDrawing_no hn2 hv, bd_some, n10, n00, bv_eq, within_eq, in_eq, gd_T, gd_t, i00, i10, c_0, c_1, c_m1, ite10, ite01, setV_fn, setV_at, cntS, nI_pos, nI_clamp, nI_leI, nI_ltI, nI_eq, nI_1, if_true, if_false, not_true, not_false, and_self, and_true, true_and, false_and, and_false, or_false, false_or, or_true, true_or, not_false_eq_true, ite_self, ite_true, ite_false, reduceIte, Nat.reduceEqDiff, Nat.reduceMul, Nat.reduceAdd, Nat.reduceLT, Nat.reducePow, ne_eq]
  obtain ⟨j, s, l, A, B, T, LJ, LP, hD⟩ := hx d hd
  have hfd : ∀ fu, f_X11_findDrawing fu V (nI d) = some (nI d, V) := fun fu => findDrawing_ok hn1 (by omega) hd
  have hb11 := hD.2.2.2.2.2.2.2.2.2.2.1
  obtain ⟨V1, a1, a2⟩ := holdsUp_eq (fu := fu) (T := T) hfu (hD.toC hd h22 hn1) (fun k hk => ⟨(hb11 k hk).2.2.2.1, (hb11 k hk).2.2.2.2.2.2.2.2.1⟩)
  have hD1 := hD.fr a1 (by decide)
  have hn21 : V1 2203 0 0 = nI nD := by rw [a1 2203 (by decide)]; exact hn2
  have hid : ∀ fu, f_X12_isDrawing fu V1 (nI d) = some (1, V1) := fun fu => isDrawing_ok hn21 (by omega) hd
  have hb11' := hD1.2.2.2.2.2.2.2.2.2.2.1
  have hs8 := hD1.2.2.1
  obtain ⟨V2, b1, b2, b3⟩ := lb_copy (fu := fu) (kx := F_X12_bears_45 fu) (T := T) (d := d) (s := s) (by omega) hs8 s fu 0 V1 (by omega) (by omega) hD1.2.2.2.2.2.2.2.1 (fun k hk => (hb11' k hk).2.2.2.2.2.2.2.2.2) (fun k hk => by omega)
  rw [nI_0] at b1
  have hD2 := hD1.fr b2 (by decide)
  obtain ⟨V3, c1, c2⟩ := isBearing_eq (fu := fu) hfu (hD2.toB hd h22 (fun k hk => ⟨(hb11 k hk).2.2.2.1, b3 k hk⟩))
  have hF : Fr [1207, 1208, 1209, 1214, 2226, 2228, 2229] V V3 := ((Fr.weak a1 (by decide)).trans (Fr.weak b2 (by decide))).trans (Fr.weak c1 (by decide))
  have hK : Inv (k + 1) V3 := ⟨nC, nD, nT, nM, nP, nK, nS, nR, nL, nO, by omega, hmi.fr hF rfl, hta.fr hF rfl, hcl.fr hF rfl, hdr'.fr hF rfl, hth.fr hF rfl, hla.fr hF rfl, hma.fr hF rfl, hor.fr hF rfl, hpe.fr hF rfl, hdo.fr hF rfl, hse.fr hF rfl, hru.fr hF rfl, hmk.fr hF rfl⟩
  have hun : f_X12_bears fu V1 (nI d) = F_X12_bears_45 fu V2 (nI d) := by
    unfold f_X12_bears
    rw [hid, bd_some, if_neg (by decide), b1]
  rcases a2 with ⟨q1, q2⟩ | ⟨q1, q2⟩
  · obtain ⟨-, q3⟩ := c2.resolve_right (fun z => z.1 q1)
    refine ⟨1, V1, V3, ?_, ?_, hK⟩
    · simp (disch := omega) only [f_X11_bears, F_X11_bears_24, hfd, hc, q2, bd_some, n10, n00, bv_eq, within_eq, in_eq, gd_T, gd_t, i00, i10, c_0, c_1, c_m1, ite10, ite01, setV_fn, setV_at, cntS, nI_pos, nI_clamp, nI_leI, nI_ltI, nI_eq, nI_1, if_true, if_false, not_true, not_false, and_self, and_true, true_and, false_and, and_false, or_false, false_or, or_true, true_or, not_false_eq_true, ite_self, ite_true, ite_false, reduceIte, Nat.reduceEqDiff, Nat.reduceMul, Nat.reduceAdd, Nat.reduceLT, Nat.reducePow, ne_eq]
    · show f_X12_bears fu V1 _ = _
      simp only [hun, F_X12_bears_45, F_X12_bears_58, q3, bd_some, n10, if_false]
  · obtain ⟨-, q3⟩ := c2.resolve_left (fun z => q1 z.1)
    refine ⟨0, V1, V3, ?_, ?_, hK⟩
    · simp (disch := omega) only [f_X11_bears, F_X11_bears_24, hfd, hc, q2, bd_some, n10, n00, bv_eq, within_eq, in_eq, gd_T, gd_t, i00, i10, c_0, c_1, c_m1, ite10, ite01, setV_fn, setV_at, cntS, nI_pos, nI_clamp, nI_leI, nI_ltI, nI_eq, nI_1, if_true, if_false, not_true, not_false, and_self, and_true, true_and, false_and, and_false, or_false, false_or, or_true, true_or, not_false_eq_true, ite_self, ite_true, ite_false, reduceIte, Nat.reduceEqDiff, Nat.reduceMul, Nat.reduceAdd, Nat.reduceLT, Nat.reducePow, ne_eq]
    · show f_X12_bears fu V1 _ = _
      simp only [hun, F_X12_bears_45, F_X12_bears_58, q3, bd_some, n00, if_true]
