/-! the class's sets: widths, lengths, shortest -/
def CoV (V : St) (nT x p : Nat) (len wid : Nat → Nat) : Prop := x < nT ∧ nT ≤ 30 ∧ V 2105 0 0 = nI nT ∧ p ≤ 9 ∧ V 2009 x 0 = nI p ∧ (0 < p → V 2090 x 0 = 9) ∧ ∀ k, k < p → 1 ≤ len k ∧ len k ≤ 60 ∧ 1 ≤ wid k ∧ wid k ≤ 60 ∧ V 2007 x k = nI (len k) ∧ V 2008 x k = nI (wid k)
theorem CoV.fr {V V' : St} {nT x p : Nat} {len wid : Nat → Nat} {ws : List Nat} (h : CoV V nT x p len wid) (hF : Fr ws V V') (hd : [2105, 2009, 2090, 2007, 2008].all (fun v => !ws.contains v) = true) : CoV V' nT x p len wid := by
  have e := hF.all hd
  unfold CoV at h ⊢
  rw [e 2105 (by decide), e 2009 (by decide), e 2090 (by decide), e 2007 (by decide), e 2008 (by decide)]; exact h
theorem shl1 {p : Nat} (hp : p ≤ 9) : (1 : Int32) <<< (nI p &&& 31) = nI (2 ^ p) := by
  have hp2 : 2 ^ p ≤ 2 ^ 9 := Nat.pow_le_pow_right (by decide) hp
  rw [(sh5 p (by omega)).1]
  have := pk_shlN (n := 1) (nI p) p (sh5 p (by omega)).2 (by omega)
  rw [Nat.one_mul] at this; exact this
theorem bit_ltp {S j p : Nat} (hS : S < 2 ^ p) (h : S.testBit j = true) : j < p := by
  refine Classical.byContradiction (fun z => ?_)
  rw [Nat.testBit_lt_two_pow (Nat.lt_of_lt_of_le hS (Nat.pow_le_pow_right (by decide) (by omega)))] at h
  cases h
theorem measure_eq {fu nT x p : Nat} {V : St} {len wid : Nat → Nat} (hfu : 1000 ≤ fu) (h : CoV V nT x p len wid) (h8 : V 1508 0 0 = nI p) : ∃ V1, f_X5_measureSets fu V (nI x) = some (0, V1) ∧ Fr [1501, 1502] V V1 ∧ ∀ S, S < 2 ^ p → V1 1501 0 S = nI (sS wid S) ∧ V1 1502 0 S = nI (mS len S) := by
  have hh := h
  obtain ⟨hx, h30, hn, hp9, hp, hl, hk⟩ := h
  have hp2 : 2 ^ p ≤ 512 := Nat.pow_le_pow_right (n := 2) (by decide) hp9
  have key : ∀ (r N S : Nat) (W : St), S + r = 2 ^ p → r < N → 1 ≤ S → Fr [1501, 1502] V W → (∀ T, T < S → W 1501 0 T = nI (sS wid T) ∧ W 1502 0 T = nI (mS len T)) → ∃ V1, Lp_X5_measureSets_16 (F_X5_measureSets_86 fu) fu N W (nI x) (nI S) = some (0, V1) ∧ Fr [1501, 1502] V V1 ∧ ∀ S, S < 2 ^ p → V1 1501 0 S = nI (sS wid S) ∧ V1 1502 0 S = nI (mS len S) := by
    intro r
    induction r with
    | zero =>
      intro N S W hr hN h1 hF hT
      obtain ⟨N, rfl⟩ : ∃ N', N = N' + 1 := ⟨N - 1, by omega⟩
      have : S = 2 ^ p := by omega
      have w8 : W 1508 0 0 = nI p := by rw [hF 1508 (by decide)]; exact h8
      refine ⟨W, ?_, hF, fun T hT' => hT T (by omega)⟩
      rw [Lp_X5_measureSets_16, F_X5_measureSets_16, w8, shl1 hp9, if_pos (nI_le (by omega) (by omega)), F_X5_measureSets_86]
    | succ r ih =>
      intro N S W hr hN h1 hF hT
      obtain ⟨N, rfl⟩ : ∃ N', N = N' + 1 := ⟨N - 1, by omega⟩
      have w8 : W 1508 0 0 = nI p := by rw [hF 1508 (by decide)]; exact h8
      obtain ⟨l1, l2, l3, l4⟩ := lw_and S (by omega) (by omega)
      have hlp := bit_ltp (show S < 2 ^ p by omega) l4
      have hsb := sub_one l4
      have hlt : S ^^^ 2 ^ lw S < S := by
        have a1 := hsb.xor.le
        have a2 : S ^^^ 2 ^ lw S ≠ S := fun z => by
          have : (S ^^^ 2 ^ lw S).testBit (lw S) = false := by rw [xor_sub hsb, l4, Nat.testBit_two_pow]; simp
          rw [z, l4] at this; cases this
        omega
      have hW := hh.fr hF (by decide)
      obtain ⟨-, -, wn, -, -, wl, wk⟩ := hW
      have hct : cntV W 2105 = nT := cnt_n (by decide) (by omega) wn
      have hlen : lenV W 1002090 x = 9 := by show (W 2090 x 0).toNatClampNeg = 9; rw [wl (by omega)]; rfl
      obtain ⟨k1, k2, k3, k4, k5, k6⟩ := wk (lw S) hlp
      obtain ⟨t1, t2⟩ := hT (S ^^^ 2 ^ lw S) hlt
      have e1 : nI S - 1 = nI (S - 1) := by rw [show (1 : Int32) = nI 1 from rfl, pk_sub h1]
      have e2 : nI S &&& (nI S - 1) = nI (S ^^^ 2 ^ lw S) := by rw [e1, nI_and (by omega) (by omega), l1]
      have hle : ¬ nI (2 ^ p) ≤ nI S := nI_ge (by omega) (by omega)
      have ez := fun U => ntz_eq (fu := fu) (V := U) (s := S) (by omega) (by omega)
      have s1 : sS wid S = sS wid (S ^^^ 2 ^ lw S) + wid (lw S) := by rw [sS_split hsb, sS_one (by omega), Nat.add_comm]
      have s2 : mS len S = max (len (lw S)) (mS len (S ^^^ 2 ^ lw S)) := by rw [mS_split (by omega) hsb, mS_one (by omega)]
      have hm60 := mS_bound (f := len) (t := 60) (show S ^^^ 2 ^ lw S < 2 ^ p by omega) hp9 (fun k hk' => (hk k hk').2.1)
      have e3 : (if mS len (S ^^^ 2 ^ lw S) < len (lw S) then nI (len (lw S)) else nI (mS len (S ^^^ 2 ^ lw S))) = nI (mS len S) := by
        rw [s2]
        by_cases z : mS len (S ^^^ 2 ^ lw S) < len (lw S)
        · rw [if_pos z, Nat.max_eq_left (by omega)]
        · rw [if_neg z, Nat.max_eq_right (by omega)]
      have hlen2 : lenV (setV W 1501 0 S (nI (sS wid S))) 1002090 x = 9 := by show (setV W 1501 0 S (nI (sS wid S)) 2090 x 0).toNatClampNeg = 9; rw [setV_fn (by decide), wl (by omega)]; rfl
      have hl9 : ¬ 9 ≤ lw S := by omega
      obtain ⟨V1, a1, a2⟩ := ih N (S + 1) (setV (setV W 1501 0 S (nI (sS wid S))) 1502 0 S (nI (mS len S))) (by omega) (by omega) (by omega) ((hF.set (by decide)).set (by decide)) (fun T hT' => by
        by_cases z : T = S
        · subst z
          constructor
          · rw [setV_fn (by decide), setV_at, if_pos ⟨rfl, rfl⟩]
          · rw [setV_at, if_pos ⟨rfl, rfl⟩]
        · have := hT T (by omega)
          constructor
          · rw [setV_fn (by decide), setV_at, if_neg (fun y => z y.2)]; exact this.1
          · rw [setV_at, if_neg (fun y => z y.2), setV_fn (by decide)]; exact this.2)
      refine ⟨V1, ?_, a2⟩
      rw [← a1]
      rw [Lp_X5_measureSets_16, F_X5_measureSets_16, w8, shl1 hp9, if_neg hle, ez, bd_some, e2]
      simp (disch := omega) only [hct, hlen, t1, t2, k5, k6, nI_add, ← s1, hlen2, hl9, e3, bd_some, n10, n00, bv_eq, within_eq, in_eq, gd_T, gd_t, i00, i10, c_0, c_1, c_m1, ite10, ite01, setV_fn, setV_at, cntS, nI_pos, nI_clamp, nI_leI, nI_ltI, nI_eq, nI_1, if_true, if_false, not_true, not_false, and_self, and_true, true_and, false_and, and_false, or_false, false_or, or_true, true_or, not_false_eq_true, ite_self, ite_true, ite_false, reduceIte, Nat.reduceEqDiff, Nat.reduceMul, Nat.reduceAdd, Nat.reduceLT, Nat.reducePow, ne_eq]
  have hF0 : Fr [1501, 1502] V (setV (setV V 1501 0 0 0) 1502 0 0 0) := ((Fr.refl _ V).set (by decide)).set (by decide)
  have hp0 : 0 < 2 ^ p := Nat.pow_pos (by decide)
  obtain ⟨V1, a1, a2⟩ := key (2 ^ p - 1) fu 1 _ (by omega) (by omega) (by omega) hF0 (fun T hT => by
    have : T = 0 := by omega
    subst this
    rw [sS_0, mS_0, nI_0]
    constructor
    · rw [setV_fn (by decide), setV_at, if_pos ⟨rfl, rfl⟩]
    · rw [setV_at, if_pos ⟨rfl, rfl⟩])
  refine ⟨V1, ?_, a2⟩
  rw [← a1]
  simp only [f_X5_measureSets, c_0, i00, false_or, show ¬ (512 ≤ 0) by omega, not_false_eq_true, gd_T, bv_eq]
  rfl
def SeV (V : St) (p : Nat) (len wid : Nat → Nat) : Prop := ∀ S, S < 2 ^ p → V 1501 0 S = nI (sS wid S) ∧ V 1502 0 S = nI (mS len S)
/-- the loop over the sets among others -/
theorem shorten_in {fu p Wd S : Nat} {W : St} {len wid sh : Nat → Nat} {kx : St → Int32 → Int32 → Int32 → RR} (hp9 : p ≤ 9) (hW : Wd ≤ 200) (hl60 : ∀ k, k < p → len k ≤ 60) (hw60 : ∀ k, k < p → wid k ≤ 60) (hS : S < 2 ^ p) (hS0 : S ≠ 0) (hse : SeV W p len wid) (hsh : ∀ T, T < S → W 1503 0 T = nI (sh T)) (hshb : ∀ T, T < S → sh T ≤ 540) : ∀ (r N m b : Nat), m ≤ r → r < N → subM m (S ^^^ 2 ^ lw S) → b ≤ 600 → (∃ X, subM X S ∧ X.testBit (lw S) = true ∧ sS wid X ≤ Wd ∧ b = mS len X + sh (S ^^^ X)) → (∀ Y, subM Y (S ^^^ 2 ^ lw S) → (Y = 0 ∨ m < Y) → sS wid (2 ^ lw S ||| Y) ≤ Wd → b ≤ mS len (2 ^ lw S ||| Y) + sh ((S ^^^ 2 ^ lw S) ^^^ Y)) → ∃ b', b' ≤ b ∧ Lp_X5_shortenSets_49 kx fu N W (nI Wd) (nI S) (nI (S ^^^ 2 ^ lw S)) (nI (2 ^ lw S)) (nI b) (nI m) = kx W (nI Wd) (nI S) (nI b') ∧ (∃ X, subM X S ∧ X.testBit (lw S) = true ∧ sS wid X ≤ Wd ∧ b' = mS len X + sh (S ^^^ X)) ∧ (∀ Y, subM Y (S ^^^ 2 ^ lw S) → sS wid (2 ^ lw S ||| Y) ≤ Wd → b' ≤ mS len (2 ^ lw S ||| Y) + sh ((S ^^^ 2 ^ lw S) ^^^ Y)) := by
  have hp2 : 2 ^ p ≤ 512 := Nat.pow_le_pow_right (n := 2) (by decide) hp9
  obtain ⟨l1, l2, l3, l4⟩ := lw_and S (by omega) hS0
  have hsb := sub_one l4
  have hsx := hsb.xor
  have hlow : ∀ Y, subM Y (S ^^^ 2 ^ lw S) → subM (2 ^ lw S ||| Y) S ∧ (2 ^ lw S ||| Y).testBit (lw S) = true ∧ S ^^^ (2 ^ lw S ||| Y) = (S ^^^ 2 ^ lw S) ^^^ Y := fun Y hY => by
    have hb : ∀ j, (2 ^ lw S ||| Y).testBit j = (decide (lw S = j) || Y.testBit j) := fun j => by rw [Nat.testBit_or, Nat.testBit_two_pow]
    have hYS : subM Y S := hY.trans hsx
    have c1 : subM (2 ^ lw S ||| Y) S := fun j hj => by
      rw [hb] at hj
      by_cases z : lw S = j
      · rw [← z]; exact l4
      · exact hYS j (by simpa [z] using hj)
    refine ⟨c1, by rw [hb]; simp, Nat.eq_of_testBit_eq (fun j => ?_)⟩
    rw [xor_sub c1, xor_sub hY, xor_sub hsb, hb, Nat.testBit_two_pow]
    cases S.testBit j <;> cases Y.testBit j <;> by_cases z : lw S = j <;> simp [z]
  have hltS : S ^^^ 2 ^ lw S < S := by
    have a1 := hsx.le
    have a2 : S ^^^ 2 ^ lw S ≠ S := fun z => by
      have : (S ^^^ 2 ^ lw S).testBit (lw S) = false := by rw [xor_sub hsb, l4, Nat.testBit_two_pow]; simp
      rw [z, l4] at this; cases this
    omega
  intro r
  induction r with
  | zero =>
    intro N m b hm hN hsub hb hex hal
    obtain ⟨N, rfl⟩ : ∃ N', N = N' + 1 := ⟨N - 1, by omega⟩
    have : m = 0 := by omega
    subst this
    refine ⟨b, Nat.le_refl _, ?_, hex, fun Y hY hw => hal Y hY (by omega) hw⟩
    rw [Lp_X5_shortenSets_49, F_X5_shortenSets_49, if_pos (by decide)]
  | succ r ih =>
    intro N m b hm hN hsub hb hex hal
    obtain ⟨N, rfl⟩ : ∃ N', N = N' + 1 := ⟨N - 1, by omega⟩
    by_cases hm0 : m = 0
    · subst hm0
      refine ⟨b, Nat.le_refl _, ?_, hex, fun Y hY hw => hal Y hY (by omega) hw⟩
      rw [Lp_X5_shortenSets_49, F_X5_shortenSets_49, if_pos (by decide)]
    · have hmS : m ≤ S ^^^ 2 ^ lw S := hsub.le
      have e1 : nI m - 1 = nI (m - 1) := by rw [show (1 : Int32) = nI 1 from rfl, pk_sub (by omega)]
      have e2 : (nI m - 1) &&& nI (S ^^^ 2 ^ lw S) = nI ((m - 1) &&& (S ^^^ 2 ^ lw S)) := by rw [e1, nI_and (by omega) (by omega)]
      have hnp : ¬ nI m ≤ 0 := nI_nle (by omega) (by omega)
      obtain ⟨d1, d2, d3⟩ := hlow m hsub
      have hX : 2 ^ lw S ||| m < 2 ^ p := Nat.lt_of_le_of_lt d1.le hS
      have eor : nI (2 ^ lw S) ||| nI m = nI (2 ^ lw S ||| m) := nI_or (by have : 2 ^ lw S ≤ S := hsb.le
                                                                           omega) (by omega)
      have exo : nI (S ^^^ 2 ^ lw S) ^^^ nI m = nI ((S ^^^ 2 ^ lw S) ^^^ m) := nI_xor (by omega) (by omega)
      have hq : (S ^^^ 2 ^ lw S) ^^^ m ≤ S ^^^ 2 ^ lw S := hsub.xor.le
      obtain ⟨s1, s2⟩ := hse _ hX
      have s3 := hsh ((S ^^^ 2 ^ lw S) ^^^ m) (by omega)
      have s4 := hshb ((S ^^^ 2 ^ lw S) ^^^ m) (by omega)
      have hm60 := mS_bound (f := len) (t := 60) hX hp9 hl60
      have hw540 := sS_bound (f := wid) (t := 60) hX hp9 hw60
      have hnx : subM ((m - 1) &&& (S ^^^ 2 ^ lw S)) (S ^^^ 2 ^ lw S) := fun j hj => by
        rw [Nat.testBit_and] at hj
        simp only [Bool.and_eq_true] at hj
        exact hj.2
      have hnr : (m - 1) &&& (S ^^^ 2 ^ lw S) ≤ r := by have : (m - 1) &&& (S ^^^ 2 ^ lw S) ≤ m - 1 := Nat.and_le_left
                                                        omega
      by_cases hw : sS wid (2 ^ lw S ||| m) ≤ Wd
      · have hnw : ¬ nI Wd < nI (sS wid (2 ^ lw S ||| m)) := nI_nlt hw (by omega)
        have hcore : ∀ b1, b1 ≤ b → b1 ≤ mS len (2 ^ lw S ||| m) + sh ((S ^^^ 2 ^ lw S) ^^^ m) → (∃ X, subM X S ∧ X.testBit (lw S) = true ∧ sS wid X ≤ Wd ∧ b1 = mS len X + sh (S ^^^ X)) → ∃ b', b' ≤ b ∧ Lp_X5_shortenSets_49 kx fu N W (nI Wd) (nI S) (nI (S ^^^ 2 ^ lw S)) (nI (2 ^ lw S)) (nI b1) (nI ((m - 1) &&& (S ^^^ 2 ^ lw S))) = kx W (nI Wd) (nI S) (nI b') ∧ (∃ X, subM X S ∧ X.testBit (lw S) = true ∧ sS wid X ≤ Wd ∧ b' = mS len X + sh (S ^^^ X)) ∧ (∀ Y, subM Y (S ^^^ 2 ^ lw S) → sS wid (2 ^ lw S ||| Y) ≤ Wd → b' ≤ mS len (2 ^ lw S ||| Y) + sh ((S ^^^ 2 ^ lw S) ^^^ Y)) := fun b1 hb1 hb2 hex1 => by
          obtain ⟨b', q1, q2⟩ := ih N _ b1 hnr (by omega) hnx (by omega) hex1 (fun Y hY hor hwY => by
            by_cases z : Y = m
            · subst z; exact hb2
            · rcases hor with y | y
              · have := hal Y hY (.inl y) hwY; omega
              · by_cases y2 : m < Y
                · have := hal Y hY (.inr y2) hwY; omega
                · have := sub_next 9 m (S ^^^ 2 ^ lw S) Y (by show m < 512; omega) hsub hY (by omega)
                  omega)
          exact ⟨b', by omega, q2⟩
        by_cases hc : mS len (2 ^ lw S ||| m) + sh ((S ^^^ 2 ^ lw S) ^^^ m) < b
        · obtain ⟨b', q1, q2, q3⟩ := hcore _ (by omega) (Nat.le_refl _) ⟨2 ^ lw S ||| m, d1, d2, hw, by rw [d3]⟩
          refine ⟨b', q1, ?_, q3⟩
          rw [← q2]
          simp (disch := omega) only [Lp_X5_shortenSets_49, F_X5_shortenSets_49, F_X5_shortenSets_96, hnp, eor, exo, s1, s2, s3, hnw, e2, hc, nI_add, bd_some, n10, n00, bv_eq, within_eq, in_eq, gd_T, gd_t, i00, i10, c_0, c_1, c_m1, ite10, ite01, setV_fn, setV_at, cntS, nI_pos, nI_clamp, nI_leI, nI_ltI, nI_eq, nI_1, if_true, if_false, not_true, not_false, and_self, and_true, true_and, false_and, and_false, or_false, false_or, or_true, true_or, not_false_eq_true, ite_self, ite_true, ite_false, reduceIte, Nat.reduceEqDiff, Nat.reduceMul, Nat.reduceAdd, Nat.reduceLT, Nat.reducePow, ne_eq]
        · obtain ⟨b', q1, q2, q3⟩ := hcore b (Nat.le_refl _) (by omega) hex
          refine ⟨b', q1, ?_, q3⟩
          rw [← q2]
          simp (disch := omega) only [Lp_X5_shortenSets_49, F_X5_shortenSets_49, F_X5_shortenSets_96, hnp, eor, exo, s1, s2, s3, hnw, e2, hc, nI_add, bd_some, n10, n00, bv_eq, within_eq, in_eq, gd_T, gd_t, i00, i10, c_0, c_1, c_m1, ite10, ite01, setV_fn, setV_at, cntS, nI_pos, nI_clamp, nI_leI, nI_ltI, nI_eq, nI_1, if_true, if_false, not_true, not_false, and_self, and_true, true_and, false_and, and_false, or_false, false_or, or_true, true_or, not_false_eq_true, ite_self, ite_true, ite_false, reduceIte, Nat.reduceEqDiff, Nat.reduceMul, Nat.reduceAdd, Nat.reduceLT, Nat.reducePow, ne_eq]
      · have hnw : nI Wd < nI (sS wid (2 ^ lw S ||| m)) := nI_lt (by omega) (by omega)
        obtain ⟨b', q1, q2, q3⟩ := ih N _ b hnr (by omega) hnx hb hex (fun Y hY hor hwY => by
          by_cases z : Y = m
          · subst z; exact absurd hwY hw
          · rcases hor with y | y
            · exact hal Y hY (.inl y) hwY
            · by_cases y2 : m < Y
              · exact hal Y hY (.inr y2) hwY
              · have := sub_next 9 m (S ^^^ 2 ^ lw S) Y (by show m < 512; omega) hsub hY (by omega)
                omega)
        refine ⟨b', q1, ?_, q3⟩
        rw [← q2]
        simp (disch := omega) only [Lp_X5_shortenSets_49, F_X5_shortenSets_49, F_X5_shortenSets_96, hnp, eor, s1, hnw, e2, bd_some, n10, n00, bv_eq, within_eq, in_eq, gd_T, gd_t, i00, i10, c_0, c_1, c_m1, ite10, ite01, setV_fn, setV_at, cntS, nI_pos, nI_clamp, nI_leI, nI_ltI, nI_eq, nI_1, if_true, if_false, not_true, not_false, and_self, and_true, true_and, false_and, and_false, or_false, false_or, or_true, true_or, not_false_eq_true, ite_self, ite_true, ite_false, reduceIte, Nat.reduceEqDiff, Nat.reduceMul, Nat.reduceAdd, Nat.reduceLT, Nat.reducePow, ne_eq]
