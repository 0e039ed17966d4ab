/-! the shortest of all sets; the bound of what is left -/
theorem ones_one {f : Nat → Nat} {p : Nat} (hp : p < 9) : sS (fun _ => 1) (2 ^ p) = 1 := sS_one (f := fun _ => 1) hp
theorem shorten_eq {fu p Wd : Nat} {V : St} {len wid : Nat → Nat} (hfu : 1000 ≤ fu) (hp9 : p ≤ 9) (hWd : Wd ≤ 200) (hl : ∀ k, k < p → len k ≤ 60) (hw : ∀ k, k < p → wid k ≤ 60 ∧ wid k ≤ Wd) (h8 : V 1508 0 0 = nI p) (hse : SeV V p len wid) : ∃ V1 sh, f_X5_shortenSets fu V (nI Wd) = some (0, V1) ∧ Fr [1503] V V1 ∧ (∀ S, S < 2 ^ p → V1 1503 0 S = nI (sh S)) ∧ shOK Wd len wid sh (2 ^ p) := by
  have hp2 : 2 ^ p ≤ 512 := Nat.pow_le_pow_right (n := 2) (by decide) hp9
  have hp0 : 0 < 2 ^ p := Nat.pow_pos (by decide)
  have key : ∀ (r N S : Nat) (W : St) (sh : Nat → Nat), S + r = 2 ^ p → r < N → 1 ≤ S → Fr [1503] V W → (∀ T, T < S → W 1503 0 T = nI (sh T)) → shOK Wd len wid sh S → ∃ V1 sh, Lp_X5_shortenSets_9 (F_X5_shortenSets_121 fu) fu N W (nI Wd) (nI S) = some (0, V1) ∧ Fr [1503] V V1 ∧ (∀ S, S < 2 ^ p → V1 1503 0 S = nI (sh S)) ∧ shOK Wd len wid sh (2 ^ p) := by
    intro r
    induction r with
    | zero =>
      intro N S W sh hr hN h1 hF hT hO
      obtain ⟨N, rfl⟩ : ∃ N', N = N' + 1 := ⟨N - 1, by omega⟩
      have hS : S = 2 ^ p := by omega
      have w8 : W 1508 0 0 = nI p := by rw [hF 1508 (by decide)]; exact h8
      rw [hS] at hT hO
      refine ⟨W, sh, ?_, hF, hT, hO⟩
      rw [Lp_X5_shortenSets_9, F_X5_shortenSets_9, w8, shl1 hp9, if_pos (nI_le (by omega) (by omega)), F_X5_shortenSets_121]
    | succ r ih =>
      intro N S W sh hr hN h1 hF hT hO
      obtain ⟨N, rfl⟩ : ∃ N', N = N' + 1 := ⟨N - 1, by omega⟩
      have hS : S < 2 ^ p := by omega
      have hS0 : S ≠ 0 := by omega
      have w8 : W 1508 0 0 = nI p := by rw [hF 1508 (by decide)]; exact h8
      have hseW : SeV W p len wid := fun T hT' => by rw [hF 1501 (by decide), hF 1502 (by decide)]; exact hse T hT'
      obtain ⟨l1, l2, l3, l4⟩ := lw_and S (by omega) hS0
      have hlp := bit_ltp hS l4
      have hsb := sub_one l4
      have hsx := hsb.xor
      have hltS : S ^^^ 2 ^ lw S < S := by
        have a1 := hsx.le
        have a2 : S ^^^ 2 ^ lw S ≠ S := fun z => by
          have : (S ^^^ 2 ^ lw S).testBit (lw S) = false := by rw [xor_sub hsb, l4, Nat.testBit_two_pow]; simp
          rw [z, l4] at this; cases this
        omega
      have hpl : 2 ^ lw S ≤ S := hsb.le
      have hshb : ∀ T, T < S → sh T ≤ 540 := fun T hT' => by
        by_cases z : T = 0
        · rw [z, hO.1]; omega
        · have a1 := (hO.2 T hT' z).2.2
          have a2 := sS_le9 (S := T)
          omega
      have hl60 := mS_one (f := len) (p := lw S) (by omega)
      have hlen := hl (lw S) hlp
      have hb1 : sh (S ^^^ 2 ^ lw S) ≤ 60 * sS (fun _ => 1) (S ^^^ 2 ^ lw S) := by
        by_cases z : S ^^^ 2 ^ lw S = 0
        · rw [z, hO.1]; omega
        · exact (hO.2 _ hltS z).2.2
      have hones : sS (fun _ => 1) S = 1 + sS (fun _ => 1) (S ^^^ 2 ^ lw S) := by rw [sS_split hsb, sS_one (f := fun _ => 1) (by omega)]
      have h540 := hshb _ hltS
      have e1 : nI S - 1 = nI (S - 1) := by rw [show (1 : Int32) = nI 1 from rfl, pk_sub h1]
      have e2 : nI S &&& (nI S - 1) = nI (S ^^^ 2 ^ lw S) := by rw [e1, nI_and (by omega) (by omega), l1]
      have e3 : nI S ^^^ nI (S ^^^ 2 ^ lw S) = nI (2 ^ lw S) := by rw [nI_xor (by omega) (by omega), ← l1, l2]
      have hle : ¬ nI (2 ^ p) ≤ nI S := nI_ge (by omega) (by omega)
      have hwl := hw (lw S) hlp
      obtain ⟨b', q1, q2, q3, q4⟩ := shorten_in (fu := fu) (p := p) (Wd := Wd) (S := S) (W := W) (sh := sh) (kx := F_X5_shortenSets_107 (Lp_X5_shortenSets_9 (F_X5_shortenSets_121 fu) fu N) (F_X5_shortenSets_121 fu) fu) hp9 hWd hl (fun k hk => (hw k hk).1) hS hS0 hseW hT hshb 600 fu (S ^^^ 2 ^ lw S) (len (lw S) + sh (S ^^^ 2 ^ lw S)) (by omega) (by omega) (subM.refl _) (by omega) ⟨2 ^ lw S, hsb, by rw [Nat.testBit_two_pow]; simp, by rw [sS_one (by omega)]; exact hwl.2, by rw [hl60]⟩ (fun Y hY hor _ => by
        rcases hor with y | y
        · subst y; rw [Nat.or_zero, Nat.xor_zero, hl60]; exact Nat.le_refl _
        · have := hY.le; omega)
      have f1 := (hseW (2 ^ lw S) (by omega)).2
      rw [hl60] at f1
      have f2 := hT (S ^^^ 2 ^ lw S) hltS
      have hsh' : ∀ T, T < S → upN sh S b' T = sh T := fun T hT' => if_neg (by omega)
      have hshS : upN sh S b' S = b' := if_pos rfl
      obtain ⟨V1, sh1, a1, a2⟩ := ih N (S + 1) (setV W 1503 0 S (nI b')) (upN sh S b') (by omega) (by omega) (by omega) (hF.set (by decide)) (fun T hT' => by
        rw [setV_at]
        by_cases z : T = S
        · rw [if_pos ⟨rfl, z⟩, z, hshS]
        · rw [if_neg (fun y => z y.2), hsh' T (by omega)]; exact hT T (by omega)) ⟨by rw [hsh' 0 (by omega)]; exact hO.1, fun T hT' hT0 => by
          by_cases z : T = S
          · subst z
            have hxl : ∀ X, subM X T → X.testBit (lw T) = true → T ^^^ X < T := fun X hX hb => by
              have a1 := hX.xor.le
              have a2 : T ^^^ X ≠ T := fun z => by
                have : (T ^^^ X).testBit (lw T) = false := by rw [xor_sub hX, l4, hb]; rfl
                rw [z, l4] at this; cases this
              omega
            refine ⟨?_, fun X hX hb hwX => ?_, ?_⟩
            · obtain ⟨X, x1, x2, x3, x4⟩ := q3
              refine ⟨X, x1, x2, x3, ?_⟩
              rw [hshS, hsh' _ (hxl X x1 x2)]; exact x4
            · rw [hshS, hsh' _ (hxl X hX hb)]
              have hs1 : subM (2 ^ lw T) X := sub_one hb
              have hY : subM (X ^^^ 2 ^ lw T) (T ^^^ 2 ^ lw T) := fun j hj => by
                rw [xor_sub hs1] at hj
                rw [xor_sub hsb]
                have := hX j
                simp_all
              have hor : 2 ^ lw T ||| (X ^^^ 2 ^ lw T) = X := Nat.eq_of_testBit_eq (fun j => by
                rw [Nat.testBit_or, xor_sub hs1]
                have := hs1 j
                cases h1 : (2 ^ lw T).testBit j <;> simp_all)
              have hxx : (T ^^^ 2 ^ lw T) ^^^ (X ^^^ 2 ^ lw T) = T ^^^ X := Nat.eq_of_testBit_eq (fun j => by
                rw [Nat.testBit_xor, Nat.testBit_xor, Nat.testBit_xor, Nat.testBit_xor]
                cases T.testBit j <;> cases X.testBit j <;> cases (2 ^ lw T).testBit j <;> rfl)
              have := q4 (X ^^^ 2 ^ lw T) hY (by rw [hor]; exact hwX)
              rw [hor, hxx] at this; exact this
            · rw [hshS]; omega
          · obtain ⟨⟨X, x1, x2, x3, x4⟩, r2, r3⟩ := hO.2 T (by omega) hT0
            have hxl : ∀ X, subM X T → T ^^^ X < S := fun X hX => by have := hX.xor.le; omega
            refine ⟨⟨X, x1, x2, x3, ?_⟩, fun X hX hb hwX => ?_, ?_⟩
            · rw [hsh' T (by omega), hsh' _ (hxl X x1)]; exact x4
            · rw [hsh' T (by omega), hsh' _ (hxl X hX)]; exact r2 X hX hb hwX
            · rw [hsh' T (by omega)]; exact r3⟩
      refine ⟨V1, sh1, ?_, a2⟩
      rw [← a1]
      rw [Lp_X5_shortenSets_9, F_X5_shortenSets_9, w8, shl1 hp9, if_neg hle, e2, e3]
      simp (disch := omega) only [f1, f2, nI_add, q2, F_X5_shortenSets_107, bd_some, n10, n00, bv_eq, within_eq, in_eq, gd_T, gd_t, i00, i10, c_0, c_1, c_m1, ite10, ite01, setV_fn, setV_at, cntS, nI_pos, nI_clamp, nI_leI, nI_ltI, nI_eq, nI_1, if_true, if_false, not_true, not_false, and_self, and_true, true_and, false_and, and_false, or_false, false_or, or_true, true_or, not_false_eq_true, ite_self, ite_true, ite_false, reduceIte, Nat.reduceEqDiff, Nat.reduceMul, Nat.reduceAdd, Nat.reduceLT, Nat.reducePow, ne_eq]
  have hF0 : Fr [1503] V (setV V 1503 0 0 0) := (Fr.refl _ V).set (by decide)
  obtain ⟨V1, sh, a1, a2⟩ := key (2 ^ p - 1) fu 1 _ (fun _ => 0) (by omega) (by omega) (by omega) hF0 (fun T hT => by
    have : T = 0 := by omega
    subst this
    rw [setV_at, if_pos ⟨rfl, rfl⟩, nI_0]) ⟨rfl, fun T hT hT0 => by omega⟩
  refine ⟨V1, sh, ?_, a2⟩
  rw [← a1]
  simp only [f_X5_shortenSets, c_0, i00, false_or, show ¬ (512 ≤ 0) by omega, not_false_eq_true, gd_T, bv_eq]
  rfl
/-- what atLeast answers -/
theorem atLeast_eq {fu p S l a : Nat} {V : St} {len wid sh : Nat → Nat} (hfu : 1000 ≤ fu) (hp9 : p ≤ 9) (hl60 : ∀ k, k < p → len k ≤ 60) (hw60 : ∀ k, k < p → wid k ≤ 60) (hS : S < 2 ^ p) (hl : l ≤ 200) (ha : a ≤ 600) (hse : SeV V p len wid) (hsh : ∀ T, T < 2 ^ p → V 1503 0 T = nI (sh T)) (hshb : ∀ T, T < 2 ^ p → sh T ≤ 540) : ∃ r, f_X5_atLeast fu V (nI S) (nI l) (nI a) = some (nI r, V) ∧ r ≤ a + sh S ∧ (S = 0 → r = a + sh 0) ∧ ∀ Y, subM Y S → sS wid Y ≤ l → r ≤ max a (mS len Y) + sh (S ^^^ Y) := by
  have hp2 : 2 ^ p ≤ 512 := Nat.pow_le_pow_right (n := 2) (by decide) hp9
  have key : ∀ (r N m b : Nat), m ≤ r → r < N → subM m S → b ≤ a + sh S → (∀ Y, subM Y S → (Y = 0 ∨ m < Y) → sS wid Y ≤ l → b ≤ max a (mS len Y) + sh (S ^^^ Y)) → ∃ b', b' ≤ b ∧ Lp_X5_atLeast_13 (F_X5_atLeast_68 fu) fu N V (nI S) (nI l) (nI a) (nI b) (nI m) = some (nI b', V) ∧ ∀ Y, subM Y S → sS wid Y ≤ l → b' ≤ max a (mS len Y) + sh (S ^^^ Y) := by
    intro r
    induction r with
    | zero =>
      intro N m b hm hN hsub hb hal
      obtain ⟨N, rfl⟩ : ∃ N', N = N' + 1 := ⟨N - 1, by omega⟩
      have : m = 0 := by omega
      subst this
      refine ⟨b, Nat.le_refl _, ?_, fun Y hY hw => hal Y hY (by omega) hw⟩
      rw [Lp_X5_atLeast_13, F_X5_atLeast_13, if_pos (by decide), F_X5_atLeast_68]
    | succ r ih =>
      intro N m b hm hN hsub hb hal
      obtain ⟨N, rfl⟩ : ∃ N', N = N' + 1 := ⟨N - 1, by omega⟩
      by_cases hm0 : m = 0
      · subst hm0
        refine ⟨b, Nat.le_refl _, ?_, fun Y hY hw => hal Y hY (by omega) hw⟩
        rw [Lp_X5_atLeast_13, F_X5_atLeast_13, if_pos (by decide), F_X5_atLeast_68]
      · have hmS : m ≤ S := hsub.le
        have hsS := hshb S hS
        have e1 : nI m - 1 = nI (m - 1) := by rw [show (1 : Int32) = nI 1 from rfl, pk_sub (by omega)]
        have e2 : (nI m - 1) &&& nI S = nI ((m - 1) &&& S) := by rw [e1, nI_and (by omega) (by omega)]
        have hnp : ¬ nI m ≤ 0 := nI_nle (by omega) (by omega)
        have exo : nI S ^^^ nI m = nI (S ^^^ m) := nI_xor (by omega) (by omega)
        have hq : S ^^^ m ≤ S := hsub.xor.le
        obtain ⟨s1, s2⟩ := hse m (by omega)
        have s3 := hsh (S ^^^ m) (by omega)
        have s4 := hshb (S ^^^ m) (by omega)
        have hm60 := mS_bound (f := len) (t := 60) (show m < 2 ^ p by omega) hp9 hl60
        have hw540 := sS_bound (f := wid) (t := 60) (show m < 2 ^ p by omega) hp9 hw60
        have hnx : subM ((m - 1) &&& S) S := fun j hj => by
          rw [Nat.testBit_and] at hj
          simp only [Bool.and_eq_true] at hj
          exact hj.2
        have hnr : (m - 1) &&& S ≤ r := by have : (m - 1) &&& S ≤ m - 1 := Nat.and_le_left
                                           omega
        have emx : (if a < mS len m then nI (mS len m) else nI a) = nI (max a (mS len m)) := by
          by_cases z : a < mS len m
          · rw [if_pos z, Nat.max_eq_right (by omega)]
          · rw [if_neg z, Nat.max_eq_left (by omega)]
        have hmx : max a (mS len m) ≤ 600 := by omega
        have step : ∀ b1, b1 ≤ b → (sS wid m ≤ l → b1 ≤ max a (mS len m) + sh (S ^^^ m)) → ∃ b', b' ≤ b ∧ Lp_X5_atLeast_13 (F_X5_atLeast_68 fu) fu N V (nI S) (nI l) (nI a) (nI b1) (nI ((m - 1) &&& S)) = some (nI b', V) ∧ ∀ Y, subM Y S → sS wid Y ≤ l → b' ≤ max a (mS len Y) + sh (S ^^^ Y) := fun b1 hb1 hb2 => by
          obtain ⟨b', q1, q2⟩ := ih N _ b1 hnr (by omega) hnx (by omega) (fun Y hY hor hwY => by
            by_cases z : Y = m
            · subst z; exact hb2 hwY
            · rcases hor with y | y
              · have := hal Y hY (.inl y) hwY; omega
              · by_cases y2 : m < Y
                · have := hal Y hY (.inr y2) hwY; omega
                · have := sub_next 9 m S Y (by show m < 512; omega) hsub hY (by omega)
                  omega)
          exact ⟨b', by omega, q2⟩
        by_cases hw : sS wid m ≤ l
        · have hnw : ¬ nI l < nI (sS wid m) := nI_nlt hw (by omega)
          by_cases hc : max a (mS len m) + sh (S ^^^ m) < b
          · obtain ⟨b', q1, q2, q3⟩ := step _ (by omega) (fun _ => Nat.le_refl _)
            refine ⟨b', q1, ?_, q3⟩
            rw [← q2]
            simp (disch := omega) only [Lp_X5_atLeast_13, F_X5_atLeast_13, F_X5_atLeast_57, hnp, exo, s1, s2, s3, hnw, e2, emx, hc, nI_add, bd_some, n10, n00, bv_eq, within_eq, in_eq, gd_T, gd_t, i00, i10, c_0, c_1, c_m1, ite10, ite01, setV_fn, setV_at, cntS, nI_pos, nI_clamp, nI_leI, nI_ltI, nI_eq, nI_1, if_true, if_false, not_true, not_false, and_self, and_true, true_and, false_and, and_false, or_false, false_or, or_true, true_or, not_false_eq_true, ite_self, ite_true, ite_false, reduceIte, Nat.reduceEqDiff, Nat.reduceMul, Nat.reduceAdd, Nat.reduceLT, Nat.reducePow, ne_eq]
          · obtain ⟨b', q1, q2, q3⟩ := step b (Nat.le_refl _) (fun _ => by omega)
            refine ⟨b', q1, ?_, q3⟩
            rw [← q2]
            simp (disch := omega) only [Lp_X5_atLeast_13, F_X5_atLeast_13, F_X5_atLeast_57, hnp, exo, s1, s2, s3, hnw, e2, emx, hc, nI_add, bd_some, n10, n00, bv_eq, within_eq, in_eq, gd_T, gd_t, i00, i10, c_0, c_1, c_m1, ite10, ite01, setV_fn, setV_at, cntS, nI_pos, nI_clamp, nI_leI, nI_ltI, nI_eq, nI_1, if_true, if_false, not_true, not_false, and_self, and_true, true_and, false_and, and_false, or_false, false_or, or_true, true_or, not_false_eq_true, ite_self, ite_true, ite_false, reduceIte, Nat.reduceEqDiff, Nat.reduceMul, Nat.reduceAdd, Nat.reduceLT, Nat.reducePow, ne_eq]
        · have hnw : nI l < nI (sS wid m) := nI_lt (by omega) (by omega)
          obtain ⟨b', q1, q2, q3⟩ := step b (Nat.le_refl _) (fun z => absurd z hw)
          refine ⟨b', q1, ?_, q3⟩
          rw [← q2]
          simp (disch := omega) only [Lp_X5_atLeast_13, F_X5_atLeast_13, F_X5_atLeast_57, hnp, s1, hnw, e2, bd_some, n10, n00, bv_eq, within_eq, in_eq, gd_T, gd_t, i00, i10, c_0, c_1, c_m1, ite10, ite01, setV_fn, setV_at, cntS, nI_pos, nI_clamp, nI_leI, nI_ltI, nI_eq, nI_1, if_true, if_false, not_true, not_false, and_self, and_true, true_and, false_and, and_false, or_false, false_or, or_true, true_or, not_false_eq_true, ite_self, ite_true, ite_false, reduceIte, Nat.reduceEqDiff, Nat.reduceMul, Nat.reduceAdd, Nat.reduceLT, Nat.reducePow, ne_eq]
  have s0 := hsh S hS
  have hS0 := hshb S hS
  obtain ⟨b', q1, q2, q3⟩ := key 512 fu S (a + sh S) (by omega) (by omega) (subM.refl S) (Nat.le_refl _) (fun Y hY hor _ => by
    rcases hor with y | y
    · subst y; rw [mS_0, Nat.xor_zero]; omega
    · have := hY.le; omega)
  refine ⟨b', ?_, q1, fun z => ?_, q3⟩
  · rw [← q2]
    simp (disch := omega) only [f_X5_atLeast, s0, nI_add, bd_some, n10, n00, bv_eq, within_eq, in_eq, gd_T, gd_t, i00, i10, c_0, c_1, c_m1, ite10, ite01, setV_fn, setV_at, cntS, nI_pos, nI_clamp, nI_leI, nI_ltI, nI_eq, nI_1, if_true, if_false, not_true, not_false, and_self, and_true, true_and, false_and, and_false, or_false, false_or, or_true, true_or, not_false_eq_true, ite_self, ite_true, ite_false, reduceIte, Nat.reduceEqDiff, Nat.reduceMul, Nat.reduceAdd, Nat.reduceLT, Nat.reducePow, ne_eq]
  · subst z
    obtain ⟨fu, rfl⟩ : ∃ N', fu = N' + 1 := ⟨fu - 1, by omega⟩
    have z0 : nI 0 ≤ 0 := by decide
    rw [Lp_X5_atLeast_13, F_X5_atLeast_13, if_pos z0, F_X5_atLeast_68] at q2
    simp only [Option.some.injEq, Prod.mk.injEq, and_true] at q2
    exact ((nI_eq (by omega) (by omega)).mp q2).symm
