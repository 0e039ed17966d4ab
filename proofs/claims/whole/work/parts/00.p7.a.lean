/-! the cuts of a drawing -/
def glF (S : Nat) (LJ LP : Nat → Nat) : Nat → Nat
  | 0 => 0
  | n + 1 => if S.testBit (LJ n) = true then (if glF S LJ LP n < LP n then LP n else glF S LJ LP n) else glF S LJ LP n
theorem glF_ge {S : Nat} {LJ LP : Nat → Nat} : ∀ n q, q < n → S.testBit (LJ q) = true → LP q ≤ glF S LJ LP n := by
  intro n
  induction n with
  | zero => intro q hq; omega
  | succ n ih =>
    intro q hq hb
    unfold glF
    by_cases hn : q = n
    · subst hn; rw [if_pos hb]; split <;> omega
    · have := ih q (by omega) hb
      split
      · split <;> omega
      · exact this
theorem glF_at {S : Nat} {LJ LP : Nat → Nat} : ∀ n, glF S LJ LP n = 0 ∨ ∃ q, q < n ∧ S.testBit (LJ q) = true ∧ glF S LJ LP n = LP q := by
  intro n
  induction n with
  | zero => exact .inl rfl
  | succ n ih =>
    unfold glF
    have old : glF S LJ LP n = 0 ∨ ∃ q, q < n + 1 ∧ S.testBit (LJ q) = true ∧ glF S LJ LP n = LP q := by
      rcases ih with h | ⟨q, h1, h2, h3⟩
      · exact .inl h
      · exact .inr ⟨q, by omega, h2, h3⟩
    split
    · rename_i hb
      split
      · exact .inr ⟨n, by omega, hb, rfl⟩
      · exact old
    · exact old
theorem glF_le {S : Nat} {LJ LP : Nat → Nat} {n : Nat} (h : ∀ q, q < n → LP q ≤ 500) : glF S LJ LP n ≤ 500 := by
  rcases glF_at (S := S) (LJ := LJ) (LP := LP) n with e | ⟨q, h1, -, e⟩
  · omega
  · have := h q h1; omega
def outF (S : Nat) (A B : Nat → Nat) : Nat → Nat
  | 0 => 0
  | n + 1 => if S.testBit (A n) = S.testBit (B n) then outF S A B n else outF S A B n ||| 2 ^ n
theorem outF_bit {S : Nat} {A B : Nat → Nat} : ∀ n k, (outF S A B n).testBit k = (decide (k < n) && !decide (S.testBit (A k) = S.testBit (B k))) := by
  intro n
  induction n with
  | zero => intro k; simp [outF]
  | succ n ih =>
    intro k
    unfold outF
    split
    · rename_i h
      rw [ih k]
      by_cases hk : k = n
      · subst hk; simp [h]
      · have : (k < n + 1) = (k < n) := by apply propext; omega
        simp only [this]
    · rename_i h
      rw [Nat.testBit_or, ih k, Nat.testBit_two_pow]
      by_cases hk : k = n
      · subst hk; simp [h]
      · have : (k < n + 1) = (k < n) := by apply propext; omega
        have h2 : ¬ n = k := fun z => hk z.symm
        simp only [this, h2, decide_false, Bool.or_false]
theorem outF_lt {S : Nat} {A B : Nat → Nat} : ∀ n, n ≤ 8 → outF S A B n < 256 := by
  intro n
  induction n with
  | zero => intro _; show 0 < 256; omega
  | succ n ih =>
    intro h
    have := ih (by omega)
    unfold outF
    split
    · exact this
    · exact Nat.or_lt_two_pow (n := 8) this (Nat.pow_lt_pow_right (by decide) (by omega))
/-- what stands of a drawing in the class's variables -/
def DrC (V : St) (nD d j s l : Nat) (A B LJ LP : Nat → Nat) : Prop := d < nD ∧ nD ≤ 22 ∧ V 2104 0 0 = nI nD ∧ 2 ≤ j ∧ j ≤ 8 ∧ s ≤ 8 ∧ l ≤ 8 ∧ V 1201 d 0 = nI j ∧ V 1212 d 0 = nI s ∧ V 1213 d 0 = nI l ∧
  (∀ k, k < s → A k < j ∧ B k < j ∧ V 1202 d k = nI (A k) ∧ V 1203 d k = nI (B k)) ∧ (∀ k, k < l → 1 ≤ LJ k ∧ LJ k < j ∧ 1 ≤ LP k ∧ LP k ≤ 500 ∧ V 1205 d k = nI (LJ k) ∧ V 1206 d k = nI (LP k))
theorem gload_eq {fu nD d j s l S : Nat} {V : St} {A B LJ LP : Nat → Nat} (hfu : 1000 ≤ fu) (h : DrC V nD d j s l A B LJ LP) (hS : S < 256) : f_X2_greatestLoad fu V (nI d) (nI S) = some (nI (glF S LJ LP l), V) := by
  obtain ⟨hd, h22, hn, h2, h8, hs8, hl8, e1, e2, e3, hst, hlo⟩ := h
  have hc : cntV V 2104 = nD := cnt_n (by decide) (by omega) hn
  have key : ∀ (r N i : Nat), i + r = l → r < N → Lp_X2_greatestLoad_4 (F_X2_greatestLoad_43 fu) fu N V (nI d) (nI S) (nI (glF S LJ LP i)) (nI i) = some (nI (glF S LJ LP l), V) := by
    intro r
    induction r with
    | zero =>
      intro N i hi hN
      obtain ⟨N, rfl⟩ : ∃ N', N = N' + 1 := ⟨N - 1, by omega⟩
      have : i = l := by omega
      subst this
      have hle : i ≤ i := Nat.le_refl i
      simp (disch := omega) only [Lp_X2_greatestLoad_4, F_X2_greatestLoad_4, F_X2_greatestLoad_43, hc, e3, hle, bd_some, n10, n00, bv_eq, within_eq, in_eq, gd_T, gd_t, i00, i10, c_0, c_1, c_m1, ite10, ite01, setV_fn, setV_at, cntS, nI_pos, nI_clamp, nI_leI, nI_ltI, nI_eq, nI_1, if_true, if_false, not_true, not_false, and_self, and_true, true_and, false_and, and_false, or_false, false_or, or_true, true_or, not_false_eq_true, ite_self, ite_true, ite_false, reduceIte, Nat.reduceEqDiff, Nat.reduceMul, Nat.reduceAdd, Nat.reduceLT, Nat.reducePow, ne_eq]
    | succ r ih =>
      intro N i hi hN
      obtain ⟨N, rfl⟩ : ∃ N', N = N' + 1 := ⟨N - 1, by omega⟩
      have hle : ¬ l ≤ i := by omega
      obtain ⟨k1, k2, k3, k4, k5, k6⟩ := hlo i (by omega)
      have bs := bit_eq (w := S) (j := LJ i) (by omega) (by omega)
      have hg := glF_le (S := S) (LJ := LJ) (LP := LP) (n := i) (fun q hq => (hlo q (by omega)).2.2.2.1)
      have ih := ih N (i + 1) (by omega) (by omega)
      rw [glF] at ih
      simp (disch := omega) only [Lp_X2_greatestLoad_4, F_X2_greatestLoad_4, F_X2_greatestLoad_37, hc, e3, hle, k5, k6, bs, bd_some, n10, n00, bv_eq, within_eq, in_eq, gd_T, gd_t, i00, i10, c_0, c_1, c_m1, ite10, ite01, setV_fn, setV_at, cntS, nI_pos, nI_clamp, nI_leI, nI_ltI, nI_eq, nI_1, if_true, if_false, not_true, not_false, and_self, and_true, true_and, false_and, and_false, or_false, false_or, or_true, true_or, not_false_eq_true, ite_self, ite_true, ite_false, reduceIte, Nat.reduceEqDiff, Nat.reduceMul, Nat.reduceAdd, Nat.reduceLT, Nat.reducePow, ne_eq]
      by_cases c : S.testBit (LJ i) = true
      · rw [if_pos c] at ih; rw [if_pos c]
        by_cases c2 : glF S LJ LP i < LP i
        · rw [if_pos c2] at ih; rw [if_pos c2]; exact ih
        · rw [if_neg c2] at ih; rw [if_neg c2]; exact ih
      · rw [if_neg c] at ih; rw [if_neg c]; exact ih
  have := key l fu 0 (by omega) (by omega)
  rw [glF, nI_0] at this; exact this
theorem souts_eq {fu nD d j s l S : Nat} {V : St} {A B LJ LP : Nat → Nat} (hfu : 1000 ≤ fu) (h : DrC V nD d j s l A B LJ LP) (hS : S < 256) : f_X2_sticksOutOf fu V (nI d) (nI S) = some (nI (outF S A B s), V) := by
  obtain ⟨hd, h22, hn, h2, h8, hs8, hl8, e1, e2, e3, hst, hlo⟩ := h
  have hc : cntV V 2104 = nD := cnt_n (by decide) (by omega) hn
  have key : ∀ (r N i : Nat), i + r = s → r < N → Lp_X2_sticksOutOf_4 (F_X2_sticksOutOf_47 fu) fu N V (nI d) (nI S) (nI (outF S A B i)) (nI i) = some (nI (outF S A B s), V) := by
    intro r
    induction r with
    | zero =>
      intro N i hi hN
      obtain ⟨N, rfl⟩ : ∃ N', N = N' + 1 := ⟨N - 1, by omega⟩
      have : i = s := by omega
      subst this
      have hle : i ≤ i := Nat.le_refl i
      simp (disch := omega) only [Lp_X2_sticksOutOf_4, F_X2_sticksOutOf_4, F_X2_sticksOutOf_47, hc, e2, hle, bd_some, n10, n00, bv_eq, within_eq, in_eq, gd_T, gd_t, i00, i10, c_0, c_1, c_m1, ite10, ite01, setV_fn, setV_at, cntS, nI_pos, nI_clamp, nI_leI, nI_ltI, nI_eq, nI_1, if_true, if_false, not_true, not_false, and_self, and_true, true_and, false_and, and_false, or_false, false_or, or_true, true_or, not_false_eq_true, ite_self, ite_true, ite_false, reduceIte, Nat.reduceEqDiff, Nat.reduceMul, Nat.reduceAdd, Nat.reduceLT, Nat.reducePow, ne_eq]
    | succ r ih =>
      intro N i hi hN
      obtain ⟨N, rfl⟩ : ∃ N', N = N' + 1 := ⟨N - 1, by omega⟩
      have hle : ¬ s ≤ i := by omega
      obtain ⟨k1, k2, k3, k4⟩ := hst i (by omega)
      have b1 := bit01 (w := S) (j := A i) (by omega) (by omega)
      have b2 := bit01 (w := S) (j := B i) (by omega) (by omega)
      have hb : (S / 2 ^ A i % 2 = S / 2 ^ B i % 2) = (S.testBit (A i) = S.testBit (B i)) := by
        rw [Nat.testBit_eq_decide_div_mod_eq, Nat.testBit_eq_decide_div_mod_eq]
        have q1 := Nat.mod_lt (S / 2 ^ A i) (show 0 < 2 by decide)
        have q2 := Nat.mod_lt (S / 2 ^ B i) (show 0 < 2 by decide)
        apply propext
        rw [decide_eq_decide]
        omega
      have q1 := Nat.mod_lt (S / 2 ^ A i) (show 0 < 2 by decide)
      have q2 := Nat.mod_lt (S / 2 ^ B i) (show 0 < 2 by decide)
      have ho := outF_lt (S := S) (A := A) (B := B) i (by omega)
      have ih := ih N (i + 1) (by omega) (by omega)
      rw [outF] at ih
      obtain ⟨w', -, e5, -⟩ := bit_set (w := outF S A B i) (b := i) (by omega) (by omega)
      have e6 : nI (outF S A B i) ||| ((1 : Int32) <<< (nI i &&& 31)) = nI (outF S A B i ||| 2 ^ i) := by
        have e1 : (1 : Int32) <<< (nI i &&& 31) = nI (2 ^ i) := by
          rw [(sh5 i (by omega)).1]
          have := pk_shlN (n := 1) (nI i) i (sh5 i (by omega)).2 (by have : 2 ^ i ≤ 2 ^ 11 := Nat.pow_le_pow_right (by decide) (by omega); omega)
          rw [Nat.one_mul] at this; exact this
        have hp : 2 ^ i < 2 ^ 12 := Nat.pow_lt_pow_right (by decide) (by omega)
        have hlt : outF S A B i ||| 2 ^ i < 2 ^ 12 := Nat.or_lt_two_pow (by omega) hp
        rw [e1]
        apply Int32.toBitVec_inj.mp
        rw [Int32.toBitVec_or]
        apply BitVec.eq_of_toNat_eq
        rw [BitVec.toNat_or, pk_tn (by omega), pk_tn (by omega), pk_tn (by omega)]
      simp (disch := omega) only [Lp_X2_sticksOutOf_4, F_X2_sticksOutOf_4, F_X2_sticksOutOf_41, hc, e2, hle, k3, k4, b1, b2, hb, e6, bd_some, n10, n00, bv_eq, within_eq, in_eq, gd_T, gd_t, i00, i10, c_0, c_1, c_m1, ite10, ite01, setV_fn, setV_at, cntS, nI_pos, nI_clamp, nI_leI, nI_ltI, nI_eq, nI_1, if_true, if_false, not_true, not_false, and_self, and_true, true_and, false_and, and_false, or_false, false_or, or_true, true_or, not_false_eq_true, ite_self, ite_true, ite_false, reduceIte, Nat.reduceEqDiff, Nat.reduceMul, Nat.reduceAdd, Nat.reduceLT, Nat.reducePow, ne_eq]
      by_cases c : S.testBit (A i) = S.testBit (B i)
      · rw [if_pos c] at ih; rw [if_pos c]; exact ih
      · rw [if_neg c] at ih; rw [if_neg c]; exact ih
  have := key s fu 0 (by omega) (by omega)
  rw [outF, nI_0] at this; exact this
