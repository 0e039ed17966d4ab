/-! sets as masks -/
theorem nI_and {a b : Nat} (ha : a < 2 ^ 31) (hb : b < 2 ^ 31) : nI a &&& nI b = nI (a &&& b) := by
  have h : a &&& b < 2 ^ 31 := Nat.lt_of_le_of_lt Nat.and_le_left ha
  apply Int32.toBitVec_inj.mp
  rw [Int32.toBitVec_and]
  apply BitVec.eq_of_toNat_eq
  rw [BitVec.toNat_and, pk_tn (by omega), pk_tn (by omega), pk_tn (by omega)]
theorem nI_or {a b : Nat} (ha : a < 2 ^ 31) (hb : b < 2 ^ 31) : nI a ||| nI b = nI (a ||| b) := by
  have h : a ||| b < 2 ^ 31 := Nat.or_lt_two_pow ha hb
  apply Int32.toBitVec_inj.mp
  rw [Int32.toBitVec_or]
  apply BitVec.eq_of_toNat_eq
  rw [BitVec.toNat_or, pk_tn (by omega), pk_tn (by omega), pk_tn (by omega)]
theorem nI_xor {a b : Nat} (ha : a < 2 ^ 31) (hb : b < 2 ^ 31) : nI a ^^^ nI b = nI (a ^^^ b) := by
  have h : a ^^^ b < 2 ^ 31 := Nat.xor_lt_two_pow ha hb
  apply Int32.toBitVec_inj.mp
  rw [Int32.toBitVec_xor]
  apply BitVec.eq_of_toNat_eq
  rw [BitVec.toNat_xor, pk_tn (by omega), pk_tn (by omega), pk_tn (by omega)]
theorem xor_sub {X S j : Nat} (h : subM X S) : (S ^^^ X).testBit j = (S.testBit j && !X.testBit j) := by
  rw [Nat.testBit_xor]
  have := h j
  cases hx : X.testBit j <;> cases hs : S.testBit j <;> simp_all
theorem subM.xor {X S : Nat} (h : subM X S) : subM (S ^^^ X) S := fun j hj => by
  rw [xor_sub h] at hj
  simp only [Bool.and_eq_true] at hj
  exact hj.1
theorem subM.trans {a b c : Nat} (h : subM a b) (h' : subM b c) : subM a c := fun j hj => h' j (h j hj)
theorem subM.refl (a : Nat) : subM a a := fun _ h => h
theorem subM.zero (a : Nat) : subM 0 a := fun j hj => by rw [Nat.zero_testBit] at hj; cases hj
theorem subM.lt {X S n : Nat} (h : subM X S) (hS : S < 2 ^ n) : X < 2 ^ n := by
  refine Nat.lt_pow_two_of_testBit X (fun i hi => ?_)
  cases hx : X.testBit i
  · rfl
  · have := h i hx
    rw [Nat.testBit_lt_two_pow (Nat.lt_of_lt_of_le hS (Nat.pow_le_pow_right (by decide) hi))] at this
    cases this
theorem subM.le {X S : Nat} (h : subM X S) : X ≤ S := by
  have : X &&& S = X := Nat.eq_of_testBit_eq (fun i => by
    rw [Nat.testBit_and]
    have := h i
    cases hx : X.testBit i <;> simp_all)
  rw [← this]; exact Nat.and_le_right
theorem xor_xor {S X Y : Nat} : S ^^^ X ^^^ Y = S ^^^ Y ^^^ X := by rw [Nat.xor_assoc, Nat.xor_comm X Y, ← Nat.xor_assoc]
theorem mask0 {S : Nat} (h : ∀ j, S.testBit j = false) : S = 0 := Nat.eq_of_testBit_eq (fun i => by rw [h i, Nat.zero_testBit])
theorem mask_ne {S : Nat} (h : S ≠ 0) : ∃ j, S.testBit j = true := by
  refine Classical.byContradiction (fun z => h (mask0 (fun j => ?_)))
  cases hs : S.testBit j
  · rfl
  · exact absurd ⟨j, hs⟩ z
theorem bit_lt9 {S j : Nat} (hS : S < 512) (h : S.testBit j = true) : j < 9 := by
  refine Classical.byContradiction (fun z => ?_)
  rw [Nat.testBit_lt_two_pow (Nat.lt_of_lt_of_le (show S < 2 ^ 9 from hS) (Nat.pow_le_pow_right (by decide) (by omega)))] at h
  cases h
def sS (f : Nat → Nat) (S : Nat) : Nat := sN (fun k => if S.testBit k = true then f k else 0) 9
theorem sN_add {f g : Nat → Nat} : ∀ n, sN (fun k => f k + g k) n = sN f n + sN g n := by
  intro n
  induction n with
  | zero => rfl
  | succ n ih => rw [sN, sN, sN, ih]; omega
theorem sS_split {f : Nat → Nat} {X S : Nat} (h : subM X S) : sS f S = sS f X + sS f (S ^^^ X) := by
  unfold sS
  rw [← sN_add]
  refine sN_congr 9 (fun k _ => ?_)
  rw [xor_sub h]
  have := h k
  cases hx : X.testBit k <;> cases hs : S.testBit k <;> simp_all
theorem sS_0 {f : Nat → Nat} : sS f 0 = 0 := by
  have : ∀ n, sN (fun k => if (0 : Nat).testBit k = true then f k else 0) n = 0 := by
    intro n
    induction n with
    | zero => rfl
    | succ n ih => rw [sN, ih, Nat.zero_testBit]; rfl
  exact this 9
theorem sN_at {f : Nat → Nat} {p : Nat} : ∀ n, (∀ k, k < n → k ≠ p → f k = 0) → sN f n = if p < n then f p else 0 := by
  intro n
  induction n with
  | zero => intro _; rfl
  | succ n ih =>
    intro h
    rw [sN, ih (fun k hk => h k (by omega))]
    by_cases z : p = n
    · subst z; rw [if_neg (by omega), if_pos (by omega)]; omega
    · rw [h n (by omega) (fun y => z y.symm)]
      by_cases y : p < n
      · rw [if_pos y, if_pos (by omega)]; rfl
      · rw [if_neg y, if_neg (by omega)]
theorem sS_one {f : Nat → Nat} {p : Nat} (hp : p < 9) : sS f (2 ^ p) = f p := by
  unfold sS
  rw [sN_at (p := p) 9 (fun k _ hk => by rw [Nat.testBit_two_pow]; simp; intro z; exact absurd z.symm hk), if_pos hp, Nat.testBit_two_pow]
  simp
theorem sS_pos {S : Nat} (hS : S < 512) (h : S ≠ 0) : 1 ≤ sS (fun _ => 1) S := by
  obtain ⟨j, hj⟩ := mask_ne h
  exact sN_pos (v := j) (by rw [if_pos hj]; exact Nat.le_refl 1) 9 (bit_lt9 hS hj)
theorem sS_le9 {S : Nat} : sS (fun _ => 1) S ≤ 9 := by
  have : ∀ n, sN (fun k => if S.testBit k = true then 1 else 0) n ≤ n := by
    intro n
    induction n with
    | zero => exact Nat.le_refl 0
    | succ n ih => rw [sN]; split <;> omega
  exact this 9
theorem sub_one {S p : Nat} (h : S.testBit p = true) : subM (2 ^ p) S := fun j hj => by
  rw [Nat.testBit_two_pow] at hj
  have : p = j := by simpa using hj
  rw [← this]; exact h
theorem xor_lt {X S : Nat} (hS : S < 512) (h : subM X S) (hX : X ≠ 0) : sS (fun _ => 1) (S ^^^ X) < sS (fun _ => 1) S := by
  rw [sS_split h]
  have := sS_pos (Nat.lt_of_le_of_lt h.le hS) hX
  omega
/-- greatest of a set -/
def mxN (f : Nat → Nat) (S : Nat) : Nat → Nat
  | 0 => 0
  | n + 1 => if S.testBit n = true then max (mxN f S n) (f n) else mxN f S n
def mS (f : Nat → Nat) (S : Nat) : Nat := mxN f S 9
theorem mxN_le {f : Nat → Nat} {S t : Nat} : ∀ n, mxN f S n ≤ t ↔ ∀ k, k < n → S.testBit k = true → f k ≤ t := by
  intro n
  induction n with
  | zero => exact ⟨fun _ k hk => by omega, fun _ => Nat.zero_le t⟩
  | succ n ih =>
    rw [mxN]
    constructor
    · intro h k hk hb
      by_cases z : k = n
      · subst z; rw [if_pos hb] at h; omega
      · refine ih.mp ?_ k (by omega) hb
        split at h <;> omega
    · intro h
      have h1 := ih.mpr (fun k hk => h k (by omega))
      split
      · rename_i hb; have := h n (by omega) hb; omega
      · exact h1
theorem mS_le {f : Nat → Nat} {S t : Nat} (hS : S < 512) : mS f S ≤ t ↔ ∀ k, S.testBit k = true → f k ≤ t := by
  unfold mS
  rw [mxN_le]
  exact ⟨fun h k hb => h k (bit_lt9 hS hb) hb, fun h k _ hb => h k hb⟩
theorem eq_of_le {a b : Nat} (h : ∀ t, a ≤ t ↔ b ≤ t) : a = b := Nat.le_antisymm ((h b).mpr (Nat.le_refl b)) ((h a).mp (Nat.le_refl a))
theorem mS_0 {f : Nat → Nat} : mS f 0 = 0 := Nat.le_zero.mp ((mS_le (by decide)).mpr (fun k hk => by rw [Nat.zero_testBit] at hk; cases hk))
theorem mS_split {f : Nat → Nat} {X S : Nat} (hS : S < 512) (h : subM X S) : mS f S = max (mS f X) (mS f (S ^^^ X)) := by
  have hX := Nat.lt_of_le_of_lt h.le hS
  have hY := Nat.lt_of_le_of_lt h.xor.le hS
  refine eq_of_le (fun t => ?_)
  rw [mS_le hS, Nat.max_le, mS_le hX, mS_le hY]
  constructor
  · exact fun q => ⟨fun k hk => q k (h k hk), fun k hk => q k (h.xor k hk)⟩
  · rintro ⟨q1, q2⟩ k hk
    cases hx : X.testBit k
    · exact q2 k (by rw [xor_sub h, hk, hx]; rfl)
    · exact q1 k hx
theorem mS_one {f : Nat → Nat} {p : Nat} (hp : p < 9) : mS f (2 ^ p) = f p := by
  have : 2 ^ p < 2 ^ 9 := Nat.pow_lt_pow_right (by decide) hp
  refine eq_of_le (fun t => ?_)
  rw [mS_le this]
  constructor
  · exact fun h => h p (by rw [Nat.testBit_two_pow]; simp)
  · intro h k hk
    rw [Nat.testBit_two_pow] at hk
    have : p = k := by simpa using hk
    rw [← this]; exact h
theorem mS_bound {f : Nat → Nat} {S t n : Nat} (hS : S < 2 ^ n) (hn : n ≤ 9) (h : ∀ k, k < n → f k ≤ t) : mS f S ≤ t := by
  have h9 : S < 512 := Nat.lt_of_lt_of_le hS (Nat.pow_le_pow_right (n := 2) (by decide) hn)
  rw [mS_le h9]
  intro k hk
  refine h k (Classical.byContradiction (fun z => ?_))
  rw [Nat.testBit_lt_two_pow (Nat.lt_of_lt_of_le hS (Nat.pow_le_pow_right (by decide) (by omega)))] at hk
  cases hk
theorem sS_bound {f : Nat → Nat} {S t n : Nat} (hS : S < 2 ^ n) (hn : n ≤ 9) (h : ∀ k, k < n → f k ≤ t) : sS f S ≤ t * 9 := by
  unfold sS
  have : ∀ m, m ≤ 9 → sN (fun k => if S.testBit k = true then f k else 0) m ≤ t * m := by
    intro m
    induction m with
    | zero => intro _; exact Nat.le_refl 0
    | succ m ih =>
      intro hm
      have := ih (by omega)
      rw [sN, Nat.mul_succ]
      by_cases hb : S.testBit m = true
      · rw [if_pos hb]
        have : f m ≤ t := h m (Classical.byContradiction (fun z => by
          rw [Nat.testBit_lt_two_pow (Nat.lt_of_lt_of_le hS (Nat.pow_le_pow_right (by decide) (by omega)))] at hb
          cases hb))
        omega
      · rw [if_neg hb]; omega
  exact this 9 (Nat.le_refl 9)
/-- the lowest of a set -/
def lwF (s : Nat) : Nat → Nat → Nat
  | 0, k => k
  | n + 1, k => if s.testBit k = true then k else lwF s n (k + 1)
def lw (s : Nat) : Nat := lwF s 9 0
theorem lw_and : ∀ s : Nat, s < 512 → s ≠ 0 → s &&& (s - 1) = s ^^^ 2 ^ lw s ∧ s ^^^ (s &&& (s - 1)) = 2 ^ lw s ∧ lw s < 9 ∧ s.testBit (lw s) = true := by decide +kernel
theorem lwF_low {s : Nat} : ∀ n k, (∀ j, j < k → s.testBit j = false) → ∀ j, j < lwF s n k → s.testBit j = false := by
  intro n
  induction n with
  | zero => intro k h j hj; exact h j hj
  | succ n ih =>
    intro k h j hj
    rw [lwF] at hj
    by_cases z : s.testBit k = true
    · rw [if_pos z] at hj; exact h j hj
    · rw [if_neg z] at hj
      refine ih (k + 1) (fun i hi => ?_) j hj
      by_cases y : i = k
      · subst y; exact Bool.eq_false_iff.mpr z
      · exact h i (by omega)
theorem lw_low {s : Nat} : ∀ j, j < lw s → s.testBit j = false := lwF_low 9 0 (fun j hj => by omega)
theorem lw_uniq {s p : Nat} (hs : s < 512) (h : s.testBit p = true) (hl : ∀ j, j < p → s.testBit j = false) : lw s = p := by
  have h0 : s ≠ 0 := fun z => by rw [z, Nat.zero_testBit] at h; cases h
  obtain ⟨-, -, -, h4⟩ := lw_and s hs h0
  rcases Nat.lt_trichotomy (lw s) p with z | z | z
  · rw [hl _ z] at h4; cases h4
  · exact z
  · rw [lw_low p z] at h; cases h
theorem ntz_64 : ∀ a : Nat, a < 8 → ∀ b : Nat, b < 64 → (64 * a + b ≠ 0) → (f_J6_numberOfTrailingZeros_0f7a4 0 (fun _ _ _ => 0) (nI (64 * a + b))).map (fun q => q.1) = some (nI (lw (64 * a + b))) := by decide +kernel
theorem ntz_gen {fu : Nat} {V : St} {x : Int32} : f_J6_numberOfTrailingZeros_0f7a4 fu V x = (f_J6_numberOfTrailingZeros_0f7a4 0 (fun _ _ _ => 0) x).map (fun q => (q.1, V)) := by
  simp only [f_J6_numberOfTrailingZeros_0f7a4, F_J6_numberOfTrailingZeros_0f7a4_34, F_J6_numberOfTrailingZeros_0f7a4_49, F_J6_numberOfTrailingZeros_0f7a4_62, F_J6_numberOfTrailingZeros_0f7a4_74]
  repeat' split
  all_goals rfl
theorem ntz_eq {fu s : Nat} {V : St} (hs : s < 512) (h0 : s ≠ 0) : f_J6_numberOfTrailingZeros_0f7a4 fu V (nI s) = some (nI (lw s), V) := by
  have h := ntz_64 (s / 64) (by omega) (s % 64) (by omega) (by omega)
  rw [show 64 * (s / 64) + s % 64 = s by omega] at h
  rw [ntz_gen]
  cases hq : f_J6_numberOfTrailingZeros_0f7a4 0 (fun _ _ _ => 0) (nI s) with
  | none => rw [hq] at h; cases h
  | some q =>
    rw [hq] at h
    simp only [Option.map_some, Option.some.injEq] at h ⊢
    rw [h]
/-- the next set below among those of O -/
theorem sub_next : ∀ (n m O Y : Nat), m < 2 ^ n → subM m O → subM Y O → Y < m → Y ≤ (m - 1) &&& O := by
  intro n
  induction n with
  | zero => intro m O Y hm _ _ hY; omega
  | succ n ih =>
    intro m O Y hm h1 h2 hY
    have d2 : ∀ a j, a.testBit (j + 1) = (a / 2).testBit j := fun a j => Nat.testBit_succ a j
    have h1' : subM (m / 2) (O / 2) := fun j hj => by rw [← d2] at hj ⊢; exact h1 _ hj
    have h2' : subM (Y / 2) (O / 2) := fun j hj => by rw [← d2] at hj ⊢; exact h2 _ hj
    have hb : ∀ a b : Nat, (a &&& b) / 2 = a / 2 &&& b / 2 := fun a b => Nat.eq_of_testBit_eq (fun j => by rw [← d2, Nat.testBit_and, Nat.testBit_and, d2, d2])
    have m0 : ∀ a : Nat, a.testBit 0 = decide (a % 2 = 1) := fun a => Nat.testBit_zero a
    have ho : m % 2 = 1 → O % 2 = 1 := fun z => by
      have := h1 0 (by rw [m0]; simp [z]); rw [m0] at this; simpa using this
    have hy : Y % 2 = 1 → O % 2 = 1 := fun z => by
      have := h2 0 (by rw [m0]; simp [z]); rw [m0] at this; simpa using this
    have hpow : 2 ^ (n + 1) = 2 * 2 ^ n := Nat.pow_succ'
    by_cases z : m % 2 = 1
    · have e1 : (m - 1) / 2 = m / 2 := by omega
      have e2 : ((m - 1) &&& O) / 2 = m / 2 := by
        rw [hb, e1]
        exact Nat.eq_of_testBit_eq (fun i => by
          rw [Nat.testBit_and]
          have := h1' i
          cases hx : (m / 2).testBit i <;> simp_all)
      omega
    · have e1 : (m - 1) / 2 = m / 2 - 1 := by omega
      have i1 := ih (m / 2) (O / 2) (Y / 2) (by omega) h1' h2' (by omega)
      rw [← e1, ← hb] at i1
      by_cases y : Y % 2 = 1
      · have o1 := hy y
        have e3 : ((m - 1) &&& O) % 2 = 1 := by
          have q : ((m - 1) &&& O).testBit 0 = true := by
            rw [Nat.testBit_and, m0, m0]
            have : (m - 1) % 2 = 1 := by omega
            simp [this, o1]
          rw [m0] at q; simpa using q
        omega
      · omega
