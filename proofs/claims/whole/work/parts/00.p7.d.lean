/-! cuts and what bears -/
def capM (m : Nat) (c : Nat → Nat) (n : Nat) : Nat := sN (fun k => if m.testBit k = true then tbo (c k) else 0) n
theorem sN_congr {f g : Nat → Nat} : ∀ n, (∀ e, e < n → f e = g e) → sN f n = sN g n := by
  intro n
  induction n with
  | zero => intro _; rfl
  | succ n ih => intro h; unfold sN; rw [ih (fun e he => h e (by omega)), h n (by omega)]
theorem sN_mono {f g : Nat → Nat} : ∀ n, (∀ e, e < n → f e ≤ g e) → sN f n ≤ sN g n := by
  intro n
  induction n with
  | zero => intro _; exact Nat.le_refl 0
  | succ n ih => intro h; unfold sN; have := ih (fun e he => h e (by omega)); have := h n (by omega); omega
theorem tbo_le (t : Nat) : tbo t ≤ 60 := by unfold tbo; split; omega; split <;> omega
theorem capM_le {m : Nat} {c : Nat → Nat} : ∀ n, capM m c n ≤ 60 * n := by
  intro n
  induction n with
  | zero => exact Nat.le_refl 0
  | succ n ih =>
    unfold capM at ih ⊢
    unfold sN
    have := tbo_le (c n)
    split <;> omega
theorem capM_mono {a b : Nat} {c : Nat → Nat} {n : Nat} (h : subM a b) : capM a c n ≤ capM b c n := by
  refine sN_mono n (fun k _ => ?_)
  by_cases ha : a.testBit k = true
  · rw [if_pos ha, if_pos (h k ha)]; exact Nat.le_refl _
  · rw [if_neg ha]; omega
theorem capM_cut {S s : Nat} {A B c : Nat → Nat} : capM (outF S A B s) c s = cut s A B c (fun i => S.testBit i) := by
  refine sN_congr s (fun k hk => ?_)
  rw [outF_bit]
  by_cases h : S.testBit (A k) = S.testBit (B k)
  · simp [h]
  · simp [h, hk]
def mskF (S : Nat → Bool) : Nat → Nat
  | 0 => 0
  | n + 1 => if S n = true then mskF S n ||| 2 ^ n else mskF S n
theorem mskF_bit {S : Nat → Bool} : ∀ n k, (mskF S n).testBit k = (decide (k < n) && S k) := by
  intro n
  induction n with
  | zero => intro k; simp [mskF]
  | succ n ih =>
    intro k
    unfold mskF
    by_cases h : S n = true
    · rw [if_pos h, Nat.testBit_or, ih k, Nat.testBit_two_pow]
      by_cases hk : k = n
      · subst hk; simp [h]
      · have e1 : (k < n + 1) = (k < n) := by apply propext; omega
        have e2 : ¬ n = k := fun z => hk z.symm
        simp only [e1, e2, decide_false, Bool.or_false]
    · rw [if_neg h, ih k]
      by_cases hk : k = n
      · subst hk; simp [h]
      · have e1 : (k < n + 1) = (k < n) := by apply propext; omega
        simp only [e1]
theorem mskF_lt {S : Nat → Bool} : ∀ n, mskF S n < 2 ^ n := by
  intro n
  induction n with
  | zero => show 0 < 1; omega
  | succ n ih =>
    unfold mskF
    have h2 : 2 ^ n < 2 ^ (n + 1) := Nat.pow_lt_pow_right (by decide) (by omega)
    split
    · exact Nat.or_lt_two_pow (by omega) h2
    · omega
theorem cuts_bears {j s l c : Nat} {A B LJ LP CS CN T : Nat → Nat} (hO : CutsOK j s l c A B LJ LP CS CN (2 ^ j)) (hA : ∀ k, k < s → A k < j ∧ B k < j) (hL : ∀ q, q < l → LJ q < j ∧ 1 ≤ LP q) : (∀ e, e < c → CN e ≤ capM (CS e) T s) ↔ Bears s l A B LJ LP T := by
  constructor
  · intro h S hS0 q hq hSq
    have hb := mskF_bit (S := S) j
    have hm2 : mskF S j % 2 = 0 := by
      have := hb 0
      rw [hS0, Bool.and_false, Nat.testBit_zero, decide_eq_false_iff_not] at this
      have := Nat.mod_lt (mskF S j) (show 0 < 2 by decide)
      omega
    have hqb : (mskF S j).testBit (LJ q) = true := by rw [hb, hSq]; simp [(hL q hq).1]
    have hge := glF_ge (S := mskF S j) (LJ := LJ) (LP := LP) l q hq hqb
    obtain ⟨k, k1, k2, k3⟩ := hO.2 (mskF S j) (mskF_lt j) hm2 (by have := (hL q hq).2; omega)
    have h1 := h k k1
    have h2 := capM_mono (c := T) (n := s) k2
    rw [capM_cut] at h2
    have h3 : cut s A B T (fun i => (mskF S j).testBit i) = cut s A B T S := sN_congr s (fun k hk => by
      have a1 := (hA k hk).1; have a2 := (hA k hk).2
      simp [hb, a1, a2])
    omega
  · intro h e he
    obtain ⟨S, h1, h2, h3, h4⟩ := hO.1 e he
    rw [h3, h4, capM_cut]
    rcases glF_at (S := S) (LJ := LJ) (LP := LP) l with g | ⟨q, q1, q2, q3⟩
    · omega
    · rw [q3]
      exact h (fun i => S.testBit i) (by show S.testBit 0 = false; rw [Nat.testBit_zero, h2]; decide) q q1 q2
theorem pcR_sm {w : Nat} : ∀ m k, pcR w m k = sN (fun i => if w.testBit (k + i) = true then 1 else 0) m := by
  intro m
  induction m with
  | zero => intro k; rfl
  | succ m ih =>
    intro k
    have e1 : ∀ (f : Nat → Nat) n, sN f (n + 1) = f 0 + sN (fun i => f (i + 1)) n := by
      intro f n
      induction n with
      | zero => unfold sN; unfold sN; omega
      | succ n ih => rw [sN, ih, sN]; omega
    rw [pcR, ih (k + 1), e1]
    have h1 : w / 2 ^ k % 2 = if w.testBit (k + 0) = true then 1 else 0 := by
      rw [Nat.add_zero, Nat.testBit_eq_decide_div_mod_eq]
      have := Nat.mod_lt (w / 2 ^ k) (show 0 < 2 by decide)
      by_cases z : w / 2 ^ k % 2 = 1
      · simp [z]
      · have : w / 2 ^ k % 2 = 0 := by omega
        simp [this]
    have h2 : sN (fun i => if w.testBit (k + 1 + i) = true then 1 else 0) m = sN (fun i => if w.testBit (k + (i + 1)) = true then 1 else 0) m := sN_congr m (fun i _ => by rw [show k + 1 + i = k + (i + 1) by omega])
    rw [h1, h2]
theorem sN_tail {f : Nat → Nat} {a : Nat} (h : ∀ i, a ≤ i → f i = 0) : ∀ n, a ≤ n → sN f n = sN f a := by
  intro n
  induction n with
  | zero => intro h1; have : a = 0 := by omega
            subst this; rfl
  | succ n ih =>
    intro h1
    by_cases z : a = n + 1
    · rw [z]
    · rw [sN, ih (by omega), h n (by omega)]; rfl
/-- the spare of a cut once the sticks below i have their timbers -/
theorem spare_end {m s CN : Nat} {c : Nat → Nat} (hs : s ≤ 8) (hm : ∀ i, s ≤ i → m.testBit i = false) : 60 * nI (pcR m 31 0) - nI CN - sm (fun k => if m.testBit k = true then 60 - nI (tbo (c k)) else 0) s = nI (capM m c s) - nI CN := by
  have h1 : pcR m 31 0 = sN (fun i => if m.testBit i = true then 1 else 0) s := by
    rw [pcR_sm, sN_tail (a := s) (fun i hi => by rw [Nat.zero_add, hm i hi]; rfl) 31 (by omega)]
    exact sN_congr s (fun i _ => by rw [Nat.zero_add])
  have h2 : ∀ n, 60 * nI (sN (fun i => if m.testBit i = true then 1 else 0) n) - sm (fun k => if m.testBit k = true then 60 - nI (tbo (c k)) else 0) n = nI (capM m c n) := by
    intro n
    induction n with
    | zero => show (60 : Int32) * nI 0 - 0 = nI 0; decide
    | succ n ih =>
      unfold capM at ih ⊢
      rw [sN, sN, sm, ← nI_add, ← nI_add, ← ih]
      by_cases z : m.testBit n = true
      · simp only [z, if_true, show nI 1 = 1 from rfl]; grind
      · simp only [z, Bool.false_eq_true, if_false, nI_0]; grind
  rw [h1, ← h2 s]; grind
