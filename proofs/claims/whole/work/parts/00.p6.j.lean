/-! permutations, bit counts, sets told -/
theorem pm_red {n : Nat} {R : Nat → Nat} (h : isPm (n + 1) R) : isPm n (fun i => if R i = n then R n else R i) := by
  refine ⟨fun i hi => ?_, fun i j hi hj hij => ?_⟩
  · show (if R i = n then R n else R i) < n
    have h1 := h.1 i (by omega); have h2 := h.1 n (by omega)
    have h3 : R i = R n → i = n := h.2 i n (by omega) (by omega)
    split
    · rename_i e; by_cases z : R n = n
      · exact absurd (h3 (by omega)) (by omega)
      · omega
    · omega
  · have hij : (if R i = n then R n else R i) = (if R j = n then R n else R j) := hij
    have a1 := h.2 i j (by omega) (by omega); have a2 := h.2 i n (by omega) (by omega); have a3 := h.2 j n (by omega) (by omega)
    split at hij <;> split at hij
    · exact a1 (by omega)
    · exact absurd (a3 (by omega)) (by omega)
    · exact absurd (a2 (by omega)) (by omega)
    · exact a1 hij
theorem pm_surj : ∀ (n : Nat) (R : Nat → Nat), isPm n R → ∀ m, m < n → ∃ i, i < n ∧ R i = m := by
  intro n
  induction n with
  | zero => intro R h m hm; omega
  | succ n ih =>
    intro R h m hm
    by_cases c1 : R n = m
    · exact ⟨n, by omega, c1⟩
    · have hv := h.1 n (by omega)
      by_cases c2 : m = n
      · obtain ⟨i, hi, e⟩ := ih _ (pm_red h) (R n) (by omega)
        have e : (if R i = n then R n else R i) = R n := e
        by_cases c3 : R i = n
        · exact ⟨i, by omega, by omega⟩
        · rw [if_neg c3] at e
          exact absurd (h.2 i n (by omega) (by omega) e) (by omega)
      · obtain ⟨i, hi, e⟩ := ih _ (pm_red h) m (by omega)
        have e : (if R i = n then R n else R i) = m := e
        by_cases c3 : R i = n
        · rw [if_pos c3] at e; exact absurd e c1
        · rw [if_neg c3] at e; exact ⟨i, by omega, e⟩
theorem pm_sum {f : Nat → Int32} : ∀ (n : Nat) (R : Nat → Nat), isPm n R → sm (fun i => f (R i)) n = sm f n := by
  intro n
  induction n with
  | zero => intro R h; rfl
  | succ n ih =>
    intro R h
    have hred := ih _ (pm_red h)
    show sm (fun i => f (R i)) n + f (R n) = sm f n + f n
    rw [← hred]
    by_cases c : R n = n
    · rw [c]
      congr 1
      refine sm_congr n (fun i hi => ?_)
      have : ¬ R i = n := fun z => absurd (h.2 i n (by omega) (by omega) (by omega)) (by omega)
      simp only [this, if_false]
    · obtain ⟨i0, hi0, e0⟩ := pm_surj (n + 1) R h n (by omega)
      have hi0' : i0 < n := by
        by_cases z : i0 = n
        · subst z; exact absurd e0 c
        · omega
      have h1 : sm (fun i => f (R i)) n = sm (fun i => f (if R i = n then R n else R i) + (if i = i0 then f n - f (R n) else 0)) n := sm_congr n (fun i hi => by
        by_cases z : i = i0
        · subst z; simp only [e0, if_true]; grind
        · have : ¬ R i = n := fun q => z (h.2 i i0 (by omega) (by omega) (by omega))
          simp only [this, z, if_false]; grind)
      rw [h1, sm_add, sm_one (a := i0) (c := f n - f (R n)) n (fun i _ => rfl), if_pos hi0']
      grind
def pcR (w : Nat) : Nat → Nat → Nat
  | 0, _ => 0
  | m + 1, k => w / 2 ^ k % 2 + pcR w m (k + 1)
theorem pcR_le (w : Nat) : ∀ m k, pcR w m k ≤ m := by
  intro m
  induction m with
  | zero => intro k; exact Nat.le_refl 0
  | succ m ih => intro k; have := ih (k + 1); unfold pcR; omega
theorem bit01 {w j : Nat} (hw : w < 4096) (hj : j < 32) : (nI w >>> (nI j &&& 31)) &&& 1 = nI (w / 2 ^ j % 2) := by
  rw [(sh5 j hj).1, pk_shrN (by omega) (nI j) j (sh5 j hj).2, pk_andN (show w / 2 ^ j < 2 ^ 32 from Nat.lt_of_le_of_lt (Nat.div_le_self _ _) (by omega)) 1 (by decide)]
theorem lp_bits {fu w : Nat} {V : St} (hw : w < 4096) : ∀ (m N k c : Nat), k + m = 31 → m < N → Lp_X12_bits_4 (F_X12_bits_24 fu) fu N V (nI w) (nI c) (nI k) = some (nI (c + pcR w m k), V) := by
  intro m
  induction m with
  | zero =>
    intro N k c hk hN
    obtain ⟨N, rfl⟩ : ∃ N', N = N' + 1 := ⟨N - 1, by omega⟩
    have hle : (31 : Int32) ≤ nI k := nI_le (a := 31) (by omega) (by omega)
    rw [Lp_X12_bits_4, F_X12_bits_4, if_pos hle, F_X12_bits_24]; rfl
  | succ m ih =>
    intro N k c hk hN
    obtain ⟨N, rfl⟩ : ∃ N', N = N' + 1 := ⟨N - 1, by omega⟩
    have hle : ¬ (31 : Int32) ≤ nI k := nI_ge (b := 31) (by omega) (by omega)
    rw [Lp_X12_bits_4, F_X12_bits_4, if_neg hle, bit01 hw (by omega), nI_add, nI_1, ih N (k + 1) _ (by omega) (by omega), pcR, Nat.add_assoc]
theorem bits_eq {fu w : Nat} {V : St} (hfu : 1000 ≤ fu) (hw : w < 4096) : f_X12_bits fu V (nI w) = some (nI (pcR w 31 0), V) := by
  have := lp_bits (fu := fu) (V := V) hw 31 fu 0 0 (by omega) (by omega)
  rw [Nat.zero_add, nI_0] at this; exact this
theorem bc_64 : ∀ a : Nat, a < 64 → ∀ b : Nat, b < 64 → (f_J6_bitCount_0f7a4 0 (fun _ _ _ => 0) (nI (64 * a + b))).map (fun q => q.1) = some (nI (pcR (64 * a + b) 31 0)) := by decide +kernel
theorem bc_all (w : Nat) (h : w < 4096) : (f_J6_bitCount_0f7a4 0 (fun _ _ _ => 0) (nI w)).map (fun q => q.1) = some (nI (pcR w 31 0)) := by
  have := bc_64 (w / 64) (by omega) (w % 64) (by omega)
  rw [show 64 * (w / 64) + w % 64 = w by omega] at this; exact this
theorem bc_eq {fu w : Nat} {V : St} (hw : w < 4096) : f_J6_bitCount_0f7a4 fu V (nI w) = some (nI (pcR w 31 0), V) := by
  have h := bc_all w hw
  unfold f_J6_bitCount_0f7a4 at h ⊢
  simp only [Option.map_some, Option.some.injEq] at h
  rw [h]
theorem and_mask {x : Int32} {n : Nat} (hn : n ≤ 12) : (x &&& (((1 : Int32) <<< (nI n &&& 31) - 1) ^^^ (-1)) = 0) ↔ ∃ w, w < 2 ^ n ∧ x = nI w := by
  have h0 : 2 ^ n ≤ 2 ^ 12 := Nat.pow_le_pow_right (by decide) hn
  have h1 : 0 < 2 ^ n := Nat.pow_pos (by decide)
  have em : (1 : Int32) <<< (nI n &&& 31) - 1 = nI (2 ^ n - 1) := by
    rw [(sh5 n (by omega)).1]
    have := pk_shlN (n := 1) (nI n) n (sh5 n (by omega)).2 (by omega)
    rw [Nat.one_mul] at this
    have e : (1 : Int32) = nI 1 := rfl
    rw [e, this, pk_sub h1]
  have emt : (nI (2 ^ n - 1)).toBitVec.toNat = 2 ^ n - 1 := pk_tn (by omega)
  rw [em, xor_m1]
  constructor
  · intro h
    refine ⟨x.toBitVec.toNat % 2 ^ n, Nat.mod_lt _ h1, ?_⟩
    rw [← pk_and x n emt]
    apply Int32.toBitVec_inj.mp
    have h2 := congrArg Int32.toBitVec h
    rw [Int32.toBitVec_and, Int32.toBitVec_not] at h2
    rw [Int32.toBitVec_and]
    apply BitVec.eq_of_getLsbD_eq
    intro i hi
    have h3 := congrArg (fun b => b.getLsbD i) h2
    simp only [BitVec.getLsbD_and, BitVec.getLsbD_not, hi, decide_true, Bool.true_and] at h3
    rw [BitVec.getLsbD_and]
    have hz : (Int32.toBitVec 0).getLsbD i = false := by
      rw [show (Int32.toBitVec 0) = 0#32 by decide]; exact BitVec.getLsbD_zero
    rw [hz] at h3
    generalize x.toBitVec.getLsbD i = p at h3 ⊢
    generalize (nI (2 ^ n - 1)).toBitVec.getLsbD i = q at h3 ⊢
    revert h3; cases p <;> cases q <;> decide
  · rintro ⟨w, hw, rfl⟩
    apply Int32.toBitVec_inj.mp
    rw [Int32.toBitVec_and, Int32.toBitVec_not]
    apply BitVec.eq_of_getLsbD_eq
    intro i hi
    rw [BitVec.getLsbD_and, BitVec.getLsbD_not, show (Int32.toBitVec 0) = 0#32 by decide, BitVec.getLsbD_zero, ← BitVec.testBit_toNat, ← BitVec.testBit_toNat, pk_tn (by omega), emt, Nat.testBit_two_pow_sub_one]
    by_cases hin : i < n
    · simp [hin]
    · rw [Nat.testBit_lt_two_pow (Nat.lt_of_lt_of_le hw (Nat.pow_le_pow_right (by decide) (by omega)))]; simp
theorem told_eq {fu n : Nat} {V : St} {x : Int32} (hfu : 1000 ≤ fu) (hn : n ≤ 12) (h1 : V 2106 0 0 = nI n) (h2 : V 2232 0 0 = nI n) : (∃ w, w < 2 ^ n ∧ x = nI w ∧ f_X11_mayBeTold fu V x = some (1, V) ∧ f_X12_areTold fu V x = some (1, V)) ∨ (f_X11_mayBeTold fu V x = some (0, V) ∧ f_X12_areTold fu V x = some (0, V)) := by
  have h0 : 2 ^ n ≤ 2 ^ 12 := Nat.pow_le_pow_right (by decide) hn
  have es : (1 : Int32) <<< (nI n &&& 31) = nI (2 ^ n) := by
    rw [(sh5 n (by omega)).1]
    have := pk_shlN (n := 1) (nI n) n (sh5 n (by omega)).2 (by omega)
    rw [Nat.one_mul] at this; exact this
  have hm := and_mask (x := x) hn
  by_cases hq : ∃ w, w < 2 ^ n ∧ x = nI w
  · have hm' := hm.mpr hq
    obtain ⟨w, hw, rfl⟩ := hq
    have hw2 : w < 4096 := by omega
    have hle := pcR_le w 31 0
    have l1 : ¬ nI (2 ^ n) ≤ nI w := nI_ge hw (by omega)
    by_cases h8 : (8 : Int32) < nI (pcR w 31 0)
    · refine .inr ⟨?_, ?_⟩
      · simp only [f_X11_mayBeTold, F_X11_mayBeTold_33, F_X11_mayBeTold_34, h1, hm', bc_eq hw2, h8, bd_some, if_true, gd, n00, true_or]
      · simp (disch := omega) only [f_X12_areTold, F_X12_areTold_27, F_X12_areTold_28, h2, es, nI_pos, l1, bits_eq hfu hw2, h8, bd_some, if_true, if_false, gd, n00, true_or]
    · refine .inl ⟨w, hw, rfl, ?_, ?_⟩
      · simp only [f_X11_mayBeTold, F_X11_mayBeTold_34, h1, hm', bc_eq hw2, h8, bd_some, if_true, if_false, gd, or_true]
      · simp (disch := omega) only [f_X12_areTold, F_X12_areTold_28, h2, es, nI_pos, l1, bits_eq hfu hw2, h8, bd_some, if_true, if_false, gd, or_true]
  · have hm' : ¬ (x &&& (((1 : Int32) <<< (nI n &&& 31) - 1) ^^^ (-1)) = 0) := fun z => hq (hm.mp z)
    refine .inr ⟨?_, ?_⟩
    · simp only [f_X11_mayBeTold, F_X11_mayBeTold_33, F_X11_mayBeTold_34, h1, hm', if_true, if_false, gd, n00, true_or]
    · by_cases hx0 : x < 0
      · simp only [f_X12_areTold, F_X12_areTold_27, F_X12_areTold_28, hx0, if_true, gd, n00, true_or]
      · obtain ⟨j, hj, rfl⟩ := nI_of hx0
        have hge : nI (2 ^ n) ≤ nI j := nI_le (by
          by_cases z : j < 2 ^ n
          · exact absurd ⟨j, z, rfl⟩ hq
          · omega) (by omega)
        simp only [f_X12_areTold, F_X12_areTold_27, F_X12_areTold_28, h2, es, hx0, hge, if_true, if_false, gd, n00, true_or]
