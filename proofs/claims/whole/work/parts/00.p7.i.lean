/-! the reference's search, its rounds -/
def SIv (s : Nat) (A B : Nat → Nat) (cap fl : Nat → Int) (src : Nat) (cm : Nat → Int32) : Prop := cm src = 8 ∧ ∃ rk : Nat → Nat, ∀ v, v < 8 → v ≠ src → ¬ cm v = -1 → ∃ k, k < s ∧ cm v = nI k ∧ ((B k = v ∧ ¬ cm (A k) = -1 ∧ rk (A k) < rk v ∧ fl k < cap k) ∨ (A k = v ∧ ¬ cm (B k) = -1 ∧ rk (B k) < rk v ∧ -fl k < cap k))
def Clo (s : Nat) (A B : Nat → Nat) (cap fl : Nat → Int) (cm : Nat → Int32) : Prop := ∀ k, k < s → (¬ cm (A k) = -1 → cm (B k) = -1 → ¬ fl k < cap k) ∧ (¬ cm (B k) = -1 → cm (A k) = -1 → ¬ -fl k < cap k)
theorem SIv.up {s : Nat} {A B : Nat → Nat} {cap fl : Nat → Int} {src k a v : Nat} {cm : Nat → Int32} (h : SIv s A B cap fl src cm) (hk : k < s) (hs : s ≤ 8) (hv : cm v = -1) (ha : ¬ cm a = -1) (hc : (B k = v ∧ A k = a ∧ fl k < cap k) ∨ (A k = v ∧ B k = a ∧ -fl k < cap k)) : SIv s A B cap fl src (upC cm v (nI k)) := by
  obtain ⟨h0, rk, hr⟩ := h
  have hvs : ¬ v = src := fun z => by rw [z, h0] at hv; revert hv; decide
  have hne : ¬ nI k = -1 := fun z => cast (ifneg_nI k (by omega)) z
  have hav : ¬ a = v := fun z => ha (z ▸ hv)
  refine ⟨by unfold upC; rw [if_neg (fun z => hvs z.symm)]; exact h0, fun q => if q = v then rk a + 1 else rk q, fun w hw8 hw hw2 => ?_⟩
  have keep : ∀ q, ¬ cm q = -1 → ¬ upC cm v (nI k) q = -1 := fun q hq => by
    unfold upC; split
    · exact hne
    · exact hq
  have nv : ∀ q, ¬ cm q = -1 → ¬ q = v := fun q hq z => hq (z ▸ hv)
  by_cases hwv : w = v
  · subst hwv
    refine ⟨k, hk, by unfold upC; rw [if_pos rfl], ?_⟩
    rcases hc with ⟨c1, c2, c3⟩ | ⟨c1, c2, c3⟩
    · left; refine ⟨c1, by rw [c2]; exact keep a ha, ?_, c3⟩
      show (if A k = w then rk a + 1 else rk (A k)) < (if w = w then rk a + 1 else rk w)
      rw [c2, if_neg hav, if_pos rfl]; omega
    · right; refine ⟨c1, by rw [c2]; exact keep a ha, ?_, c3⟩
      show (if B k = w then rk a + 1 else rk (B k)) < (if w = w then rk a + 1 else rk w)
      rw [c2, if_neg hav, if_pos rfl]; omega
  · have hcw : ¬ cm w = -1 := by unfold upC at hw2; rw [if_neg hwv] at hw2; exact hw2
    obtain ⟨q, q1, q2, q3⟩ := hr w hw8 hw hcw
    refine ⟨q, q1, by unfold upC; rw [if_neg hwv]; exact q2, ?_⟩
    rcases q3 with ⟨d1, d2, d3, d4⟩ | ⟨d1, d2, d3, d4⟩
    · left; refine ⟨d1, keep _ d2, ?_, d4⟩
      show (if A q = v then rk a + 1 else rk (A q)) < (if w = v then rk a + 1 else rk w)
      rw [if_neg (nv _ d2), if_neg hwv]; exact d3
    · right; refine ⟨d1, keep _ d2, ?_, d4⟩
      show (if B q = v then rk a + 1 else rk (B q)) < (if w = v then rk a + 1 else rk w)
      rw [if_neg (nv _ d2), if_neg hwv]; exact d3
def cnt8 (cm : Nat → Int32) : Nat := sN (fun v => if cm v = -1 then 0 else 1) 8
theorem cnt8_le (cm : Nat → Int32) : cnt8 cm ≤ 8 := by
  have : ∀ n, sN (fun v => if cm v = -1 then 0 else 1) n ≤ n := by
    intro n
    induction n with
    | zero => exact Nat.le_refl 0
    | succ n ih => unfold sN; split <;> omega
  exact this 8
theorem cnt8_up {cm : Nat → Int32} {v k : Nat} (hv : cm v = -1) (hv8 : v < 8) (hk : k < 8) : cnt8 (upC cm v (nI k)) = cnt8 cm + 1 := by
  have hne : ¬ nI k = -1 := fun z => cast (ifneg_nI k (by omega)) z
  have : ∀ n, sN (fun q => if upC cm v (nI k) q = -1 then 0 else 1) n = sN (fun q => if cm q = -1 then 0 else 1) n + (if v < n then 1 else 0) := by
    intro n
    induction n with
    | zero => rfl
    | succ n ih =>
      unfold sN
      rw [ih]
      unfold upC
      by_cases z : n = v
      · subst z
        rw [if_pos rfl, if_neg hne, if_pos hv, if_neg (by omega), if_pos (by omega)]
      · rw [if_neg z]
        by_cases y : v < n
        · rw [if_pos y, if_pos (show v < n + 1 by omega)]; omega
        · rw [if_neg y, if_neg (show ¬ v < n + 1 by omega)]; omega
  have := this 8
  rw [if_pos hv8] at this; exact this
/-- a stick's turn: all stays, or one joint more is met -/
theorem cmS_or {s j src k : Nat} {A B : Nat → Nat} {cap fl : Nat → Int} {cm : Nat → Int32} (hs : s ≤ 8) (hj : j ≤ 8) (hk : k < s) (ha : A k < j) (hb : B k < j) (h : SIv s A B cap fl src cm) : SIv s A B cap fl src (cmS2 A B cap fl k (cmS1 A B cap fl k cm)) ∧ ((cmS2 A B cap fl k (cmS1 A B cap fl k cm) = cm ∧ (¬ cm (A k) = -1 → cm (B k) = -1 → ¬ fl k < cap k) ∧ (¬ cm (B k) = -1 → cm (A k) = -1 → ¬ -fl k < cap k)) ∨ (cnt8 cm < cnt8 (cmS2 A B cap fl k (cmS1 A B cap fl k cm)) ∧ ¬ Clo s A B cap fl cm)) := by
  by_cases c1 : ¬ cm (A k) = -1 ∧ cm (B k) = -1 ∧ fl k < cap k
  · have e1 : cmS1 A B cap fl k cm = upC cm (B k) (nI k) := by unfold cmS1; rw [if_pos c1]
    have hne : ¬ A k = B k := fun z => c1.1 (z ▸ c1.2.1)
    have e2 : cmS2 A B cap fl k (upC cm (B k) (nI k)) = upC cm (B k) (nI k) := by
      unfold cmS2; rw [if_neg]
      intro z
      have := z.2.1
      unfold upC at this; rw [if_neg hne] at this
      exact c1.1 this
    rw [e1, e2]
    refine ⟨h.up (a := A k) hk hs c1.2.1 c1.1 (.inl ⟨rfl, rfl, c1.2.2⟩), .inr ⟨?_, fun z => (z k hk).1 c1.1 c1.2.1 c1.2.2⟩⟩
    rw [cnt8_up c1.2.1 (by omega) (by omega)]; omega
  · have e1 : cmS1 A B cap fl k cm = cm := by unfold cmS1; rw [if_neg c1]
    rw [e1]
    by_cases c2 : ¬ cm (B k) = -1 ∧ cm (A k) = -1 ∧ -fl k < cap k
    · have e2 : cmS2 A B cap fl k cm = upC cm (A k) (nI k) := by unfold cmS2; rw [if_pos c2]
      rw [e2]
      refine ⟨h.up (a := B k) hk hs c2.2.1 c2.1 (.inr ⟨rfl, rfl, c2.2.2⟩), .inr ⟨?_, fun z => (z k hk).2 c2.1 c2.2.1 c2.2.2⟩⟩
      rw [cnt8_up c2.2.1 (by omega) (by omega)]; omega
    · have e2 : cmS2 A B cap fl k cm = cm := by unfold cmS2; rw [if_neg c2]
      rw [e2]
      exact ⟨h, .inl ⟨rfl, fun z1 z2 z3 => c1 ⟨z1, z2, z3⟩, fun z1 z2 z3 => c2 ⟨z1, z2, z3⟩⟩⟩
theorem lq_round {fu d j s src : Nat} {V : St} {A B c : Nat → Nat} {fl : Nat → Int} {xs rd : Int32} {kx : St → Int32 → Int32 → Int32 → RR} (h : RfD V d j s A B c fl) : ∀ (r N k : Nat) (W : St) (cm cm0 : Nat → Int32), k + r = s → r < N → Fr [2229] V W → W 2229 0 = cm → SIv s A B (fun k => tbo (c k)) fl src cm → ((cnt8 cm0 < cnt8 cm ∧ ¬ Clo s A B (fun k => tbo (c k)) fl cm0) ∨ (cm = cm0 ∧ ∀ q, q < k → (¬ cm (A q) = -1 → cm (B q) = -1 → ¬ fl q < tbo (c q)) ∧ (¬ cm (B q) = -1 → cm (A q) = -1 → ¬ -fl q < tbo (c q)))) → ∃ W' cm', Lp_X12_moreFlow_50 kx fu N W (nI d) xs rd (nI k) = kx W' (nI d) xs rd ∧ Fr [2229] V W' ∧ W' 2229 0 = cm' ∧ SIv s A B (fun k => tbo (c k)) fl src cm' ∧ ((cnt8 cm0 < cnt8 cm' ∧ ¬ Clo s A B (fun k => tbo (c k)) fl cm0) ∨ (cm' = cm0 ∧ Clo s A B (fun k => tbo (c k)) fl cm')) := by
  have hd := h.1; have hj := h.2.1; have hs := h.2.2.1
  intro r
  induction r with
  | zero =>
    intro N k W cm cm0 hk hN hF hW hI hc
    obtain ⟨N, rfl⟩ : ∃ N', N = N' + 1 := ⟨N - 1, by omega⟩
    have hle : s ≤ k := by omega
    have e1 : W 2209 0 d = nI s := by rw [hF 2209 (by decide)]; exact h.2.2.2.1
    refine ⟨W, cm, ?_, hF, hW, hI, ?_⟩
    · simp (disch := omega) only [Lp_X12_moreFlow_50, F_X12_moreFlow_50, e1, hle, bd_some, n10, n00, bv_eq, within_eq, in_eq, gd_T, gd_t, i00, i10, c_0, c_1, c_m1, ite10, ite01, setV_fn, setV_at, cntS, nI_pos, nI_clamp, nI_leI, nI_ltI, nI_eq, nI_1, if_true, if_false, not_true, not_false, and_self, and_true, true_and, false_and, and_false, or_false, false_or, or_true, true_or, not_false_eq_true, ite_self, ite_true, ite_false, reduceIte, Nat.reduceEqDiff, Nat.reduceMul, Nat.reduceAdd, Nat.reduceLT, Nat.reducePow, ne_eq]
    · rcases hc with hc | ⟨hc, hc2⟩
      · exact .inl hc
      · exact .inr ⟨hc, fun q hq => hc2 q (by omega)⟩
  | succ r ih =>
    intro N k W cm cm0 hk hN hF hW hI hc
    obtain ⟨N, rfl⟩ : ∃ N', N = N' + 1 := ⟨N - 1, by omega⟩
    obtain ⟨a1, a2, -⟩ := h.2.2.2.2 k (by omega)
    obtain ⟨W1, g1, g2, g3⟩ := stick_1 (fu := fu) (src := xs) (rd := rd) (kh := Lp_X12_moreFlow_50 kx fu N) (kx := kx) (h.fr hF) (show k < s by omega) hW
    obtain ⟨i1, i2⟩ := cmS_or (k := k) hs hj (by omega) a1 a2 hI
    obtain ⟨W', cm', b1, b2⟩ := ih N (k + 1) W1 _ cm0 (by omega) (by omega) (hF.trans g2) g3 i1 (by
      rcases hc with hc | ⟨hc, hc2⟩
      · rcases i2 with ⟨i2, -⟩ | i2
        · rw [i2]; exact .inl hc
        · exact .inl ⟨by omega, hc.2⟩
      · rcases i2 with ⟨i2, i3⟩ | i2
        · rw [i2]
          refine .inr ⟨hc, fun q hq => ?_⟩
          by_cases z : q = k
          · subst z; exact i3
          · exact hc2 q (by omega)
        · rw [← hc]; exact .inl i2)
    refine ⟨W', cm', ?_, b2⟩
    rw [← b1, Lp_X12_moreFlow_50, g1]
theorem lq_clear {fu : Nat} {x1 x2 : Int32} {kx : St → Int32 → Int32 → RR} : ∀ (r N i : Nat) (V : St), i + r = 8 → r < N → ∃ W, Lp_X12_moreFlow_2 kx fu N V x1 x2 (nI i) = kx W x1 x2 ∧ Fr [2229] V W ∧ ∀ q, q < 8 → W 2229 0 q = if i ≤ q then -1 else V 2229 0 q := by
  intro r
  induction r with
  | zero =>
    intro N i V hi hN
    obtain ⟨N, rfl⟩ : ∃ N', N = N' + 1 := ⟨N - 1, by omega⟩
    have hle : (8 : Int32) ≤ nI i := nI_le (a := 8) (by omega) (by omega)
    refine ⟨V, ?_, Fr.refl _ V, fun q hq => by rw [if_neg (by omega)]⟩
    simp (disch := omega) only [Lp_X12_moreFlow_2, F_X12_moreFlow_2, hle, bd_some, n10, n00, bv_eq, within_eq, in_eq, gd_T, gd_t, i00, i10, c_0, c_1, c_m1, ite10, ite01, setV_fn, setV_at, cntS, nI_pos, nI_clamp, nI_leI, nI_ltI, nI_eq, nI_1, if_true, if_false, not_true, not_false, and_self, and_true, true_and, false_and, and_false, or_false, false_or, or_true, true_or, not_false_eq_true, ite_self, ite_true, ite_false, reduceIte, Nat.reduceEqDiff, Nat.reduceMul, Nat.reduceAdd, Nat.reduceLT, Nat.reducePow, ne_eq]
  | succ r ih =>
    intro N i V hi hN
    obtain ⟨N, rfl⟩ : ∃ N', N = N' + 1 := ⟨N - 1, by omega⟩
    have hle : ¬ (8 : Int32) ≤ nI i := nI_ge (b := 8) (by omega) (by omega)
    obtain ⟨W, e1, e2, e3⟩ := ih N (i + 1) (setV V 2229 0 i (-1)) (by omega) (by omega)
    refine ⟨W, ?_, (show Fr [2229] V (setV V 2229 0 i (-1)) from (Fr.refl _ V).set (by decide)).trans e2, fun q hq => ?_⟩
    · rw [← e1]; simp (disch := omega) only [Lp_X12_moreFlow_2, F_X12_moreFlow_2, hle, bd_some, n10, n00, bv_eq, within_eq, in_eq, gd_T, gd_t, i00, i10, c_0, c_1, c_m1, ite10, ite01, setV_fn, setV_at, cntS, nI_pos, nI_clamp, nI_leI, nI_ltI, nI_eq, nI_1, if_true, if_false, not_true, not_false, and_self, and_true, true_and, false_and, and_false, or_false, false_or, or_true, true_or, not_false_eq_true, ite_self, ite_true, ite_false, reduceIte, Nat.reduceEqDiff, Nat.reduceMul, Nat.reduceAdd, Nat.reduceLT, Nat.reducePow, ne_eq]
    · rw [e3 q hq, setV_at]; clear e3 ih; by_cases hk : q = i <;> grind
theorem lq_rounds {fu d j s src : Nat} {V : St} {A B c : Nat → Nat} {fl : Nat → Int} {xs : Int32} (hfu : 1000 ≤ fu) (h : RfD V d j s A B c fl) : ∀ (r N i : Nat) (W : St) (cm : Nat → Int32), i + r = 8 → r < N → Fr [2229] V W → W 2229 0 = cm → SIv s A B (fun k => tbo (c k)) fl src cm → (i + 1 ≤ cnt8 cm ∨ Clo s A B (fun k => tbo (c k)) fl cm) → ∃ W' cm', Lp_X12_moreFlow_31 (F_X12_moreFlow_211 fu) fu N W (nI d) xs (nI i) = F_X12_moreFlow_211 fu W' (nI d) xs ∧ Fr [2229] V W' ∧ W' 2229 0 = cm' ∧ SIv s A B (fun k => tbo (c k)) fl src cm' ∧ (¬ cm' 0 = -1 ∨ Clo s A B (fun k => tbo (c k)) fl cm') := by
  have hs := h.2.2.1
  intro r
  induction r with
  | zero =>
    intro N i W cm hi hN hF hW hI hc
    obtain ⟨N, rfl⟩ : ∃ N', N = N' + 1 := ⟨N - 1, by omega⟩
    have hle : (8 : Int32) ≤ nI i := nI_le (a := 8) (by omega) (by omega)
    refine ⟨W, cm, by rw [Lp_X12_moreFlow_31, F_X12_moreFlow_31, if_pos hle], hF, hW, hI, .inr (hc.resolve_left (fun z => by have := cnt8_le cm; omega))⟩
  | succ r ih =>
    intro N i W cm hi hN hF hW hI hc
    obtain ⟨N, rfl⟩ : ∃ N', N = N' + 1 := ⟨N - 1, by omega⟩
    have hle : ¬ (8 : Int32) ≤ nI i := nI_ge (b := 8) (by omega) (by omega)
    have w0 : W 2229 0 0 = cm 0 := by rw [hW]
    by_cases c0 : cm 0 = -1
    · obtain ⟨W1, cm1, b1, b2, b3, b4, b5⟩ := lq_round (fu := fu) (xs := xs) (rd := nI i) (kx := F_X12_moreFlow_205 (Lp_X12_moreFlow_31 (F_X12_moreFlow_211 fu) fu N) (F_X12_moreFlow_211 fu) fu) h s fu 0 W cm cm (by omega) (by omega) hF hW hI (.inr ⟨rfl, fun q hq => by omega⟩)
      obtain ⟨W', cm', d1, d2⟩ := ih N (i + 1) W1 cm1 (by omega) (by omega) b2 b3 b4 (by
        rcases b5 with b5 | ⟨b5, b6⟩
        · rcases hc with hc | hc
          · exact .inl (by omega)
          · exact absurd hc b5.2
        · exact .inr b6)
      refine ⟨W', cm', ?_, d2⟩
      rw [← d1]
      rw [nI_0] at b1
      rw [Lp_X12_moreFlow_31, F_X12_moreFlow_31, if_neg hle, c_0, gd_t (by decide), w0, if_pos c0, b1, F_X12_moreFlow_205, nI_1]
    · refine ⟨W, cm, ?_, hF, hW, hI, .inl c0⟩
      rw [Lp_X12_moreFlow_31, F_X12_moreFlow_31, if_neg hle, c_0, gd_t (by decide), w0, if_neg c0]
