/-! hands -/
theorem bit_eq0 {w j : Nat} (hw : w < 4096) (hj : j < 12) : ((nI w >>> (nI j &&& 31)) &&& 1 = 0) = (w.testBit j = false) := by
  rw [bit01 hw (by omega), ← nI_0, nI_eq (by have := Nat.mod_lt (w / 2 ^ j) (show 0 < 2 by decide); omega) (by decide), Nat.testBit_eq_decide_div_mod_eq]
  apply propext
  have := Nat.mod_lt (w / 2 ^ j) (show 0 < 2 by decide)
  constructor
  · intro h; rw [decide_eq_false_iff_not]; omega
  · intro h; rw [decide_eq_false_iff_not] at h; omega
theorem bit_set {w b : Nat} (hw : w < 4096) (hb : b < 12) : ∃ w', w' < 4096 ∧ (nI w ||| ((1 : Int32) <<< (nI b &&& 31))) = nI w' ∧ ∀ j, w'.testBit j = (w.testBit j || decide (b = j)) := by
  have e1 : (1 : Int32) <<< (nI b &&& 31) = nI (2 ^ b) := by
    rw [(sh5 b (by omega)).1]
    have := pk_shlN (n := 1) (nI b) b (sh5 b (by omega)).2 (by have : 2 ^ b ≤ 2 ^ 11 := Nat.pow_le_pow_right (by decide) (by omega); omega)
    rw [Nat.one_mul] at this; exact this
  have hp : 2 ^ b < 2 ^ 12 := Nat.pow_lt_pow_right (by decide) hb
  have hlt : w ||| 2 ^ b < 2 ^ 12 := Nat.or_lt_two_pow hw hp
  rw [e1]
  refine ⟨w ||| 2 ^ b, hlt, ?_, fun j => ?_⟩
  · apply Int32.toBitVec_inj.mp
    rw [Int32.toBitVec_or]
    apply BitVec.eq_of_toNat_eq
    rw [BitVec.toNat_or, pk_tn (by omega), pk_tn (by omega), pk_tn (by omega)]
  · rw [Nat.testBit_or, Nat.testBit_two_pow]
def hd (V : St) (s : Nat) (R : Nat → Nat) : Nat → Nat → Int32 → Int32 → Int32 × Int32
  | 0, _, u, st => (u, st)
  | r + 1, i, u, st => if s.testBit (R i) = true then hd V s R r (i + 1) (u + ((if st < V 2234 0 (R i) then st else V 2234 0 (R i)) + V 2236 0 (R i) - 1) / V 2236 0 (R i)) (st - (if st < V 2234 0 (R i) then st else V 2234 0 (R i))) else hd V s R r (i + 1) u st
theorem z_div {x : Int32} (h1 : 1 ≤ x) (h2 : x ≤ 100) : (0 + x - 1) / x = 0 := by
  obtain ⟨j, hj, rfl⟩ := nI_of2 (x := x) (M := 100) (n := 100) (by decide) (by grind) h2
  have h3 : 1 ≤ j := (nI_leI (a := 1) (by omega) (by omega)).mp h1
  have e : (0 : Int32) + nI j - 1 = nI (j - 1) := by
    rw [show (0 : Int32) + nI j = nI j by grind, show (1 : Int32) = nI 1 from rfl, pk_sub h3]
  rw [e, pk_div (by omega) (by omega) (by omega), Nat.div_eq_of_lt (by omega)]; rfl
theorem hd_zero {V : St} {s n : Nat} {R : Nat → Nat} (hx : ∀ m, m < n → MakV V m) (hR : ∀ i, i < n → R i < n) : ∀ r i u, i + r = n → hd V s R r i u 0 = (u, 0) := by
  intro r
  induction r with
  | zero => intro i u _; rfl
  | succ r ih =>
    intro i u hi
    unfold hd
    obtain ⟨-, -, k3, k4, -, -, k7, k8, -⟩ := hx (R i) (hR i (by omega))
    have h0 : (0 : Int32) < V 2234 0 (R i) := by grind
    rw [if_pos h0, z_div k7 k8]
    have e1 : u + 0 = u := by grind
    have e2 : (0 : Int32) - 0 = 0 := by decide
    rw [e1, e2, ih (i + 1) u (by omega)]
    split <;> rfl
theorem lp_hands {fu n s tw : Nat} {V : St} {R : Nat → Nat} (h12 : n ≤ 12) (hn1 : V 2106 0 0 = nI n) (hx : ∀ m, m < n → MakV V m) (hR : ∀ i, i < n → R i < n) (hv : ∀ i, i < n → V 2107 0 i = nI (R i)) (hs : s < 4096) (ht : tw < 4096) : ∀ (r N i : Nat) (u st : Int32), i + r = n → r < N → Lp_X11_handsToDo_12 (F_X11_handsToDo_117 fu) fu N V (nI tw) (nI s) (sm (fun q => if tw.testBit (R q) = true then V 2235 0 (R q) else 0) i) u st (nI i) = F_X11_handsToDo_117 fu V (sm (fun q => if tw.testBit (R q) = true then V 2235 0 (R q) else 0) n) (hd V s R r i u st).1 (hd V s R r i u st).2 := by
  have hc : cntV V 2106 = n := cnt_n (by decide) (by omega) hn1
  intro r
  induction r with
  | zero =>
    intro N i u st hi hN
    obtain ⟨N, rfl⟩ : ∃ N', N = N' + 1 := ⟨N - 1, by omega⟩
    have : i = n := by omega
    subst this
    have hle : i ≤ i := Nat.le_refl i
    simp (disch := omega) only [Lp_X11_handsToDo_12, F_X11_handsToDo_12, hn1, hle, hd, bd_some, n10, n00, bv_eq, within_eq, in_eq, gd_T, gd_t, i00, i10, c_0, c_1, c_m1, ite10, ite01, setV_fn, setV_at, cntS, nI_pos, nI_clamp, nI_leI, nI_ltI, nI_eq, nI_1, if_true, if_false, not_true, not_false, and_self, and_true, true_and, false_and, and_false, or_false, false_or, or_true, true_or, not_false_eq_true, ite_self, ite_true, ite_false, reduceIte, Nat.reduceEqDiff, Nat.reduceMul, Nat.reduceAdd, Nat.reduceLT, Nat.reducePow, ne_eq]
  | succ r ih =>
    intro N i u st hi hN
    obtain ⟨N, rfl⟩ : ∃ N', N = N' + 1 := ⟨N - 1, by omega⟩
    have hle : ¬ n ≤ i := by omega
    have hri := hR i (by omega)
    have hvi := hv i (by omega)
    obtain ⟨k1, k2, k3, k4, k5, k6, k7, k8, -⟩ := hx (R i) hri
    have hr0 : 0 < V 2236 0 (R i) := by grind
    have bt := bit_eq ht (show R i < 12 by omega)
    have bs := bit_eq hs (show R i < 12 by omega)
    have z0 : ∀ q : Int32, q + 0 = q := fun q => by grind
    have step : ∀ fr : Int32, F_X11_handsToDo_67 (Lp_X11_handsToDo_12 (F_X11_handsToDo_117 fu) fu N) (F_X11_handsToDo_117 fu) fu V (nI tw) (nI s) fr u st (nI i) (nI (R i)) (nI (R i)) = if s.testBit (R i) = true then Lp_X11_handsToDo_12 (F_X11_handsToDo_117 fu) fu N V (nI tw) (nI s) fr (u + ((if st < V 2234 0 (R i) then st else V 2234 0 (R i)) + V 2236 0 (R i) - 1) / V 2236 0 (R i)) (st - (if st < V 2234 0 (R i) then st else V 2234 0 (R i))) (nI (i + 1)) else Lp_X11_handsToDo_12 (F_X11_handsToDo_117 fu) fu N V (nI tw) (nI s) fr u st (nI (i + 1)) := by
      intro fr
      simp (disch := omega) only [F_X11_handsToDo_67, F_X11_handsToDo_111, bs, hc, k2, k6, roundedUp_eq hr0, bd_some, n10, n00, bv_eq, within_eq, in_eq, gd_T, gd_t, i00, i10, c_0, c_1, c_m1, ite10, ite01, setV_fn, setV_at, cntS, nI_pos, nI_clamp, nI_leI, nI_ltI, nI_eq, nI_1, if_true, if_false, not_true, not_false, and_self, and_true, true_and, false_and, and_false, or_false, false_or, or_true, true_or, not_false_eq_true, ite_self, ite_true, ite_false, reduceIte, Nat.reduceEqDiff, Nat.reduceMul, Nat.reduceAdd, Nat.reduceLT, Nat.reducePow, ne_eq]
    have h1 : Lp_X11_handsToDo_12 (F_X11_handsToDo_117 fu) fu (N + 1) V (nI tw) (nI s) (sm (fun q => if tw.testBit (R q) = true then V 2235 0 (R q) else 0) i) u st (nI i) = F_X11_handsToDo_67 (Lp_X11_handsToDo_12 (F_X11_handsToDo_117 fu) fu N) (F_X11_handsToDo_117 fu) fu V (nI tw) (nI s) (sm (fun q => if tw.testBit (R q) = true then V 2235 0 (R q) else 0) (i + 1)) u st (nI i) (nI (R i)) (nI (R i)) := by
      rw [sm]
      simp (disch := omega) only [Lp_X11_handsToDo_12, F_X11_handsToDo_12, hn1, hle, hvi, hc, bt, k5, bd_some, n10, n00, bv_eq, within_eq, in_eq, gd_T, gd_t, i00, i10, c_0, c_1, c_m1, ite10, ite01, setV_fn, setV_at, cntS, nI_pos, nI_clamp, nI_leI, nI_ltI, nI_eq, nI_1, if_true, if_false, not_true, not_false, and_self, and_true, true_and, false_and, and_false, or_false, false_or, or_true, true_or, not_false_eq_true, ite_self, ite_true, ite_false, reduceIte, Nat.reduceEqDiff, Nat.reduceMul, Nat.reduceAdd, Nat.reduceLT, Nat.reducePow, ne_eq]
      by_cases z : tw.testBit (R i) = true
      · simp only [z, if_true]
      · simp only [z, Bool.false_eq_true, if_false, z0]
    rw [h1, step, hd]
    by_cases z : s.testBit (R i) = true
    · rw [if_pos z, if_pos z]; exact ih N (i + 1) _ _ (by omega) (by omega)
    · rw [if_neg z, if_neg z]; exact ih N (i + 1) _ _ (by omega) (by omega)
theorem lq_all {fu n tw : Nat} {V : St} {set p : Int32} {kx : St → Int32 → Int32 → Int32 → Int32 → RR} (h12 : n ≤ 12) (hn2 : V 2232 0 0 = nI n) (ht : tw < 4096) : ∀ (r N m : Nat), m + r = n → r < N → Lp_X12_neededBy_12 kx fu N V (nI tw) set p 0 (sm (fun m => if tw.testBit m = true then V 2235 0 m else 0) m) (nI m) = kx V set p 0 (sm (fun m => if tw.testBit m = true then V 2235 0 m else 0) n) := by
  intro r
  induction r with
  | zero =>
    intro N m hm hN
    obtain ⟨N, rfl⟩ : ∃ N', N = N' + 1 := ⟨N - 1, by omega⟩
    have : m = n := by omega
    subst this
    have hle : m ≤ m := Nat.le_refl m
    simp (disch := omega) only [Lp_X12_neededBy_12, F_X12_neededBy_12, hn2, hle, bd_some, n10, n00, bv_eq, within_eq, in_eq, gd_T, gd_t, i00, i10, c_0, c_1, c_m1, ite10, ite01, setV_fn, setV_at, cntS, nI_pos, nI_clamp, nI_leI, nI_ltI, nI_eq, nI_1, if_true, if_false, not_true, not_false, and_self, and_true, true_and, false_and, and_false, or_false, false_or, or_true, true_or, not_false_eq_true, ite_self, ite_true, ite_false, reduceIte, Nat.reduceEqDiff, Nat.reduceMul, Nat.reduceAdd, Nat.reduceLT, Nat.reducePow, ne_eq]
  | succ r ih =>
    intro N m hm hN
    obtain ⟨N, rfl⟩ : ∃ N', N = N' + 1 := ⟨N - 1, by omega⟩
    have hle : ¬ n ≤ m := by omega
    have bt := bit_eq ht (show m < 12 by omega)
    have ih := ih N (m + 1) (by omega) (by omega)
    rw [sm] at ih
    simp (disch := omega) only [Lp_X12_neededBy_12, F_X12_neededBy_12, F_X12_neededBy_44, hn2, hle, bt, bd_some, n10, n00, bv_eq, within_eq, in_eq, gd_T, gd_t, i00, i10, c_0, c_1, c_m1, ite10, ite01, setV_fn, setV_at, cntS, nI_pos, nI_clamp, nI_leI, nI_ltI, nI_eq, nI_1, if_true, if_false, not_true, not_false, and_self, and_true, true_and, false_and, and_false, or_false, false_or, or_true, true_or, not_false_eq_true, ite_self, ite_true, ite_false, reduceIte, Nat.reduceEqDiff, Nat.reduceMul, Nat.reduceAdd, Nat.reduceLT, Nat.reducePow, ne_eq]
    by_cases z : tw.testBit m = true
    · rw [if_pos z] at ih; rw [if_pos z]; exact ih
    · rw [if_neg z] at ih; rw [if_neg z]; exact ih
def cnd (s D m : Nat) : Prop := s.testBit m = true ∧ D.testBit m = false
def bst (V : St) (s D m : Nat) (b : Int32) : Prop := (b = -1 ∧ ∀ q, q < m → ¬ cnd s D q) ∨ ∃ j, b = nI j ∧ j < m ∧ cnd s D j ∧ ∀ q, q < m → cnd s D q → V 2236 0 q < V 2236 0 j ∨ (V 2236 0 q = V 2236 0 j ∧ j ≤ q)
theorem lq_best {fu n s D : Nat} {V : St} {st u al : Int32} {kx : St → Int32 → Int32 → Int32 → Int32 → Int32 → Int32 → RR} (h12 : n ≤ 12) (hn2 : V 2232 0 0 = nI n) (hs : s < 4096) (hD : D < 4096) : ∀ (r N m : Nat) (b : Int32), m + r = n → r < N → bst V s D m b → ∃ b', bst V s D n b' ∧ Lp_X12_neededBy_67 kx fu N V (nI s) st u al (nI D) b (nI m) = kx V (nI s) st u al (nI D) b' := by
  intro r
  induction r with
  | zero =>
    intro N m b hm hN hb
    obtain ⟨N, rfl⟩ : ∃ N', N = N' + 1 := ⟨N - 1, by omega⟩
    have : m = n := by omega
    subst this
    have hle : m ≤ m := Nat.le_refl m
    refine ⟨b, hb, ?_⟩
    simp (disch := omega) only [Lp_X12_neededBy_67, F_X12_neededBy_67, hn2, hle, bd_some, n10, n00, bv_eq, within_eq, in_eq, gd_T, gd_t, i00, i10, c_0, c_1, c_m1, ite10, ite01, setV_fn, setV_at, cntS, nI_pos, nI_clamp, nI_leI, nI_ltI, nI_eq, nI_1, if_true, if_false, not_true, not_false, and_self, and_true, true_and, false_and, and_false, or_false, false_or, or_true, true_or, not_false_eq_true, ite_self, ite_true, ite_false, reduceIte, Nat.reduceEqDiff, Nat.reduceMul, Nat.reduceAdd, Nat.reduceLT, Nat.reducePow, ne_eq]
  | succ r ih =>
    intro N m b hm hN hb
    obtain ⟨N, rfl⟩ : ∃ N', N = N' + 1 := ⟨N - 1, by omega⟩
    have hle : ¬ n ≤ m := by omega
    have bs := bit_eq hs (show m < 12 by omega)
    have bd0 := bit_eq0 hD (show m < 12 by omega)
    have keep : ¬ cnd s D m → bst V s D (m + 1) b := fun hc => by
      rcases hb with ⟨e, h⟩ | ⟨j, e, hj, hcj, h⟩
      · exact .inl ⟨e, fun q hq => by by_cases z : q = m; (subst z; exact hc); exact h q (by omega)⟩
      · exact .inr ⟨j, e, by omega, hcj, fun q hq hcq => by by_cases z : q = m; (subst z; exact absurd hcq hc); exact h q (by omega) hcq⟩
    by_cases c1 : s.testBit m = true
    · by_cases c2 : D.testBit m = false
      · rcases hb with ⟨e, h⟩ | ⟨j, e, hj, hcj, h⟩
        · subst e
          obtain ⟨b', g1, g2⟩ := ih N (m + 1) (nI m) (by omega) (by omega) (.inr ⟨m, rfl, by omega, ⟨c1, c2⟩, fun q hq hcq => by
            by_cases z : q = m
            · subst z; exact .inr ⟨rfl, Nat.le_refl _⟩
            · exact absurd hcq (h q (by omega))⟩)
          refine ⟨b', g1, ?_⟩
          rw [← g2]
          simp (disch := omega) only [Lp_X12_neededBy_67, F_X12_neededBy_67, F_X12_neededBy_119, F_X12_neededBy_123, hn2, hle, bs, bd0, c1, c2, bd_some, n10, n00, bv_eq, within_eq, in_eq, gd_T, gd_t, i00, i10, c_0, c_1, c_m1, ite10, ite01, setV_fn, setV_at, cntS, nI_pos, nI_clamp, nI_leI, nI_ltI, nI_eq, nI_1, if_true, if_false, not_true, not_false, and_self, and_true, true_and, false_and, and_false, or_false, false_or, or_true, true_or, not_false_eq_true, ite_self, ite_true, ite_false, reduceIte, Nat.reduceEqDiff, Nat.reduceMul, Nat.reduceAdd, Nat.reduceLT, Nat.reducePow, ne_eq]
        · subst e
          have hne := ifneg_nI j (by omega)
          by_cases c3 : V 2236 0 m ≤ V 2236 0 j
          · obtain ⟨b', g1, g2⟩ := ih N (m + 1) (nI j) (by omega) (by omega) (.inr ⟨j, rfl, by omega, hcj, fun q hq hcq => by
              by_cases z : q = m
              · subst z
                by_cases z2 : V 2236 0 q < V 2236 0 j
                · exact .inl z2
                · exact .inr ⟨by grind, by omega⟩
              · exact h q (by omega) hcq⟩)
            refine ⟨b', g1, ?_⟩
            rw [← g2]
            simp (disch := omega) only [Lp_X12_neededBy_67, F_X12_neededBy_67, F_X12_neededBy_119, F_X12_neededBy_123, hn2, hle, bs, bd0, c1, c2, hne, c3, bd_some, n10, n00, bv_eq, within_eq, in_eq, gd_T, gd_t, i00, i10, c_0, c_1, c_m1, ite10, ite01, setV_fn, setV_at, cntS, nI_pos, nI_clamp, nI_leI, nI_ltI, nI_eq, nI_1, if_true, if_false, not_true, not_false, and_self, and_true, true_and, false_and, and_false, or_false, false_or, or_true, true_or, not_false_eq_true, ite_self, ite_true, ite_false, reduceIte, Nat.reduceEqDiff, Nat.reduceMul, Nat.reduceAdd, Nat.reduceLT, Nat.reducePow, ne_eq]
          · obtain ⟨b', g1, g2⟩ := ih N (m + 1) (nI m) (by omega) (by omega) (.inr ⟨m, rfl, by omega, ⟨c1, c2⟩, fun q hq hcq => by
              by_cases z : q = m
              · subst z; exact .inr ⟨rfl, Nat.le_refl _⟩
              · left
                rcases h q (by omega) hcq with y | ⟨y, -⟩ <;> grind⟩)
            refine ⟨b', g1, ?_⟩
            rw [← g2]
            simp (disch := omega) only [Lp_X12_neededBy_67, F_X12_neededBy_67, F_X12_neededBy_119, F_X12_neededBy_123, hn2, hle, bs, bd0, c1, c2, hne, c3, bd_some, n10, n00, bv_eq, within_eq, in_eq, gd_T, gd_t, i00, i10, c_0, c_1, c_m1, ite10, ite01, setV_fn, setV_at, cntS, nI_pos, nI_clamp, nI_leI, nI_ltI, nI_eq, nI_1, if_true, if_false, not_true, not_false, and_self, and_true, true_and, false_and, and_false, or_false, false_or, or_true, true_or, not_false_eq_true, ite_self, ite_true, ite_false, reduceIte, Nat.reduceEqDiff, Nat.reduceMul, Nat.reduceAdd, Nat.reduceLT, Nat.reducePow, ne_eq]
      · obtain ⟨b', g1, g2⟩ := ih N (m + 1) b (by omega) (by omega) (keep (fun z => c2 z.2))
        refine ⟨b', g1, ?_⟩
        rw [← g2]
        simp (disch := omega) only [Lp_X12_neededBy_67, F_X12_neededBy_67, F_X12_neededBy_123, hn2, hle, bs, bd0, c1, c2, reduceCtorEq, bd_some, n10, n00, bv_eq, within_eq, in_eq, gd_T, gd_t, i00, i10, c_0, c_1, c_m1, ite10, ite01, setV_fn, setV_at, cntS, nI_pos, nI_clamp, nI_leI, nI_ltI, nI_eq, nI_1, if_true, if_false, not_true, not_false, and_self, and_true, true_and, false_and, and_false, or_false, false_or, or_true, true_or, not_false_eq_true, ite_self, ite_true, ite_false, reduceIte, Nat.reduceEqDiff, Nat.reduceMul, Nat.reduceAdd, Nat.reduceLT, Nat.reducePow, ne_eq]
    · obtain ⟨b', g1, g2⟩ := ih N (m + 1) b (by omega) (by omega) (keep (fun z => c1 z.1))
      refine ⟨b', g1, ?_⟩
      rw [← g2]
      simp (disch := omega) only [Lp_X12_neededBy_67, F_X12_neededBy_67, F_X12_neededBy_123, hn2, hle, bs, c1, reduceCtorEq, bd_some, n10, n00, bv_eq, within_eq, in_eq, gd_T, gd_t, i00, i10, c_0, c_1, c_m1, ite10, ite01, setV_fn, setV_at, cntS, nI_pos, nI_clamp, nI_leI, nI_ltI, nI_eq, nI_1, if_true, if_false, not_true, not_false, and_self, and_true, true_and, false_and, and_false, or_false, false_or, or_true, true_or, not_false_eq_true, ite_self, ite_true, ite_false, reduceIte, Nat.reduceEqDiff, Nat.reduceMul, Nat.reduceAdd, Nat.reduceLT, Nat.reducePow, ne_eq]
theorem lq_need {fu n s : Nat} {V : St} {al : Int32} {R : Nat → Nat} (hfu : 1000 ≤ fu) (h12 : n ≤ 12) (hn2 : V 2232 0 0 = nI n) (hx : ∀ m, m < n → MakV V m) (hR1 : isPm n R) (hR3 : ∀ i j, i < j → j < n → V 2236 0 (R j) < V 2236 0 (R i) ∨ (V 2236 0 (R j) = V 2236 0 (R i) ∧ R i < R j)) (hs : s < 4096) : ∀ (r N i D : Nat) (u st : Int32), i + r = n → r < N → D < 4096 → (∀ m, m < n → (D.testBit m = true ↔ ∃ q, q < i ∧ R q = m ∧ s.testBit m = true)) → 0 ≤ st → Lp_X12_neededBy_56 (F_X12_neededBy_135 fu) (F_X12_neededBy_199 fu) fu N V (nI s) st u al (nI D) = if 0 < (hd V s R r i u st).2 then some (-1, V) else F_X12_neededBy_199 fu V (hd V s R r i u st).1 al := by
  intro r
  induction r with
  | zero =>
    intro N i D u st hi hN hD hDi hst
    obtain ⟨N, rfl⟩ : ∃ N', N = N' + 1 := ⟨N - 1, by omega⟩
    show _ = if 0 < st then some (-1, V) else F_X12_neededBy_199 fu V u al
    by_cases h0 : st ≤ 0
    · rw [Lp_X12_neededBy_56, F_X12_neededBy_56, if_pos h0, if_neg (by grind)]
    · rw [Lp_X12_neededBy_56, F_X12_neededBy_56, if_neg h0, if_pos (by grind)]
      obtain ⟨b', g1, g2⟩ := lq_best (fu := fu) (st := st) (u := u) (al := al) (kx := F_X12_neededBy_129 (Lp_X12_neededBy_56 (F_X12_neededBy_135 fu) (F_X12_neededBy_199 fu) fu N) (F_X12_neededBy_135 fu) (F_X12_neededBy_199 fu) fu) h12 hn2 hs hD n fu 0 (-1) (by omega) (by omega) (.inl ⟨rfl, fun q hq => by omega⟩)
      rw [nI_0] at g2
      rw [g2]
      rcases g1 with ⟨e, -⟩ | ⟨j, e, hj, ⟨c1, c2⟩, -⟩
      · rw [e, F_X12_neededBy_129, if_pos rfl, F_X12_neededBy_135]
      · exfalso
        obtain ⟨q, hq, eq⟩ := pm_surj n R hR1 j hj
        have := (hDi j hj).mpr ⟨q, by omega, eq, c1⟩
        rw [this] at c2; cases c2
  | succ r ih =>
    intro N i D u st hi hN hD hDi hst
    have hri := hR1.1 i (by omega)
    by_cases c : s.testBit (R i) = true
    · by_cases h0 : st ≤ 0
      · have hz : st = 0 := by grind
        subst hz
        obtain ⟨N, rfl⟩ : ∃ N', N = N' + 1 := ⟨N - 1, by omega⟩
        rw [hd_zero hx hR1.1 (r + 1) i u hi, Lp_X12_neededBy_56, F_X12_neededBy_56, if_pos h0, if_neg (show ¬ (0 : Int32) < 0 by decide)]
      · obtain ⟨N, rfl⟩ : ∃ N', N = N' + 1 := ⟨N - 1, by omega⟩
        obtain ⟨b', g1, g2⟩ := lq_best (fu := fu) (st := st) (u := u) (al := al) (kx := F_X12_neededBy_129 (Lp_X12_neededBy_56 (F_X12_neededBy_135 fu) (F_X12_neededBy_199 fu) fu N) (F_X12_neededBy_135 fu) (F_X12_neededBy_199 fu) fu) h12 hn2 hs hD n fu 0 (-1) (by omega) (by omega) (.inl ⟨rfl, fun q hq => by omega⟩)
        rw [nI_0] at g2
        have hcR : cnd s D (R i) := by
          refine ⟨c, ?_⟩
          cases hz : D.testBit (R i) with
          | false => rfl
          | true =>
            obtain ⟨q, q1, q2, -⟩ := (hDi (R i) hri).mp hz
            exact absurd (hR1.2 q i (by omega) (by omega) q2) (by omega)
        have hb : b' = nI (R i) := by
          rcases g1 with ⟨-, h⟩ | ⟨j, e, hj, hcj, h⟩
          · exact absurd hcR (h _ hri)
          · obtain ⟨q, hq, eq⟩ := pm_surj n R hR1 j hj
            have hqi : ¬ q < i := fun z => by
              have := (hDi j hj).mpr ⟨q, z, eq, hcj.1⟩
              rw [hcj.2] at this; cases this
            by_cases hqe : q = i
            · subst hqe; rw [e, eq]
            · exfalso
              have h1 := h (R i) hri hcR
              have h2 := hR3 i q (by omega) hq
              rw [eq] at h2
              rcases h1 with h1 | ⟨h1, h1'⟩ <;> rcases h2 with h2 | ⟨h2, h2'⟩
              · grind
              · grind
              · grind
              · omega
        obtain ⟨D', d1, d2, d3⟩ := bit_set hD (show R i < 12 by omega)
        obtain ⟨-, -, k3, k4, -, -, k7, k8, -⟩ := hx (R i) hri
        have hr0 : 0 < V 2236 0 (R i) := by grind
        have hne := ifneg_nI (R i) (by omega)
        have ih := ih N (i + 1) D' (u + ((if st < V 2234 0 (R i) then st else V 2234 0 (R i)) + V 2236 0 (R i) - 1) / V 2236 0 (R i)) (st - (if st < V 2234 0 (R i) then st else V 2234 0 (R i))) (by omega) (by omega) d1 (fun m hm => by
          rw [d3 m, Bool.or_eq_true, decide_eq_true_eq, hDi m hm]
          constructor
          · rintro (⟨q, q1, q2, q3⟩ | e)
            · exact ⟨q, by omega, q2, q3⟩
            · exact ⟨i, by omega, e, by rw [← e]; exact c⟩
          · rintro ⟨q, q1, q2, q3⟩
            by_cases hqi : q = i
            · subst hqi; exact .inr q2
            · exact .inl ⟨q, by omega, q2, q3⟩) (by split <;> grind)
        rw [hd, if_pos c, ← ih, Lp_X12_neededBy_56, F_X12_neededBy_56, if_neg h0, g2, hb, F_X12_neededBy_129, if_neg (fun z : nI (R i) = -1 => cast hne z), nI_clamp (by omega), d2]
        by_cases hp : V 2234 0 (R i) ≤ st
        · rw [if_neg (show ¬ st < V 2234 0 (R i) by grind)]
          simp (disch := omega) only [F_X12_neededBy_170, hp, up_eq hr0, bd_some, n10, n00, bv_eq, within_eq, in_eq, gd_T, gd_t, i00, i10, c_0, c_1, c_m1, ite10, ite01, setV_fn, setV_at, cntS, nI_pos, nI_clamp, nI_leI, nI_ltI, nI_eq, nI_1, if_true, if_false, not_true, not_false, and_self, and_true, true_and, false_and, and_false, or_false, false_or, or_true, true_or, not_false_eq_true, ite_self, ite_true, ite_false, reduceIte, Nat.reduceEqDiff, Nat.reduceMul, Nat.reduceAdd, Nat.reduceLT, Nat.reducePow, ne_eq]
        · rw [if_pos (show st < V 2234 0 (R i) by grind)]
          simp (disch := omega) only [F_X12_neededBy_170, hp, up_eq hr0, bd_some, n10, n00, bv_eq, within_eq, in_eq, gd_T, gd_t, i00, i10, c_0, c_1, c_m1, ite10, ite01, setV_fn, setV_at, cntS, nI_pos, nI_clamp, nI_leI, nI_ltI, nI_eq, nI_1, if_true, if_false, not_true, not_false, and_self, and_true, true_and, false_and, and_false, or_false, false_or, or_true, true_or, not_false_eq_true, ite_self, ite_true, ite_false, reduceIte, Nat.reduceEqDiff, Nat.reduceMul, Nat.reduceAdd, Nat.reduceLT, Nat.reducePow, ne_eq]
    · rw [hd, if_neg c]
      refine ih N (i + 1) D u st (by omega) (by omega) hD (fun m hm => ?_) hst
      rw [hDi m hm]
      constructor
      · rintro ⟨q, q1, q2, q3⟩; exact ⟨q, by omega, q2, q3⟩
      · rintro ⟨q, q1, q2, q3⟩
        by_cases hqi : q = i
        · subst hqi; rw [q2] at c; exact absurd q3 c
        · exact ⟨q, by omega, q2, q3⟩
theorem ceil_b {x y : Int32} (h1 : 0 ≤ x) (h2 : x ≤ 10000) (h3 : 1 ≤ y) (h4 : y ≤ 100) : ∃ a, a ≤ 10100 ∧ (x + y - 1) / y = nI a := by
  obtain ⟨i, hi, rfl⟩ := nI_of2 (x := x) (M := 10000) (n := 10000) (by decide) (by grind) h2
  obtain ⟨j, hj, rfl⟩ := nI_of2 (x := y) (M := 100) (n := 100) (by decide) (by grind) h4
  have h5 : 1 ≤ j := (nI_leI (a := 1) (by omega) (by omega)).mp h3
  rw [nI_add, show (1 : Int32) = nI 1 from rfl, pk_sub (by omega), pk_div (by omega) (by omega) (by omega)]
  exact ⟨_, Nat.le_trans (Nat.div_le_self _ _) (by omega), rfl⟩
theorem hd_b {V : St} {s n : Nat} {R : Nat → Nat} (h12 : n ≤ 12) (hx : ∀ m, m < n → MakV V m) (hR : ∀ i, i < n → R i < n) : ∀ r i a st, i + r = n → a ≤ 10100 * i → 0 ≤ st → ∃ a', a' ≤ 10100 * n ∧ (hd V s R r i (nI a) st).1 = nI a' ∧ 0 ≤ (hd V s R r i (nI a) st).2 := by
  intro r
  induction r with
  | zero => intro i a st hi ha hst; exact ⟨a, by omega, rfl, hst⟩
  | succ r ih =>
    intro i a st hi ha hst
    unfold hd
    obtain ⟨-, -, k3, k4, -, -, k7, k8, -⟩ := hx (R i) (hR i (by omega))
    by_cases c : s.testBit (R i) = true
    · rw [if_pos c]
      obtain ⟨b, hb, e⟩ := ceil_b (x := if st < V 2234 0 (R i) then st else V 2234 0 (R i)) (y := V 2236 0 (R i)) (by split <;> grind) (by split <;> grind) k7 k8
      rw [e, nI_add]
      exact ih (i + 1) (a + b) _ (by omega) (by omega) (by split <;> grind)
    · rw [if_neg c]
      exact ih (i + 1) a st (by omega) (by omega) hst
theorem hands_eq {fu n s tw : Nat} {V : St} {p : Int32} (hfu : 1000 ≤ fu) (hma : I_mak V n) (hs : s < 4096) (ht : tw < 4096) (hp : 0 ≤ p) : ∃ r : Int32, f_X12_neededBy fu V (nI tw) (nI s) p = some (r, V) ∧ f_X11_handsToDo fu V (nI tw) (nI s) p = some (if r = -1 then -2 else r, V) ∧ (r = -1 ∨ 0 ≤ r) := by
  obtain ⟨h12, hn1, hn2, -, -, hx, R, hR1, hR2, hR3⟩ := hma
  have hA := lp_hands (fu := fu) (s := s) (tw := tw) h12 hn1 hx hR1.1 hR2 hs ht n fu 0 0 p (by omega) (by omega)
  have hB := lq_all (fu := fu) (tw := tw) (set := nI s) (p := p) (kx := F_X12_neededBy_53 fu) h12 hn2 ht n fu 0 (by omega) (by omega)
  have hC := lq_need (fu := fu) (s := s) (al := sm (fun m => if tw.testBit m = true then V 2235 0 m else 0) n) hfu h12 hn2 hx hR1 hR3 hs n fu 0 0 0 p (by omega) (by omega) (by omega) (fun m hm => by simp) hp
  have hS := pm_sum (f := fun m => if tw.testBit m = true then V 2235 0 m else 0) n R hR1
  obtain ⟨a', b1, b2, b3⟩ := hd_b (s := s) (R := R) h12 hx hR1.1 n 0 0 p (by omega) (by omega) hp
  rw [nI_0] at hA hB hC b2 b3
  rw [hS] at hA
  have hA : f_X11_handsToDo fu V (nI tw) (nI s) p = _ := hA
  have hB : f_X12_neededBy fu V (nI tw) (nI s) p = _ := hB
  rw [F_X12_neededBy_53, hC] at hB
  have hna := ifneg_nI a'
  have hnn := nI_pos' (n := a') (by omega)
  have hne : ¬ nI a' = -1 := fun q => by rw [q] at hnn; revert hnn; decide
  rw [F_X11_handsToDo_117] at hA
  rw [b2] at hA hB
  by_cases z : 0 < (hd V s R n 0 0 p).2
  · rw [if_pos z] at hA hB
    exact ⟨-1, hB, by rw [hA, F_X11_handsToDo_129, F_X11_handsToDo_136]; rfl, .inl rfl⟩
  · rw [if_neg z] at hA hB
    by_cases z2 : nI a' ≤ sm (fun m => if tw.testBit m = true then V 2235 0 m else 0) n
    · rw [if_pos z2, F_X11_handsToDo_136] at hA
      rw [F_X12_neededBy_199, if_neg (by grind), F_X12_neededBy_212] at hB
      exact ⟨nI a', hB, by rw [hA, if_neg hne], .inr hnn⟩
    · rw [if_neg z2, F_X11_handsToDo_129, F_X11_handsToDo_136] at hA
      rw [F_X12_neededBy_199, if_pos (by grind), F_X12_neededBy_212] at hB
      exact ⟨-1, hB, by rw [hA]; rfl, .inl rfl⟩
theorem sub_told {x : Int32} {w : Nat} (hw : w < 4096) (h : x &&& (nI w ^^^ (-1)) = 0) : ∃ s, s ≤ w ∧ x = nI s ∧ ∀ j, s.testBit j = true → w.testBit j = true := by
  rw [xor_m1] at h
  have h2 := congrArg Int32.toBitVec h
  rw [Int32.toBitVec_and, Int32.toBitVec_not] at h2
  have key : ∀ i, i < 32 → x.toBitVec.getLsbD i = true → (nI w).toBitVec.getLsbD i = true := fun i hi hx => by
    have h3 := congrArg (fun b => b.getLsbD i) h2
    simp only [BitVec.getLsbD_and, BitVec.getLsbD_not, hi, decide_true, Bool.true_and] at h3
    have hz : (Int32.toBitVec 0).getLsbD i = false := by
      rw [show (Int32.toBitVec 0) = 0#32 by decide]; exact BitVec.getLsbD_zero
    rw [hz, hx] at h3
    simpa using h3
  have kb : ∀ j, x.toBitVec.toNat.testBit j = true → w.testBit j = true := fun j hj => by
    by_cases hj32 : j < 32
    · rw [BitVec.testBit_toNat] at hj
      have := key j hj32 hj
      rw [← BitVec.testBit_toNat, pk_tn (by omega)] at this; exact this
    · have hlt : x.toBitVec.toNat < 2 ^ 32 := x.toBitVec.isLt
      rw [Nat.testBit_lt_two_pow (Nat.lt_of_lt_of_le hlt (Nat.pow_le_pow_right (by decide) (by omega)))] at hj; cases hj
  have hand : x.toBitVec.toNat &&& w = x.toBitVec.toNat := by
    apply Nat.eq_of_testBit_eq; intro j
    rw [Nat.testBit_and]
    cases hz : x.toBitVec.toNat.testBit j with
    | false => rfl
    | true => rw [kb j hz]; rfl
  have hle : x.toBitVec.toNat ≤ w := by rw [← hand]; exact Nat.and_le_right
  refine ⟨x.toBitVec.toNat, hle, ?_, kb⟩
  apply Int32.toBitVec_inj.mp
  apply BitVec.eq_of_toNat_eq
  rw [pk_tn (by omega)]
theorem P_needs {fu k : Nat} {V : St} (hfu : 1000 ≤ fu) (hI : Inv k V) (t s p : Int32) : Step k (fun V => f_X11_needs fu V t s p) (fun V => f_X12_needs fu V t s p) V := by
  have hI' := hI
  obtain ⟨nC, nD, nT, nM, nP, nK, nS, nR, nL, nO, hL, hmi, hta, hcl, hdr, hth, hla, hma, hor, hpe, hdo, hse, hru, hmk⟩ := hI
  have h12 := hma.1
  have h0 : 2 ^ nM ≤ 2 ^ 12 := Nat.pow_le_pow_right (by decide) h12
  rcases told_eq (fu := fu) (x := t) hfu h12 hma.2.1 hma.2.2.1 with ⟨w, hw, rfl, m1, m2⟩ | ⟨m1, m2⟩
  rotate_left
  · refine Step.same (r := -1) ?_ ?_ hI'
    · simp only [f_X11_needs, F_X11_needs_31, m1, bd_some, if_true]
    · simp only [f_X12_needs, F_X12_needs_31, m2, bd_some, if_true]
  by_cases hs : s &&& (nI w ^^^ (-1)) = 0
  · obtain ⟨q, hq, rfl, -⟩ := sub_told (by omega) hs
    by_cases hz : nI q = 0
    · refine Step.same (r := -1) ?_ ?_ hI'
      · simp only [f_X11_needs, F_X11_needs_31, m1, bd_some, n10, hz, if_true, if_false]
      · have : (0 : Int32) ≤ 0 := by decide
        simp only [f_X12_needs, F_X12_needs_31, m2, bd_some, n10, hz, this, if_true, if_false]
    · have hnn := nI_pos' (n := q) (by omega)
      have hle : ¬ nI q ≤ 0 := by grind
      rcases (Decidable.em (1 ≤ p ∧ p ≤ 100000)).symm with hp | hp
      · refine Step.same (r := -1) ?_ ?_ hI'
        · simp only [f_X11_needs, F_X11_needs_31, m1, hz, hs, hp, bd_some, n10, n00, bv_eq, gd, within_eq, in_eq, c_0, c_1, c_m1, ite10, ite01, if_true, if_false, not_true, not_false, and_self, and_true, true_and, or_false, false_or, not_false_eq_true, ite_true, ite_false, reduceIte]
        · simp only [f_X12_needs, F_X12_needs_31, m2, hle, hs, hp, bd_some, n10, n00, bv_eq, gd, within_eq, in_eq, c_0, c_1, c_m1, ite10, ite01, if_true, if_false, not_true, not_false, and_self, and_true, true_and, or_false, false_or, not_false_eq_true, ite_true, ite_false, reduceIte]
      · obtain ⟨r, r1, r2, r3⟩ := hands_eq (fu := fu) (s := q) (tw := w) (p := p) hfu hma (by omega) (by omega) (by have := hp.1; grind)
        refine Step.same (r := if r = -1 then -2 else r) ?_ ?_ hI'
        · simp only [f_X11_needs, F_X11_needs_31, m1, hz, hs, hp, r2, bd_some, n10, n00, bv_eq, gd, within_eq, in_eq, c_0, c_1, c_m1, ite10, ite01, if_true, if_false, not_true, not_false, and_self, and_true, true_and, or_false, false_or, not_false_eq_true, ite_true, ite_false, reduceIte]
        · simp only [f_X12_needs, F_X12_needs_31, F_X12_needs_55, m2, hle, hs, hp, r1, bd_some, n10, n00, bv_eq, gd, within_eq, in_eq, c_0, c_1, c_m1, ite10, ite01, if_true, if_false, not_true, not_false, and_self, and_true, true_and, or_false, false_or, not_false_eq_true, ite_true, ite_false, reduceIte]
          split <;> rfl
  · refine Step.same (r := -1) ?_ ?_ hI'
    · simp only [f_X11_needs, F_X11_needs_31, m1, hs, bd_some, n10, n00, bv_eq, gd, within_eq, in_eq, c_0, c_1, c_m1, ite10, ite01, if_true, if_false, not_true, not_false, and_self, and_true, true_and, or_false, false_or, not_false_eq_true, ite_true, ite_false, reduceIte]
      split <;> rfl
    · simp only [f_X12_needs, F_X12_needs_31, m2, hs, bd_some, n10, n00, bv_eq, gd, within_eq, in_eq, c_0, c_1, c_m1, ite10, ite01, if_true, if_false, not_true, not_false, and_self, and_true, true_and, or_false, false_or, not_false_eq_true, ite_true, ite_false, reduceIte]
      split <;> rfl
