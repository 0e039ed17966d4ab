/-! the reference's lengthOf and least -/
theorem lenRun_le {W : Nat} {len wid row : Nat → Nat} (hl : ∀ i, len (row i) ≤ 60) : ∀ n, (lenRun W len wid row n).1 + (lenRun W len wid row n).2.1 ≤ 60 * n ∧ (lenRun W len wid row n).2.2 ≤ W := by
  intro n
  induction n with
  | zero => exact ⟨Nat.le_refl 0, Nat.zero_le W⟩
  | succ n ih =>
    have e : lenRun W len wid row (n + 1) = lenStep W len wid (row n) (lenRun W len wid row n) := rfl
    have := hl n
    rw [e]
    unfold lenStep
    split
    · refine ⟨?_, ?_⟩ <;> simp only [] <;> omega
    · refine ⟨?_, ?_⟩ <;> simp only [] <;> omega
theorem lenRun_cg {W : Nat} {len wid len' wid' row row' : Nat → Nat} : ∀ n, (∀ i, i < n → row i = row' i ∧ len (row i) = len' (row i) ∧ wid (row i) = wid' (row i)) → lenRun W len wid row n = lenRun W len' wid' row' n := by
  intro n
  induction n with
  | zero => intro _; rfl
  | succ n ih =>
    intro h
    have e : lenRun W len wid row (n + 1) = lenStep W len wid (row n) (lenRun W len wid row n) := rfl
    have e' : lenRun W len' wid' row' (n + 1) = lenStep W len' wid' (row' n) (lenRun W len' wid' row' n) := rfl
    obtain ⟨h1, h2, h3⟩ := h n (by omega)
    rw [e, e', ih (fun i hi => h i (by omega))]
    unfold lenStep
    rw [← h1, h2, h3]
theorem lenOf_cg {W n : Nat} {len wid len' wid' row row' : Nat → Nat} (h : ∀ i, i < n → row i = row' i ∧ len (row i) = len' (row i) ∧ wid (row i) = wid' (row i)) : lenOf W len wid n row = lenOf W len' wid' n row' := by
  unfold lenOf; rw [lenRun_cg n h]
theorem lenOf_le {W n : Nat} {len wid row : Nat → Nat} (hr : isPm n row) (hl : ∀ k, k < n → len k ≤ 60) : lenOf W len wid n row ≤ 60 * n := by
  have h1 : lenOf W len wid n row = lenOf W (fun k => if k < n then len k else 0) wid n row := lenOf_cg (fun i hi => ⟨rfl, by rw [if_pos (hr.1 i hi)], rfl⟩)
  rw [h1]
  exact (lenRun_le (W := W) (wid := wid) (row := row) (len := fun k => if k < n then len k else 0) (fun i => by
    by_cases z : row i < n
    · rw [if_pos z]; exact hl _ z
    · rw [if_neg z]; omega) n).1
def RfP (V : St) (x p : Nat) (len wid : Nat → Nat) : Prop := x < 30 ∧ p ≤ 9 ∧ V 2223 0 x = nI p ∧ ∀ k, k < p → 1 ≤ len k ∧ len k ≤ 60 ∧ 1 ≤ wid k ∧ wid k ≤ 60 ∧ V 2224 0 (9 * x + k) = nI (len k) ∧ V 2225 0 (9 * x + k) = nI (wid k)
theorem RfP.fr {V V' : St} {x p : Nat} {len wid : Nat → Nat} {ws : List Nat} (h : RfP V x p len wid) (hF : Fr ws V V') (hd : [2223, 2224, 2225].all (fun v => !ws.contains v) = true) : RfP V' x p len wid := by
  have e := hF.all hd
  unfold RfP at h ⊢
  rw [e 2223 (by decide), e 2224 (by decide), e 2225 (by decide)]; exact h
theorem lengthOf_eq {fu x p W : Nat} {V : St} {len wid row : Nat → Nat} (hfu : 1000 ≤ fu) (h : RfP V x p len wid) (hW : W ≤ 200) (hwW : ∀ k, k < p → wid k ≤ W) (hr : isPm p row) (hw : RwV V p row) : f_X12_lengthOf fu V (nI x) (nI W) = some (nI (lenOf W len wid p row), V) := by
  obtain ⟨hx, hp9, hp, hk⟩ := h
  have hb : ∀ i, i ≤ p → (lenRun W len wid row i).1 + (lenRun W len wid row i).2.1 ≤ 540 ∧ (lenRun W len wid row i).2.2 ≤ W := fun i hi => by
    have h1 : lenRun W len wid row i = lenRun W (fun k => if k < p then len k else 0) wid row i := lenRun_cg i (fun j hj => ⟨rfl, by rw [if_pos (hr.1 j (by omega))], rfl⟩)
    rw [h1]
    have := lenRun_le (W := W) (wid := wid) (row := row) (len := fun k => if k < p then len k else 0) (fun i => by
      by_cases z : row i < p
      · rw [if_pos z]; exact (hk _ z).2.1
      · rw [if_neg z]; omega) i
    exact ⟨by omega, this.2⟩
  have key : ∀ (r N i : Nat), i + r = p → r < N → Lp_X12_lengthOf_11 (F_X12_lengthOf_103 fu) fu N V (nI x) (nI W) (nI (lenRun W len wid row i).1) (nI (lenRun W len wid row i).2.1) (nI (lenRun W len wid row i).2.2) (nI i) = some (nI (lenOf W len wid p row), V) := by
    intro r
    induction r with
    | zero =>
      intro N i hi hN
      obtain ⟨N, rfl⟩ : ∃ N', N = N' + 1 := ⟨N - 1, by omega⟩
      have : i = p := by omega
      subst this
      have hle : i ≤ i := Nat.le_refl i
      simp (disch := omega) only [Lp_X12_lengthOf_11, F_X12_lengthOf_11, F_X12_lengthOf_103, hp, hle, nI_add, lenOf, bd_some, n10, n00, bv_eq, within_eq, in_eq, gd_T, gd_t, i00, i10, c_0, c_1, c_m1, ite10, ite01, setV_fn, setV_at, cntS, nI_pos, nI_clamp, nI_leI, nI_ltI, nI_eq, nI_1, if_true, if_false, not_true, not_false, and_self, and_true, true_and, false_and, and_false, or_false, false_or, or_true, true_or, not_false_eq_true, ite_self, ite_true, ite_false, reduceIte, Nat.reduceEqDiff, Nat.reduceMul, Nat.reduceAdd, Nat.reduceLT, Nat.reducePow, ne_eq]
    | succ r ih =>
      intro N i hi hN
      obtain ⟨N, rfl⟩ : ∃ N', N = N' + 1 := ⟨N - 1, by omega⟩
      have hle : ¬ p ≤ i := by omega
      obtain ⟨c1, c2⟩ := hb i (by omega)
      have wr := hw i (by omega)
      have hri := hr.1 i (by omega)
      obtain ⟨k1, k2, k3, k4, k5, k6⟩ := hk (row i) hri
      have hwr := hwW (row i) hri
      have ih := ih N (i + 1) (by omega) (by omega)
      have e : lenRun W len wid row (i + 1) = lenStep W len wid (row i) (lenRun W len wid row i) := rfl
      rw [e] at ih
      rw [← ih]
      unfold lenStep
      by_cases z : (lenRun W len wid row i).2.2 < wid (row i)
      · have z1 : ¬ wid (row i) ≤ (lenRun W len wid row i).2.2 := by omega
        have z2 : ¬ nI (len (row i)) ≤ 0 := nI_nle (by omega) (by omega)
        rw [if_pos z]
        simp (disch := omega) only [Lp_X12_lengthOf_11, F_X12_lengthOf_11, F_X12_lengthOf_59, F_X12_lengthOf_95, hp, hle, wr, ix9, k5, k6, z1, z2, nI_add, pk_sub, bd_some, n10, n00, bv_eq, within_eq, in_eq, gd_T, gd_t, i00, i10, c_0, c_1, c_m1, ite10, ite01, setV_fn, setV_at, cntS, nI_pos, nI_clamp, nI_leI, nI_ltI, nI_eq, nI_1, if_true, if_false, not_true, not_false, and_self, and_true, true_and, false_and, and_false, or_false, false_or, or_true, true_or, not_false_eq_true, ite_self, ite_true, ite_false, reduceIte, Nat.reduceEqDiff, Nat.reduceMul, Nat.reduceAdd, Nat.reduceLT, Nat.reducePow, ne_eq]
      · have z1 : wid (row i) ≤ (lenRun W len wid row i).2.2 := by omega
        rw [if_neg z]
        by_cases y : len (row i) ≤ (lenRun W len wid row i).2.1
        · have e1 : max (lenRun W len wid row i).2.1 (len (row i)) = (lenRun W len wid row i).2.1 := Nat.max_eq_left y
          simp (disch := omega) only [Lp_X12_lengthOf_11, F_X12_lengthOf_11, F_X12_lengthOf_59, F_X12_lengthOf_95, hp, hle, wr, ix9, k5, k6, z1, y, e1, nI_add, pk_sub, bd_some, n10, n00, bv_eq, within_eq, in_eq, gd_T, gd_t, i00, i10, c_0, c_1, c_m1, ite10, ite01, setV_fn, setV_at, cntS, nI_pos, nI_clamp, nI_leI, nI_ltI, nI_eq, nI_1, if_true, if_false, not_true, not_false, and_self, and_true, true_and, false_and, and_false, or_false, false_or, or_true, true_or, not_false_eq_true, ite_self, ite_true, ite_false, reduceIte, Nat.reduceEqDiff, Nat.reduceMul, Nat.reduceAdd, Nat.reduceLT, Nat.reducePow, ne_eq]
        · have e1 : max (lenRun W len wid row i).2.1 (len (row i)) = len (row i) := Nat.max_eq_right (by omega)
          simp (disch := omega) only [Lp_X12_lengthOf_11, F_X12_lengthOf_11, F_X12_lengthOf_59, F_X12_lengthOf_95, hp, hle, wr, ix9, k5, k6, z1, y, e1, nI_add, pk_sub, bd_some, n10, n00, bv_eq, within_eq, in_eq, gd_T, gd_t, i00, i10, c_0, c_1, c_m1, ite10, ite01, setV_fn, setV_at, cntS, nI_pos, nI_clamp, nI_leI, nI_ltI, nI_eq, nI_1, if_true, if_false, not_true, not_false, and_self, and_true, true_and, false_and, and_false, or_false, false_or, or_true, true_or, not_false_eq_true, ite_self, ite_true, ite_false, reduceIte, Nat.reduceEqDiff, Nat.reduceMul, Nat.reduceAdd, Nat.reduceLT, Nat.reducePow, ne_eq]
  have := key p fu 0 (by omega) (by omega)
  have e0 : lenRun W len wid row 0 = (0, 0, 0) := rfl
  rw [e0] at this
  simp only [nI_0] at this
  exact this
def LstP (P : (Nat → Nat) → Prop) (n W : Nat) (len wid : Nat → Nat) (r : Int32) (b : Nat → Int32) : Prop :=
  (r = -1 ∧ ∀ row, isPm n row → ¬ P row) ∨ ∃ row, isPm n row ∧ P row ∧ r = nI (lenOf W len wid n row) ∧ (∀ i, i < n → b i = nI (row i)) ∧ ∀ row', isPm n row' → P row' → lenOf W len wid n row ≤ lenOf W len wid n row' ∧ (lenOf W len wid n row' = lenOf W len wid n row → ¬ lexLt n row' row)
theorem LstP.iff {P Q : (Nat → Nat) → Prop} {n W : Nat} {len wid : Nat → Nat} {r : Int32} {b : Nat → Int32} (h : LstP P n W len wid r b) (hq : ∀ c, isPm n c → (P c ↔ Q c)) : LstP Q n W len wid r b := by
  rcases h with ⟨h1, h2⟩ | ⟨c, h1, h2, h3, h4, h5⟩
  · exact .inl ⟨h1, fun c hc hp => h2 c hc ((hq c hc).mpr hp)⟩
  · exact .inr ⟨c, h1, (hq c h1).mp h2, h3, h4, fun c' hc' hp => h5 c' hc' ((hq c' hc').mpr hp)⟩
theorem LstP.keep {n W : Nat} {len wid r0 : Nat → Nat} {R : Nat} {b : Nat → Int32} (h9 : n ≤ 9) (hl : ∀ k, k < n → len k ≤ 60) (hR : R ≤ 1000) (h : LstP (fun t => lexLt n t r0) n W len wid (nI R) b) (hle : R ≤ lenOf W len wid n r0) : LstP (fun t => lexLt n t r0 ∨ agr n t r0) n W len wid (nI R) b := by
  rcases h with ⟨h1, -⟩ | ⟨c, h1, h2, h3, h4, h5⟩
  · exfalso
    have q := nI_pos (n := R) (by omega)
    rw [h1] at q; exact q (by decide)
  · have hc := lenOf_le (W := W) (wid := wid) h1 hl
    have e : R = lenOf W len wid n c := (nI_eq (by omega) (by omega)).mp h3
    refine .inr ⟨c, h1, .inl h2, h3, h4, fun c' hc' hp => ?_⟩
    rcases hp with hp | hp
    · exact h5 c' hc' hp
    · have e2 : lenOf W len wid n c' = lenOf W len wid n r0 := lenOf_cg (fun i hi => ⟨hp i hi, rfl, rfl⟩)
      refine ⟨by omega, fun _ => lex_asym ?_⟩
      exact lex_up (Nat.le_refl n) h2 hp
theorem LstP.new {n W : Nat} {len wid r0 : Nat → Nat} {r : Int32} {b b' : Nat → Int32} (h9 : n ≤ 9) (hl : ∀ k, k < n → len k ≤ 60) (h : LstP (fun t => lexLt n t r0) n W len wid r b) (hp : isPm n r0) (hr : r = -1 ∨ ∃ R, r = nI R ∧ R ≤ 1000 ∧ lenOf W len wid n r0 < R) (hb : ∀ k, k < n → b' k = nI (r0 k)) : LstP (fun t => lexLt n t r0 ∨ agr n t r0) n W len wid (nI (lenOf W len wid n r0)) b' := by
  refine .inr ⟨r0, hp, .inr (fun _ _ => rfl), rfl, hb, fun c hc hpc => ?_⟩
  rcases hpc with hpc | hpc
  · rcases h with ⟨h1, h2⟩ | ⟨c0, h1, h2, h3, h4, h5⟩
    · exact absurd hpc (h2 c hc)
    · have := (h5 c hc hpc).1
      have hc0 := lenOf_le (W := W) (wid := wid) h1 hl
      rcases hr with hr | ⟨R, r1, r2, r3⟩
      · exfalso
        have q := nI_pos (n := lenOf W len wid n c0) (by omega)
        rw [← h3, hr] at q; exact q (by decide)
      · have : R = lenOf W len wid n c0 := (nI_eq (by omega) (by omega)).mp (by rw [← r1, h3])
        exact ⟨by omega, fun z => by omega⟩
  · have e2 : lenOf W len wid n c = lenOf W len wid n r0 := lenOf_cg (fun i hi => ⟨hpc i hi, rfl, rfl⟩)
    exact ⟨by omega, fun _ => lex_irr hpc⟩
theorem lex_trans {n : Nat} {a b c : Nat → Nat} (h : lexLt n a b) (h' : lexLt n b c) : lexLt n a c := by
  obtain ⟨k, k1, k2, k3⟩ := h
  obtain ⟨q, q1, q2, q3⟩ := h'
  rcases Nat.lt_trichotomy k q with z | z | z
  · exact ⟨k, k1, fun i hi => by rw [k2 i hi, q2 i (by omega)], by rw [← q2 k z]; exact k3⟩
  · subst z; exact ⟨k, k1, fun i hi => by rw [k2 i hi, q2 i hi], by omega⟩
  · exact ⟨q, q1, fun i hi => by rw [k2 i (by omega), q2 i hi], by rw [k2 q z]; exact q3⟩
theorem nx_iff {n : Nat} {r r' t : Nat → Nat} (h : isNx n r r') (ht : isPm n t) : (lexLt n t r ∨ agr n t r) ↔ lexLt n t r' := by
  obtain ⟨h1, h2, h3⟩ := h
  constructor
  · rintro (z | z)
    · exact lex_trans z h2
    · obtain ⟨k, k1, k2, k3⟩ := h2
      exact ⟨k, k1, fun i hi => by rw [z i (by omega), k2 i hi], by rw [z k k1]; exact k3⟩
  · intro z
    rcases lex_tot (n := n) (c := t) (t := r) with y | y | y
    · exact .inr y
    · exact .inl y
    · exact absurd z (h3 t ht y)
def cd9 : Nat → (Nat → Nat) → Nat
  | 0, _ => 0
  | n + 1, c => 9 * cd9 n c + c n
theorem cd9_congr {c c' : Nat → Nat} : ∀ n, agr n c c' → cd9 n c = cd9 n c' := by
  intro n
  induction n with
  | zero => intro _; rfl
  | succ n ih => intro h; rw [cd9, cd9, ih (fun k hk => h k (by omega)), h n (by omega)]
theorem cd9_lt {c : Nat → Nat} : ∀ n, (∀ k, k < n → c k < 9) → cd9 n c < 9 ^ n := by
  intro n
  induction n with
  | zero => intro _; show 0 < 1; omega
  | succ n ih =>
    intro h
    have h1 := ih (fun k hk => h k (by omega))
    have h2 := h n (by omega)
    rw [cd9, Nat.pow_succ]; omega
theorem cd9_lex {c c' : Nat → Nat} : ∀ n, (∀ k, k < n → c k < 9) → (∀ k, k < n → c' k < 9) → lexLt n c c' → cd9 n c < cd9 n c' := by
  intro n
  induction n with
  | zero => rintro _ _ ⟨k, k1, -⟩; omega
  | succ n ih =>
    intro h1 h2 h
    have a1 := h1 n (by omega)
    have a2 := h2 n (by omega)
    rw [cd9, cd9]
    rcases lex_succ.mp h with z | ⟨z, y⟩
    · have := ih (fun k hk => h1 k (by omega)) (fun k hk => h2 k (by omega)) z; omega
    · rw [cd9_congr n z]; omega
theorem lr_copy {fu n : Nat} {r : Nat → Nat} {x1 x2 x3 x5 : Int32} {kx : St → Int32 → Int32 → Int32 → Int32 → Int32 → RR} (hn : n ≤ 9) : ∀ (m N i : Nat) (V : St), i + m = n → m < N → RwV V n r → (∀ k, k < i → V 2231 0 k = nI (r k)) → ∃ W, Lp_X12_least_127 kx fu N V x1 x2 x3 (nI n) x5 (nI i) = kx W x1 x2 x3 (nI n) x5 ∧ Fr [2231] V W ∧ ∀ k, k < n → W 2231 0 k = nI (r k) := by
  intro m
  induction m with
  | zero =>
    intro N i V hi hN h1 h2
    obtain ⟨N, rfl⟩ : ∃ N', N = N' + 1 := ⟨N - 1, by omega⟩
    have : i = n := by omega
    subst this
    refine ⟨V, ?_, Fr.refl _ V, h2⟩
    rw [Lp_X12_least_127, F_X12_least_127, if_pos (nI_le (Nat.le_refl _) (by omega))]
  | succ m ih =>
    intro N i V hi hN h1 h2
    obtain ⟨N, rfl⟩ : ∃ N', N = N' + 1 := ⟨N - 1, by omega⟩
    have hlt : ¬ n ≤ i := by omega
    have w := h1 i (by omega)
    obtain ⟨W, a1, a2, a3⟩ := ih N (i + 1) (setV V 2231 0 i (nI (r i))) (by omega) (by omega) (fun k hk => by rw [setV_fn (by decide)]; exact h1 k hk) (fun k hk => by
      rw [setV_at]
      by_cases z : k = i
      · subst z; rw [if_pos ⟨rfl, rfl⟩]
      · rw [if_neg (fun y => z y.2)]; exact h2 k (by omega))
    refine ⟨W, ?_, ((Fr.refl _ V).set (by decide)).trans a2, a3⟩
    rw [← a1]
    simp (disch := omega) only [Lp_X12_least_127, F_X12_least_127, hlt, w, bd_some, n10, n00, bv_eq, within_eq, in_eq, gd_T, gd_t, i00, i10, c_0, c_1, c_m1, ite10, ite01, setV_fn, setV_at, cntS, nI_pos, nI_clamp, nI_leI, nI_ltI, nI_eq, nI_1, if_true, if_false, not_true, not_false, and_self, and_true, true_and, false_and, and_false, or_false, false_or, or_true, true_or, not_false_eq_true, ite_self, ite_true, ite_false, reduceIte, Nat.reduceEqDiff, Nat.reduceMul, Nat.reduceAdd, Nat.reduceLT, Nat.reducePow, ne_eq]
theorem lr_init {fu n : Nat} {x1 x2 x3 : Int32} {kx : St → Int32 → Int32 → Int32 → Int32 → RR} (hn : n ≤ 9) : ∀ (m N i : Nat) (V : St), i + m = n → m < N → (∀ k, k < i → V 2230 0 k = nI k) → ∃ W, Lp_X12_least_66 kx fu N V x1 x2 x3 (nI n) (nI i) = kx W x1 x2 x3 (nI n) ∧ Fr [2230] V W ∧ RwV W n (fun k => k) := by
  intro m
  induction m with
  | zero =>
    intro N i V hi hN h1
    obtain ⟨N, rfl⟩ : ∃ N', N = N' + 1 := ⟨N - 1, by omega⟩
    have : i = n := by omega
    subst this
    refine ⟨V, ?_, Fr.refl _ V, h1⟩
    rw [Lp_X12_least_66, F_X12_least_66, if_pos (nI_le (Nat.le_refl _) (by omega))]
  | succ m ih =>
    intro N i V hi hN h1
    obtain ⟨N, rfl⟩ : ∃ N', N = N' + 1 := ⟨N - 1, by omega⟩
    have hlt : ¬ n ≤ i := by omega
    obtain ⟨W, a1, a2, a3⟩ := ih N (i + 1) (setV V 2230 0 i (nI i)) (by omega) (by omega) (fun k hk => by
      rw [setV_at]
      by_cases z : k = i
      · subst z; rw [if_pos ⟨rfl, rfl⟩]
      · rw [if_neg (fun y => z y.2)]; exact h1 k (by omega))
    refine ⟨W, ?_, ((Fr.refl _ V).set (by decide)).trans a2, a3⟩
    rw [← a1]
    simp (disch := omega) only [Lp_X12_least_66, F_X12_least_66, hlt, bd_some, n10, n00, bv_eq, within_eq, in_eq, gd_T, gd_t, i00, i10, c_0, c_1, c_m1, ite10, ite01, setV_fn, setV_at, cntS, nI_pos, nI_clamp, nI_leI, nI_ltI, nI_eq, nI_1, if_true, if_false, not_true, not_false, and_self, and_true, true_and, false_and, and_false, or_false, false_or, or_true, true_or, not_false_eq_true, ite_self, ite_true, ite_false, reduceIte, Nat.reduceEqDiff, Nat.reduceMul, Nat.reduceAdd, Nat.reduceLT, Nat.reducePow, ne_eq]
def lsw : List Nat := [2230, 2231]
theorem lr_rows {fu x p W : Nat} {V : St} {len wid : Nat → Nat} {x3 : Int32} (hfu : 1000 ≤ fu) (h : RfP V x p len wid) (hW : W ≤ 200) (hwW : ∀ k, k < p → wid k ≤ W) : ∀ (M N : Nat) (U : St) (r : Nat → Nat) (best : Int32), 387420489 - cd9 p r ≤ M → M + 1 < N → Fr lsw V U → isPm p r → RwV U p r → LstP (fun t => lexLt p t r) p W len wid best (U 2231 0) → ∃ U' best', Lp_X12_least_94 (F_X12_least_165 fu) fu N U (nI x) (nI W) x3 (nI p) best 1 = F_X12_least_165 fu U' x3 best' ∧ Fr lsw V U' ∧ IsLeast p W len wid best' (U' 2231 0) := by
  have hp9 := h.2.1
  have hl60 : ∀ k, k < p → len k ≤ 60 := fun k hk => (h.2.2.2 k hk).2.1
  have hw60 : ∀ k, k < p → wid k ≤ 60 := fun k hk => (h.2.2.2 k hk).2.2.2.1
  have h9 : 9 ^ p ≤ 387420489 := by have : 9 ^ p ≤ 9 ^ 9 := Nat.pow_le_pow_right (by decide) hp9
                                    exact this
  intro M
  induction M with
  | zero =>
    intro N U r best hM hN hF hpm hrw hP
    exfalso
    have := cd9_lt (c := r) p (fun k hk => by have := hpm.1 k hk; omega)
    omega
  | succ M ih =>
    intro N U r best hM hN hF hpm hrw hP
    obtain ⟨N, rfl⟩ : ∃ N', N = N' + 1 := ⟨N - 1, by omega⟩
    have hlen := lengthOf_eq (fu := fu) hfu (h.fr hF (by decide)) hW hwW hpm hrw
    have hle := lenOf_le (W := W) (wid := wid) hpm hl60
    -- behind the row: the next one, or the end
    have nxt : ∀ U1 b1, Fr lsw V U1 → RwV U1 p r → LstP (fun t => lexLt p t r ∨ agr p t r) p W len wid b1 (U1 2231 0) → ∃ U' best', F_X12_least_154 (Lp_X12_least_94 (F_X12_least_165 fu) fu N) (F_X12_least_165 fu) fu U1 (nI x) (nI W) x3 (nI p) b1 = F_X12_least_165 fu U' x3 best' ∧ Fr lsw V U' ∧ IsLeast p W len wid best' (U' 2231 0) := fun U1 b1 hF1 hr1 hP1 => by
      rcases nextRow_eq (fu := fu) hfu hp9 hpm hr1 with ⟨a1, a2⟩ | ⟨U2, r', a1, a2, a3, a4⟩
      · refine ⟨U1, b1, ?_, hF1, fun k hk => ⟨hl60 k hk, hw60 k hk⟩, ?_⟩
        · obtain ⟨N, rfl⟩ : ∃ N', N = N' + 1 := ⟨N - 1, by omega⟩
          rw [F_X12_least_154, a1, bd_some, Lp_X12_least_94, F_X12_least_94, if_pos rfl]
        · have hall : ∀ t, isPm p t → lexLt p t r ∨ agr p t r := fun t ht => by
            rcases lex_tot (n := p) (c := t) (t := r) with y | y | y
            · exact .inr y
            · exact .inl y
            · exact absurd y (a2 t ht)
          rcases hP1 with ⟨-, q2⟩ | ⟨c, q1, q2, q3, q4, q5⟩
          · exact absurd (hall r hpm) (q2 r hpm)
          · exact ⟨c, q1, q3, q4, fun t ht => q5 t ht (hall t ht)⟩
      · have hlx := cd9_lex p (fun k hk => by have := hpm.1 k hk; omega) (fun k hk => by have := a4.1.1 k hk; omega) a4.2.1
        obtain ⟨U', best', c1, c2⟩ := ih N U2 r' b1 (by omega) (by omega) (hF1.trans (Fr.weak a2 (by decide))) a4.1 a3 (by
          rw [a2 2231 (by decide)]
          exact hP1.iff (fun t ht => nx_iff a4 ht))
        refine ⟨U', best', ?_, c2⟩
        rw [F_X12_least_154, a1, bd_some]; exact c1
    have take : (best = -1 ∨ ∃ R, best = nI R ∧ R ≤ 1000 ∧ lenOf W len wid p r < R) → ∃ U' best', F_X12_least_120 (Lp_X12_least_94 (F_X12_least_165 fu) fu N) (F_X12_least_165 fu) fu U (nI x) (nI W) x3 (nI p) (nI (lenOf W len wid p r)) = F_X12_least_165 fu U' x3 best' ∧ Fr lsw V U' ∧ IsLeast p W len wid best' (U' 2231 0) := fun hb => by
      obtain ⟨U1, b1, b2, b3⟩ := lr_copy (fu := fu) (r := r) (x1 := nI x) (x2 := nI W) (x3 := x3) (x5 := nI (lenOf W len wid p r)) (kx := F_X12_least_154 (Lp_X12_least_94 (F_X12_least_165 fu) fu N) (F_X12_least_165 fu) fu) hp9 p fu 0 U (by omega) (by omega) hrw (fun k hk => by omega)
      rw [nI_0] at b1
      rw [F_X12_least_120, b1]
      exact nxt U1 _ (hF.trans (Fr.weak b2 (by decide))) (fun i hi => by rw [b2 2230 (by decide)]; exact hrw i hi) (hP.new hp9 hl60 hpm hb b3)
    have hun : Lp_X12_least_94 (F_X12_least_165 fu) fu (N + 1) U (nI x) (nI W) x3 (nI p) best 1 = if best = -1 then F_X12_least_120 (Lp_X12_least_94 (F_X12_least_165 fu) fu N) (F_X12_least_165 fu) fu U (nI x) (nI W) x3 (nI p) (nI (lenOf W len wid p r)) else if best ≤ nI (lenOf W len wid p r) then F_X12_least_154 (Lp_X12_least_94 (F_X12_least_165 fu) fu N) (F_X12_least_165 fu) fu U (nI x) (nI W) x3 (nI p) best else F_X12_least_120 (Lp_X12_least_94 (F_X12_least_165 fu) fu N) (F_X12_least_165 fu) fu U (nI x) (nI W) x3 (nI p) (nI (lenOf W len wid p r)) := by
      rw [Lp_X12_least_94, F_X12_least_94, if_neg (by decide), hlen, bd_some]
    rw [hun]
    have hval : best = -1 ∨ ∃ R, best = nI R ∧ R ≤ 1000 := by
      rcases hP with ⟨q1, -⟩ | ⟨c, q1, -, q3, -⟩
      · exact .inl q1
      · have := lenOf_le (W := W) (wid := wid) q1 hl60
        exact .inr ⟨_, q3, by omega⟩
    rcases hval with hv | ⟨R, hv, hR⟩
    · rw [if_pos hv]; exact take (.inl hv)
    · have n1 : ¬ nI R = -1 := fun z => by
        have q := nI_pos (n := R) (by omega)
        rw [z] at q; exact q (by decide)
      rw [if_neg (by rw [hv]; exact n1)]
      by_cases z : R ≤ lenOf W len wid p r
      · rw [if_pos (by rw [hv]; exact nI_le z (by omega))]
        refine nxt U best hF hrw ?_
        rw [hv] at hP ⊢
        exact hP.keep hp9 hl60 hR z
      · rw [if_neg (by rw [hv]; exact nI_ge (by omega) (by omega))]
        exact take (.inr ⟨R, hv, hR, by omega⟩)
theorem id_first {n : Nat} {t : Nat → Nat} (ht : isPm n t) : ¬ lexLt n t (fun k => k) := by
  rintro ⟨k, k1, k2, k3⟩
  have h1 : t k < k := k3
  have h2 : t (t k) = t k := k2 (t k) h1
  have := ht.2 (t k) k (by omega) k1 h2
  omega
theorem least_uniq {n W : Nat} {len wid : Nat → Nat} {r r' : Int32} {b b' : Nat → Int32} (h : IsLeast n W len wid r b) (h' : IsLeast n W len wid r' b') : r = r' ∧ ∀ k, k < n → b k = b' k := by
  obtain ⟨-, c, h1, h3, h4, h5⟩ := h
  obtain ⟨-, c', g1, g3, g4, g5⟩ := h'
  have e1 := h5 c' g1
  have e2 := g5 c h1
  have e : lenOf W len wid n c = lenOf W len wid n c' := by omega
  have ha : agr n c c' := by
    rcases lex_tot (n := n) (c := c) (t := c') with z | z | z
    · exact z
    · exact absurd z (e2.2 e)
    · exact absurd z (e1.2 e.symm)
  exact ⟨by rw [h3, g3, e], fun k hk => by rw [h4 k hk, g4 k hk, ha k hk]⟩
theorem IsLeast.cg {n W : Nat} {len wid len' wid' : Nat → Nat} {r : Int32} {b : Nat → Int32} (h : IsLeast n W len wid r b) (he : ∀ k, k < n → len k = len' k ∧ wid k = wid' k) : IsLeast n W len' wid' r b := by
  obtain ⟨h0, c, h1, h3, h4, h5⟩ := h
  have hl : ∀ t, isPm n t → lenOf W len wid n t = lenOf W len' wid' n t := fun t ht => lenOf_cg (fun i hi => ⟨rfl, he _ (ht.1 i hi)⟩)
  refine ⟨fun k hk => by rw [← (he k hk).1, ← (he k hk).2]; exact h0 k hk, c, h1, by rw [← hl c h1]; exact h3, h4, fun t ht => ?_⟩
  rw [← hl c h1, ← hl t ht]; exact h5 t ht
