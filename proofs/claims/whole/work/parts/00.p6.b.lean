/-! falsely -/
theorem sm_add (f g : Nat → Int32) : ∀ n, sm (fun i => f i + g i) n = sm f n + sm g n := by
  intro n
  induction n with
  | zero => rfl
  | succ n ih => unfold sm; rw [ih]; grind
theorem sm_sub (f g : Nat → Int32) : ∀ n, sm (fun i => f i - g i) n = sm f n - sm g n := by
  intro n
  induction n with
  | zero => show (0 : Int32) = 0 - 0; decide
  | succ n ih => unfold sm; rw [ih]; grind
theorem sm_zero {f : Nat → Int32} : ∀ n, (∀ i, i < n → f i = 0) → sm f n = 0 := by
  intro n
  induction n with
  | zero => intro _; rfl
  | succ n ih => intro h; unfold sm; rw [ih (fun i hi => h i (by omega)), h n (by omega)]; rfl
theorem sm_one {f : Nat → Int32} {a : Nat} {c : Int32} : ∀ n, (∀ i, i < n → f i = if i = a then c else 0) → sm f n = if a < n then c else 0 := by
  intro n
  induction n with
  | zero => intro _; rw [if_neg (by omega)]; rfl
  | succ n ih =>
    intro h
    unfold sm
    rw [ih (fun i hi => h i (by omega)), h n (by omega)]
    by_cases h1 : a < n
    · rw [if_pos h1, if_neg (by omega), if_pos (by omega)]; grind
    · by_cases h2 : n = a
      · rw [if_neg h1, if_pos h2, if_pos (by omega)]; grind
      · rw [if_neg h1, if_neg h2, if_neg (by omega)]; rfl
def eA (V : St) (x m w e : Nat) : Int32 := if V 1361 e 0 = nI x ∧ V 1362 e 0 = nI m ∧ V 1363 e 0 = nI w then V 1364 e 0 else 0
def eB (V : St) (x w e : Nat) : Int32 := if V 1361 e 0 = nI x ∧ V 1362 e 0 = -1 ∧ V 1363 e 0 = nI w then V 1364 e 0 else 0
def tmV (V : St) (x W e : Nat) : Int32 := if V 1361 e 0 = nI x ∧ V 1363 e 0 ≤ nI W then (if V 1362 e 0 = -1 then 0 - V 1364 e 0 else if V 2240 0 (V 1362 e 0).toNatClampNeg = 0 then 0 else V 1364 e 0) else 0
def gW (V : St) (nM x k w : Nat) : Int32 := sm (fun m => if V 2240 0 m = 0 then 0 else sm (eA V x m w) k) nM - sm (eB V x w) k
theorem sum_swap {V : St} {nT nM nL x W : Nat} (hmk : I_marks V nT nM nL) (h12 : nM ≤ 12) (hx : x < 30) (h30 : nT ≤ 30) (hW : W < 500) : ∀ k, k ≤ nL → sm (gW V nM x k) (W + 1) = sm (tmV V x W) k := by
  intro k
  induction k with
  | zero =>
    intro _
    refine sm_zero _ (fun w _ => ?_)
    unfold gW
    rw [sm_zero nM (fun m _ => by split <;> rfl)]; show (0 : Int32) - 0 = 0; decide
  | succ k ih =>
    intro hk
    have st : ∀ w, gW V nM x (k + 1) w = gW V nM x k w + (sm (fun m => if V 2240 0 m = 0 then 0 else eA V x m w k) nM - eB V x w k) := by
      intro w
      unfold gW
      have : sm (fun m => if V 2240 0 m = 0 then 0 else sm (eA V x m w) (k + 1)) nM = sm (fun m => if V 2240 0 m = 0 then 0 else sm (eA V x m w) k) nM + sm (fun m => if V 2240 0 m = 0 then 0 else eA V x m w k) nM := by
        rw [← sm_add]
        refine sm_congr nM (fun m _ => ?_)
        rw [sm]
        split
        · rfl
        · rfl
      rw [this, sm]
      grind
    rw [sm_congr (W + 1) (fun w _ => st w), sm_add, ih (by omega)]
    show _ = sm (tmV V x W) k + tmV V x W k
    congr 1
    obtain ⟨x0, w0, hx0, hw0, e1, e2, e3⟩ := hmk.2.1 k (by omega)
    by_cases hxx : x0 = x
    · subst hxx
      rcases e3 with e3 | ⟨m0, hm0, e3⟩
      · have hA : ∀ m w, m < nM → eA V x0 m w k = 0 := fun m w hm => by
          unfold eA; rw [e3]; rw [if_neg (fun q => by have := ifneg_nI m (by omega); rw [← q.2.1] at this; exact cast this rfl)]
        rw [sm_one (a := w0) (c := 0 - V 1364 k 0) (W + 1) (fun w hw => by
          rw [sm_zero nM (fun m hm => by rw [hA m w hm]; split <;> rfl)]
          unfold eB
          rw [e1, e2, e3]
          by_cases hww : w = w0
          · subst hww; rw [if_pos ⟨rfl, rfl, rfl⟩, if_pos rfl]
          · rw [if_neg (fun q => hww ((nI_eq (by omega) (by omega)).mp q.2.2).symm), if_neg hww]; decide)]
        unfold tmV
        rw [e1, e2, e3]
        by_cases hle : w0 < W + 1
        · rw [if_pos hle, if_pos ⟨rfl, nI_le (by omega) (by omega)⟩, if_pos rfl]
        · rw [if_neg hle, if_neg (fun q => nI_ge (show W < w0 by omega) (by omega) q.2)]
      · have hne := ifneg_nI m0 (by omega)
        have hB : ∀ w, eB V x0 w k = 0 := fun w => by
          unfold eB; rw [e3, if_neg (fun q => cast hne q.2.1)]
        rw [sm_one (a := w0) (c := if V 2240 0 m0 = 0 then 0 else V 1364 k 0) (W + 1) (fun w hw => by
          rw [hB w]
          have h1 : sm (fun m => if V 2240 0 m = 0 then 0 else eA V x0 m w k) nM = if m0 < nM then (if V 2240 0 m0 = 0 then 0 else eA V x0 m0 w k) else 0 := sm_one nM (fun m hm => by
            by_cases hmm : m = m0
            · subst hmm; rw [if_pos rfl]
            · rw [if_neg hmm]
              have : eA V x0 m w k = 0 := by
                unfold eA; rw [e3, if_neg (fun q => hmm ((nI_eq (by omega) (by omega)).mp q.2.1).symm)]
              rw [this]; split <;> rfl)
          rw [h1, if_pos hm0]
          have zq : ∀ q : Int32, q - 0 = q := fun q => by grind
          rw [zq]
          have hE : eA V x0 m0 w k = if w = w0 then V 1364 k 0 else 0 := by
            unfold eA
            rw [e1, e2, e3]
            by_cases hww : w = w0
            · subst hww; rw [if_pos ⟨rfl, rfl, rfl⟩, if_pos rfl]
            · rw [if_neg (fun q => hww ((nI_eq (by omega) (by omega)).mp q.2.2).symm), if_neg hww]
          rw [hE]
          by_cases hz : V 2240 0 m0 = 0
          · rw [if_pos hz, if_pos hz]; split <;> rfl
          · rw [if_neg hz, if_neg hz])]
        have hT : tmV V x0 W k = if nI x0 = nI x0 ∧ nI w0 ≤ nI W then (if V 2240 0 m0 = 0 then 0 else V 1364 k 0) else 0 := by
          unfold tmV
          rw [e1, e2, e3, nI_clamp (by omega), if_neg (fun q : nI m0 = -1 => cast hne q)]
        rw [hT]
        by_cases hle : w0 < W + 1
        · have hle2 : nI x0 = nI x0 ∧ nI w0 ≤ nI W := ⟨rfl, nI_le (by omega) (by omega)⟩
          rw [if_pos hle2]; simp only [hle, if_true]
        · have hle2 : ¬ (nI x0 = nI x0 ∧ nI w0 ≤ nI W) := fun q => nI_ge (show W < w0 by omega) (by omega) q.2
          rw [if_neg hle2]; simp only [hle, if_false]
    · have hq : ¬ nI x0 = nI x := fun q => hxx ((nI_eq (by omega) (by omega)).mp q)
      rw [sm_zero (W + 1) (fun w _ => by
        rw [sm_zero nM (fun m _ => by
          have : eA V x m w k = 0 := by unfold eA; rw [e1, if_neg (fun q => hq q.1)]
          rw [this]; split <;> rfl)]
        unfold eB; rw [e1, if_neg (fun q => hq q.1)]; decide)]
      unfold tmV
      rw [e1, if_neg (fun q => hq q.1)]
theorem lp_truly {fu nT nM nL x W : Nat} {V : St} (hmk : I_marks V nT nM nL) (hma : I_mak V nM) (hL : nL ≤ 512) : ∀ (r N e : Nat), e + r = nL → r < N → Lp_X11_trulyMarked_5 (F_X11_trulyMarked_98 fu) fu N V (nI x) (nI W) (sm (tmV V x W) e) (nI e) = some (sm (tmV V x W) nL, V) := by
  have h12 := hma.1
  have hn := hmk.1
  have hc : cntV V 2112 = nL := cnt_n (by decide) (by omega) hn
  have hcm : cntV V 2106 = nM := cnt_n (by decide) (by omega) hma.2.1
  intro r
  induction r with
  | zero =>
    intro N e he hN
    obtain ⟨N, rfl⟩ : ∃ N', N = N' + 1 := ⟨N - 1, by omega⟩
    have : e = nL := by omega
    subst this
    have hle : e ≤ e := Nat.le_refl e
    simp (disch := omega) only [Lp_X11_trulyMarked_5, F_X11_trulyMarked_5, F_X11_trulyMarked_98, hn, hle, bd_some, n10, n00, bv_eq, within_eq, in_eq, gd_T, gd_t, i00, i10, c_0, c_1, c_m1, ite10, ite01, setV_fn, setV_at, cntS, nI_pos, nI_clamp, nI_leI, nI_ltI, nI_eq, nI_1, if_true, if_false, not_true, not_false, and_self, and_true, true_and, false_and, and_false, or_false, false_or, or_true, true_or, not_false_eq_true, ite_self, ite_true, ite_false, reduceIte, Nat.reduceEqDiff, Nat.reduceMul, Nat.reduceAdd, Nat.reduceLT, Nat.reducePow, ne_eq]
  | succ r ih =>
    intro N e he hN
    obtain ⟨N, rfl⟩ : ∃ N', N = N' + 1 := ⟨N - 1, by omega⟩
    have hle : ¬ nL ≤ e := by omega
    have ih := ih N (e + 1) (by omega) (by omega)
    rw [sm] at ih
    obtain ⟨x0, w0, hx0, hw0, e1, e2, e3⟩ := hmk.2.1 e (by omega)
    have z0 : ∀ q : Int32, q + 0 = q := fun q => by grind
    by_cases q1 : nI x0 = nI x
    · by_cases q2 : nI W < nI w0
      · have ht : tmV V x W e = 0 := by unfold tmV; rw [e1, e2, if_neg (fun q => by have := q.2; grind)]
        rw [ht, z0] at ih
        simp (disch := omega) only [Lp_X11_trulyMarked_5, F_X11_trulyMarked_5, F_X11_trulyMarked_92, hn, hc, e1, e2, q1, q2, bd_some, n10, n00, bv_eq, within_eq, in_eq, gd_T, gd_t, i00, i10, c_0, c_1, c_m1, ite10, ite01, setV_fn, setV_at, cntS, nI_pos, nI_clamp, nI_leI, nI_ltI, nI_eq, nI_1, if_true, if_false, not_true, not_false, and_self, and_true, true_and, false_and, and_false, or_false, false_or, or_true, true_or, not_false_eq_true, ite_self, ite_true, ite_false, reduceIte, Nat.reduceEqDiff, Nat.reduceMul, Nat.reduceAdd, Nat.reduceLT, Nat.reducePow, ne_eq]
        first | exact ih | (simp only [hle, if_false]; exact ih)
      · have q3 : nI w0 ≤ nI W := by grind
        have ht : tmV V x W e = if V 1362 e 0 = -1 then 0 - V 1364 e 0 else if V 2240 0 (V 1362 e 0).toNatClampNeg = 0 then 0 else V 1364 e 0 := by unfold tmV; rw [e1, e2, if_pos ⟨q1, q3⟩]
        rw [ht] at ih
        rcases e3 with e3 | ⟨m0, hm0, e3⟩
        · have hfm := findMaker_no (fu := fu) (x := -1) hma.2.1 (by omega) (.inl (by decide))
          rw [e3, if_pos rfl] at ih
          have zs : sm (tmV V x W) e + (0 - V 1364 e 0) = sm (tmV V x W) e - V 1364 e 0 := by grind
          rw [zs] at ih
          simp (disch := omega) only [Lp_X11_trulyMarked_5, F_X11_trulyMarked_5, F_X11_trulyMarked_92, hn, hc, e1, e2, e3, q1, q2, hfm, hle, nI_leI, nI_1, nI_pos, nI_clamp, c_m1, gd_t, bd_some, if_true, if_false, not_false_eq_true, true_and]
          exact ih
        · have hfm := findMaker_ok (fu := fu) hma.2.1 (by omega) hm0
          have hne := ifneg_nI m0 (by omega)
          have k12 := (hma.2.2.2.2.2.1 m0 hm0).2.2.2.2.2.2.2.2.2.2.2.1
          rw [e3, if_neg (fun q : nI m0 = -1 => cast hne q), nI_clamp (by omega)] at ih
          by_cases z : V 2240 0 m0 = 0
          · rw [if_pos z, z0] at ih
            simp (disch := omega) only [Lp_X11_trulyMarked_5, F_X11_trulyMarked_5, F_X11_trulyMarked_92, hn, hc, hcm, e1, e2, e3, q1, q2, hfm, hle, k12, z, nI_leI, nI_1, nI_pos, nI_clamp, gd_t, bd_some, if_true, if_false, not_false_eq_true, true_and]
            exact ih
          · rw [if_neg z] at ih
            simp (disch := omega) only [Lp_X11_trulyMarked_5, F_X11_trulyMarked_5, F_X11_trulyMarked_92, hn, hc, hcm, e1, e2, e3, q1, q2, hfm, hle, k12, z, nI_leI, nI_1, nI_pos, nI_clamp, gd_t, bd_some, if_true, if_false, not_false_eq_true, true_and]
            exact ih
    · have ht : tmV V x W e = 0 := by unfold tmV; rw [e1, if_neg (fun q => q1 q.1)]
      rw [ht, z0] at ih
      simp (disch := omega) only [Lp_X11_trulyMarked_5, F_X11_trulyMarked_5, F_X11_trulyMarked_92, hn, hc, e1, q1, hle, nI_leI, nI_1, nI_pos, nI_clamp, gd_t, if_false, not_false_eq_true, true_and]
      exact ih
theorem lq_m {fu nM x w : Nat} {V : St} {mo si a : Int32} {kx : St → Int32 → Int32 → Int32 → Int32 → Int32 → RR} (hma : I_mak V nM) (hx : x < 30) (hw : w < 500) : ∀ (r N m : Nat), m + r = nM → r < N → Lp_X12_falsely_60 kx fu N V (nI x) mo si (a - sm (fun m => if V 2240 0 m = 0 then 0 else V 2275 0 (15000 * m + 500 * x + w)) m) (nI w) (nI m) = kx V (nI x) mo si (a - sm (fun m => if V 2240 0 m = 0 then 0 else V 2275 0 (15000 * m + 500 * x + w)) nM) (nI w) := by
  have h12 := hma.1
  have hn := hma.2.2.1
  intro r
  induction r with
  | zero =>
    intro N m he hN
    obtain ⟨N, rfl⟩ : ∃ N', N = N' + 1 := ⟨N - 1, by omega⟩
    have : m = nM := by omega
    subst this
    have hle : m ≤ m := Nat.le_refl m
    simp (disch := omega) only [Lp_X12_falsely_60, F_X12_falsely_60, hn, hle, bd_some, n10, n00, bv_eq, within_eq, in_eq, gd_T, gd_t, i00, i10, c_0, c_1, c_m1, ite10, ite01, setV_fn, setV_at, cntS, nI_pos, nI_clamp, nI_leI, nI_ltI, nI_eq, nI_1, if_true, if_false, not_true, not_false, and_self, and_true, true_and, false_and, and_false, or_false, false_or, or_true, true_or, not_false_eq_true, ite_self, ite_true, ite_false, reduceIte, Nat.reduceEqDiff, Nat.reduceMul, Nat.reduceAdd, Nat.reduceLT, Nat.reducePow, ne_eq]
  | succ r ih =>
    intro N m he hN
    obtain ⟨N, rfl⟩ : ∃ N', N = N' + 1 := ⟨N - 1, by omega⟩
    have hle : ¬ nM ≤ m := by omega
    have ih := ih N (m + 1) (by omega) (by omega)
    rw [sm] at ih
    by_cases z : V 2240 0 m = 0
    · rw [if_pos z] at ih
      have zz : ∀ s : Int32, a - (s + 0) = a - s - 0 := fun s => by grind
      rw [zz] at ih
      simp (disch := omega) only [Lp_X12_falsely_60, F_X12_falsely_60, F_X12_falsely_105, hn, hle, z, bd_some, n10, n00, bv_eq, within_eq, in_eq, gd_T, gd_t, i00, i10, c_0, c_1, c_m1, ite10, ite01, setV_fn, setV_at, cntS, nI_pos, nI_clamp, nI_leI, nI_ltI, nI_eq, nI_1, if_true, if_false, not_true, not_false, and_self, and_true, true_and, false_and, and_false, or_false, false_or, or_true, true_or, not_false_eq_true, ite_self, ite_true, ite_false, reduceIte, Nat.reduceEqDiff, Nat.reduceMul, Nat.reduceAdd, Nat.reduceLT, Nat.reducePow, ne_eq]
      exact ih
    · rw [if_neg z] at ih
      have zz : ∀ s t : Int32, a - (s + t) = a - s - t := fun s t => by grind
      rw [zz] at ih
      simp (disch := omega) only [Lp_X12_falsely_60, F_X12_falsely_60, F_X12_falsely_105, hn, hle, z, ix15, ix5h, nI_add, bd_some, n10, n00, bv_eq, within_eq, in_eq, gd_T, gd_t, i00, i10, c_0, c_1, c_m1, ite10, ite01, setV_fn, setV_at, cntS, nI_pos, nI_clamp, nI_leI, nI_ltI, nI_eq, nI_1, if_true, if_false, not_true, not_false, and_self, and_true, true_and, false_and, and_false, or_false, false_or, or_true, true_or, not_false_eq_true, ite_self, ite_true, ite_false, reduceIte, Nat.reduceEqDiff, Nat.reduceMul, Nat.reduceAdd, Nat.reduceLT, Nat.reducePow, ne_eq]
      exact ih
theorem lq_w {fu nT nM nL x W si : Nat} {V : St} {mo a : Int32} {kx : St → Int32 → Int32 → Int32 → Int32 → RR} (hfu : 1000 ≤ fu) (hma : I_mak V nM) (hmk : I_marks V nT nM nL) (hx : x < 30) (hW : W < 500) (hsi : si < 100) (hs : V 2290 0 si = nI W) : ∀ (r N w : Nat), w + r = W + 1 → r < N → Lp_X12_falsely_46 kx fu N V (nI x) mo (nI si) (a - sm (gW V nM x nL) w) (nI w) = kx V (nI x) mo (nI si) (a - sm (gW V nM x nL) (W + 1)) := by
  have h12 := hma.1
  intro r
  induction r with
  | zero =>
    intro N w he hN
    obtain ⟨N, rfl⟩ : ∃ N', N = N' + 1 := ⟨N - 1, by omega⟩
    have : w = W + 1 := by omega
    subst this
    have hlt : W < W + 1 := by omega
    simp (disch := omega) only [Lp_X12_falsely_46, F_X12_falsely_46, hs, hlt, bd_some, n10, n00, bv_eq, within_eq, in_eq, gd_T, gd_t, i00, i10, c_0, c_1, c_m1, ite10, ite01, setV_fn, setV_at, cntS, nI_pos, nI_clamp, nI_leI, nI_ltI, nI_eq, nI_1, if_true, if_false, not_true, not_false, and_self, and_true, true_and, false_and, and_false, or_false, false_or, or_true, true_or, not_false_eq_true, ite_self, ite_true, ite_false, reduceIte, Nat.reduceEqDiff, Nat.reduceMul, Nat.reduceAdd, Nat.reduceLT, Nat.reducePow, ne_eq]
  | succ r ih =>
    intro N w he hN
    obtain ⟨N, rfl⟩ : ∃ N', N = N' + 1 := ⟨N - 1, by omega⟩
    have hlt : ¬ W < w := by omega
    have ih := ih N (w + 1) (by omega) (by omega)
    have hm := lq_m (fu := fu) (nM := nM) (x := x) (w := w) (mo := mo) (si := nI si) (a := a - sm (gW V nM x nL) w) (kx := F_X12_falsely_114 (Lp_X12_falsely_46 kx fu N) kx fu) hma hx (by omega) nM fu 0 (by omega) (by omega)
    have z0 : ∀ q : Int32, q - 0 = q := fun q => by grind
    rw [show sm (fun m => if V 2240 0 m = 0 then 0 else V 2275 0 (15000 * m + 500 * x + w)) 0 = 0 from rfl, z0, nI_0] at hm
    have h1 : Lp_X12_falsely_46 kx fu (N + 1) V (nI x) mo (nI si) (a - sm (gW V nM x nL) w) (nI w) = Lp_X12_falsely_60 (F_X12_falsely_114 (Lp_X12_falsely_46 kx fu N) kx fu) fu fu V (nI x) mo (nI si) (a - sm (gW V nM x nL) w) (nI w) 0 := by
      simp (disch := omega) only [Lp_X12_falsely_46, F_X12_falsely_46, hs, hlt, bd_some, n10, n00, bv_eq, within_eq, in_eq, gd_T, gd_t, i00, i10, c_0, c_1, c_m1, ite10, ite01, setV_fn, setV_at, cntS, nI_pos, nI_clamp, nI_leI, nI_ltI, nI_eq, nI_1, if_true, if_false, not_true, not_false, and_self, and_true, true_and, false_and, and_false, or_false, false_or, or_true, true_or, not_false_eq_true, ite_self, ite_true, ite_false, reduceIte, Nat.reduceEqDiff, Nat.reduceMul, Nat.reduceAdd, Nat.reduceLT, Nat.reducePow, ne_eq]
    rw [h1, hm]
    simp (disch := omega) only [F_X12_falsely_114, ix500, bd_some, n10, n00, bv_eq, within_eq, in_eq, gd_T, gd_t, i00, i10, c_0, c_1, c_m1, ite10, ite01, setV_fn, setV_at, cntS, nI_pos, nI_clamp, nI_leI, nI_ltI, nI_eq, nI_1, if_true, if_false, not_true, not_false, and_self, and_true, true_and, false_and, and_false, or_false, false_or, or_true, true_or, not_false_eq_true, ite_self, ite_true, ite_false, reduceIte, Nat.reduceEqDiff, Nat.reduceMul, Nat.reduceAdd, Nat.reduceLT, Nat.reducePow, ne_eq]
    rw [← ih, sm]
    congr 1
    have hA : sm (fun m => if V 2240 0 m = 0 then 0 else V 2275 0 (15000 * m + 500 * x + w)) nM = sm (fun m => if V 2240 0 m = 0 then 0 else sm (eA V x m w) nL) nM := sm_congr nM (fun m hm => by
      rw [hmk.2.2.1 m x w (by omega) hx (by omega)]; rfl)
    have hB : V 2276 0 (500 * x + w) = sm (eB V x w) nL := hmk.2.2.2 x w hx (by omega)
    rw [hA, hB]
    unfold gW
    grind
theorem lp_fals {fu nT nM nL nS x : Nat} {V : St} (hfu : 1000 ≤ fu) (hse : I_seen V nS) (hma : I_mak V nM) (hmk : I_marks V nT nM nL) (hL : nL ≤ 512) (hx : x < 30) (h30 : nT ≤ 30) : ∀ (N i : Nat) (mo : Int32), i ≤ nS → nS < i + N → ∃ r, Lp_X11_falsely_14 (F_X11_falsely_74 fu) fu N V (nI x) mo (nI i) = some (r, V) ∧ Lp_X12_falsely_14 (F_X12_falsely_157 fu) fu N V (nI x) mo (nI i) = some (r, V) := by
  obtain ⟨h100, hn1, hn2, hsx⟩ := hse
  have hc : cntV V 2110 = nS := cnt_n (by decide) (by omega) hn1
  intro N
  induction N with
  | zero => intro i mo h0 h; omega
  | succ N ih =>
    intro i mo h0 h
    by_cases hi : nS ≤ i
    · refine ⟨mo, ?_, ?_⟩
      · simp (disch := omega) only [Lp_X11_falsely_14, F_X11_falsely_14, F_X11_falsely_74, hn1, hi, bd_some, n10, n00, bv_eq, within_eq, in_eq, gd_T, gd_t, i00, i10, c_0, c_1, c_m1, ite10, ite01, setV_fn, setV_at, cntS, nI_pos, nI_clamp, nI_leI, nI_ltI, nI_eq, nI_1, if_true, if_false, not_true, not_false, and_self, and_true, true_and, false_and, and_false, or_false, false_or, or_true, true_or, not_false_eq_true, ite_self, ite_true, ite_false, reduceIte, Nat.reduceEqDiff, Nat.reduceMul, Nat.reduceAdd, Nat.reduceLT, Nat.reducePow, ne_eq]
      · simp (disch := omega) only [Lp_X12_falsely_14, F_X12_falsely_14, F_X12_falsely_157, hn2, hi, bd_some, n10, n00, bv_eq, within_eq, in_eq, gd_T, gd_t, i00, i10, c_0, c_1, c_m1, ite10, ite01, setV_fn, setV_at, cntS, nI_pos, nI_clamp, nI_leI, nI_ltI, nI_eq, nI_1, if_true, if_false, not_true, not_false, and_self, and_true, true_and, false_and, and_false, or_false, false_or, or_true, true_or, not_false_eq_true, ite_self, ite_true, ite_false, reduceIte, Nat.reduceEqDiff, Nat.reduceMul, Nat.reduceAdd, Nat.reduceLT, Nat.reducePow, ne_eq]
    · obtain ⟨a1, a2, a3, a4, a5⟩ := hsx i (by omega)
      by_cases q1 : V 2289 0 i = nI x
      · obtain ⟨W, hW, hWe⟩ := nI_of2 (x := V 2290 0 i) (M := 499) (n := 499) (by decide) (by grind) a5
        have ht := lp_truly (fu := fu) (x := x) (W := W) hmk hma hL nL fu 0 (by omega) (by omega)
        have hsw := sum_swap (x := x) (W := W) hmk hma.1 hx h30 (by omega) nL (Nat.le_refl _)
        have ht' : f_X11_trulyMarked fu V (nI x) (nI W) = some (sm (tmV V x W) nL, V) := ht
        have hw := lq_w (fu := fu) (nT := nT) (nM := nM) (nL := nL) (x := x) (W := W) (si := i) (mo := mo) (a := V 2291 0 i) (kx := F_X12_falsely_138 (Lp_X12_falsely_14 (F_X12_falsely_157 fu) fu N) (F_X12_falsely_157 fu) fu) hfu hma hmk hx (by omega) (by omega) hWe (W + 1) fu 0 (by omega) (by omega)
        have z0 : ∀ q : Int32, q - 0 = q := fun q => by grind
        rw [show sm (gW V nM x nL) 0 = 0 from rfl, z0, nI_0, hsw] at hw
        obtain ⟨r, r1, r2⟩ := ih (i + 1) (if mo < V 2291 0 i - sm (tmV V x W) nL then V 2291 0 i - sm (tmV V x W) nL else mo) (by omega) (by omega)
        refine ⟨r, ?_, ?_⟩
        · rw [← r1]
          simp (disch := omega) only [Lp_X11_falsely_14, F_X11_falsely_14, F_X11_falsely_68, hn1, hc, hi, a1, a2, a3, q1, hWe, ht', bd_some, n10, n00, bv_eq, within_eq, in_eq, gd_T, gd_t, i00, i10, c_0, c_1, c_m1, ite10, ite01, setV_fn, setV_at, cntS, nI_pos, nI_clamp, nI_leI, nI_ltI, nI_eq, nI_1, if_true, if_false, not_true, not_false, and_self, and_true, true_and, false_and, and_false, or_false, false_or, or_true, true_or, not_false_eq_true, ite_self, ite_true, ite_false, reduceIte, Nat.reduceEqDiff, Nat.reduceMul, Nat.reduceAdd, Nat.reduceLT, Nat.reducePow, ne_eq]
        · rw [← r2]
          have h1 : Lp_X12_falsely_14 (F_X12_falsely_157 fu) fu (N + 1) V (nI x) mo (nI i) = Lp_X12_falsely_46 (F_X12_falsely_138 (Lp_X12_falsely_14 (F_X12_falsely_157 fu) fu N) (F_X12_falsely_157 fu) fu) fu fu V (nI x) mo (nI i) (V 2291 0 i) 0 := by
            simp (disch := omega) only [Lp_X12_falsely_14, F_X12_falsely_14, hn2, hi, q1, bd_some, n10, n00, bv_eq, within_eq, in_eq, gd_T, gd_t, i00, i10, c_0, c_1, c_m1, ite10, ite01, setV_fn, setV_at, cntS, nI_pos, nI_clamp, nI_leI, nI_ltI, nI_eq, nI_1, if_true, if_false, not_true, not_false, and_self, and_true, true_and, false_and, and_false, or_false, false_or, or_true, true_or, not_false_eq_true, ite_self, ite_true, ite_false, reduceIte, Nat.reduceEqDiff, Nat.reduceMul, Nat.reduceAdd, Nat.reduceLT, Nat.reducePow, ne_eq]
          rw [h1, hw]
          simp only [F_X12_falsely_138, F_X12_falsely_150, F_X12_falsely_151, nI_1]
          by_cases q : V 2291 0 i - sm (tmV V x W) nL ≤ mo
          · rw [if_pos q, if_neg (by grind)]
          · rw [if_neg q, if_pos (by grind)]
      · obtain ⟨r, r1, r2⟩ := ih (i + 1) mo (by omega) (by omega)
        refine ⟨r, ?_, ?_⟩
        · simp (disch := omega) only [Lp_X11_falsely_14, F_X11_falsely_14, F_X11_falsely_68, hn1, hc, hi, a1, q1, bd_some, n10, n00, bv_eq, within_eq, in_eq, gd_T, gd_t, i00, i10, c_0, c_1, c_m1, ite10, ite01, setV_fn, setV_at, cntS, nI_pos, nI_clamp, nI_leI, nI_ltI, nI_eq, nI_1, if_true, if_false, not_true, not_false, and_self, and_true, true_and, false_and, and_false, or_false, false_or, or_true, true_or, not_false_eq_true, ite_self, ite_true, ite_false, reduceIte, Nat.reduceEqDiff, Nat.reduceMul, Nat.reduceAdd, Nat.reduceLT, Nat.reducePow, ne_eq]; exact r1
        · simp (disch := omega) only [Lp_X12_falsely_14, F_X12_falsely_14, F_X12_falsely_151, hn2, hi, q1, bd_some, n10, n00, bv_eq, within_eq, in_eq, gd_T, gd_t, i00, i10, c_0, c_1, c_m1, ite10, ite01, setV_fn, setV_at, cntS, nI_pos, nI_clamp, nI_leI, nI_ltI, nI_eq, nI_1, if_true, if_false, not_true, not_false, and_self, and_true, true_and, false_and, and_false, or_false, false_or, or_true, true_or, not_false_eq_true, ite_self, ite_true, ite_false, reduceIte, Nat.reduceEqDiff, Nat.reduceMul, Nat.reduceAdd, Nat.reduceLT, Nat.reducePow, ne_eq]; exact r2
theorem P_falsely {fu k : Nat} {V : St} (hfu : 1000 ≤ fu) (hk : k < 512) (hI : Inv k V) (x : Int32) : Step k (fun V => f_X11_falsely fu V x) (fun V => f_X12_falsely fu V x) V := by
  have hI' := hI
  obtain ⟨nC, nD, nT, nM, nP, nK, nS, nR, nL, nO, hL, hmi, hta, hcl, hdr, hth, hla, hma, hor, hpe, hdo, hse, hru, hmk⟩ := hI
  have h30 := hth.1
  rcases ix_or x (show nT < 2 ^ 31 by omega) with hv | ⟨i, hi, rfl⟩
  · refine Step.same (r := -1) ?_ ?_ hI'
    · simp only [f_X11_falsely, findThing_no hth.2.1 (show nT ≤ 1000 by omega) hv, bd_some, n10, n00, bv_eq, within_eq, in_eq, gd_T, gd_t, i00, i10, c_0, c_1, c_m1, ite10, ite01, setV_fn, setV_at, cntS, nI_pos, nI_clamp, nI_leI, nI_ltI, nI_eq, nI_1, if_true, if_false, not_true, not_false, and_self, and_true, true_and, false_and, and_false, or_false, false_or, or_true, true_or, not_false_eq_true, ite_self, ite_true, ite_false, reduceIte, Nat.reduceEqDiff, Nat.reduceMul, Nat.reduceAdd, Nat.reduceLT, Nat.reducePow, ne_eq]
    · simp only [f_X12_falsely, isThing_no hth.2.2.1 hv, bd_some, n10, n00, bv_eq, within_eq, in_eq, gd_T, gd_t, i00, i10, c_0, c_1, c_m1, ite10, ite01, setV_fn, setV_at, cntS, nI_pos, nI_clamp, nI_leI, nI_ltI, nI_eq, nI_1, if_true, if_false, not_true, not_false, and_self, and_true, true_and, false_and, and_false, or_false, false_or, or_true, true_or, not_false_eq_true, ite_self, ite_true, ite_false, reduceIte, Nat.reduceEqDiff, Nat.reduceMul, Nat.reduceAdd, Nat.reduceLT, Nat.reducePow, ne_eq]
  · obtain ⟨r, r1, r2⟩ := lp_fals (fu := fu) (x := i) hfu hse hma hmk (by omega) (by omega) h30 fu 0 0 (by omega) (by have := hse.1; omega)
    refine Step.same (r := r) ?_ ?_ hI'
    · simp (disch := omega) only [f_X11_falsely, findThing_ok hth.2.1 (show nT ≤ 1000 by omega) hi, bd_some, n10, n00, bv_eq, within_eq, in_eq, gd_T, gd_t, i00, i10, c_0, c_1, c_m1, ite10, ite01, setV_fn, setV_at, cntS, nI_pos, nI_clamp, nI_leI, nI_ltI, nI_eq, nI_1, if_true, if_false, not_true, not_false, and_self, and_true, true_and, false_and, and_false, or_false, false_or, or_true, true_or, not_false_eq_true, ite_self, ite_true, ite_false, reduceIte, Nat.reduceEqDiff, Nat.reduceMul, Nat.reduceAdd, Nat.reduceLT, Nat.reducePow, ne_eq]; exact r1
    · simp (disch := omega) only [f_X12_falsely, isThing_ok hth.2.2.1 (show nT ≤ 1000 by omega) hi, bd_some, n10, n00, bv_eq, within_eq, in_eq, gd_T, gd_t, i00, i10, c_0, c_1, c_m1, ite10, ite01, setV_fn, setV_at, cntS, nI_pos, nI_clamp, nI_leI, nI_ltI, nI_eq, nI_1, if_true, if_false, not_true, not_false, and_self, and_true, true_and, false_and, and_false, or_false, false_or, or_true, true_or, not_false_eq_true, ite_self, ite_true, ite_false, reduceIte, Nat.reduceEqDiff, Nat.reduceMul, Nat.reduceAdd, Nat.reduceLT, Nat.reducePow, ne_eq]; exact r2
