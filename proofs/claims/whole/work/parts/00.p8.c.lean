/-! the class's fewestInches -/
theorem CheapP.all {s l : Nat} {A B LJ LP : Nat → Nat} {P : (Nat → Nat) → Prop} {r : Int32} {b : Nat → Int32} (h : CheapP P s l A B LJ LP r b) (hp : ∀ c, okC s c → P c) : IsCheap s l A B LJ LP r b := by
  rcases h with ⟨h1, h2⟩ | ⟨c, h1, h2, h3, h4, h5, h6⟩
  · exact .inl ⟨h1, fun c hc => h2 c hc (hp c hc)⟩
  · exact .inr ⟨c, h1, h3, h4, h5, fun c' hc' hb => h6 c' hc' (hp c' hc') hb⟩
def chw : List Nat := [1207, 1208, 1209, 1210, 1211, 1214, 1215, 1216]
theorem fewest_eq {fu nD d j s l : Nat} {V : St} {A B LJ LP : Nat → Nat} (hfu : 1000 ≤ fu) (h : DrC V nD d j s l A B LJ LP) (h16 : V 1216 d 0 = 0 ∨ (V 1216 d 0 = 1 ∧ IsCheap s l A B LJ LP (V 1215 d 0) (V 1211 d))) : ∃ V1, f_X2_fewestInches fu V (nI d) = some (V1 1215 d 0, V1) ∧ Fr chw V V1 ∧ V1 1216 d 0 = 1 ∧ IsCheap s l A B LJ LP (V1 1215 d 0) (V1 1211 d) ∧ ∀ d', d' ≠ d → V1 1211 d' = V 1211 d' ∧ V1 1215 d' = V 1215 d' ∧ V1 1216 d' = V 1216 d' := by
  have hh := h
  obtain ⟨hd, h22, hn, h2, h8, hs8, hl8, e1, e2, e3, hst, hlo⟩ := h
  have hct : cntV V 2104 = nD := cnt_n (by decide) (by omega) hn
  rcases h16 with h16 | ⟨h16, hch⟩
  · have hF0 : Fr [1215] V (setV V 1215 d 0 (-1)) := (Fr.refl _ V).set (by decide)
    have hh0 : DrC (setV V 1215 d 0 (-1)) nD d j s l A B LJ LP := hh.fr (fun v hv => hF0 v (by revert v; decide))
    obtain ⟨W, c, CS, CN, a1, a2, a3, a4⟩ := findCuts_eq (fu := fu) hfu hh0
    have hnW : W 2104 0 0 = nI nD := by rw [a2 2104 (by decide)]; exact hh0.2.2.1
    have hctW : cntV W 2104 = nD := cnt_n (by decide) (by omega) hnW
    have hA : ∀ k, k < s → A k < j ∧ B k < j := fun k hk => ⟨(hst k hk).1, (hst k hk).2.1⟩
    have hL : ∀ q, q < l → LJ q < j ∧ 1 ≤ LP q ∧ LP q ≤ 500 := fun q hq => ⟨(hlo q hq).2.1, (hlo q hq).2.2.1, (hlo q hq).2.2.2.1⟩
    have hS0 : CutS W nD d c CS (spv CS CN 0 (fun _ => 0)) := (a3.toS hd h22 hnW).of (fun v _ => rfl) (fun e _ => by
      show _ = 60 * nI (pcR (CS e) 31 0) - nI (CN e) - 0
      grind)
    have hFW : Fr chw V W := (hF0.weak (by decide)).trans (a2.weak (by decide))
    have w15 : ∀ d' k, W 1215 d' k = if d' = d ∧ k = 0 then -1 else V 1215 d' k := fun d' k => by rw [a2 1215 (by decide), setV_at]
    have w11 : W 1211 = V 1211 := by rw [a2 1211 (by decide), setV_fn (by decide)]
    have w16 : W 1216 = V 1216 := by rw [a2 1216 (by decide), setV_fn (by decide)]
    have fin : ∀ W', cntV W' 2104 = nD → Fr chw V W' → IsCheap s l A B LJ LP (W' 1215 d 0) (W' 1211 d) → (∀ d', d' ≠ d → W' 1211 d' = V 1211 d' ∧ W' 1215 d' = V 1215 d') → W' 1216 = V 1216 → ∃ V1, F_X2_fewestInches_29 fu W' (nI d) = some (V1 1215 d 0, V1) ∧ Fr chw V V1 ∧ V1 1216 d 0 = 1 ∧ IsCheap s l A B LJ LP (V1 1215 d 0) (V1 1211 d) ∧ ∀ d', d' ≠ d → V1 1211 d' = V 1211 d' ∧ V1 1215 d' = V 1215 d' ∧ V1 1216 d' = V 1216 d' := fun W' hc' hF' hC' ho h16' => by
      refine ⟨setV W' 1216 d 0 1, ?_, hF'.set (by decide), by simp [setV], ?_, fun d' hd' => ?_⟩
      · simp (disch := omega) only [F_X2_fewestInches_29, F_X2_fewestInches_34, hc', bd_some, n10, n00, bv_eq, within_eq, in_eq, gd_T, gd_t, i00, i10, c_0, c_1, c_m1, ite10, ite01, setV_fn, setV_at, cntS, nI_pos, nI_clamp, nI_leI, nI_ltI, nI_eq, nI_1, if_true, if_false, not_true, not_false, and_self, and_true, true_and, false_and, and_false, or_false, false_or, or_true, true_or, not_false_eq_true, ite_self, ite_true, ite_false, reduceIte, Nat.reduceEqDiff, Nat.reduceMul, Nat.reduceAdd, Nat.reduceLT, Nat.reducePow, ne_eq]
      · rw [setV_fn (by decide), setV_fn (by decide)]; exact hC'
      · rw [setV_fn (v' := 1211) (by decide), setV_fn (v' := 1215) (by decide)]
        refine ⟨(ho d' hd').1, (ho d' hd').2, ?_⟩
        funext k
        rw [setV_at, if_neg (fun z => hd' z.1), h16']
    rcases sound_eq (fu := fu) hfu hS0 with ⟨s1, s2⟩ | ⟨s1, e, s2, s3⟩
    · obtain ⟨W', c1, c2, c3, c4⟩ := choose_eq (fu := fu) hfu hs8 a4 hA hL 12 0 W (fun _ => 0) (by omega) (by omega) ⟨hS0, by rw [hFW 1212 (by decide)]; exact e2, fun k hk => by omega⟩ s2 (.inl ⟨by rw [w15, if_pos ⟨rfl, rfl⟩], fun c _ hp => by obtain ⟨k, k1, -⟩ := hp; omega⟩) (.inl (by rw [w15, if_pos ⟨rfl, rfl⟩]))
      have e0 : nI (inchs 0 (fun _ => 0)) = 0 := rfl
      rw [e0, nI_0] at c1
      have hctW' : cntV W' 2104 = nD := cnt_n (by decide) (by omega) c3.1.2.2.1
      obtain ⟨V1, d1, d2⟩ := fin W' hctW' (hFW.trans (c2.1.weak (by decide))) (c4.all (fun c _ => .inr (fun k hk => by omega))) (fun d' hd' => ⟨by rw [(c2.2 d' hd').1, w11], by rw [(c2.2 d' hd').2]; funext k; rw [w15, if_neg (fun z => hd' z.1)]⟩) (by rw [c2.1 1216 (by decide), w16])
      refine ⟨V1, ?_, d2⟩
      rw [← d1]
      have hch : f_X2_choose fu W (nI d) 0 0 = some (0, W') := c1
      simp (disch := omega) only [f_X2_fewestInches, hct, h16, a1, hctW, s1, hch, bd_some, n10, n00, bv_eq, within_eq, in_eq, gd_T, gd_t, i00, i10, c_0, c_1, c_m1, ite10, ite01, setV_fn, setV_at, cntS, nI_pos, nI_clamp, nI_leI, nI_ltI, nI_eq, nI_1, if_true, if_false, not_true, not_false, and_self, and_true, true_and, false_and, and_false, or_false, false_or, or_true, true_or, not_false_eq_true, ite_self, ite_true, ite_false, reduceIte, Nat.reduceEqDiff, Nat.reduceMul, Nat.reduceAdd, Nat.reduceLT, Nat.reducePow, ne_eq]
    · obtain ⟨V1, d1, d2⟩ := fin W hctW hFW (.inl ⟨by rw [w15, if_pos ⟨rfl, rfl⟩], fun c hc hb => s3 ((sound_bears (i := 0) (t := fun _ => 0) hs8 (by omega) a4 hA hL).mpr (bears_mono (fun k hk => by
        unfold ext; rw [if_neg (by omega)]; have := hc k hk; omega) hb) e s2)⟩) (fun d' hd' => ⟨by rw [w11], by funext k; rw [w15, if_neg (fun z => hd' z.1)]⟩) w16
      refine ⟨V1, ?_, d2⟩
      rw [← d1]
      simp (disch := omega) only [f_X2_fewestInches, hct, h16, a1, hctW, s1, bd_some, n10, n00, bv_eq, within_eq, in_eq, gd_T, gd_t, i00, i10, c_0, c_1, c_m1, ite10, ite01, setV_fn, setV_at, cntS, nI_pos, nI_clamp, nI_leI, nI_ltI, nI_eq, nI_1, if_true, if_false, not_true, not_false, and_self, and_true, true_and, false_and, and_false, or_false, false_or, or_true, true_or, not_false_eq_true, ite_self, ite_true, ite_false, reduceIte, Nat.reduceEqDiff, Nat.reduceMul, Nat.reduceAdd, Nat.reduceLT, Nat.reducePow, ne_eq]
  · refine ⟨V, ?_, Fr.refl _ V, h16, hch, fun d' _ => ⟨rfl, rfl, rfl⟩⟩
    simp (disch := omega) only [f_X2_fewestInches, F_X2_fewestInches_34, hct, h16, bd_some, n10, n00, bv_eq, within_eq, in_eq, gd_T, gd_t, i00, i10, c_0, c_1, c_m1, ite10, ite01, setV_fn, setV_at, cntS, nI_pos, nI_clamp, nI_leI, nI_ltI, nI_eq, nI_1, if_true, if_false, not_true, not_false, and_self, and_true, true_and, false_and, and_false, or_false, false_or, or_true, true_or, not_false_eq_true, ite_self, ite_true, ite_false, reduceIte, Nat.reduceEqDiff, Nat.reduceMul, Nat.reduceAdd, Nat.reduceLT, Nat.reducePow, ne_eq]
/-! the reference's cheapest -/
def cd3 : Nat → (Nat → Nat) → Nat
  | 0, _ => 0
  | n + 1, c => 3 * cd3 n c + c n
def dg3 (n code k : Nat) : Nat := code / 3 ^ (n - 1 - k) % 3
theorem cd3_congr {c c' : Nat → Nat} : ∀ n, agr n c c' → cd3 n c = cd3 n c' := by
  intro n
  induction n with
  | zero => intro _; rfl
  | succ n ih => intro h; rw [cd3, cd3, ih (fun k hk => h k (by omega)), h n (by omega)]
theorem cd3_lt {c : Nat → Nat} : ∀ n, okC n c → cd3 n c < 3 ^ n := by
  intro n
  induction n with
  | zero => intro _; show 0 < 1; omega
  | succ n ih =>
    intro h
    have h1 := ih (fun k hk => h k (by omega))
    have h2 := h n (by omega)
    rw [cd3, Nat.pow_succ]; omega
theorem cd3_lex {c c' : Nat → Nat} : ∀ n, okC n c → okC n c' → lexLt n c c' → cd3 n c < cd3 n c' := by
  intro n
  induction n with
  | zero => rintro _ _ ⟨k, k1, -⟩; omega
  | succ n ih =>
    intro h1 h2 h
    have a1 := h1 n (by omega)
    have a2 := h2 n (by omega)
    rw [cd3, cd3]
    rcases lex_succ.mp h with z | ⟨z, y⟩
    · have := ih (fun k hk => h1 k (by omega)) (fun k hk => h2 k (by omega)) z; omega
    · rw [cd3_congr n z]; omega
theorem cd3_inj {c c' : Nat → Nat} {n : Nat} (h1 : okC n c) (h2 : okC n c') (h : cd3 n c = cd3 n c') : agr n c c' := by
  rcases lex_tot (n := n) (c := c) (t := c') with z | z | z
  · exact z
  · have := cd3_lex n h1 h2 z; omega
  · have := cd3_lex n h2 h1 z; omega
theorem dg3_ok (n code : Nat) : okC n (dg3 n code) := fun k _ => Nat.mod_lt _ (by decide)
theorem cd3_dg : ∀ n code, code < 3 ^ n → cd3 n (dg3 n code) = code := by
  intro n
  induction n with
  | zero => intro code h; have : code = 0 := by have : code < 1 := h; omega
            subst this; rfl
  | succ n ih =>
    intro code h
    rw [cd3]
    have e1 : agr n (dg3 (n + 1) code) (dg3 n (code / 3)) := fun k hk => by
      unfold dg3
      rw [Nat.div_div_eq_div_mul, ← Nat.pow_succ']
      rw [show n + 1 - 1 - k = n - 1 - k + 1 by omega]
    have e2 : dg3 (n + 1) code n = code % 3 := by
      unfold dg3; rw [show n + 1 - 1 - n = 0 by omega, Nat.pow_zero, Nat.div_one]
    rw [cd3_congr n e1, ih (code / 3) (by rw [Nat.pow_succ] at h; omega), e2]
    omega
theorem usesOf_eq {fu t : Nat} {V : St} (h : t < 3) : f_X12_usesOf fu V (nI t) = some (nI (tus t), V) := by
  rcases (show t = 0 ∨ t = 1 ∨ t = 2 by omega) with rfl | rfl | rfl <;> rfl
theorem lc_all {fu s : Nat} {V : St} {x1 x2 : Int32} {kx : St → Int32 → Int32 → Int32 → Int32 → RR} (hs : s ≤ 8) : ∀ (r N i : Nat), i + r = s → r < N → Lp_X12_cheapest_39 kx fu N V x1 x2 (nI s) (nI (3 ^ i)) (nI i) = kx V x1 x2 (nI s) (nI (3 ^ s)) := by
  intro r
  induction r with
  | zero =>
    intro N i hi hN
    obtain ⟨N, rfl⟩ : ∃ N', N = N' + 1 := ⟨N - 1, by omega⟩
    have : i = s := by omega
    subst this
    rw [Lp_X12_cheapest_39, F_X12_cheapest_39, if_pos (nI_le (Nat.le_refl _) (by omega))]
  | succ r ih =>
    intro N i hi hN
    obtain ⟨N, rfl⟩ : ∃ N', N = N' + 1 := ⟨N - 1, by omega⟩
    rw [Lp_X12_cheapest_39, F_X12_cheapest_39, if_neg (nI_ge (by omega) (by omega))]
    have e : (3 : Int32) * nI (3 ^ i) = nI (3 ^ (i + 1)) := by
      rw [show (3 : Int32) = nI 3 from rfl, pk_mul, Nat.pow_succ', Nat.mul_comm]
    rw [e, nI_1]
    exact ih N (i + 1) (by omega) (by omega)
/-- the sum of the uses of the digits from i on -/
def inF (s i : Nat) (c : Nat → Nat) : Nat := sN (fun k => if i ≤ k then tus (c k) else 0) s
theorem inF_0 {s : Nat} {c : Nat → Nat} : inF s 0 c = inchs s c := sN_congr s (fun k _ => if_pos (Nat.zero_le k))
theorem inF_s {s i : Nat} {c : Nat → Nat} (h : s ≤ i) : inF s i c = 0 := by
  have : ∀ n, n ≤ i → sN (fun k => if i ≤ k then tus (c k) else 0) n = 0 := by
    intro n
    induction n with
    | zero => intro _; rfl
    | succ n ih => intro h; rw [sN, ih (by omega), if_neg (by omega)]
  exact this s h
theorem inF_st {i : Nat} {c : Nat → Nat} : ∀ s, i < s → inF s i c = inF s (i + 1) c + tus (c i) := by
  intro s
  induction s with
  | zero => intro h; omega
  | succ s ih =>
    intro h
    have e1 : inF (s + 1) i c = inF s i c + (if i ≤ s then tus (c s) else 0) := rfl
    have e2 : inF (s + 1) (i + 1) c = inF s (i + 1) c + (if i + 1 ≤ s then tus (c s) else 0) := rfl
    by_cases z : i = s
    · subst z
      rw [e1, e2, if_pos (Nat.le_refl i), if_neg (by omega), inF_s (Nat.le_refl i), inF_s (by omega)]
    · rw [e1, e2, ih (by omega), if_pos (by omega), if_pos (by omega)]; omega
theorem inF_le {s i : Nat} {c : Nat → Nat} : inF s i c ≤ 9 * s := by
  refine Nat.le_trans ?_ (inchs_le (c := c) s)
  exact sN_mono s (fun k _ => by split <;> omega)
theorem lc_digits {fu s code : Nat} {x1 x2 x4 x5 x6 : Int32} {kx : St → Int32 → Int32 → Int32 → Int32 → Int32 → Int32 → Int32 → RR} (hs : s ≤ 8) (hc : code < 10000) : ∀ (i N : Nat) (V : St), i ≤ s → i < N → (∀ k, i ≤ k → k < s → V 2226 0 k = nI (dg3 s code k)) → ∃ W, Lp_X12_cheapest_82 kx fu N V x1 x2 (nI s) x4 x5 x6 (nI (code / 3 ^ (s - i))) (nI (inF s i (dg3 s code))) (nI i - 1) = kx W x1 x2 (nI s) x4 x5 x6 (nI (inchs s (dg3 s code))) ∧ Fr [2226] V W ∧ ∀ k, k < s → W 2226 0 k = nI (dg3 s code k) := by
  intro i
  induction i with
  | zero =>
    intro N V hi hN hk
    obtain ⟨N, rfl⟩ : ∃ N', N = N' + 1 := ⟨N - 1, by omega⟩
    refine ⟨V, ?_, Fr.refl _ V, fun k hk' => hk k (by omega) hk'⟩
    rw [Lp_X12_cheapest_82, F_X12_cheapest_82, if_pos (by decide), inF_0]
  | succ i ih =>
    intro N V hi hN hk
    obtain ⟨N, rfl⟩ : ∃ N', N = N' + 1 := ⟨N - 1, by omega⟩
    have hq : code / 3 ^ (s - (i + 1)) < 10000 := Nat.lt_of_le_of_lt (Nat.div_le_self _ _) hc
    have e1 : nI (i + 1) - 1 = nI i := nI_pred i
    have e2 : nI (code / 3 ^ (s - (i + 1))) - nI (code / 3 ^ (s - (i + 1))) / 3 * 3 = nI (dg3 s code i) := by
      rw [show (3 : Int32) = nI 3 from rfl, pk_rem (by omega) (by omega) (by omega)]
      unfold dg3
      rw [show s - (i + 1) = s - 1 - i by omega]
    have e3 : nI (code / 3 ^ (s - (i + 1))) / 3 = nI (code / 3 ^ (s - i)) := by
      rw [show (3 : Int32) = nI 3 from rfl, pk_div (by omega) (by omega) (by omega), Nat.div_div_eq_div_mul, ← Nat.pow_succ, show (s - (i + 1)).succ = s - i by omega]
    rw [e3] at e2
    have e4 : nI (inF s (i + 1) (dg3 s code)) + nI (tus (dg3 s code i)) = nI (inF s i (dg3 s code)) := by
      rw [nI_add, inF_st (i := i) s (by omega)]
    have e5 : nI i + (-1) = nI i - 1 := by grind
    have hu := fun W => usesOf_eq (fu := fu) (V := W) (dg3_ok s code i (by omega))
    obtain ⟨W, a1, a2, a3⟩ := ih N (setV V 2226 0 i (nI (dg3 s code i))) (by omega) (by omega) (fun k k1 k2 => by
      rw [setV_at]
      by_cases z : k = i
      · subst z; rw [if_pos ⟨rfl, rfl⟩]
      · rw [if_neg (fun y => z y.2)]; exact hk k (by omega) k2)
    refine ⟨W, ?_, ((Fr.refl _ V).set (by decide)).trans a2, a3⟩
    rw [← a1]
    simp (disch := omega) only [Lp_X12_cheapest_82, F_X12_cheapest_82, e1, e2, e3, hu, e4, e5, bd_some, n10, n00, bv_eq, within_eq, in_eq, gd_T, gd_t, i00, i10, c_0, c_1, c_m1, ite10, ite01, setV_fn, setV_at, cntS, nI_pos, nI_clamp, nI_leI, nI_ltI, nI_eq, nI_1, if_true, if_false, not_true, not_false, and_self, and_true, true_and, false_and, and_false, or_false, false_or, or_true, true_or, not_false_eq_true, ite_self, ite_true, ite_false, reduceIte, Nat.reduceEqDiff, Nat.reduceMul, Nat.reduceAdd, Nat.reduceLT, Nat.reducePow, ne_eq]
theorem lc_best {fu s : Nat} {c : Nat → Nat} {x1 x2 x4 x5 x6 : Int32} {kx : St → Int32 → Int32 → Int32 → Int32 → Int32 → Int32 → RR} (hs : s ≤ 8) : ∀ (r N i : Nat) (V : St), i + r = s → r < N → (∀ k, k < s → V 2226 0 k = nI (c k)) → (∀ k, k < i → V 2227 0 k = nI (c k)) → ∃ W, Lp_X12_cheapest_156 kx fu N V x1 x2 (nI s) x4 x5 x6 (nI i) = kx W x1 x2 (nI s) x4 x5 x6 ∧ Fr [2227] V W ∧ ∀ k, k < s → W 2227 0 k = nI (c k) := by
  intro r
  induction r with
  | zero =>
    intro N i V hi hN h1 h2
    obtain ⟨N, rfl⟩ : ∃ N', N = N' + 1 := ⟨N - 1, by omega⟩
    have : i = s := by omega
    subst this
    refine ⟨V, ?_, Fr.refl _ V, h2⟩
    rw [Lp_X12_cheapest_156, F_X12_cheapest_156, if_pos (nI_le (Nat.le_refl _) (by omega))]
  | succ r ih =>
    intro N i V hi hN h1 h2
    obtain ⟨N, rfl⟩ : ∃ N', N = N' + 1 := ⟨N - 1, by omega⟩
    have hlt : ¬ s ≤ i := by omega
    have w := h1 i (by omega)
    obtain ⟨W, a1, a2, a3⟩ := ih N (i + 1) (setV V 2227 0 i (nI (c i))) (by omega) (by omega) (fun k hk => by rw [setV_fn (by decide)]; exact h1 k hk) (fun k hk => by
      rw [setV_at]
      by_cases z : k = i
      · subst z; rw [if_pos ⟨rfl, rfl⟩]
      · rw [if_neg (fun y => z y.2)]; exact h2 k (by omega))
    refine ⟨W, ?_, ((Fr.refl _ V).set (by decide)).trans a2, a3⟩
    rw [← a1]
    simp (disch := omega) only [Lp_X12_cheapest_156, F_X12_cheapest_156, hlt, w, bd_some, n10, n00, bv_eq, within_eq, in_eq, gd_T, gd_t, i00, i10, c_0, c_1, c_m1, ite10, ite01, setV_fn, setV_at, cntS, nI_pos, nI_clamp, nI_leI, nI_ltI, nI_eq, nI_1, if_true, if_false, not_true, not_false, and_self, and_true, true_and, false_and, and_false, or_false, false_or, or_true, true_or, not_false_eq_true, ite_self, ite_true, ite_false, reduceIte, Nat.reduceEqDiff, Nat.reduceMul, Nat.reduceAdd, Nat.reduceLT, Nat.reducePow, ne_eq]
