/-! the class's choose, walked -/
theorem choose_84 {fu nD d j s l c n i x : Nat} {A B LJ LP CS CN t : Nat → Nat} {kh : St → Int32 → Int32 → Int32 → Int32 → Int32 → RR} {kx : St → RR} {th : Int32} {W : St} (hfu : 1000 ≤ fu) (hs8 : s ≤ 8) (hO : CutsOK j s l c A B LJ LP CS CN (2 ^ j)) (hA : ∀ k, k < s → A k < j ∧ B k < j) (hL : ∀ q, q < l → LJ q < j ∧ 1 ≤ LP q ∧ LP q ≤ 500)
    (ih : ∀ (W : St) (t : Nat → Nat), ChI W nD d s c (i + 1) CS CN t → (∀ e, e < c → 0 ≤ spv CS CN (i + 1) t e) → CheapP (fun c => lexLt (i + 1) c t) s l A B LJ LP (W 1215 d 0) (W 1211 d) → (W 1215 d 0 = -1 ∨ ∃ R, W 1215 d 0 = nI R ∧ R ≤ 72 ∧ inchs (i + 1) t + 2 * (s - (i + 1)) < R) → ∃ W', g_X2_choose fu n W (nI d) (nI (i + 1)) (nI (inchs (i + 1) t)) = some (0, W') ∧ ChF d W W' ∧ ChI W' nD d s c (i + 1) CS CN t ∧ CheapP (fun c => lexLt (i + 1) c t ∨ agr (i + 1) c t) s l A B LJ LP (W' 1215 d 0) (W' 1211 d))
    (hi : i < s) (hx : x < 3) (hI : ChI W nD d s c i CS CN t) (hP : CheapP (PB i t x) s l A B LJ LP (W 1215 d 0) (W 1211 d)) (hR : W 1215 d 0 = -1 ∨ ∃ R, W 1215 d 0 = nI R ∧ R ≤ 72 ∧ inchs i t + tus x + 2 * (s - i - 1) < R) : ∃ W1, F_X2_choose_84 (g_X2_choose fu n) kh kx fu W (nI d) (nI i) (nI (inchs i t)) th (nI x) (nI (inchs i t + tus x)) = kh W1 (nI d) (nI i) (nI (inchs i t)) th (nI (x + 1)) ∧ ChF d W W1 ∧ ChI W1 nD d s c i CS CN t ∧ CheapP (PB i t (x + 1)) s l A B LJ LP (W1 1215 d 0) (W1 1211 d) := by
  obtain ⟨hC, e1, ht⟩ := hI
  have hd := hC.1
  have h22 := hC.2.1
  have hct : cntV W 2104 = nD := cnt_n (by decide) (by omega) hC.2.2.1
  have g2 : gT0 2 = 60 := rfl
  have gx := gT0_eq hx
  have hin : inchs (i + 1) (upN t i x) = inchs i t + tus x := by
    have q : inchs (i + 1) (upN t i x) = inchs i (upN t i x) + tus (upN t i x i) := rfl
    rw [q, inchs_agr (c := upN t i x) (t := t) (fun k hk => if_neg (by omega)), show upN t i x i = x from if_pos rfl]
  have hC0 : CutS (setV W 1210 d i (nI x)) nD d c CS (spv CS CN i t) := hC.of (fun v hv => setV_fn (by rintro rfl; revert hv; decide)) (fun _ _ => rfl)
  have hF0 : Fr [1210] W (setV W 1210 d i (nI x)) := (Fr.refl _ W).set (by decide)
  obtain ⟨W1, a1, a2, a3⟩ := take_eq (fu := fu) (p := 60 - nI (tbo x)) hfu hC0 (show i < 8 by omega)
  have hC1 : CutS W1 nD d c CS (spv CS CN (i + 1) (upN t i x)) := a3.of (fun v _ => rfl) (fun e _ => spv_succ.symm)
  have hct1 : cntV W1 2104 = nD := cnt_n (by decide) (by omega) hC1.2.2.1
  have hF1 : Fr [1209, 1210] W W1 := (hF0.weak (by decide)).trans (a2.weak (by decide))
  have w10 : ∀ k, k < i + 1 → upN t i x k < 3 ∧ W1 1210 d k = nI (upN t i x k) := fun k hk => by
    have q : W1 1210 = setV W 1210 d i (nI x) 1210 := a2 1210 (by decide)
    rw [q, setV_at]
    by_cases z : k = i
    · subst z; rw [if_pos ⟨rfl, rfl⟩, show upN t k x k = x from if_pos rfl]; exact ⟨hx, rfl⟩
    · rw [if_neg (fun y => z y.2), show upN t i x k = t k from if_neg z]; exact ht k (by omega)
  -- giving back
  have back : ∀ W2, CutS W2 nD d c CS (spv CS CN (i + 1) (upN t i x)) → W2 1212 d 0 = nI s → (∀ k, k < i → W2 1210 d k = nI (t k)) → ∃ W3, F_X2_choose_129 (g_X2_choose fu n) kh kx fu W2 (nI d) (nI i) (nI (inchs i t)) th (nI x) (60 - nI (tbo x)) = kh W3 (nI d) (nI i) (nI (inchs i t)) th (nI (x + 1)) ∧ Fr [1209] W2 W3 ∧ ChI W3 nD d s c i CS CN t := fun W2 hC2 e2 h10 => by
    obtain ⟨W3, b1, b2, b3⟩ := take_eq (fu := fu) (p := -(60 - nI (tbo x))) hfu hC2 (show i < 8 by omega)
    have hct2 : cntV W2 2104 = nD := cnt_n (by decide) (by omega) hC2.2.2.1
    refine ⟨W3, ?_, b2, b3.of (fun v _ => rfl) (fun e _ => ?_), by rw [b2 1212 (by decide)]; exact e2, fun k hk => ⟨(ht k hk).1, by rw [b2 1210 (by decide)]; exact h10 k hk⟩⟩
    · simp (disch := omega) only [F_X2_choose_129, F_X2_choose_137, hct2, b1, bd_some, n10, n00, bv_eq, within_eq, in_eq, gd_T, gd_t, i00, i10, c_0, c_1, c_m1, ite10, ite01, setV_fn, setV_at, cntS, nI_pos, nI_clamp, nI_leI, nI_ltI, nI_eq, nI_1, if_true, if_false, not_true, not_false, and_self, and_true, true_and, false_and, and_false, or_false, false_or, or_true, true_or, not_false_eq_true, ite_self, ite_true, ite_false, reduceIte, Nat.reduceEqDiff, Nat.reduceMul, Nat.reduceAdd, Nat.reduceLT, Nat.reducePow, ne_eq]
    · rw [spv_succ]
      by_cases z : (CS e).testBit i = true
      · simp only [z, if_true]; grind
      · simp only [z, Bool.false_eq_true, if_false]
  have w12 : W1 1212 d 0 = nI s := by rw [hF1 1212 (by decide)]; exact e1
  rcases sound_eq (fu := fu) hfu hC1 with ⟨s1, s2⟩ | ⟨s1, e, s2, s3⟩
  · obtain ⟨W2, c1, c2, c3, c4⟩ := ih W1 (upN t i x) ⟨hC1, w12, w10⟩ s2 (by
      rw [hF1 1215 (by decide), hF1 1211 (by decide)]
      exact hP.iff (fun c _ => PB_lt)) (by
      rw [hF1 1215 (by decide), hin, show s - (i + 1) = s - i - 1 by omega]; exact hR)
    obtain ⟨W3, d1, d2, d3⟩ := back W2 c3.1 c3.2.1 (fun k hk => by
      have := (c3.2.2 k (by omega)).2
      rw [this, show upN t i x k = t k from if_neg (by omega)])
    refine ⟨W3, ?_, ((ChF.fr hF1 (by decide)).trans c2).trans (ChF.fr d2 (by decide)), d3, ?_⟩
    · have hct2 : cntV W2 2104 = nD := cnt_n (by decide) (by omega) c3.1.2.2.1
      rw [hin] at c1
      rw [← d1]
      simp (disch := omega) only [F_X2_choose_84, hct, hct1, g2, gx, a1, s1, c1, c_2, p_2, bd_some, n10, n00, bv_eq, within_eq, in_eq, gd_T, gd_t, i00, i10, c_0, c_1, c_m1, ite10, ite01, setV_fn, setV_at, cntS, nI_pos, nI_clamp, nI_leI, nI_ltI, nI_eq, nI_1, if_true, if_false, not_true, not_false, and_self, and_true, true_and, false_and, and_false, or_false, false_or, or_true, true_or, not_false_eq_true, ite_self, ite_true, ite_false, reduceIte, Nat.reduceEqDiff, Nat.reduceMul, Nat.reduceAdd, Nat.reduceLT, Nat.reducePow, ne_eq]
    · rw [d2 1215 (by decide), d2 1211 (by decide)]
      exact c4.iff (fun c _ => PB_le.symm)
  · obtain ⟨W3, d1, d2, d3⟩ := back W1 hC1 w12 (fun k hk => by
      rw [(w10 k (by omega)).2, show upN t i x k = t k from if_neg (by omega)])
    refine ⟨W3, ?_, (ChF.fr hF1 (by decide)).trans (ChF.fr d2 (by decide)), d3, ?_⟩
    · rw [← d1]
      simp (disch := omega) only [F_X2_choose_84, hct, hct1, g2, gx, a1, s1, c_2, p_2, bd_some, n10, n00, bv_eq, within_eq, in_eq, gd_T, gd_t, i00, i10, c_0, c_1, c_m1, ite10, ite01, setV_fn, setV_at, cntS, nI_pos, nI_clamp, nI_leI, nI_ltI, nI_eq, nI_1, if_true, if_false, not_true, not_false, and_self, and_true, true_and, false_and, and_false, or_false, false_or, or_true, true_or, not_false_eq_true, ite_self, ite_true, ite_false, reduceIte, Nat.reduceEqDiff, Nat.reduceMul, Nat.reduceAdd, Nat.reduceLT, Nat.reducePow, ne_eq]
    · rw [d2 1215 (by decide), d2 1211 (by decide), hF1 1215 (by decide), hF1 1211 (by decide)]
      refine hP.skip hi (fun c hc h1 h2 hb => ?_)
      exfalso
      refine s3 ((sound_bears (i := i + 1) (t := upN t i x) hs8 (by omega) hO hA hL).mpr (bears_mono (fun k hk => ?_) hb) e s2)
      unfold ext
      by_cases z : k < i + 1
      · rw [if_pos z]
        unfold upN
        by_cases y : k = i
        · rw [if_pos y, y, h2]; exact Nat.le_refl _
        · rw [if_neg y, h1 k (by omega)]; exact Nat.le_refl _
      · rw [if_neg z]; have := hc k hk; omega
theorem choose_eq {fu nD d j s l c : Nat} {A B LJ LP CS CN : Nat → Nat} (hfu : 1000 ≤ fu) (hs8 : s ≤ 8) (hO : CutsOK j s l c A B LJ LP CS CN (2 ^ j)) (hA : ∀ k, k < s → A k < j ∧ B k < j) (hL : ∀ q, q < l → LJ q < j ∧ 1 ≤ LP q ∧ LP q ≤ 500) : ∀ (n i : Nat) (W : St) (t : Nat → Nat), s - i < n → i ≤ s → ChI W nD d s c i CS CN t → (∀ e, e < c → 0 ≤ spv CS CN i t e) → CheapP (fun c => lexLt i c t) s l A B LJ LP (W 1215 d 0) (W 1211 d) → (W 1215 d 0 = -1 ∨ ∃ R, W 1215 d 0 = nI R ∧ R ≤ 72 ∧ inchs i t + 2 * (s - i) < R) → ∃ W', g_X2_choose fu n W (nI d) (nI i) (nI (inchs i t)) = some (0, W') ∧ ChF d W W' ∧ ChI W' nD d s c i CS CN t ∧ CheapP (fun c => lexLt i c t ∨ agr i c t) s l A B LJ LP (W' 1215 d 0) (W' 1211 d) := by
  intro n
  induction n with
  | zero => intro i W t h; omega
  | succ n ih =>
    intro i W t hn hi hI hS hP hR
    have hI' := hI
    obtain ⟨hC, e1, ht⟩ := hI
    have hd := hC.1
    have h22 := hC.2.1
    have hct : cntV W 2104 = nD := cnt_n (by decide) (by omega) hC.2.2.1
    by_cases hl : i = s
    · subst hl
      have hle : ¬ i < i := by omega
      have hF : Fr [1211, 1215] W (cpV (setV W 1215 d 0 (nI (inchs i t))) 1210 1211 d i) := fun v hv => by
        rw [cpV_fn (fun z => hv (by rw [z]; decide)), setV_fn (fun z => hv (by rw [z]; decide))]
      have q1 : cpV (setV W 1215 d 0 (nI (inchs i t))) 1210 1211 d i 1215 = setV W 1215 d 0 (nI (inchs i t)) 1215 := cpV_fn (by decide)
      have q2 : ∀ d' k, cpV (setV W 1215 d 0 (nI (inchs i t))) 1210 1211 d i 1211 d' k = if d' = d ∧ k < i then W 1210 d k else W 1211 d' k := fun d' k => by
        unfold cpV
        simp (disch := omega) only [setV_fn, true_and]
      refine ⟨cpV (setV W 1215 d 0 (nI (inchs i t))) 1210 1211 d i, ?_, ⟨hF.weak (by decide), fun d' hd' => ⟨?_, ?_⟩⟩, ⟨hC.of (fun v hv => hF v (by revert v; decide)) (fun _ _ => rfl), ?_, fun k hk => ⟨(ht k hk).1, ?_⟩⟩, ?_⟩
      · simp (disch := omega) only [g_X2_choose, fb_X2_choose, hct, e1, hle, bd_some, n10, n00, bv_eq, within_eq, in_eq, gd_T, gd_t, i00, i10, c_0, c_1, c_m1, ite10, ite01, setV_fn, setV_at, cntS, nI_pos, nI_clamp, nI_leI, nI_ltI, nI_eq, nI_1, if_true, if_false, not_true, not_false, and_self, and_true, true_and, false_and, and_false, or_false, false_or, or_true, true_or, not_false_eq_true, ite_self, ite_true, ite_false, reduceIte, Nat.reduceEqDiff, Nat.reduceMul, Nat.reduceAdd, Nat.reduceLT, Nat.reducePow, ne_eq]
      · funext k
        rw [q2, if_neg (fun z => hd' z.1)]
      · rw [q1]; funext k; rw [setV_at, if_neg (fun z => hd' z.1)]
      · rw [hF 1212 (by decide)]; exact e1
      · rw [hF 1210 (by decide)]; exact (ht k hk).2
      · rw [q1, setV_at, if_pos ⟨rfl, rfl⟩]
        refine hP.leaf hs8 (fun k hk => (ht k hk).1) ?_ ?_ (fun k hk => ?_)
        · have := (sound_bears (i := i) (t := t) hs8 hi hO hA hL).mp hS
          refine bears_mono (fun k hk => ?_) this
          unfold ext; rw [if_pos hk]; exact Nat.le_refl _
        · rcases hR with h | ⟨R, r1, r2, r3⟩
          · exact .inl h
          · exact .inr ⟨R, r1, r2, by omega⟩
        · rw [q2, if_pos ⟨rfl, hk⟩]; exact (ht k hk).2
    · have key : ∀ (r N x : Nat) (W : St), x + r = 3 → r < N → ChI W nD d s c i CS CN t → CheapP (PB i t x) s l A B LJ LP (W 1215 d 0) (W 1211 d) → ∃ W', Lp_X2_choose_49 (g_X2_choose fu n) (F_X2_choose_143 (g_X2_choose fu n) fu) fu N W (nI d) (nI i) (nI (inchs i t)) (nI (2 * (s - i - 1))) (nI x) = some (0, W') ∧ ChF d W W' ∧ ChI W' nD d s c i CS CN t ∧ CheapP (PB i t 3) s l A B LJ LP (W' 1215 d 0) (W' 1211 d) := by
        intro r
        induction r with
        | zero =>
          intro N x W hx hN hI hP
          obtain ⟨N, rfl⟩ : ∃ N', N = N' + 1 := ⟨N - 1, by omega⟩
          have : x = 3 := by omega
          subst this
          have h23 : (2 : Int32) < nI 3 := by decide
          refine ⟨W, ?_, ChF.refl d W, hI, hP⟩
          simp only [Lp_X2_choose_49, F_X2_choose_49, F_X2_choose_143, h23, if_true]
        | succ r ihr =>
          intro N x W hx hN hI hP
          obtain ⟨N, rfl⟩ : ∃ N', N = N' + 1 := ⟨N - 1, by omega⟩
          have h23 : ¬ (2 : Int32) < nI x := by rw [show (2 : Int32) = nI 2 from rfl, nI_ltI (by omega) (by omega)]; omega
          have hctW : cntV W 2104 = nD := cnt_n (by decide) (by omega) hI.1.2.2.1
          have gx := gT1_eq (t := x) (by omega)
          have hle := inchs_le (c := t) i
          have htl := tus_le x
          have st : (W 1215 d 0 = -1 ∨ ∃ R, W 1215 d 0 = nI R ∧ R ≤ 72 ∧ inchs i t + tus x + 2 * (s - i - 1) < R) ∨ ∃ R, W 1215 d 0 = nI R ∧ R ≤ 72 ∧ R ≤ inchs i t + tus x + 2 * (s - i - 1) := by
            rcases hP.val hs8 with h | ⟨R, h1, h2⟩
            · exact .inl (.inl h)
            · by_cases z : R ≤ inchs i t + tus x + 2 * (s - i - 1)
              · exact .inr ⟨R, h1, h2, z⟩
              · exact .inl (.inr ⟨R, h1, h2, by omega⟩)
          rcases st with st | ⟨R, r1, r2, r3⟩
          · obtain ⟨W1, b1, b2, b3, b4⟩ := choose_84 (n := n) (kh := Lp_X2_choose_49 (g_X2_choose fu n) (F_X2_choose_143 (g_X2_choose fu n) fu) fu N) (kx := F_X2_choose_143 (g_X2_choose fu n) fu) (th := nI (2 * (s - i - 1))) hfu hs8 hO hA hL (fun W t => ih (i + 1) W t (by omega) (by omega)) (show i < s by omega) (show x < 3 by omega) hI hP st
            obtain ⟨W', c1, c2, c3, c4⟩ := ihr N (x + 1) W1 (by omega) (by omega) b3 b4
            refine ⟨W', ?_, b2.trans c2, c3, c4⟩
            rw [← c1, ← b1]
            rcases st with st | ⟨R, r1, r2, r3⟩
            · simp (disch := omega) only [Lp_X2_choose_49, F_X2_choose_49, h23, hctW, gx, st, nI_add, bd_some, n10, n00, bv_eq, within_eq, in_eq, gd_T, gd_t, i00, i10, c_0, c_1, c_m1, ite10, ite01, setV_fn, setV_at, cntS, nI_pos, nI_clamp, nI_leI, nI_ltI, nI_eq, nI_1, if_true, if_false, not_true, not_false, and_self, and_true, true_and, false_and, and_false, or_false, false_or, or_true, true_or, not_false_eq_true, ite_self, ite_true, ite_false, reduceIte, Nat.reduceEqDiff, Nat.reduceMul, Nat.reduceAdd, Nat.reduceLT, Nat.reducePow, ne_eq]
            · have n1 : ¬ nI R = -1 := fun z => by
                have q := nI_pos (n := R) (by omega)
                rw [z] at q; exact q (by decide)
              have n2 : ¬ R ≤ inchs i t + tus x + 2 * (s - i - 1) := by omega
              simp (disch := omega) only [Lp_X2_choose_49, F_X2_choose_49, h23, hctW, gx, r1, n1, n2, nI_add, bd_some, n10, n00, bv_eq, within_eq, in_eq, gd_T, gd_t, i00, i10, c_0, c_1, c_m1, ite10, ite01, setV_fn, setV_at, cntS, nI_pos, nI_clamp, nI_leI, nI_ltI, nI_eq, nI_1, if_true, if_false, not_true, not_false, and_self, and_true, true_and, false_and, and_false, or_false, false_or, or_true, true_or, not_false_eq_true, ite_self, ite_true, ite_false, reduceIte, Nat.reduceEqDiff, Nat.reduceMul, Nat.reduceAdd, Nat.reduceLT, Nat.reducePow, ne_eq]
          · have n1 : ¬ nI R = -1 := fun z => by
              have q := nI_pos (n := R) (by omega)
              rw [z] at q; exact q (by decide)
            obtain ⟨W', c1, c2, c3, c4⟩ := ihr N (x + 1) W (by omega) (by omega) hI (hP.skip (by omega) (fun c hc h1 h2 hb => by
              refine ⟨by rw [r1]; exact n1, fun c0 h0 => ?_⟩
              have q0 := inchs_le (c := c0) s
              have : R = inchs s c0 := (nI_eq (by omega) (by omega)).mp (by rw [← r1, h0])
              have q1 := inchs_ge (c := c) (i := i + 1) s (by omega)
              have q2 : inchs (i + 1) c = inchs i c + tus (c i) := rfl
              rw [inchs_agr h1, h2] at q2
              omega))
            refine ⟨W', ?_, c2, c3, c4⟩
            rw [← c1]
            simp (disch := omega) only [Lp_X2_choose_49, F_X2_choose_49, F_X2_choose_137, h23, hctW, gx, r1, n1, r3, nI_add, bd_some, n10, n00, bv_eq, within_eq, in_eq, gd_T, gd_t, i00, i10, c_0, c_1, c_m1, ite10, ite01, setV_fn, setV_at, cntS, nI_pos, nI_clamp, nI_leI, nI_ltI, nI_eq, nI_1, if_true, if_false, not_true, not_false, and_self, and_true, true_and, false_and, and_false, or_false, false_or, or_true, true_or, not_false_eq_true, ite_self, ite_true, ite_false, reduceIte, Nat.reduceEqDiff, Nat.reduceMul, Nat.reduceAdd, Nat.reduceLT, Nat.reducePow, ne_eq]
      obtain ⟨W', c1, c2, c3, c4⟩ := key 3 fu 0 W (by omega) (by omega) hI' (hP.iff (fun c _ => PB_0.symm))
      refine ⟨W', ?_, c2, c3, c4.iff (fun c hc => PB_3 (by omega) hc)⟩
      have hlt : i < s := by omega
      have e3 : gT1 0 * (nI s - nI i - 1) = nI (2 * (s - i - 1)) := by
        rw [show gT1 0 = nI 2 from rfl, pk_sub (by omega), show (1 : Int32) = nI 1 from rfl, pk_sub (by omega), pk_mul]
      rw [← c1]
      simp (disch := omega) only [g_X2_choose, fb_X2_choose, hct, e1, hlt, e3, c_0, i00, bd_some, n10, n00, bv_eq, within_eq, in_eq, gd_T, gd_t, i00, i10, c_0, c_1, c_m1, ite10, ite01, setV_fn, setV_at, cntS, nI_pos, nI_clamp, nI_leI, nI_ltI, nI_eq, nI_1, if_true, if_false, not_true, not_false, and_self, and_true, true_and, false_and, and_false, or_false, false_or, or_true, true_or, not_false_eq_true, ite_self, ite_true, ite_false, reduceIte, Nat.reduceEqDiff, Nat.reduceMul, Nat.reduceAdd, Nat.reduceLT, Nat.reducePow, ne_eq]
      rfl
