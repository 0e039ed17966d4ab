/-! the class's place: the first order that is short enough -/
def lexL : List Nat → List Nat → Prop
  | p :: ps, q :: qs => p < q ∨ (p = q ∧ lexL ps qs)
  | _, _ => False
def PlI (V : St) (nT x p Wd sho : Nat) (len wid sh : Nat → Nat) : Prop := CoV V nT x p len wid ∧ V 1507 0 0 = nI Wd ∧ V 1505 0 0 = nI sho ∧ SeV V p len wid ∧ ∀ T, T < 2 ^ p → V 1503 0 T = nI (sh T)
theorem PlI.fr {V V' : St} {nT x p Wd sho : Nat} {len wid sh : Nat → Nat} (h : PlI V nT x p Wd sho len wid sh) (hF : Fr [1504] V V') : PlI V' nT x p Wd sho len wid sh := by
  obtain ⟨h1, h2, h3, h4, h5⟩ := h
  refine ⟨h1.fr hF (by decide), by rw [hF 1507 (by decide)]; exact h2, by rw [hF 1505 (by decide)]; exact h3, fun S hS => ?_, fun T hT => ?_⟩
  · rw [hF 1501 (by decide), hF 1502 (by decide)]; exact h4 S hS
  · rw [hF 1503 (by decide)]; exact h5 T hT
theorem sh_540 {W p : Nat} {len wid sh : Nat → Nat} (h : shOK W len wid sh (2 ^ p)) : ∀ T, T < 2 ^ p → sh T ≤ 540 := fun T hT => by
  by_cases z : T = 0
  · rw [z, h.1]; omega
  · have a1 := (h.2 T hT z).2.2
    have a2 := sS_le9 (S := T)
    omega
def PlR (V V' : St) (at0 S m c l a Wd sho : Nat) (len wid : Nat → Nat) (o : RR) : Prop := Fr [1504] V V' ∧ (∀ k, k < at0 → V' 1504 0 k = V 1504 0 k) ∧ ((o = some (1, V') ∧ ∃ L, Ord S m L ∧ c + gr Wd len wid L a l ≤ sho ∧ (∀ L', Ord S m L' → c + gr Wd len wid L' a l ≤ sho → ¬ lexL L' L) ∧ ∀ i, i < m → V' 1504 0 (at0 + i) = nI (L.getD i 0)) ∨ (o = some (0, V') ∧ ∀ L', Ord S m L' → ¬ c + gr Wd len wid L' a l ≤ sho))
theorem place_eq {fu nT x p Wd sho : Nat} {len wid sh : Nat → Nat} (hfu : 1000 ≤ fu) (hWd : Wd ≤ 200) (hwW : ∀ k, k < p → wid k ≤ Wd) (hO : shOK Wd len wid sh (2 ^ p)) (hsho : sho ≤ 600) : ∀ (n : Nat) (V : St) (at0 S m c l a : Nat), PlI V nT x p Wd sho len wid sh → m < n → at0 + m = p → (∃ L0, Ord S m L0) → S < 2 ^ p → l ≤ Wd → c + a ≤ 60 * at0 → (S = 0 → c + a ≤ sho) → ∃ V', PlR V V' at0 S m c l a Wd sho len wid (g_X5_place fu n V (nI x) (nI at0) (nI S) (nI c) (nI l) (nI a)) := by
  intro n
  induction n with
  | zero => intro V at0 S m c l a _ h; omega
  | succ n ih =>
    intro V at0 S m c l a hI hm hat hL hS hl hca hz
    obtain ⟨⟨hx, h30, hn, hp9, hp, hpl, hk⟩, h7, h5, hse, hsh⟩ := hI
    have hp2 : 2 ^ p ≤ 512 := Nat.pow_le_pow_right (n := 2) (by decide) hp9
    obtain ⟨L0, hL0⟩ := hL
    by_cases hS0 : S = 0
    · subst hS0
      have hL1 := hL0.zero
      subst hL1
      have hm0 : m = 0 := hL0.2.1.symm
      subst hm0
      refine ⟨V, Fr.refl _ V, fun _ _ => rfl, .inl ⟨?_, [], hL0, hz rfl, fun L' hL' _ => ?_, fun i hi => by omega⟩⟩
      · simp only [g_X5_place, fb_X5_place, F_X5_place_10, F_X5_place_19, nI_0, if_true]
        rfl
      · rw [hL'.zero]; exact fun z => z
    · have hm1 : 1 ≤ m := Classical.byContradiction (fun z => by
        have : m = 0 := by omega
        subst this
        exact hS0 hL0.nil)
      obtain ⟨m, rfl⟩ : ∃ m', m = m' + 1 := ⟨m - 1, by omega⟩
      have key : ∀ (r N q : Nat) (W : St), q + r = p → r < N → Fr [1504] V W → (∀ k, k < at0 → W 1504 0 k = V 1504 0 k) → (∀ L', Ord S (m + 1) L' → c + gr Wd len wid L' a l ≤ sho → ∃ q' qs, L' = q' :: qs ∧ q ≤ q') → ∃ V', PlR V V' at0 S (m + 1) c l a Wd sho len wid (Lp_X5_place_23 (g_X5_place fu n) (F_X5_place_180 (g_X5_place fu n) fu) (F_X5_place_188 (g_X5_place fu n) fu) fu N W (nI x) (nI at0) (nI S) (nI c) (nI l) (nI a) (nI q)) := by
        intro r
        induction r with
        | zero =>
          intro N q W hq hN hF hpre hall
          obtain ⟨N, rfl⟩ : ∃ N', N = N' + 1 := ⟨N - 1, by omega⟩
          have wn : W 2105 0 0 = nI nT := by rw [hF 2105 (by decide)]; exact hn
          have wp : W 2009 x 0 = nI p := by rw [hF 2009 (by decide)]; exact hp
          have hct : cntV W 2105 = nT := cnt_n (by decide) (by omega) wn
          have hle : p ≤ q := by omega
          refine ⟨W, hF, hpre, .inr ⟨?_, fun L' hL' hok => ?_⟩⟩
          · simp (disch := omega) only [Lp_X5_place_23, F_X5_place_23, F_X5_place_188, hct, wp, hle, bd_some, n10, n00, bv_eq, within_eq, in_eq, gd_T, gd_t, i00, i10, c_0, c_1, c_m1, ite10, ite01, setV_fn, setV_at, cntS, nI_pos, nI_clamp, nI_leI, nI_ltI, nI_eq, nI_1, if_true, if_false, not_true, not_false, and_self, and_true, true_and, false_and, and_false, or_false, false_or, or_true, true_or, not_false_eq_true, ite_self, ite_true, ite_false, reduceIte, Nat.reduceEqDiff, Nat.reduceMul, Nat.reduceAdd, Nat.reduceLT, Nat.reducePow, ne_eq]
          · obtain ⟨q', qs, e, hq'⟩ := hall L' hL' hok
            subst e
            have := bit_ltp hS hL'.tail.1
            omega
        | succ r ihr =>
          intro N q W hq hN hF hpre hall
          obtain ⟨N, rfl⟩ : ∃ N', N = N' + 1 := ⟨N - 1, by omega⟩
          have wn : W 2105 0 0 = nI nT := by rw [hF 2105 (by decide)]; exact hn
          have wp : W 2009 x 0 = nI p := by rw [hF 2009 (by decide)]; exact hp
          have hct : cntV W 2105 = nT := cnt_n (by decide) (by omega) wn
          have hle : ¬ p ≤ q := by omega
          have bq := bit_eq (w := S) (j := q) (by omega) (by omega)
          by_cases hb : S.testBit q = true
          · obtain ⟨k1, k2, k3, k4, k5, k6⟩ := hk q (by omega)
            have w7 : W 2007 x q = nI (len q) := by rw [hF 2007 (by decide)]; exact k5
            have w8 : W 2008 x q = nI (wid q) := by rw [hF 2008 (by decide)]; exact k6
            have ww : W 1507 0 0 = nI Wd := by rw [hF 1507 (by decide)]; exact h7
            have hlen : lenV W 1002090 x = 9 := by show (W 2090 x 0).toNatClampNeg = 9; rw [hF 2090 (by decide), hpl (by omega)]; rfl
            have hwq := hwW q (by omega)
            have hsb := sub_one hb
            have hpq : 2 ^ q ≤ S := hsb.le
            have esh := shl1 (p := q) (by omega)
            have exo : nI S ^^^ nI (2 ^ q) = nI (S ^^^ 2 ^ q) := nI_xor (by omega) (by omega)
            have hS' : S ^^^ 2 ^ q < 2 ^ p := Nat.lt_of_le_of_lt hsb.xor.le hS
            have hcx : (nI x).toNatClampNeg = x := nI_clamp (by omega)
            have hcq : (nI q).toNatClampNeg = q := nI_clamp (by omega)
            have g1 : ¬ nI x < 0 ∧ x < nT := ⟨nI_pos (by omega), hx⟩
            have g2 : ¬ (nI q < 0 ∨ 9 ≤ q) := fun z => z.elim (nI_pos (by omega)) (fun z => by omega)
            have h0l : (0 : Int32) < nI (len q) := by rw [← nI_0]; exact nI_lt (by omega) (by omega)
            obtain ⟨c', l', a', hgr, hc', hl', hun⟩ : ∃ c' l' a', (∀ qs, c + gr Wd len wid (q :: qs) a l = c' + gr Wd len wid qs a' l') ∧ c' + a' ≤ 60 * (at0 + 1) ∧ l' ≤ Wd ∧ Lp_X5_place_23 (g_X5_place fu n) (F_X5_place_180 (g_X5_place fu n) fu) (F_X5_place_188 (g_X5_place fu n) fu) fu (N + 1) W (nI x) (nI at0) (nI S) (nI c) (nI l) (nI a) (nI q) = bd (f_X5_atLeast fu (setV W 1504 0 at0 (nI q)) (nI (S ^^^ 2 ^ q)) (nI l') (nI a')) fun r7 V8 => if (V8 1505 0 0) < nI c' + r7 then F_X5_place_182 (g_X5_place fu n) (Lp_X5_place_23 (g_X5_place fu n) (F_X5_place_180 (g_X5_place fu n) fu) (F_X5_place_188 (g_X5_place fu n) fu) fu N) (F_X5_place_180 (g_X5_place fu n) fu) (F_X5_place_188 (g_X5_place fu n) fu) fu V8 (nI x) (nI at0) (nI S) (nI c) (nI l) (nI a) (nI q) else bd (g_X5_place fu n V8 (nI x) (nI (at0 + 1)) (nI (S ^^^ 2 ^ q)) (nI c') (nI l') (nI a')) fun r11 V12 => if r11 = 0 then F_X5_place_182 (g_X5_place fu n) (Lp_X5_place_23 (g_X5_place fu n) (F_X5_place_180 (g_X5_place fu n) fu) (F_X5_place_188 (g_X5_place fu n) fu) fu N) (F_X5_place_180 (g_X5_place fu n) fu) (F_X5_place_188 (g_X5_place fu n) fu) fu V12 (nI x) (nI at0) (nI S) (nI c) (nI l) (nI a) (nI q) else F_X5_place_180 (g_X5_place fu n) fu V12 := by
              by_cases hf : l < wid q
              · refine ⟨c + a, Wd - wid q, len q, fun qs => by rw [gr, if_pos hf]; omega, by omega, by omega, ?_⟩
                rw [Lp_X5_place_23, F_X5_place_23, hcx, hct, gd_t g1, wp, if_neg (nI_ge (show q < p by omega) (by omega)), if_pos (by rw [bq]; exact hb), hcq, hlen, gd_t g2, w8, if_pos (nI_lt hf (by omega)), F_X5_place_59, if_pos rfl, F_X5_place_84, if_pos rfl, F_X5_place_100, hcx, hct, gd_t g1, hcq, hlen, gd_t g2, if_pos rfl, F_X5_place_121, hcx, hct, gd_t g1, hcq, hlen, gd_t g2, gd_in (show at0 < 9 by omega) (by omega), nI_clamp (show at0 < 2 ^ 31 by omega), w7, w8, ww, if_pos h0l, esh, exo, nI_add, pk_sub (by omega), nI_1, bv_eq]
              · refine ⟨c, l - wid q, max a (len q), fun qs => by rw [gr, if_neg hf], by omega, by omega, ?_⟩
                have emx : (if nI a < nI (len q) then nI (len q) else nI a) = nI (max a (len q)) := by
                  by_cases z : a < len q
                  · rw [if_pos (nI_lt z (by omega)), Nat.max_eq_right (by omega)]
                  · rw [if_neg (nI_nlt (by omega) (by omega)), Nat.max_eq_left (by omega)]
                rw [Lp_X5_place_23, F_X5_place_23, hcx, hct, gd_t g1, wp, if_neg (nI_ge (show q < p by omega) (by omega)), if_pos (by rw [bq]; exact hb), hcq, hlen, gd_t g2, w8, if_neg (nI_nlt (show wid q ≤ l by omega) (by omega)), F_X5_place_59, if_neg (by decide), F_X5_place_84, if_neg (by decide), F_X5_place_100, hcx, hct, gd_t g1, hcq, hlen, gd_t g2, if_neg (by decide), F_X5_place_121, hcx, hct, gd_t g1, hcq, hlen, gd_t g2, gd_in (show at0 < 9 by omega) (by omega), nI_clamp (show at0 < 2 ^ 31 by omega), w7, w8, emx, esh, exo, pk_sub (by omega), nI_1, bv_eq]
            have hF1 : Fr [1504] V (setV W 1504 0 at0 (nI q)) := hF.set (by decide)
            have hI1 : PlI (setV W 1504 0 at0 (nI q)) nT x p Wd sho len wid sh := PlI.fr ⟨⟨hx, h30, hn, hp9, hp, hpl, hk⟩, h7, h5, hse, hsh⟩ hF1
            have hat8 : at0 ≤ 8 := by omega
            obtain ⟨r0, a1, a2, a3, a4⟩ := atLeast_eq (fu := fu) (p := p) (S := S ^^^ 2 ^ q) (l := l') (a := a') (len := len) (wid := wid) (sh := sh) hfu hp9 (fun k hk' => (hk k hk').2.1) (fun k hk' => (hk k hk').2.2.2.1) hS' (by omega) (by omega) hI1.2.2.2.1 hI1.2.2.2.2 (sh_540 hO)
            have hsb5 := sh_540 hO _ hS'
            have w5 : (setV W 1504 0 at0 (nI q)) 1505 0 0 = nI sho := hI1.2.2.1
            have hge : ∀ qs, Ord (S ^^^ 2 ^ q) m qs → r0 ≤ gr Wd len wid qs a' l' := fun qs hqs => by
              obtain ⟨Y, y1, y2, y3⟩ := gr_ge hp2 hO (fun k T hT hb' => hwW k (bit_ltp hT hb')) qs _ m a' l' hS' hqs
              have := a4 Y y1 y2; omega
            have hpre1 : ∀ k, k < at0 → (setV W 1504 0 at0 (nI q)) 1504 0 k = V 1504 0 k := fun k hk' => by
              rw [setV_at, if_neg (fun z => by omega)]; exact hpre k hk'
            have next : ∀ W2, Fr [1504] V W2 → (∀ k, k < at0 → W2 1504 0 k = V 1504 0 k) → (∀ qs, Ord (S ^^^ 2 ^ q) m qs → ¬ c' + gr Wd len wid qs a' l' ≤ sho) → ∃ V', PlR V V' at0 S (m + 1) c l a Wd sho len wid (F_X5_place_182 (g_X5_place fu n) (Lp_X5_place_23 (g_X5_place fu n) (F_X5_place_180 (g_X5_place fu n) fu) (F_X5_place_188 (g_X5_place fu n) fu) fu N) (F_X5_place_180 (g_X5_place fu n) fu) (F_X5_place_188 (g_X5_place fu n) fu) fu W2 (nI x) (nI at0) (nI S) (nI c) (nI l) (nI a) (nI q)) := fun W2 hF2 hpre2 hno => by
              rw [F_X5_place_182, nI_1]
              refine ihr N (q + 1) W2 (by omega) (by omega) hF2 hpre2 (fun L' hL' hok => ?_)
              obtain ⟨q', qs, e, hq'⟩ := hall L' hL' hok
              refine ⟨q', qs, e, ?_⟩
              subst e
              by_cases y : q' = q
              · subst y
                obtain ⟨-, m', e', ht⟩ := hL'.tail
                have : m' = m := by omega
                subst this
                rw [hgr] at hok
                exact absurd hok (hno qs ht)
              · omega
            rw [hun, a1, bd_some, w5, nI_add]
            by_cases hc2 : sho < c' + r0
            · rw [if_pos (nI_lt hc2 (by omega))]
              exact next _ hF1 hpre1 (fun qs hqs => by have := hge qs hqs; omega)
            · rw [if_neg (nI_nlt (by omega) (by omega))]
              have hex : ∃ L1, Ord (S ^^^ 2 ^ q) m L1 := by
                obtain ⟨z1, z2, z3⟩ := hL0
                refine ⟨L0.erase q, z1.erase q, ?_, fun j => ?_⟩
                · rw [List.length_erase_of_mem ((z3 q).mpr hb), z2]; rfl
                · rw [z1.mem_erase_iff, z3 j, xor_sub hsb, Nat.testBit_two_pow]
                  by_cases y : j = q
                  · subst y; simp
                  · have : ¬ q = j := fun w => y w.symm
                    simp [y, this]
              obtain ⟨V', f1, f2, f3⟩ := ih (setV W 1504 0 at0 (nI q)) (at0 + 1) (S ^^^ 2 ^ q) m c' l' a' hI1 (by omega) (by omega) hex hS' hl' hc' (fun z => by
                have := a3 z
                rw [hO.1] at this
                omega)
              have hF' : Fr [1504] V V' := hF1.trans f1
              have hpre' : ∀ k, k < at0 → V' 1504 0 k = V 1504 0 k := fun k hk' => by rw [f2 k (by omega)]; exact hpre1 k hk'
              rcases f3 with ⟨g1, L, g2, g3, g4, g5⟩ | ⟨g1, g2⟩
              · refine ⟨V', hF', hpre', .inl ⟨?_, q :: L, Ord.cons hb g2, by rw [hgr]; exact g3, fun L' hL' hok hlex => ?_, fun i hi => ?_⟩⟩
                · rw [g1, bd_some, if_neg (by decide), F_X5_place_180]
                · obtain ⟨q', qs, e, hq'⟩ := hall L' hL' hok
                  subst e
                  rcases hlex with y | ⟨y1, y2⟩
                  · omega
                  · subst y1
                    obtain ⟨-, m', e', ht⟩ := hL'.tail
                    have : m' = m := by omega
                    subst this
                    rw [hgr] at hok
                    exact g4 qs ht hok y2
                · cases i with
                  | zero =>
                    rw [Nat.add_zero, f2 at0 (by omega), setV_at, if_pos ⟨rfl, rfl⟩]; rfl
                  | succ i =>
                    rw [show at0 + (i + 1) = at0 + 1 + i by omega, g5 i (by omega)]; rfl
              · rw [g1, bd_some, if_pos rfl]
                exact next V' hF' hpre' g2
          · have hstep : Lp_X5_place_23 (g_X5_place fu n) (F_X5_place_180 (g_X5_place fu n) fu) (F_X5_place_188 (g_X5_place fu n) fu) fu (N + 1) W (nI x) (nI at0) (nI S) (nI c) (nI l) (nI a) (nI q) = Lp_X5_place_23 (g_X5_place fu n) (F_X5_place_180 (g_X5_place fu n) fu) (F_X5_place_188 (g_X5_place fu n) fu) fu N W (nI x) (nI at0) (nI S) (nI c) (nI l) (nI a) (nI (q + 1)) := by
              have hb' : S.testBit q = false := Bool.eq_false_iff.mpr hb
              simp (disch := omega) only [Lp_X5_place_23, F_X5_place_23, F_X5_place_182, hct, wp, hle, bq, hb', reduceCtorEq, bd_some, n10, n00, bv_eq, within_eq, in_eq, gd_T, gd_t, i00, i10, c_0, c_1, c_m1, ite10, ite01, setV_fn, setV_at, cntS, nI_pos, nI_clamp, nI_leI, nI_ltI, nI_eq, nI_1, if_true, if_false, not_true, not_false, and_self, and_true, true_and, false_and, and_false, or_false, false_or, or_true, true_or, not_false_eq_true, ite_self, ite_true, ite_false, reduceIte, Nat.reduceEqDiff, Nat.reduceMul, Nat.reduceAdd, Nat.reduceLT, Nat.reducePow, ne_eq]
            rw [hstep]
            refine ihr N (q + 1) W (by omega) (by omega) hF hpre (fun L' hL' hok => ?_)
            obtain ⟨q', qs, e, hq'⟩ := hall L' hL' hok
            refine ⟨q', qs, e, ?_⟩
            subst e
            have := hL'.tail.1
            by_cases y : q' = q
            · subst y; exact absurd this hb
            · omega
      obtain ⟨V', hR⟩ := key p fu 0 V (by omega) (by omega) (Fr.refl _ V) (fun _ _ => rfl) (fun L' hL' _ => by
        cases L' with
        | nil => have := hL'.2.1; simp at this
        | cons q' qs => exact ⟨q', qs, rfl, Nat.zero_le _⟩)
      refine ⟨V', ?_⟩
      have hS1 : ¬ nI S = 0 := nI_ne0 (by omega) (by omega)
      have h9 : nI at0 < 9 := nI_lt (b := 9) (by omega) (by omega)
      rw [nI_0] at hR
      have : g_X5_place fu (n + 1) V (nI x) (nI at0) (nI S) (nI c) (nI l) (nI a) = Lp_X5_place_23 (g_X5_place fu n) (F_X5_place_180 (g_X5_place fu n) fu) (F_X5_place_188 (g_X5_place fu n) fu) fu fu V (nI x) (nI at0) (nI S) (nI c) (nI l) (nI a) 0 := by
        rw [g_X5_place, fb_X5_place, if_neg hS1, if_pos h9]
      rw [this]; exact hR
