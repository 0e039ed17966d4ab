/-! all cuts; taking; soundness -/
theorem DrC.fr {V V' : St} {nD d j s l : Nat} {A B LJ LP : Nat → Nat} (h : DrC V nD d j s l A B LJ LP) (hg : ∀ v, v ∈ [2104, 1201, 1212, 1213, 1202, 1203, 1205, 1206] → V' v = V v) : DrC V' nD d j s l A B LJ LP := by
  unfold DrC at h ⊢
  rw [hg 2104 (by decide), hg 1201 (by decide), hg 1212 (by decide), hg 1213 (by decide), hg 1202 (by decide), hg 1203 (by decide), hg 1205 (by decide), hg 1206 (by decide)]; exact h
def CutsOK (j s l c : Nat) (A B LJ LP CS CN : Nat → Nat) (top : Nat) : Prop := (∀ k, k < c → ∃ S, S < 2 ^ j ∧ S % 2 = 0 ∧ CS k = outF S A B s ∧ CN k = glF S LJ LP l) ∧ ∀ S, S < top → S % 2 = 0 → 0 < glF S LJ LP l → ∃ k, k < c ∧ subM (CS k) (outF S A B s) ∧ glF S LJ LP l ≤ CN k
theorem findCuts_eq {fu nD d j s l : Nat} {V : St} {A B LJ LP : Nat → Nat} (hfu : 1000 ≤ fu) (h : DrC V nD d j s l A B LJ LP) : ∃ V1 c CS CN, f_X2_findCuts fu V (nI d) = some (0, V1) ∧ Fr cws3 V V1 ∧ CutV V1 d c CS CN ∧ CutsOK j s l c A B LJ LP CS CN (2 ^ j) := by
  have hh := h
  obtain ⟨hd, h22, hn, h2, h8, hs8, hl8, e1, e2, e3, hst, hlo⟩ := h
  have hct : cntV V 2104 = nD := cnt_n (by decide) (by omega) hn
  have hp8 : 2 ^ j ≤ 2 ^ 8 := Nat.pow_le_pow_right (by decide) h8
  obtain ⟨hf, hhf⟩ : ∃ hf, 2 ^ j = 2 * hf := ⟨2 ^ (j - 1), by rw [← Nat.pow_succ']; congr 1; omega⟩
  have hf1 : 1 ≤ hf := by have : 0 < 2 ^ j := Nat.pow_pos (by decide); omega
  have es : (1 : Int32) <<< (nI j &&& 31) = nI (2 ^ j) := by
    rw [(sh5 j (by omega)).1]
    have := pk_shlN (n := 1) (nI j) j (sh5 j (by omega)).2 (by omega)
    rw [Nat.one_mul] at this; exact this
  have key : ∀ (r N m c : Nat) (W : St) (CS CN : Nat → Nat), m + r = hf → r < N → 1 ≤ m → c ≤ m - 1 → Fr cws3 V W → CutV W d c CS CN → CutsOK j s l c A B LJ LP CS CN (2 * m) → ∃ V1 c CS CN, Lp_X2_findCuts_14 (F_X2_findCuts_45 fu) fu N W (nI d) (nI (2 ^ j)) (nI (2 * m)) = some (0, V1) ∧ Fr cws3 V V1 ∧ CutV V1 d c CS CN ∧ CutsOK j s l c A B LJ LP CS CN (2 ^ j) := by
    intro r
    induction r with
    | zero =>
      intro N m c W CS CN hm hN h1 hcm hF hC hO
      obtain ⟨N, rfl⟩ : ∃ N', N = N' + 1 := ⟨N - 1, by omega⟩
      have : m = hf := by omega
      subst this
      refine ⟨W, c, CS, CN, ?_, hF, hC, by rw [hhf]; exact hO⟩
      rw [hhf, Lp_X2_findCuts_14, F_X2_findCuts_14, if_pos (nI_le (Nat.le_refl _) (by omega)), F_X2_findCuts_45]
    | succ r ih =>
      intro N m c W CS CN hm hN h1 hcm hF hC hO
      obtain ⟨N, rfl⟩ : ∃ N', N = N' + 1 := ⟨N - 1, by omega⟩
      have hlt : ¬ nI (2 ^ j) ≤ nI (2 * m) := nI_ge (by omega) (by omega)
      have hW : DrC W nD d j s l A B LJ LP := hh.fr (fun v hv => hF v ((show ∀ v, v ∈ [2104, 1201, 1212, 1213, 1202, 1203, 1205, 1206] → v ∉ cws3 by decide) v hv))
      have hctW : cntV W 2104 = nD := cnt_n (by decide) (by omega) hW.2.2.1
      have g1 := gload_eq (fu := fu) (S := 2 * m) hfu hW (by omega)
      have g2 := souts_eq (fu := fu) (S := 2 * m) hfu hW (by omega)
      have gle := glF_le (S := 2 * m) (LJ := LJ) (LP := LP) (n := l) (fun q hq => (hlo q hq).2.2.2.1)
      have ol := outF_lt (S := 2 * m) (A := A) (B := B) s hs8
      have e22 : nI (2 * m) + 2 = nI (2 * (m + 1)) := nI_add _ 2
      by_cases hz : glF (2 * m) LJ LP l = 0
      · obtain ⟨V1, c', CS', CN', a1, a2⟩ := ih N (m + 1) c W CS CN (by omega) (by omega) (by omega) (by omega) hF hC ⟨hO.1, fun S hS hS2 hS3 => by
          by_cases hSm : S < 2 * m
          · exact hO.2 S hSm hS2 hS3
          · have : S = 2 * m := by omega
            subst this; omega⟩
        refine ⟨V1, c', CS', CN', ?_, a2⟩
        rw [← a1]
        rw [hz, nI_0] at g1
        have : (0 : Int32) ≤ 0 := by decide
        simp (disch := omega) only [Lp_X2_findCuts_14, F_X2_findCuts_14, F_X2_findCuts_39, hlt, hctW, g1, this, e22, nI_pos, nI_clamp, not_false_eq_true, true_and, gd_t, bd_some, if_true, if_false]
      · have hgp : ¬ nI (glF (2 * m) LJ LP l) ≤ 0 := nI_nle (by omega) (by omega)
        have st : ∀ W1, f_X2_addCut fu W (nI d) (nI (outF (2 * m) A B s)) (nI (glF (2 * m) LJ LP l)) = some (0, W1) → Lp_X2_findCuts_14 (F_X2_findCuts_45 fu) fu (N + 1) W (nI d) (nI (2 ^ j)) (nI (2 * m)) = Lp_X2_findCuts_14 (F_X2_findCuts_45 fu) fu N W1 (nI d) (nI (2 ^ j)) (nI (2 * (m + 1))) := fun W1 hW1 => by
          simp (disch := omega) only [Lp_X2_findCuts_14, F_X2_findCuts_14, F_X2_findCuts_39, hlt, hctW, g1, g2, hgp, hW1, e22, nI_pos, nI_clamp, not_false_eq_true, true_and, gd_t, bd_some, if_true, if_false]
        rcases addCut_eq (fu := fu) (O := outF (2 * m) A B s) (nd := glF (2 * m) LJ LP l) hfu hd h22 hW.2.2.1 hC (by omega) ol gle with ⟨a1, k, k1, k2, k3⟩ | ⟨W1, a1, a2, a3⟩
        · rw [st W a1]
          exact ih N (m + 1) c W CS CN (by omega) (by omega) (by omega) (by omega) hF hC ⟨hO.1, fun S hS hS2 hS3 => by
            by_cases hSm : S < 2 * m
            · exact hO.2 S hSm hS2 hS3
            · have : S = 2 * m := by omega
              subst this; exact ⟨k, k1, k2, k3⟩⟩
        · rw [st W1 a1]
          refine ih N (m + 1) (c + 1) W1 _ _ (by omega) (by omega) (by omega) (by omega) (hF.trans a2) a3 ⟨fun k hk => ?_, fun S hS hS2 hS3 => ?_⟩
          · by_cases hkc : k = c
            · exact ⟨2 * m, by omega, by omega, by simp [hkc], by simp [hkc]⟩
            · simp only [hkc, if_false]; exact hO.1 k (by omega)
          · by_cases hSm : S < 2 * m
            · obtain ⟨k, k1, k2, k3⟩ := hO.2 S hSm hS2 hS3
              have hkc : ¬ k = c := by omega
              exact ⟨k, by omega, by simp only [hkc, if_false]; exact k2, by simp only [hkc, if_false]; exact k3⟩
            · have : S = 2 * m := by omega
              subst this
              exact ⟨c, by omega, by simp only [if_true]; exact fun _ z => z, by simp⟩
  have hF0 : Fr cws3 V (setV V 1214 d 0 0) := (Fr.refl _ V).set (by decide)
  obtain ⟨V1, c, CS, CN, a1, a2⟩ := key (hf - 1) fu 1 0 (setV V 1214 d 0 0) (fun _ => 0) (fun _ => 0) (by omega) (by omega) (by omega) (by omega) hF0 ⟨by omega, by simp [setV, nI_0], fun k hk => by omega⟩ ⟨fun k hk => by omega, fun S hS hS2 hS3 => by
    exfalso
    have : S = 0 := by omega
    subst this
    rcases glF_at (S := 0) (LJ := LJ) (LP := LP) l with e | ⟨q, -, e, -⟩
    · omega
    · simp at e⟩
  refine ⟨V1, c, CS, CN, ?_, a2⟩
  rw [← a1]
  simp (disch := omega) only [f_X2_findCuts, hct, e1, es, bd_some, n10, n00, bv_eq, within_eq, in_eq, gd_T, gd_t, i00, i10, c_0, c_1, c_m1, ite10, ite01, setV_fn, setV_at, cntS, nI_pos, nI_clamp, nI_leI, nI_ltI, nI_eq, nI_1, if_true, if_false, not_true, not_false, and_self, and_true, true_and, false_and, and_false, or_false, false_or, or_true, true_or, not_false_eq_true, ite_self, ite_true, ite_false, reduceIte, Nat.reduceEqDiff, Nat.reduceMul, Nat.reduceAdd, Nat.reduceLT, Nat.reducePow, ne_eq]
  rfl
def CutS (V : St) (nD d c : Nat) (CS : Nat → Nat) (sp : Nat → Int32) : Prop := d < nD ∧ nD ≤ 22 ∧ V 2104 0 0 = nI nD ∧ c ≤ 127 ∧ V 1214 d 0 = nI c ∧ ∀ k, k < c → CS k < 256 ∧ V 1207 d k = nI (CS k) ∧ V 1209 d k = sp k
theorem take_eq {fu nD d c k : Nat} {V : St} {CS : Nat → Nat} {sp : Nat → Int32} {p : Int32} (hfu : 1000 ≤ fu) (h : CutS V nD d c CS sp) (hk : k < 8) : ∃ V1, f_X2_takeFromCuts fu V (nI d) (nI k) p = some (0, V1) ∧ Fr [1209] V V1 ∧ CutS V1 nD d c CS (fun e => if (CS e).testBit k = true then sp e - p else sp e) := by
  have key : ∀ (r N i : Nat) (W : St), i + r = c → r < N → Fr [1209] V W → (∀ e, e < c → W 1209 d e = if e < i ∧ (CS e).testBit k = true then sp e - p else sp e) → ∃ V1, Lp_X2_takeFromCuts_2 (F_X2_takeFromCuts_40 fu) fu N W (nI d) (nI k) p (nI i) = some (0, V1) ∧ Fr [1209] V V1 ∧ CutS V1 nD d c CS (fun e => if (CS e).testBit k = true then sp e - p else sp e) := by
    obtain ⟨hd, h22, hn, hc127, e1, hk0⟩ := h
    intro r
    induction r with
    | zero =>
      intro N i W hi hN hF hW
      obtain ⟨N, rfl⟩ : ∃ N', N = N' + 1 := ⟨N - 1, by omega⟩
      have hct : cntV W 2104 = nD := cnt_n (by decide) (by omega) (by rw [hF 2104 (by decide)]; exact hn)
      have w1 : W 1214 d 0 = nI c := by rw [hF 1214 (by decide)]; exact e1
      have hle : c ≤ i := by omega
      refine ⟨W, ?_, hF, hd, h22, by rw [hF 2104 (by decide)]; exact hn, hc127, w1, fun e he => ⟨(hk0 e he).1, by rw [hF 1207 (by decide)]; exact (hk0 e he).2.1, ?_⟩⟩
      · simp (disch := omega) only [Lp_X2_takeFromCuts_2, F_X2_takeFromCuts_2, F_X2_takeFromCuts_40, hct, w1, hle, bd_some, n10, n00, bv_eq, within_eq, in_eq, gd_T, gd_t, i00, i10, c_0, c_1, c_m1, ite10, ite01, setV_fn, setV_at, cntS, nI_pos, nI_clamp, nI_leI, nI_ltI, nI_eq, nI_1, if_true, if_false, not_true, not_false, and_self, and_true, true_and, false_and, and_false, or_false, false_or, or_true, true_or, not_false_eq_true, ite_self, ite_true, ite_false, reduceIte, Nat.reduceEqDiff, Nat.reduceMul, Nat.reduceAdd, Nat.reduceLT, Nat.reducePow, ne_eq]
      · rw [hW e he]
        have : e < i := by omega
        simp [this]
    | succ r ih =>
      intro N i W hi hN hF hW
      obtain ⟨N, rfl⟩ : ∃ N', N = N' + 1 := ⟨N - 1, by omega⟩
      have hct : cntV W 2104 = nD := cnt_n (by decide) (by omega) (by rw [hF 2104 (by decide)]; exact hn)
      have w1 : W 1214 d 0 = nI c := by rw [hF 1214 (by decide)]; exact e1
      have w2 : W 1207 d i = nI (CS i) := by rw [hF 1207 (by decide)]; exact (hk0 i (by omega)).2.1
      have hle : ¬ c ≤ i := by omega
      have bs := bit_eq (w := CS i) (j := k) (by have := (hk0 i (by omega)).1; omega) (by omega)
      have wi := hW i (by omega)
      rw [if_neg (by omega)] at wi
      by_cases c1 : (CS i).testBit k = true
      · obtain ⟨V1, a1, a2⟩ := ih N (i + 1) (setV W 1209 d i (sp i - p)) (by omega) (by omega) (hF.set (by decide)) (fun e he => by
          rw [setV_at]
          by_cases z : e = i
          · subst z; rw [if_pos ⟨rfl, rfl⟩, if_pos ⟨by omega, c1⟩]
          · rw [if_neg (fun y => z y.2), hW e he]
            have : (e < i + 1) = (e < i) := by apply propext; omega
            simp only [this])
        refine ⟨V1, ?_, a2⟩
        rw [← a1]
        simp (disch := omega) only [Lp_X2_takeFromCuts_2, F_X2_takeFromCuts_2, F_X2_takeFromCuts_34, hct, w1, w2, hle, bs, c1, wi, bd_some, n10, n00, bv_eq, within_eq, in_eq, gd_T, gd_t, i00, i10, c_0, c_1, c_m1, ite10, ite01, setV_fn, setV_at, cntS, nI_pos, nI_clamp, nI_leI, nI_ltI, nI_eq, nI_1, if_true, if_false, not_true, not_false, and_self, and_true, true_and, false_and, and_false, or_false, false_or, or_true, true_or, not_false_eq_true, ite_self, ite_true, ite_false, reduceIte, Nat.reduceEqDiff, Nat.reduceMul, Nat.reduceAdd, Nat.reduceLT, Nat.reducePow, ne_eq]
      · obtain ⟨V1, a1, a2⟩ := ih N (i + 1) W (by omega) (by omega) hF (fun e he => by
          rw [hW e he]
          by_cases z : e = i
          · subst z; rw [if_neg (by omega), if_neg (fun y => c1 y.2)]
          · have : (e < i + 1) = (e < i) := by apply propext; omega
            simp only [this])
        refine ⟨V1, ?_, a2⟩
        rw [← a1]
        simp (disch := omega) only [Lp_X2_takeFromCuts_2, F_X2_takeFromCuts_2, F_X2_takeFromCuts_34, hct, w1, w2, hle, bs, c1, reduceCtorEq, bd_some, n10, n00, bv_eq, within_eq, in_eq, gd_T, gd_t, i00, i10, c_0, c_1, c_m1, ite10, ite01, setV_fn, setV_at, cntS, nI_pos, nI_clamp, nI_leI, nI_ltI, nI_eq, nI_1, if_true, if_false, not_true, not_false, and_self, and_true, true_and, false_and, and_false, or_false, false_or, or_true, true_or, not_false_eq_true, ite_self, ite_true, ite_false, reduceIte, Nat.reduceEqDiff, Nat.reduceMul, Nat.reduceAdd, Nat.reduceLT, Nat.reducePow, ne_eq]
  have hc127 := h.2.2.2.1
  obtain ⟨V1, a1, a2⟩ := key c fu 0 V (by omega) (by omega) (Fr.refl _ V) (fun e he => by rw [if_neg (by omega)]; exact (h.2.2.2.2.2 e he).2.2)
  rw [nI_0] at a1
  exact ⟨V1, a1, a2⟩
theorem sound_eq {fu nD d c : Nat} {V : St} {CS : Nat → Nat} {sp : Nat → Int32} (hfu : 1000 ≤ fu) (h : CutS V nD d c CS sp) : (f_X2_isSound fu V (nI d) = some (1, V) ∧ ∀ e, e < c → 0 ≤ sp e) ∨ (f_X2_isSound fu V (nI d) = some (0, V) ∧ ∃ e, e < c ∧ ¬ 0 ≤ sp e) := by
  obtain ⟨hd, h22, hn, hc127, e1, hk0⟩ := h
  have hct : cntV V 2104 = nD := cnt_n (by decide) (by omega) hn
  have key : ∀ (N i : Nat), i ≤ c → c < i + N → (Lp_X2_isSound_2 (F_X2_isSound_19 fu) (F_X2_isSound_27 fu) fu N V (nI d) (nI i) = some (1, V) ∧ ∀ e, i ≤ e → e < c → 0 ≤ sp e) ∨ (Lp_X2_isSound_2 (F_X2_isSound_19 fu) (F_X2_isSound_27 fu) fu N V (nI d) (nI i) = some (0, V) ∧ ∃ e, e < c ∧ ¬ 0 ≤ sp e) := by
    intro N
    induction N with
    | zero => intro i h0 h; omega
    | succ N ih =>
      intro i h0 h
      by_cases hi : c ≤ i
      · left
        refine ⟨?_, fun e q1 q2 => by omega⟩
        simp (disch := omega) only [Lp_X2_isSound_2, F_X2_isSound_2, F_X2_isSound_27, hct, e1, hi, bd_some, n10, n00, bv_eq, within_eq, in_eq, gd_T, gd_t, i00, i10, c_0, c_1, c_m1, ite10, ite01, setV_fn, setV_at, cntS, nI_pos, nI_clamp, nI_leI, nI_ltI, nI_eq, nI_1, if_true, if_false, not_true, not_false, and_self, and_true, true_and, false_and, and_false, or_false, false_or, or_true, true_or, not_false_eq_true, ite_self, ite_true, ite_false, reduceIte, Nat.reduceEqDiff, Nat.reduceMul, Nat.reduceAdd, Nat.reduceLT, Nat.reducePow, ne_eq]
      · have w := (hk0 i (by omega)).2.2
        by_cases c1 : 0 ≤ sp i
        · have : Lp_X2_isSound_2 (F_X2_isSound_19 fu) (F_X2_isSound_27 fu) fu (N + 1) V (nI d) (nI i) = Lp_X2_isSound_2 (F_X2_isSound_19 fu) (F_X2_isSound_27 fu) fu N V (nI d) (nI (i + 1)) := by
            simp (disch := omega) only [Lp_X2_isSound_2, F_X2_isSound_2, hct, e1, hi, w, c1, bd_some, n10, n00, bv_eq, within_eq, in_eq, gd_T, gd_t, i00, i10, c_0, c_1, c_m1, ite10, ite01, setV_fn, setV_at, cntS, nI_pos, nI_clamp, nI_leI, nI_ltI, nI_eq, nI_1, if_true, if_false, not_true, not_false, and_self, and_true, true_and, false_and, and_false, or_false, false_or, or_true, true_or, not_false_eq_true, ite_self, ite_true, ite_false, reduceIte, Nat.reduceEqDiff, Nat.reduceMul, Nat.reduceAdd, Nat.reduceLT, Nat.reducePow, ne_eq]
          rw [this]
          rcases ih (i + 1) (by omega) (by omega) with ⟨a1, a2⟩ | a
          · exact .inl ⟨a1, fun e q1 q2 => by by_cases z : e = i; (subst z; exact c1); exact a2 e (by omega) q2⟩
          · exact .inr a
        · right
          refine ⟨?_, i, by omega, c1⟩
          simp (disch := omega) only [Lp_X2_isSound_2, F_X2_isSound_2, F_X2_isSound_19, hct, e1, hi, w, c1, bd_some, n10, n00, bv_eq, within_eq, in_eq, gd_T, gd_t, i00, i10, c_0, c_1, c_m1, ite10, ite01, setV_fn, setV_at, cntS, nI_pos, nI_clamp, nI_leI, nI_ltI, nI_eq, nI_1, if_true, if_false, not_true, not_false, and_self, and_true, true_and, false_and, and_false, or_false, false_or, or_true, true_or, not_false_eq_true, ite_self, ite_true, ite_false, reduceIte, Nat.reduceEqDiff, Nat.reduceMul, Nat.reduceAdd, Nat.reduceLT, Nat.reducePow, ne_eq]
  rcases key fu 0 (by omega) (by omega) with ⟨a1, a2⟩ | ⟨a1, a2⟩
  · rw [nI_0] at a1; exact .inl ⟨a1, fun e he => a2 e (by omega) he⟩
  · rw [nI_0] at a1; exact .inr ⟨a1, a2⟩
