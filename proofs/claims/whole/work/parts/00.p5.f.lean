/-! asks -/
def scr : List Nat := [1402, 1403, 1404, 1405, 1406, 1407, 1408]
def rsc : List Nat := [2270, 2271, 2272, 2273, 2274]
def av : List Nat := [1704, 1708, 1709, 1790, 2205, 2206, 2216, 2217, 2218, 2219, 2233, 2235, 2240, 2260, 2261, 2262, 2263, 2264, 2265, 2266, 2267, 2268, 2269]
noncomputable def lastV (V : St) (wo wk t : Int32) (n : Nat) (L x m : Int32) : Int32 := match fdI (TV V wo wk t n L (fctV V wk x m)) (cV V) n with
  | some q => V 2268 0 (12 * q.1 + q.2)
  | none => -1
noncomputable def firstV (V : St) (wo wk t : Int32) (n : Nat) (L x m : Int32) : Option (Nat × Nat) := faI (TV V wo wk t n L (fctV V wk x m)) (cV V) n 0
theorem ag_all {V U : St} (h : ∀ v, v ∈ av → U v = V v) (wo wk t x m : Int32) (n : Nat) : fcV U wo wk t = fcV V wo wk t ∧ cV U = cV V ∧ fin U wo wk t n = fin V wo wk t n ∧ fctV U wk x m = fctV V wk x m ∧ (∀ i j, hG U i j = hG V i j) ∧ U 2265 = V 2265 ∧ U 2268 = V 2268 := by
  have a1 := h 1704 (by decide); have a2 := h 1708 (by decide); have a3 := h 1709 (by decide); have a4 := h 1790 (by decide); have a5 := h 2205 (by decide); have a6 := h 2206 (by decide); have a7 := h 2216 (by decide); have a8 := h 2217 (by decide); have a9 := h 2218 (by decide); have a10 := h 2219 (by decide); have a11 := h 2233 (by decide); have a12 := h 2235 (by decide); have a13 := h 2240 (by decide); have a14 := h 2260 (by decide); have a15 := h 2261 (by decide); have a16 := h 2262 (by decide); have a17 := h 2263 (by decide); have a18 := h 2264 (by decide); have a19 := h 2265 (by decide); have a20 := h 2266 (by decide); have a21 := h 2267 (by decide); have a22 := h 2268 (by decide); have a23 := h 2269 (by decide)
  have b1 : fcV U wo wk t = fcV V wo wk t := by funext i; simp only [fcV, a15, a16, a17]
  have b2 : cV U = cV V := by funext i; simp only [cV, a18]
  have b3 : ixV U = ixV V := by funext i; simp only [ixV, a19]
  have b4 : aV U = aV V := by funext i; simp only [aV, a22]
  have b5 : bV U = bV V := by funext i; simp only [bV, a23]
  refine ⟨b1, b2, ?_, ?_, fun i j => ?_, a19, a22⟩
  · unfold fin; rw [b1, b2, b3, b4, b5]
  · funext k; simp only [fctV, kSg, kWr, a5, a6, a7, a8, a9, a10, a11, a12, a13]
  · unfold hG
    have : HoldsP U i j = HoldsP V i j := by funext g; simp only [HoldsP, a1, a2, a3, a4, a14, a20, a21]
    rw [this]
theorem TV_ag {V U : St} (h : ∀ v, v ∈ av → U v = V v) (wo wk t x m L : Int32) (n : Nat) : TV U wo wk t n L (fctV U wk x m) = TV V wo wk t n L (fctV V wk x m) := by
  obtain ⟨h1, h2, h3, h4, h5, h6, h7⟩ := ag_all h wo wk t x m n
  funext i j
  unfold TV
  rw [h1, h3, h4, h5, h6]
theorem lastV_ag {V U : St} (h : ∀ v, v ∈ av → U v = V v) (wo wk t x m L : Int32) (n : Nat) : lastV U wo wk t n L x m = lastV V wo wk t n L x m := by
  obtain ⟨h1, h2, h3, h4, h5, h6, h7⟩ := ag_all h wo wk t x m n
  unfold lastV
  rw [TV_ag h, h2, h7]
theorem firstV_ag {V U : St} (h : ∀ v, v ∈ av → U v = V v) (wo wk t x m L : Int32) (n : Nat) : firstV U wo wk t n L x m = firstV V wo wk t n L x m := by
  obtain ⟨h1, h2, h3, h4, h5, h6, h7⟩ := ag_all h wo wk t x m n
  unfold firstV
  rw [TV_ag h, h2]
theorem firstV_none {V : St} {wo wk t x m L : Int32} {n : Nat} (hO : I_ord V n) : firstV V wo wk t n L x m = none ↔ lastV V wo wk t n L x m = -1 := by
  unfold firstV lastV
  rw [fa_fd]
  cases e : fdI (TV V wo wk t n L (fctV V wk x m)) (cV V) n with
  | none => simp
  | some q =>
    obtain ⟨q1, q2, q3⟩ := fdI_some _ e
    obtain ⟨c, hc⟩ := hO.2.2.2 q.1 q1
    have hcc := hc.at (by have := hO.1; omega)
    have := (hc.2.2.2.2.2.2 q.2 (by omega)).2.2.1
    simp only [reduceCtorEq, false_iff]
    grind
theorem lastV_ge {V : St} {wo wk t x m L : Int32} {n : Nat} (hO : I_ord V n) : lastV V wo wk t n L x m = -1 ∨ 0 ≤ lastV V wo wk t n L x m := by
  unfold lastV
  cases e : fdI (TV V wo wk t n L (fctV V wk x m)) (cV V) n with
  | none => exact .inl rfl
  | some q =>
    obtain ⟨q1, q2, q3⟩ := fdI_some _ e
    obtain ⟨c, hc⟩ := hO.2.2.2 q.1 q1
    have hcc := hc.at (by have := hO.1; omega)
    exact .inr ((hc.2.2.2.2.2.2 q.2 (by omega)).2.2.1)
theorem ask_cs {fu nC nT nM n : Nat} {V : St} {wo wk t : Int32} (hfu : 1000 ≤ fu) (hC : I_cloth V nC) (hT : I_thing V nC nT) (hM : I_mak V nM) (hO : I_ord V n) : ∃ Va, f_X4_weigh fu V wk t wo = some (0, Va) ∧ Fr [1402] V Va ∧ ∀ (Vq : St) (x m : Int32), CS V Vq wo wk t n (fun k => Vq 1403 0 k) ∨ Vq = Va → okT x nT → okT m nM → ∃ Vb, f_X4_setLetters fu Vq wk x m = some (0, Vb) ∧ CS V Vb wo wk t n (fctV V wk x m) := by
  obtain ⟨Va, e1, e2, e3⟩ := weigh_eq (fu := fu) (wk := wk) (t := t) (wo := wo) hfu hO
  refine ⟨Va, e1, e2, fun Vq x m hq hx hm => ?_⟩
  have hF : Fr scr V Vq := by
    rcases hq with hq | rfl
    · exact hq.1
    · exact e2.weak (by decide)
  have hB : BitS Vq (fcV V wo wk t) (cV V) (fin V wo wk t n) n := by
    rcases hq with hq | rfl
    · exact hq.2.1
    · exact e3
  obtain ⟨Vb, g1, g2, g3⟩ := setLetters_eq (fu := fu) (wk := wk) hC hT hM hx hm hF (by decide)
  refine ⟨Vb, g1, hF.trans (g2.weak (by decide)), ?_, g3⟩
  unfold BitS at hB ⊢; rw [g2 1402 (by decide)]; exact hB
theorem last_eq {fu n : Nat} {V Vb : St} {wo wk t L x m : Int32} (hfu : 1000 ≤ fu) (hO : I_ord V n) (hL : L ≠ 120) (hS : CS V Vb wo wk t n (fctV V wk x m)) : ∃ V1, f_X4_lastNumber fu Vb L = some (lastV V wo wk t n L x m, V1) ∧ CS V V1 wo wk t n (fctV V wk x m) := by
  obtain ⟨V1, h1, h2⟩ := lpN_out (fu := fu) hfu hO hL n fu Vb (Nat.le_refl n) (by have := hO.1; omega) hS
  refine ⟨V1, ?_, h1⟩
  unfold f_X4_lastNumber lastV
  rw [hS.1 1401 (by decide), hO.2.1, h2]
  generalize fdI _ _ _ = z
  cases z <;> rfl
theorem bar_eq {fu n : Nat} {V Vb : St} {wo wk t x m b : Int32} (hfu : 1000 ≤ fu) (hO : I_ord V n) (hS : CS V Vb wo wk t n (fctV V wk x m)) : ∃ V1, f_X4_lowestBar fu Vb b = some (match firstV V wo wk t n 98 x m with
    | some q => if b = 0 then nI q.2 else nI q.1
    | none => -1, V1) ∧ Fr scr V V1 := by
  obtain ⟨V1, h1, h2⟩ := lpL_out (fu := fu) (b := b) hfu hO n fu 0 Vb (by omega) (by have := hO.1; omega) hS
  refine ⟨V1, ?_, h1.1⟩
  unfold f_X4_lowestBar firstV
  rw [nI_0] at h2
  rw [h2]
  generalize faI _ _ _ _ = z
  cases z <;> rfl
theorem ask_r {fu nC nT nM n : Nat} {V : St} {wk t x m : Int32} (hfu : 1000 ≤ fu) (hC : I_cloth V nC) (hT : I_thing V nC nT) (hM : I_mak V nM) (hO : I_ord V n) (hx : okT x nT) (hm : okT m nM) : ∃ Va Vb, f_X12_strikes fu V wk t = some (0, Va) ∧ f_X12_setsFacts fu Va x m wk = some (0, Vb) ∧ RS V V Vb (V 2259 0 0) wk t n (fctV V wk x m) := by
  obtain ⟨Va, e1, e2, e3⟩ := strikes_eq (fu := fu) (wk := wk) (t := t) hfu hO
  obtain ⟨Vb, g1, g2, g3⟩ := setsFacts_eq (fu := fu) (V' := Va) (wk := wk) hfu hC hT hM hx hm (fun v hv => e2 v (by intro q; rw [List.mem_singleton] at q; subst q; revert hv; decide))
  refine ⟨Va, Vb, e1, g1, fun v hv => ?_, ?_, ?_, g3, (e2.weak (by decide)).trans (g2.weak (by decide))⟩
  · rw [g2 v (by intro q; rw [List.mem_singleton] at q; subst q; revert hv; decide), e2 v (by intro q; rw [List.mem_singleton] at q; subst q; revert hv; decide)]
  · rw [g2 2259 (by decide), e2 2259 (by decide)]
  · unfold RefS at e3 ⊢; rw [g2 2270 (by decide)]; exact e3
theorem numberBy_eq {fu nC nT nM n : Nat} {V : St} {wk t L x m : Int32} (hfu : 1000 ≤ fu) (hC : I_cloth V nC) (hT : I_thing V nC nT) (hM : I_mak V nM) (hO : I_ord V n) (hx : okT x nT) (hm : okT m nM) (hL : L ≠ 120) : ∃ V1, f_X12_numberBy fu V L x m wk t = some (lastV V (V 2259 0 0) wk t n L x m, V1) ∧ Fr rsc V V1 := by
  obtain ⟨Va, Vb, e1, e2, hS⟩ := ask_r (fu := fu) (wk := wk) (t := t) hfu hC hT hM hO hx hm
  obtain ⟨V1, h1, h2⟩ := lpB_out (fu := fu) (L := L) hfu hO hL n fu Vb (Nat.le_refl n) (by have := hO.1; omega) hS
  refine ⟨V1, ?_, h1.2.2.2.2⟩
  unfold f_X12_numberBy lastV
  rw [e1, bd_some, e2, bd_some, hS.1 2258 (by decide), hO.2.2.1, h2]
  generalize fdI _ _ _ = z
  cases z <;> rfl
theorem isSome_eq {fu nC nT nM n : Nat} {V : St} {wk t L x m : Int32} (hfu : 1000 ≤ fu) (hC : I_cloth V nC) (hT : I_thing V nC nT) (hM : I_mak V nM) (hO : I_ord V n) (hx : okT x nT) (hm : okT m nM) (hL : L ≠ 120) : ∃ V1, Fr rsc V V1 ∧ f_X12_isSome fu V L x m wk t = some (if firstV V (V 2259 0 0) wk t n L x m = none then 0 else 1, V1) ∧ ∀ q, firstV V (V 2259 0 0) wk t n L x m = some q → V1 2273 0 0 = nI q.1 ∧ V1 2274 0 0 = nI q.2 := by
  obtain ⟨Va, Vb, e1, e2, hS⟩ := ask_r (fu := fu) (wk := wk) (t := t) hfu hC hT hM hO hx hm
  obtain ⟨V1, h1, h2⟩ := lpA_out (fu := fu) (L := L) hfu hO hL n fu 0 Vb (by omega) (by have := hO.1; omega) hS
  have h3 : f_X12_isSome fu V L x m wk t = match firstV V (V 2259 0 0) wk t n L x m with
      | some q => some (1, setV (setV V1 2273 0 0 (nI q.1)) 2274 0 0 (nI q.2))
      | none => some (0, V1) := by
    unfold f_X12_isSome firstV
    rw [e1, bd_some, e2, bd_some, ← nI_0]; exact h2
  cases e : firstV V (V 2259 0 0) wk t n L x m with
  | none => rw [e] at h3; exact ⟨V1, h1.2.2.2.2, h3, fun q hq => by cases hq⟩
  | some q =>
    rw [e] at h3
    refine ⟨_, (h1.2.2.2.2.set (i := 0) (j := 0) (x := nI q.1) (v := 2273) (by decide)).set (i := 0) (j := 0) (x := nI q.2) (v := 2274) (by decide), h3, fun q' hq => ?_⟩
    cases hq
    simp [setV]
