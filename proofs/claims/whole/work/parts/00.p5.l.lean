/-! asks of the reference where class variables differ (by program from p5.f) -/
theorem ask_r2 {fu nC nT nM n : Nat} {B V : St} {wk t x m : Int32} (hfu : 1000 ≤ fu) (hC : I_cloth B nC) (hT : I_thing B nC nT) (hM : I_mak B nM) (hg : ∀ v, v ∈ av → V v = B v) (hO : I_ord V n) (hx : okT x nT) (hm : okT m nM) : ∃ Va Vb, f_X12_strikes fu V wk t = some (0, Va) ∧ f_X12_setsFacts fu Va x m wk = some (0, Vb) ∧ RS V V Vb (V 2259 0 0) wk t n (fctV V wk x m) := by
  obtain ⟨Va, e1, e2, e3⟩ := strikes_eq (fu := fu) (wk := wk) (t := t) hfu hO
  have hfc := (ag_all hg (V 2259 0 0) wk t x m n).2.2.2.1
  obtain ⟨Vb, g1, g2, g3⟩ := setsFacts_eq (fu := fu) (V' := Va) (wk := wk) hfu hC hT hM hx hm (fun v hv => by rw [e2 v (by intro q; rw [List.mem_singleton] at q; subst q; revert hv; decide)]; exact hg v ((show ∀ v, v ∈ [2205, 2206, 2216, 2217, 2218, 2219, 2233, 2235, 2240] → v ∈ av by decide) v hv))
  rw [← hfc] at g3
  refine ⟨Va, Vb, e1, g1, fun v hv => ?_, ?_, ?_, g3, (e2.weak (by decide)).trans (g2.weak (by decide))⟩
  · rw [g2 v (by intro q; rw [List.mem_singleton] at q; subst q; revert hv; decide), e2 v (by intro q; rw [List.mem_singleton] at q; subst q; revert hv; decide)]
  · rw [g2 2259 (by decide), e2 2259 (by decide)]
  · unfold RefS at e3 ⊢; rw [g2 2270 (by decide)]; exact e3
theorem numberBy_eq2 {fu nC nT nM n : Nat} {B V : St} {wk t L x m : Int32} (hfu : 1000 ≤ fu) (hC : I_cloth B nC) (hT : I_thing B nC nT) (hM : I_mak B nM) (hg : ∀ v, v ∈ av → V v = B v) (hO : I_ord V n) (hx : okT x nT) (hm : okT m nM) (hL : L ≠ 120) : ∃ V1, f_X12_numberBy fu V L x m wk t = some (lastV V (V 2259 0 0) wk t n L x m, V1) ∧ Fr rsc V V1 := by
  obtain ⟨Va, Vb, e1, e2, hS⟩ := ask_r2 (fu := fu) (wk := wk) (t := t) hfu hC hT hM hg hO hx hm
  obtain ⟨V1, h1, h2⟩ := lpB_out (fu := fu) (L := L) hfu hO hL n fu Vb (Nat.le_refl n) (by have := hO.1; omega) hS
  refine ⟨V1, ?_, h1.2.2.2.2⟩
  unfold f_X12_numberBy lastV
  rw [e1, bd_some, e2, bd_some, hS.1 2258 (by decide), hO.2.2.1, h2]
  generalize fdI _ _ _ = z
  cases z <;> rfl
theorem isSome_eq2 {fu nC nT nM n : Nat} {B V : St} {wk t L x m : Int32} (hfu : 1000 ≤ fu) (hC : I_cloth B nC) (hT : I_thing B nC nT) (hM : I_mak B nM) (hg : ∀ v, v ∈ av → V v = B v) (hO : I_ord V n) (hx : okT x nT) (hm : okT m nM) (hL : L ≠ 120) : ∃ V1, Fr rsc V V1 ∧ f_X12_isSome fu V L x m wk t = some (if firstV V (V 2259 0 0) wk t n L x m = none then 0 else 1, V1) ∧ ∀ q, firstV V (V 2259 0 0) wk t n L x m = some q → V1 2273 0 0 = nI q.1 ∧ V1 2274 0 0 = nI q.2 := by
  obtain ⟨Va, Vb, e1, e2, hS⟩ := ask_r2 (fu := fu) (wk := wk) (t := t) hfu hC hT hM hg hO hx hm
  obtain ⟨V1, h1, h2⟩ := lpA_out (fu := fu) (L := L) hfu hO hL n fu 0 Vb (by omega) (by have := hO.1; omega) hS
  have h3 : f_X12_isSome fu V L x m wk t = match firstV V (V 2259 0 0) wk t n L x m with
      | some q => some (1, setV (setV V1 2273 0 0 (nI q.1)) 2274 0 0 (nI q.2))
      | none => some (0, V1) := by
    unfold f_X12_isSome firstV
    rw [e1, bd_some, e2, bd_some, ← nI_0]; exact h2
  cases e : firstV V (V 2259 0 0) wk t n L x m with
  | none => rw [e] at h3; exact ⟨V1, h1.2.2.2.2, h3, fun q hq => by cases hq⟩
  | some q =>
    rw [e] at h3
    refine ⟨_, (h1.2.2.2.2.set (i := 0) (j := 0) (x := nI q.1) (v := 2273) (by decide)).set (i := 0) (j := 0) (x := nI q.2) (v := 2274) (by decide), h3, fun q' hq => ?_⟩
    cases hq
    simp [setV]
theorem isSome_B {fu nC nT nM n : Nat} {B V : St} {L x m wo wk : Int32} {ws : List Nat} (hfu : 1000 ≤ fu) (hA : Ask B nC nT nM n) (hF : Fr ws B V) (h1 : av.all (fun v => !ws.contains v) = true) (h2 : vI_ord.all (fun v => !ws.contains v) = true) (hwo : V 2259 0 0 = wo) (hx : okT x nT) (hm : okT m nM) (hL : L ≠ 120) : ∃ V1, Fr rsc V V1 ∧ f_X12_isSome fu V L x m wk wk = some (if lastV B wo wk wk n L x m = -1 then 0 else 1, V1) := by
  obtain ⟨V1, d2, d1, -⟩ := isSome_eq2 (fu := fu) (L := L) (wk := wk) (t := wk) hfu hA.1 hA.2.1 hA.2.2.1 (hF.all h1) (hA.2.2.2.fr hF h2) hx hm hL
  rw [hwo, firstV_ag (hF.all h1)] at d1
  refine ⟨V1, d2, ?_⟩
  rw [d1]
  have hn := firstV_none (wo := wo) (wk := wk) (t := wk) (x := x) (m := m) (L := L) hA.2.2.2
  by_cases h : lastV B wo wk wk n L x m = -1
  · rw [if_pos h, if_pos (hn.mpr h)]
  · rw [if_neg h, if_neg (fun q => h (hn.mp q))]
theorem numberBy_B {fu nC nT nM n : Nat} {B V : St} {L x m wo wk : Int32} {ws : List Nat} (hfu : 1000 ≤ fu) (hA : Ask B nC nT nM n) (hF : Fr ws B V) (h1 : av.all (fun v => !ws.contains v) = true) (h2 : vI_ord.all (fun v => !ws.contains v) = true) (hwo : V 2259 0 0 = wo) (hx : okT x nT) (hm : okT m nM) (hL : L ≠ 120) : ∃ V1, Fr rsc V V1 ∧ f_X12_numberBy fu V L x m wk wk = some (lastV B wo wk wk n L x m, V1) := by
  obtain ⟨V1, d1, d2⟩ := numberBy_eq2 (fu := fu) (L := L) (wk := wk) (t := wk) hfu hA.1 hA.2.1 hA.2.2.1 (hF.all h1) (hA.2.2.2.fr hF h2) hx hm hL
  rw [hwo, lastV_ag (hF.all h1)] at d1
  exact ⟨V1, d2, d1⟩
