/-! the reference's way back: the flow raised -/
def upF (fl : Nat → Int) (k : Nat) (e : Int) : Nat → Int := fun q => if q = k then fl q + e else fl q
theorem RfD.up {V : St} {d j s k : Nat} {A B c : Nat → Nat} {fl : Nat → Int} {e : Int} (h : RfD V d j s A B c fl) (hk : k < s) (h1 : -(tbo (c k) : Int) ≤ fl k + e) (h2 : fl k + e ≤ tbo (c k)) : RfD (setV V 2228 0 k (zI (fl k + e))) d j s A B c (upF fl k e) := by
  obtain ⟨hd, hj, hs, e1, hx⟩ := h
  refine ⟨hd, hj, hs, ?_, fun q hq => ?_⟩
  · simp (disch := omega) only [e1, bd_some, n10, n00, bv_eq, within_eq, in_eq, gd_T, gd_t, i00, i10, c_0, c_1, c_m1, ite10, ite01, setV_fn, setV_at, cntS, nI_pos, nI_clamp, nI_leI, nI_ltI, nI_eq, nI_1, if_true, if_false, not_true, not_false, and_self, and_true, true_and, false_and, and_false, or_false, false_or, or_true, true_or, not_false_eq_true, ite_self, ite_true, ite_false, reduceIte, Nat.reduceEqDiff, Nat.reduceMul, Nat.reduceAdd, Nat.reduceLT, Nat.reducePow, ne_eq]
  · obtain ⟨a1, a2, a3, a4, a5, a6, a7, a8, a9, a10⟩ := hx q hq
    refine ⟨a1, a2, a3, a4, ?_, ?_, ?_, ?_, ?_, ?_⟩
    · simp (disch := omega) only [a5, bd_some, n10, n00, bv_eq, within_eq, in_eq, gd_T, gd_t, i00, i10, c_0, c_1, c_m1, ite10, ite01, setV_fn, setV_at, cntS, nI_pos, nI_clamp, nI_leI, nI_ltI, nI_eq, nI_1, if_true, if_false, not_true, not_false, and_self, and_true, true_and, false_and, and_false, or_false, false_or, or_true, true_or, not_false_eq_true, ite_self, ite_true, ite_false, reduceIte, Nat.reduceEqDiff, Nat.reduceMul, Nat.reduceAdd, Nat.reduceLT, Nat.reducePow, ne_eq]
    · simp (disch := omega) only [a6, bd_some, n10, n00, bv_eq, within_eq, in_eq, gd_T, gd_t, i00, i10, c_0, c_1, c_m1, ite10, ite01, setV_fn, setV_at, cntS, nI_pos, nI_clamp, nI_leI, nI_ltI, nI_eq, nI_1, if_true, if_false, not_true, not_false, and_self, and_true, true_and, false_and, and_false, or_false, false_or, or_true, true_or, not_false_eq_true, ite_self, ite_true, ite_false, reduceIte, Nat.reduceEqDiff, Nat.reduceMul, Nat.reduceAdd, Nat.reduceLT, Nat.reducePow, ne_eq]
    · simp (disch := omega) only [a7, bd_some, n10, n00, bv_eq, within_eq, in_eq, gd_T, gd_t, i00, i10, c_0, c_1, c_m1, ite10, ite01, setV_fn, setV_at, cntS, nI_pos, nI_clamp, nI_leI, nI_ltI, nI_eq, nI_1, if_true, if_false, not_true, not_false, and_self, and_true, true_and, false_and, and_false, or_false, false_or, or_true, true_or, not_false_eq_true, ite_self, ite_true, ite_false, reduceIte, Nat.reduceEqDiff, Nat.reduceMul, Nat.reduceAdd, Nat.reduceLT, Nat.reducePow, ne_eq]
    · rw [setV_at, a8]; unfold upF
      by_cases z : q = k
      · subst z; simp
      · simp [z]
    · unfold upF; split
      · rename_i z; subst z; exact h1
      · exact a9
    · unfold upF; split
      · rename_i z; subst z; exact h2
      · exact a10
theorem lq_raise {fu d j s src : Nat} {A B c : Nat → Nat} {cm : Nat → Int32} {rk : Nat → Nat} {m : Int} {kx : St → Int32 → RR} (hsrc : src < 8) (hm1 : 1 ≤ m) (hm2 : m ≤ 100000) : ∀ (n N v : Nat) (W : St) (fl : Nat → Int), n < N → v < 8 → RfD W d j s A B c fl → W 2229 0 = cm → Way s A B (fun k => tbo (c k)) fl src cm rk m n v → ∃ W' fl', Lp_X12_moreFlow_347 kx fu N W (nI d) (nI src) (zI m) (nI v) = kx W' (zI m) ∧ Fr [2228] W W' ∧ RfD W' d j s A B c fl' ∧ ∀ S, netF s A B S fl' = netF s A B S fl + m * (ind (S src) - ind (S v)) := by
  intro n
  induction n with
  | zero =>
    intro N v W fl hN hv h hcm hw
    obtain ⟨N, rfl⟩ : ∃ N', N = N' + 1 := ⟨N - 1, by omega⟩
    have hw : v = src := hw
    subst hw
    exact ⟨W, fl, by rw [Lp_X12_moreFlow_347, F_X12_moreFlow_347, if_pos rfl], Fr.refl _ W, h, fun S => by rw [Int.sub_self, Int.mul_zero, Int.add_zero]⟩
  | succ n ih =>
    intro N v W fl hN hv h hcm hw
    obtain ⟨N, rfl⟩ : ∃ N', N = N' + 1 := ⟨N - 1, by omega⟩
    rcases hw with hw | ⟨hvs, k, hk, hck, q⟩
    · subst hw
      exact ⟨W, fl, by rw [Lp_X12_moreFlow_347, F_X12_moreFlow_347, if_pos rfl], Fr.refl _ W, h, fun S => by rw [Int.sub_self, Int.mul_zero, Int.add_zero]⟩
    · have hh := h
      obtain ⟨hd, hj, hs, e1, hx⟩ := h
      have hcm' : ∀ q, W 2229 0 q = cm q := fun q => by rw [hcm]
      obtain ⟨a1, a2, a3, a4, a5, a6, a7, a8, a9, a10⟩ := hx k hk
      have tb := tbo_le (c k)
      rcases q with ⟨q1, q3, q4, q5⟩ | ⟨q1, q3, q4, q5⟩
      · have q4 : m ≤ tbo (c k) - fl k := q4
        have w2 := Way.upd (fl' := upF fl k m) hs hk hck (.inl ⟨q1, q3⟩) (fun e _ he => by unfold upF; rw [if_neg he]) n (A k) q3 q5
        subst q1
        obtain ⟨W', fl', g1, g2, g3, g4⟩ := ih N (A k) (setV W 2228 0 k (zI (fl k + m))) (upF fl k m) (by omega) (by omega) (hh.up hk (by omega) (by omega)) (by rw [← hcm]; funext q; simp (disch := omega) only [bd_some, n10, n00, bv_eq, within_eq, in_eq, gd_T, gd_t, i00, i10, c_0, c_1, c_m1, ite10, ite01, setV_fn, setV_at, cntS, nI_pos, nI_clamp, nI_leI, nI_ltI, nI_eq, nI_1, if_true, if_false, not_true, not_false, and_self, and_true, true_and, false_and, and_false, or_false, false_or, or_true, true_or, not_false_eq_true, ite_self, ite_true, ite_false, reduceIte, Nat.reduceEqDiff, Nat.reduceMul, Nat.reduceAdd, Nat.reduceLT, Nat.reducePow, ne_eq]) w2
        refine ⟨W', fl', ?_, ((Fr.refl _ W).set (by decide)).trans g2, g3, fun S => ?_⟩
        · rw [← g1]
          simp (disch := omega) only [Lp_X12_moreFlow_347, F_X12_moreFlow_347, F_X12_moreFlow_388, F_X12_moreFlow_422, F_X12_moreFlow_445, hcm', hck, hvs, ix8, zI_add, a5, a6, a8, bd_some, n10, n00, bv_eq, within_eq, in_eq, gd_T, gd_t, i00, i10, c_0, c_1, c_m1, ite10, ite01, setV_fn, setV_at, cntS, nI_pos, nI_clamp, nI_leI, nI_ltI, nI_eq, nI_1, if_true, if_false, not_true, not_false, and_self, and_true, true_and, false_and, and_false, or_false, false_or, or_true, true_or, not_false_eq_true, ite_self, ite_true, ite_false, reduceIte, Nat.reduceEqDiff, Nat.reduceMul, Nat.reduceAdd, Nat.reduceLT, Nat.reducePow, ne_eq]
        · rw [g4 S, net_upd (S := S) (fl := fl) (fl' := upF fl k m) (d := m) hk (fun e _ => rfl), Int.mul_sub, Int.mul_sub, Int.mul_sub]; omega
      · have q4 : m ≤ tbo (c k) + fl k := q4
        have w2 := Way.upd (fl' := upF fl k (-m)) hs hk hck (.inr ⟨q1, q3⟩) (fun e _ he => by unfold upF; rw [if_neg he]) n (B k) q3 q5
        subst q1
        have hba : ¬ B k = A k := fun z => a3 z.symm
        have e5 : zI (fl k) - zI m = zI (fl k + -m) := by rw [zI_sub, Int.sub_eq_add_neg]
        obtain ⟨W', fl', g1, g2, g3, g4⟩ := ih N (B k) (setV W 2228 0 k (zI (fl k + -m))) (upF fl k (-m)) (by omega) (by omega) (hh.up hk (by omega) (by omega)) (by rw [← hcm]; funext q; simp (disch := omega) only [bd_some, n10, n00, bv_eq, within_eq, in_eq, gd_T, gd_t, i00, i10, c_0, c_1, c_m1, ite10, ite01, setV_fn, setV_at, cntS, nI_pos, nI_clamp, nI_leI, nI_ltI, nI_eq, nI_1, if_true, if_false, not_true, not_false, and_self, and_true, true_and, false_and, and_false, or_false, false_or, or_true, true_or, not_false_eq_true, ite_self, ite_true, ite_false, reduceIte, Nat.reduceEqDiff, Nat.reduceMul, Nat.reduceAdd, Nat.reduceLT, Nat.reducePow, ne_eq]) w2
        refine ⟨W', fl', ?_, ((Fr.refl _ W).set (by decide)).trans g2, g3, fun S => ?_⟩
        · rw [← g1]
          simp (disch := omega) only [Lp_X12_moreFlow_347, F_X12_moreFlow_347, F_X12_moreFlow_388, F_X12_moreFlow_422, F_X12_moreFlow_445, hcm', hck, hvs, hba, ix8, e5, a5, a6, a8, bd_some, n10, n00, bv_eq, within_eq, in_eq, gd_T, gd_t, i00, i10, c_0, c_1, c_m1, ite10, ite01, setV_fn, setV_at, cntS, nI_pos, nI_clamp, nI_leI, nI_ltI, nI_eq, nI_1, if_true, if_false, not_true, not_false, and_self, and_true, true_and, false_and, and_false, or_false, false_or, or_true, true_or, not_false_eq_true, ite_self, ite_true, ite_false, reduceIte, Nat.reduceEqDiff, Nat.reduceMul, Nat.reduceAdd, Nat.reduceLT, Nat.reducePow, ne_eq]
        · rw [g4 S, net_upd (S := S) (fl := fl) (fl' := upF fl k (-m)) (d := -m) hk (fun e _ => rfl), Int.mul_sub, Int.mul_sub, Int.mul_sub, Int.neg_mul, Int.neg_mul]; omega
