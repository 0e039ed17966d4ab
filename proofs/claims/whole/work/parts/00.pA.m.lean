/-! the machines of both, linked to their pure ones -/
def rs9 (f : Nat → Int32) (k : Nat) : Int32 := if k < 9 then f k else 0
def stL (g : Nat → Int32) : List Int32 → Prop
  | [] => True
  | v :: st => g st.length = v ∧ stL g st
theorem stL.cg {g g' : Nat → Int32} : ∀ st : List Int32, stL g st → (∀ k, k < st.length → g' k = g k) → stL g' st := by
  intro st
  induction st with
  | nil => intro _ _; trivial
  | cons v st ih =>
    intro h hg
    exact ⟨by rw [hg st.length (by rw [List.length_cons]; omega)]; exact h.1, ih h.2 (fun k hk => hg k (by rw [List.length_cons]; omega))⟩
def hw8 : List Nat := [1404, 1405, 1406, 1407, 1408]
def HC (V : St) (rs : Nat) (tr : Bool) (st : List Int32) : Prop := V 1408 0 0 = 0 ∧ V 1406 0 0 = nI rs ∧ V 1407 0 0 = b01 tr ∧ V 1405 0 0 = nI st.length ∧ stL (V 1404 0) st
def OC (V : St) (i j e : Nat) (cw : Nat → Nat) (s : Nat) (f : Nat → Int32) : Prop := i < cntV V 1401 ∧ i < 1000 ∧ j < 12 ∧ j < lenV V 1001704 i ∧ V 1708 i j = nI e ∧ e ≤ 160 ∧ e ≤ lenV V 1001790 i ∧ (∀ k, s ≤ k → k < e → cw k < 2 ^ 31 ∧ V 1709 i k = nI (cw k)) ∧ V 1403 0 = f
theorem OC.fr {V V' : St} {i j e s : Nat} {cw : Nat → Nat} {f : Nat → Int32} (h : OC V i j e cw s f) (hF : Fr hw8 V V') : OC V' i j e cw s f := by
  unfold OC cntV lenV at h ⊢
  rw [hF 1401 (by decide), hF 1708 (by decide), hF 1709 (by decide), hF 1403 (by decide)]
  rw [hF (1001704 - 1000000) (by decide), hF (1001790 - 1000000) (by decide)]; exact h
theorem push_C {fu : Nat} {V : St} {st : List Int32} {v : Int32} (hl : st.length < 160) (h5 : V 1405 0 0 = nI st.length) (hs : stL (V 1404 0) st) : ∃ V', f_X4_push fu V v = some (0, V') ∧ Fr [1404, 1405] V V' ∧ V' 1405 0 0 = nI (v :: st).length ∧ stL (V' 1404 0) (v :: st) := by
  have hl' : lenV V 160 0 = 160 := by unfold lenV; rw [if_pos (by decide)]
  have g : ¬ (nI st.length < 0 ∨ 160 ≤ st.length) := fun w => w.elim (nI_pos (by omega)) (fun w => by omega)
  refine ⟨setV (setV V 1404 0 st.length v) 1405 0 0 (nI (st.length + 1)), ?_, ((Fr.refl _ V).set (by decide)).set (by decide), ?_, ?_, ?_⟩
  · rw [f_X4_push, hl', h5, if_neg (show ¬ nI 160 ≤ nI st.length from nI_ge hl (by omega)), nI_clamp (show st.length < 2 ^ 31 by omega), gd_t g, bv_eq, setV_fn (show 1405 ≠ 1404 by decide), h5, nI_1, bv_eq, F_X4_push_32]
  · rw [setV_at, if_pos ⟨rfl, rfl⟩]; rfl
  · rw [setV_fn (by decide), setV_at, if_pos ⟨rfl, rfl⟩]
  · refine stL.cg st hs (fun k hk => ?_)
    rw [setV_fn (by decide), setV_at, if_neg (fun z => by omega)]
theorem pop_C {fu : Nat} {V : St} {st : List Int32} {v : Int32} (hl : (v :: st).length ≤ 160) (h5 : V 1405 0 0 = nI (v :: st).length) (hs : stL (V 1404 0) (v :: st)) : ∃ V', f_X4_pop fu V = some (v, V') ∧ Fr [1405] V V' ∧ V' 1405 0 0 = nI st.length ∧ stL (V' 1404 0) st := by
  have hl2 : st.length + 1 ≤ 160 := hl
  have g : ¬ (nI st.length < 0 ∨ 160 ≤ st.length) := fun w => w.elim (nI_pos (by omega)) (fun w => by omega)
  have e : nI (v :: st).length - 1 = nI st.length := nI_pred st.length
  have e5 : setV V 1405 0 0 (nI st.length) 1405 0 0 = nI st.length := by rw [setV_at, if_pos ⟨rfl, rfl⟩]
  have e4 : setV V 1405 0 0 (nI st.length) 1404 0 st.length = v := by rw [setV_fn (by decide)]; exact hs.1
  refine ⟨setV V 1405 0 0 (nI st.length), ?_, (Fr.refl _ V).set (by decide), e5, ?_⟩
  · rw [f_X4_pop, h5, if_pos (show (0 : Int32) < nI (v :: st).length by rw [← nI_0]; exact nI_lt (by rw [List.length_cons]; omega) (by rw [List.length_cons]; omega)), e, bv_eq, e5, nI_clamp (show st.length < 2 ^ 31 by omega), gd_t g, e4]
  · rw [setV_fn (by decide)]; exact hs.2
theorem word_C {w : Nat} (hw : w < 2 ^ 31) : nI w &&& 255 = nI (w % 256) ∧ nI w >>> ((8 : Int32) &&& 31) = nI (w / 256) := by
  refine ⟨?_, ?_⟩
  · have := pk_andN (n := w) (by omega) (m := 255) 8 (by decide)
    exact this
  · exact pk_shrN hw (8 &&& 31) 8 (by decide)
theorem b01_c (b : Bool) : b01 b = if b = true then 1 else 0 := rfl
/-- one word's step, for the class -/
theorem step_C {fu w m p rs : Nat} {V : St} {tr b : Bool} {st : List Int32} {cw : Nat → Nat} {f : Nat → Int32} (hw : w < 2 ^ 31) (hcw : cw p = w) (hrs : ¬ p < rs) (hr31 : rs < 2 ^ 31) (hf : V 1403 0 = f) (hl : st.length < 160) (h : HC V rs tr st) (he : evC cw (rs9 f) (m + 1) p rs tr st = some b) : (∃ V' rs' tr' st', f_X4_step fu V (nI w) = some (0, V') ∧ Fr hw8 V V' ∧ HC V' rs' tr' st' ∧ st'.length ≤ st.length + 1 ∧ rs' < 2 ^ 31 ∧ evC cw (rs9 f) m (p + 1) rs' tr' st' = some b) ∨ (∃ V', f_X4_step fu V (nI w) = some (0, V') ∧ Fr hw8 V V' ∧ V' 1408 0 0 = 1 ∧ b = false) := by
  obtain ⟨e1, e2⟩ := word_C hw
  obtain ⟨h8, h6, h7, h5, hs⟩ := h
  have hm : w % 256 < 256 := Nat.mod_lt _ (by decide)
  have hdiv : w / 256 < 2 ^ 31 := Nat.lt_of_le_of_lt (Nat.div_le_self _ _) hw
  have lit : ∀ c : Nat, c < 256 → (nI (w % 256) = nI c ↔ w % 256 = c) := fun c hc => nI_eq (by omega) (by omega)
  rw [evC, hcw, if_neg hrs] at he
  have hst : f_X4_step fu V (nI w) = if nI (w % 256) = nI 33 then (if (V 1407 0 0) = 0 then (F_X4_step_111 fu V (1)) else (F_X4_step_111 fu V (0))) else if nI (w % 256) = nI 35 then (bd (f_X4_push fu V (nI (w / 256))) fun r3 V4 => F_X4_step_166 fu V4) else if nI (w % 256) = nI 38 then (if (V 1407 0 0) = 0 then (F_X4_step_133 fu V (nI (w / 256))) else (F_X4_step_133 fu V ((V 1406 0 0)))) else if nI (w % 256) = nI 64 then (if (nI (lenV V 9 (0))) ≤ nI (w / 256) then (F_X4_step_92 fu V (0)) else (gd (¬ (nI (w / 256) < 0 ∨ 9 ≤ (nI (w / 256)).toNatClampNeg)) <| F_X4_step_92 fu V ((V 1403 (0) (nI (w / 256)).toNatClampNeg)))) else if nI (w % 256) = nI 124 then (if (V 1407 0 0) = 0 then (F_X4_step_155 fu V ((V 1406 0 0))) else (F_X4_step_155 fu V (nI (w / 256)))) else bd (f_X4_join fu V (nI (w % 256))) fun r10 V11 => F_X4_step_166 fu V11 := by
    rw [f_X4_step, e1, e2]; rfl
  have htr : (V 1407 0 0 = 0) ↔ tr = false := by rw [h7]; cases tr <;> simp [b01]
  rw [hst]
  by_cases c33 : w % 256 = 33
  · rw [if_pos ((lit 33 (by omega)).mpr c33)]
    rw [if_pos c33] at he
    left
    refine ⟨setV V 1407 0 0 (b01 (!tr)), rs, !tr, st, ?_, (Fr.refl _ V).set (by decide), ⟨by rw [setV_fn (by decide)]; exact h8, by rw [setV_fn (by decide)]; exact h6, by rw [setV_at, if_pos ⟨rfl, rfl⟩], by rw [setV_fn (by decide)]; exact h5, by rw [setV_fn (by decide)]; exact hs⟩, by omega, hr31, he⟩
    cases tr with
    | false => rw [if_pos (htr.mpr rfl), F_X4_step_111, gd_t (.inr rfl), bv_eq, F_X4_step_166]; rfl
    | true => rw [if_neg (fun z => (by cases htr.mp z)), F_X4_step_111, gd_t (.inl rfl), bv_eq, F_X4_step_166]; rfl
  rw [if_neg (fun z => c33 ((lit 33 (by omega)).mp z))]
  rw [if_neg c33] at he
  by_cases c35 : w % 256 = 35
  · rw [if_pos ((lit 35 (by omega)).mpr c35)]
    rw [if_pos c35] at he
    left
    obtain ⟨V', q1, q2, q3, q4⟩ := push_C (fu := fu) (v := nI (w / 256)) hl h5 hs
    refine ⟨V', rs, tr, nI (w / 256) :: st, by rw [q1, bd_some, F_X4_step_166], Fr.weak q2 (by decide), ⟨by rw [q2 1408 (by decide)]; exact h8, by rw [q2 1406 (by decide)]; exact h6, by rw [q2 1407 (by decide)]; exact h7, q3, q4⟩, by rw [List.length_cons]; omega, hr31, he⟩
  rw [if_neg (fun z => c35 ((lit 35 (by omega)).mp z))]
  rw [if_neg c35] at he
  by_cases c38 : w % 256 = 38
  · rw [if_pos ((lit 38 (by omega)).mpr c38)]
    rw [if_pos c38] at he
    left
    have hF : ∀ x, Fr hw8 V (setV V 1406 0 0 x) := fun x => (Fr.refl _ V).set (by decide)
    cases tr with
    | false =>
      refine ⟨setV V 1406 0 0 (nI (w / 256)), w / 256, false, st, by rw [if_pos (htr.mpr rfl), F_X4_step_133, bv_eq, F_X4_step_166], hF _, ⟨by rw [setV_fn (by decide)]; exact h8, by rw [setV_at, if_pos ⟨rfl, rfl⟩], by rw [setV_fn (by decide)]; exact h7, by rw [setV_fn (by decide)]; exact h5, by rw [setV_fn (by decide)]; exact hs⟩, by omega, hdiv, he⟩
    | true =>
      refine ⟨setV V 1406 0 0 (nI rs), rs, true, st, by rw [if_neg (fun z => (by cases htr.mp z)), h6, F_X4_step_133, bv_eq, F_X4_step_166], hF _, ⟨by rw [setV_fn (by decide)]; exact h8, by rw [setV_at, if_pos ⟨rfl, rfl⟩], by rw [setV_fn (by decide)]; exact h7, by rw [setV_fn (by decide)]; exact h5, by rw [setV_fn (by decide)]; exact hs⟩, by omega, hr31, he⟩
  rw [if_neg (fun z => c38 ((lit 38 (by omega)).mp z))]
  rw [if_neg c38] at he
  by_cases c64 : w % 256 = 64
  · rw [if_pos ((lit 64 (by omega)).mpr c64)]
    rw [if_pos c64] at he
    left
    obtain ⟨V', q1, q2, q3, q4⟩ := push_C (fu := fu) (v := rs9 f (w / 256)) hl h5 hs
    have hl9 : lenV V 9 0 = 9 := by unfold lenV; rw [if_pos (by decide)]
    have h92 : F_X4_step_92 fu V (rs9 f (w / 256)) = some (0, V') := by rw [F_X4_step_92, q1, bd_some, F_X4_step_166]
    refine ⟨V', rs, tr, rs9 f (w / 256) :: st, ?_, Fr.weak q2 (by decide), ⟨by rw [q2 1408 (by decide)]; exact h8, by rw [q2 1406 (by decide)]; exact h6, by rw [q2 1407 (by decide)]; exact h7, q3, q4⟩, by rw [List.length_cons]; omega, hr31, he⟩
    rw [hl9, ← h92]
    by_cases z : 9 ≤ w / 256
    · rw [if_pos (nI_le z hdiv), show rs9 f (w / 256) = 0 from if_neg (by omega)]
    · rw [if_neg (nI_ge (by omega) (by omega)), nI_clamp hdiv, gd_t (show ¬ (nI (w / 256) < 0 ∨ 9 ≤ w / 256) from fun w => w.elim (nI_pos (by omega)) (fun w => z w)), show rs9 f (w / 256) = f (w / 256) from if_pos (by omega), hf]
  rw [if_neg (fun z => c64 ((lit 64 (by omega)).mp z))]
  rw [if_neg c64] at he
  by_cases c124 : w % 256 = 124
  · rw [if_pos ((lit 124 (by omega)).mpr c124)]
    rw [if_pos c124] at he
    left
    have hF : ∀ x, Fr hw8 V (setV V 1406 0 0 x) := fun x => (Fr.refl _ V).set (by decide)
    cases tr with
    | false =>
      refine ⟨setV V 1406 0 0 (nI rs), rs, false, st, by rw [if_pos (htr.mpr rfl), h6, F_X4_step_155, bv_eq, F_X4_step_166], hF _, ⟨by rw [setV_fn (by decide)]; exact h8, by rw [setV_at, if_pos ⟨rfl, rfl⟩], by rw [setV_fn (by decide)]; exact h7, by rw [setV_fn (by decide)]; exact h5, by rw [setV_fn (by decide)]; exact hs⟩, by omega, hr31, he⟩
    | true =>
      refine ⟨setV V 1406 0 0 (nI (w / 256)), w / 256, true, st, by rw [if_neg (fun z => (by cases htr.mp z)), F_X4_step_155, bv_eq, F_X4_step_166], hF _, ⟨by rw [setV_fn (by decide)]; exact h8, by rw [setV_at, if_pos ⟨rfl, rfl⟩], by rw [setV_fn (by decide)]; exact h7, by rw [setV_fn (by decide)]; exact h5, by rw [setV_fn (by decide)]; exact hs⟩, by omega, hdiv, he⟩
  rw [if_neg (fun z => c124 ((lit 124 (by omega)).mp z))]
  rw [if_neg c124] at he
  match st, hl, h5, hs, he with
  | [], _, _, _, he => cases he
  | [x], _, _, _, he => cases he
  | r :: l :: st, hl, h5, hs, he =>
    obtain ⟨V1, q1, q2, q3, q4⟩ := pop_C (fu := fu) (v := r) (st := l :: st) (by omega) h5 hs
    obtain ⟨V2, s1, s2, s3, s4⟩ := pop_C (fu := fu) (V := V1) (v := l) (st := st) (by rw [List.length_cons] at hl; omega) q3 q4
    have hF2 : Fr hw8 V V2 := (Fr.weak q2 (by decide)).trans (Fr.weak s2 (by decide))
    have k8 : V2 1408 0 0 = 0 := by rw [s2 1408 (by decide), q2 1408 (by decide)]; exact h8
    have k6 : V2 1406 0 0 = nI rs := by rw [s2 1406 (by decide), q2 1406 (by decide)]; exact h6
    have k7 : V2 1407 0 0 = b01 tr := by rw [s2 1407 (by decide), q2 1407 (by decide)]; exact h7
    have hlen : st.length < 160 := by simp only [List.length_cons] at hl; omega
    have hll : st.length + 1 ≤ (r :: l :: st).length + 1 := by simp only [List.length_cons]; omega
    have hj : f_X4_join fu V (nI (w % 256)) = if nI (w % 256) = nI 42 then (bd (f_X4_push fu V2 (l * r)) fun r8 V9 => F_X4_join_180 fu V9) else if nI (w % 256) = nI 43 then (bd (f_X4_push fu V2 (l + r)) fun r12 V13 => F_X4_join_180 fu V13) else if nI (w % 256) = nI 45 then (bd (f_X4_push fu V2 (l - r)) fun r16 V17 => F_X4_join_180 fu V17) else if nI (w % 256) = nI 60 then (if r ≤ l then (F_X4_join_79 fu V2 (0)) else (F_X4_join_79 fu V2 (1))) else if nI (w % 256) = nI 61 then (if l = r then (F_X4_join_113 fu V2 (1)) else (F_X4_join_113 fu V2 (0))) else if nI (w % 256) = nI 62 then (if l ≤ r then (F_X4_join_96 fu V2 (0)) else (F_X4_join_96 fu V2 (1))) else if r = 0 then (bv (setV V2 1408 0 0 (1)) fun V24 => F_X4_join_180 fu V24) else (if nI (w % 256) = nI 47 then (gd (¬ r = 0) <| F_X4_join_177 fu V2 (l / r)) else (gd (¬ r = 0) <| F_X4_join_177 fu V2 (l - l / r * r))) := by
      rw [f_X4_join, q1, bd_some, s1, bd_some]; rfl
    simp only [jnC] at he
    have psh : ∀ v : Int32, ∃ V', f_X4_push fu V2 v = some (0, V') ∧ Fr hw8 V V' ∧ HC V' rs tr (v :: st) := fun v => by
      obtain ⟨V', p1, p2, p3, p4⟩ := push_C (fu := fu) (V := V2) (v := v) hlen s3 s4
      exact ⟨V', p1, hF2.trans (Fr.weak p2 (by decide)), by rw [p2 1408 (by decide)]; exact k8, by rw [p2 1406 (by decide)]; exact k6, by rw [p2 1407 (by decide)]; exact k7, p3, p4⟩
    have cmp : ∀ bb : Bool, HC (setV V2 1407 0 0 (b01 bb)) rs bb st ∧ Fr hw8 V (setV V2 1407 0 0 (b01 bb)) := fun bb => ⟨⟨by rw [setV_fn (by decide)]; exact k8, by rw [setV_fn (by decide)]; exact k6, by rw [setV_at, if_pos ⟨rfl, rfl⟩], by rw [setV_fn (by decide)]; exact s3, by rw [setV_fn (by decide)]; exact s4⟩, hF2.set (by decide)⟩
    rw [hj]
    by_cases d1 : w % 256 = 42
    · rw [if_pos ((lit 42 (by omega)).mpr d1)]
      rw [d1] at he
      obtain ⟨V', p1, p2, p3⟩ := psh (l * r)
      exact .inl ⟨V', rs, tr, (l * r) :: st, by rw [p1, bd_some, F_X4_join_180, bd_some, F_X4_step_166], p2, p3, by simp only [List.length_cons]; omega, hr31, he⟩
    rw [if_neg (fun z => d1 ((lit 42 (by omega)).mp z))]
    by_cases d2 : w % 256 = 43
    · rw [if_pos ((lit 43 (by omega)).mpr d2)]
      rw [d2] at he
      obtain ⟨V', p1, p2, p3⟩ := psh (l + r)
      exact .inl ⟨V', rs, tr, (l + r) :: st, by rw [p1, bd_some, F_X4_join_180, bd_some, F_X4_step_166], p2, p3, by simp only [List.length_cons]; omega, hr31, he⟩
    rw [if_neg (fun z => d2 ((lit 43 (by omega)).mp z))]
    by_cases d3 : w % 256 = 45
    · rw [if_pos ((lit 45 (by omega)).mpr d3)]
      rw [d3] at he
      obtain ⟨V', p1, p2, p3⟩ := psh (l - r)
      exact .inl ⟨V', rs, tr, (l - r) :: st, by rw [p1, bd_some, F_X4_join_180, bd_some, F_X4_step_166], p2, p3, by simp only [List.length_cons]; omega, hr31, he⟩
    rw [if_neg (fun z => d3 ((lit 45 (by omega)).mp z))]
    by_cases d4 : w % 256 = 60
    · rw [if_pos ((lit 60 (by omega)).mpr d4)]
      rw [d4, if_pos (.inl rfl)] at he
      left
      refine ⟨setV V2 1407 0 0 (b01 (cmV 60 l r)), rs, cmV 60 l r, st, ?_, (cmp _).2, (cmp _).1, by simp only [List.length_cons]; omega, hr31, he⟩
      have e60 : cmV 60 l r = decide (l < r) := rfl
      by_cases y : r ≤ l
      · rw [if_pos y, F_X4_join_79, gd_t (.inl rfl), bv_eq, F_X4_join_180, bd_some, F_X4_step_166, e60, decide_eq_false (show ¬ l < r by grind)]; rfl
      · rw [if_neg y, F_X4_join_79, gd_t (.inr rfl), bv_eq, F_X4_join_180, bd_some, F_X4_step_166, e60, decide_eq_true (show l < r by grind)]; rfl
    rw [if_neg (fun z => d4 ((lit 60 (by omega)).mp z))]
    by_cases d5 : w % 256 = 61
    · rw [if_pos ((lit 61 (by omega)).mpr d5)]
      rw [d5, if_pos (.inr (.inl rfl))] at he
      left
      refine ⟨setV V2 1407 0 0 (b01 (cmV 61 l r)), rs, cmV 61 l r, st, ?_, (cmp _).2, (cmp _).1, by simp only [List.length_cons]; omega, hr31, he⟩
      have e61 : cmV 61 l r = decide (l = r) := rfl
      by_cases y : l = r
      · rw [if_pos y, F_X4_join_113, gd_t (.inr rfl), bv_eq, F_X4_join_180, bd_some, F_X4_step_166, e61, decide_eq_true y]; rfl
      · rw [if_neg y, F_X4_join_113, gd_t (.inl rfl), bv_eq, F_X4_join_180, bd_some, F_X4_step_166, e61, decide_eq_false y]; rfl
    rw [if_neg (fun z => d5 ((lit 61 (by omega)).mp z))]
    by_cases d6 : w % 256 = 62
    · rw [if_pos ((lit 62 (by omega)).mpr d6)]
      rw [d6, if_pos (.inr (.inr rfl))] at he
      left
      refine ⟨setV V2 1407 0 0 (b01 (cmV 62 l r)), rs, cmV 62 l r, st, ?_, (cmp _).2, (cmp _).1, by simp only [List.length_cons]; omega, hr31, he⟩
      have e62 : cmV 62 l r = decide (r < l) := rfl
      by_cases y : l ≤ r
      · rw [if_pos y, F_X4_join_96, gd_t (.inl rfl), bv_eq, F_X4_join_180, bd_some, F_X4_step_166, e62, decide_eq_false (show ¬ r < l by grind)]; rfl
      · rw [if_neg y, F_X4_join_96, gd_t (.inr rfl), bv_eq, F_X4_join_180, bd_some, F_X4_step_166, e62, decide_eq_true (show r < l by grind)]; rfl
    rw [if_neg (fun z => d6 ((lit 62 (by omega)).mp z))]
    rw [if_neg (show ¬ (w % 256 = 60 ∨ w % 256 = 61 ∨ w % 256 = 62) by omega)] at he
    unfold opV at he
    rw [if_neg d1, if_neg d2, if_neg d3] at he
    by_cases hz : r = 0
    · rw [if_pos hz]
      rw [if_pos hz] at he
      right
      exact ⟨setV V2 1408 0 0 1, by rw [bv_eq, F_X4_join_180, bd_some, F_X4_step_166], hF2.set (by decide), by rw [setV_at, if_pos ⟨rfl, rfl⟩], (Option.some.inj he).symm⟩
    · rw [if_neg hz]
      rw [if_neg hz] at he
      left
      by_cases d7 : w % 256 = 47
      · rw [if_pos ((lit 47 (by omega)).mpr d7)]
        rw [if_pos d7] at he
        obtain ⟨V', p1, p2, p3⟩ := psh (l / r)
        exact ⟨V', rs, tr, (l / r) :: st, by rw [gd_t hz, F_X4_join_177, p1, bd_some, F_X4_join_180, bd_some, F_X4_step_166], p2, p3, by simp only [List.length_cons]; omega, hr31, he⟩
      · rw [if_neg (fun z => d7 ((lit 47 (by omega)).mp z))]
        rw [if_neg d7] at he
        obtain ⟨V', p1, p2, p3⟩ := psh (l - l / r * r)
        exact ⟨V', rs, tr, (l - l / r * r) :: st, by rw [gd_t hz, F_X4_join_177, p1, bd_some, F_X4_join_180, bd_some, F_X4_step_166], p2, p3, by simp only [List.length_cons]; omega, hr31, he⟩
theorem run_C {fu i j e s : Nat} {cw : Nat → Nat} {f : Nat → Int32} (hfu : 1000 ≤ fu) : ∀ (m N p rs : Nat) (tr b : Bool) (st : List Int32) (V : St), p + m = e → m + 1 < N → s ≤ p → st.length + m ≤ 160 → OC V i j e cw s f → HC V rs tr st → rs < 2 ^ 31 → evC cw (rs9 f) m p rs tr st = some b → ∃ V1, Lp_X4_holds_40 (F_X4_holds_84 fu) fu N V (nI i) (nI j) (nI p) = some (b01 b, V1) ∧ Fr hw8 V V1 := by
  have done : ∀ (V : St) (tr : Bool), V 1408 0 0 = 0 → V 1407 0 0 = b01 tr → F_X4_holds_84 fu V = some (b01 tr, V) := fun V tr h8 h7 => by
    rw [F_X4_holds_84, h7, h8]
    cases tr with
    | false => rw [if_pos rfl, F_X4_holds_102, F_X4_holds_103, gd_t (.inl rfl)]; rfl
    | true => rw [if_neg (by decide), if_pos rfl, F_X4_holds_103, gd_t (.inr rfl)]; rfl
  have doner : ∀ (V : St), V 1408 0 0 = 1 → F_X4_holds_84 fu V = some (b01 false, V) := fun V h8 => by
    rw [F_X4_holds_84, h8]
    by_cases z : V 1407 0 0 = 0
    · rw [if_pos z, F_X4_holds_102, F_X4_holds_103, gd_t (.inl rfl)]; rfl
    · rw [if_neg z, if_neg (by decide), F_X4_holds_102, F_X4_holds_103, gd_t (.inl rfl)]; rfl
  intro m
  induction m with
  | zero =>
    intro N p rs tr b st V hp hN' hsp hlen hO hH hrs he
    obtain ⟨N, rfl⟩ : ∃ N2, N = N2 + 1 := ⟨N - 1, by omega⟩
    obtain ⟨o1, o2, o3, o4, o5, o6, o7, o8, o9⟩ := hO
    have hb : tr = b := Option.some.inj he
    subst hb
    refine ⟨V, ?_, Fr.refl _ V⟩
    rw [Lp_X4_holds_40, F_X4_holds_40, nI_clamp (show i < 2 ^ 31 by omega), gd_t ⟨nI_pos (by omega), o1⟩, nI_clamp (show j < 2 ^ 31 by omega), gd_t (show ¬ (nI j < 0 ∨ lenV V 1001704 i ≤ j) from fun w => w.elim (nI_pos (by omega)) (fun w => by omega)), o5, if_pos (nI_le (by omega) (by omega)), done V tr hH.1 hH.2.2.1]
  | succ m ih =>
    intro N p rs tr b st V hp hN' hsp hlen hO hH hrs he
    obtain ⟨N, rfl⟩ : ∃ N2, N = N2 + 1 := ⟨N - 1, by omega⟩
    have hOO := hO
    obtain ⟨o1, o2, o3, o4, o5, o6, o7, o8, o9⟩ := hO
    have hun : Lp_X4_holds_40 (F_X4_holds_84 fu) fu (N + 1) V (nI i) (nI j) (nI p) = if nI p < nI rs then (F_X4_holds_78 (Lp_X4_holds_40 (F_X4_holds_84 fu) fu N) (F_X4_holds_84 fu) fu V (nI i) (nI j) (nI p)) else (bd (f_X4_step fu V (nI (cw p))) fun r8 V9 => F_X4_holds_78 (Lp_X4_holds_40 (F_X4_holds_84 fu) fu N) (F_X4_holds_84 fu) fu V9 (nI i) (nI j) (nI p)) := by
      rw [Lp_X4_holds_40, F_X4_holds_40, nI_clamp (show i < 2 ^ 31 by omega), gd_t ⟨nI_pos (by omega), o1⟩, nI_clamp (show j < 2 ^ 31 by omega), gd_t (show ¬ (nI j < 0 ∨ lenV V 1001704 i ≤ j) from fun w => w.elim (nI_pos (by omega)) (fun w => by omega)), o5, if_neg (nI_ge (by omega) (by omega)), hH.1, if_pos rfl, hH.2.1, nI_clamp (show p < 2 ^ 31 by omega), gd_t (show ¬ (nI p < 0 ∨ lenV V 1001790 i ≤ p) from fun w => w.elim (nI_pos (by omega)) (fun w => by omega)), (o8 p hsp (by omega)).2]
    rw [hun]
    by_cases hs : p < rs
    · rw [if_pos (nI_lt hs hrs), F_X4_holds_78, nI_1]
      rw [evC, if_pos hs] at he
      exact ih N (p + 1) rs tr b st V (by omega) (by omega) (by omega) (by omega) hOO hH hrs he
    · rw [if_neg (nI_nlt (by omega) (by omega))]
      rcases step_C (fu := fu) (o8 p hsp (by omega)).1 rfl hs hrs o9 (by omega) hH he with ⟨V', rs', tr', st', q1, q2, q3, q4, q4b, q5⟩ | ⟨V', q1, q2, q3, q4⟩
      · rw [q1, bd_some, F_X4_holds_78, nI_1]
        obtain ⟨V1, z1, z2⟩ := ih N (p + 1) rs' tr' b st' V' (by omega) (by omega) (by omega) (by omega) (hOO.fr q2) q3 q4b q5
        exact ⟨V1, z1, q2.trans z2⟩
      · subst q4
        rw [q1, bd_some, F_X4_holds_78, nI_1]
        obtain ⟨N, rfl⟩ : ∃ N2, N = N2 + 1 := ⟨N - 1, by omega⟩
        refine ⟨V', ?_, q2⟩
        obtain ⟨p1, p2, p3, p4, p5, p6, p7, p8, p9⟩ := hOO.fr q2
        rw [Lp_X4_holds_40, F_X4_holds_40, nI_clamp (show i < 2 ^ 31 by omega), gd_t ⟨nI_pos (by omega), p1⟩, nI_clamp (show j < 2 ^ 31 by omega), gd_t (show ¬ (nI j < 0 ∨ lenV V' 1001704 i ≤ j) from fun w => w.elim (nI_pos (by omega)) (fun w => by omega)), p5]
        by_cases y : nI e ≤ nI (p + 1)
        · rw [if_pos y, doner V' q3]
        · rw [if_neg y, q3, if_neg (by decide), doner V' q3]
