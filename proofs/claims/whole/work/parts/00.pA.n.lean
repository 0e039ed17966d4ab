/-! the reference's machine, linked -/
def HR (V : St) (st : List Int32) : Prop := stL (V 2271 0) st
def OR (V : St) (i j e s : Nat) (sd : Nat → Nat) (f : Nat → Int32) : Prop := i < 30 ∧ j < 12 ∧ e ≤ 180 ∧ V 2267 0 (12 * i + j) = nI (180 * i + e) ∧ (∀ k, s ≤ k → k < e → sd k < 2 ^ 31 ∧ V 2260 0 (180 * i + k) = nI (sd k)) ∧ V 2272 0 = f
theorem OR.fr {V V' : St} {i j e s : Nat} {sd : Nat → Nat} {f : Nat → Int32} (h : OR V i j e s sd f) (hF : Fr [2271] V V') : OR V' i j e s sd f := by
  unfold OR at h ⊢
  rw [hF 2267 (by decide), hF 2260 (by decide), hF 2272 (by decide)]; exact h
theorem reckon_R {fu op : Nat} {V : St} {l r v : Int32} (ho : op < 2 ^ 31) (h2 : 2 ≤ op) (hv : rkV op l r = some v) : f_X12_reckon fu V (nI op) l r = some (v, V) := by
  have lit : ∀ c : Nat, c < 256 → (nI op = nI c ↔ op = c) := fun c hc => nI_eq ho (by omega)
  have hu : f_X12_reckon fu V (nI op) l r = if nI op = nI 2 then (some (l + r, V)) else if nI op = nI 3 then (some (l - r, V)) else if nI op = nI 4 then (some (l * r, V)) else if nI op = nI 5 then (gd (¬ r = 0) <| some (l / r, V)) else if nI op = nI 6 then (gd (¬ r = 0) <| some (l - l / r * r, V)) else if nI op = nI 7 then (if r ≤ l then (F_X12_reckon_74 fu V (0)) else (F_X12_reckon_74 fu V (1))) else if nI op = nI 8 then (if l ≤ r then (F_X12_reckon_85 fu V (0)) else (F_X12_reckon_85 fu V (1))) else if l = r then (F_X12_reckon_96 fu V (1)) else (F_X12_reckon_96 fu V (0)) := rfl
  rw [hu]
  unfold rkV at hv
  by_cases c2 : op = 2
  · rw [if_pos c2] at hv; rw [if_pos ((lit 2 (by omega)).mpr c2), Option.some.inj hv]
  rw [if_neg c2] at hv; rw [if_neg (fun z => c2 ((lit 2 (by omega)).mp z))]
  by_cases c3 : op = 3
  · rw [if_pos c3] at hv; rw [if_pos ((lit 3 (by omega)).mpr c3), Option.some.inj hv]
  rw [if_neg c3] at hv; rw [if_neg (fun z => c3 ((lit 3 (by omega)).mp z))]
  by_cases c4 : op = 4
  · rw [if_pos c4] at hv; rw [if_pos ((lit 4 (by omega)).mpr c4), Option.some.inj hv]
  rw [if_neg c4] at hv; rw [if_neg (fun z => c4 ((lit 4 (by omega)).mp z))]
  by_cases c7 : op = 7
  · rw [if_pos c7] at hv
    rw [if_neg (fun z => by have := (lit 5 (by omega)).mp z; omega), if_neg (fun z => by have := (lit 6 (by omega)).mp z; omega), if_pos ((lit 7 (by omega)).mpr c7), ← Option.some.inj hv]
    by_cases y : r ≤ l
    · rw [if_pos y, F_X12_reckon_74, decide_eq_false (show ¬ l < r by grind)]; rfl
    · rw [if_neg y, F_X12_reckon_74, decide_eq_true (show l < r by grind)]; rfl
  rw [if_neg c7] at hv
  by_cases c8 : op = 8
  · rw [if_pos c8] at hv
    rw [if_neg (fun z => by have := (lit 5 (by omega)).mp z; omega), if_neg (fun z => by have := (lit 6 (by omega)).mp z; omega), if_neg (fun z => c7 ((lit 7 (by omega)).mp z)), if_pos ((lit 8 (by omega)).mpr c8), ← Option.some.inj hv]
    by_cases y : l ≤ r
    · rw [if_pos y, F_X12_reckon_85, decide_eq_false (show ¬ r < l by grind)]; rfl
    · rw [if_neg y, F_X12_reckon_85, decide_eq_true (show r < l by grind)]; rfl
  rw [if_neg c8] at hv
  by_cases c5 : op = 5
  · rw [if_pos c5] at hv
    rw [if_pos ((lit 5 (by omega)).mpr c5)]
    by_cases y : r = 0
    · rw [if_pos y] at hv; cases hv
    · rw [if_neg y] at hv; rw [gd_t y, Option.some.inj hv]
  rw [if_neg c5] at hv; rw [if_neg (fun z => c5 ((lit 5 (by omega)).mp z))]
  by_cases c6 : op = 6
  · rw [if_pos c6] at hv
    rw [if_pos ((lit 6 (by omega)).mpr c6)]
    by_cases y : r = 0
    · rw [if_pos y] at hv; cases hv
    · rw [if_neg y] at hv; rw [gd_t y, Option.some.inj hv]
  rw [if_neg c6] at hv; rw [if_neg (fun z => c6 ((lit 6 (by omega)).mp z)), if_neg (fun z => c7 ((lit 7 (by omega)).mp z)), if_neg (fun z => c8 ((lit 8 (by omega)).mp z)), ← Option.some.inj hv]
  by_cases y : l = r
  · rw [if_pos y, F_X12_reckon_96, decide_eq_true y]; rfl
  · rw [if_neg y, F_X12_reckon_96, decide_eq_false y]; rfl
theorem rk_none {op : Nat} {l r : Int32} (h : rkV op l r = none) : (op = 5 ∨ op = 6) ∧ r = 0 := by
  unfold rkV at h
  repeat' split at h
  all_goals first | (cases h; done) | skip
  all_goals first | exact ⟨by omega, by assumption⟩ | omega
theorem run_R {fu i j e s : Nat} {sd : Nat → Nat} {f : Nat → Int32} (hs0 : s ≤ e) : ∀ (F N k : Nat) (b : Bool) (st : List Int32) (V : St), F ≤ N → s ≤ k → k < 2000000 → st.length + F ≤ 180 → OR V i j e s sd f → HR V st → (∀ q, s ≤ q → q < e → sd q / 1048576 = 11 ∨ sd q / 1048576 = 12 → s ≤ sd q % 1048576) → evR sd (rs9 f) e F k st = some b → ∃ V1, Lp_X12_holds_19 (F_X12_holds_210 fu) (F_X12_holds_242 fu) fu N V (nI (12 * i + j)) (nI st.length) (nI (180 * i)) (nI (180 * i + k)) = some (b01 b, V1) ∧ Fr [2271] V V1 := by
  intro F
  induction F with
  | zero => intro N k b st V _ _ _ _ _ _ _ he; cases he
  | succ F ih =>
    intro N k b st V hN' hk hk2 hlen hO hH hj he
    obtain ⟨N, rfl⟩ : ∃ N2, N = N2 + 1 := ⟨N - 1, by omega⟩
    have hOO := hO
    obtain ⟨o1, o2, o3, o4, o5, o6⟩ := hO
    have g360 : ¬ (nI (12 * i + j) < 0 ∨ 360 ≤ 12 * i + j) := fun w => w.elim (nI_pos (by omega)) (fun w => by omega)
    rw [evR] at he
    by_cases hE : e ≤ k
    · rw [if_pos hE] at he
      match st, hH, he with
      | [], _, he => cases he
      | x :: y :: st, _, he => cases he
      | [x], hH, he =>
        refine ⟨V, ?_, Fr.refl _ V⟩
        have hx : V 2271 0 0 = x := hH.1
        have hb : decide (x = 1) = b := Option.some.inj he
        rw [Lp_X12_holds_19, F_X12_holds_19, nI_clamp (show 12 * i + j < 2 ^ 31 by omega), gd_t g360, o4, if_pos (nI_le (by omega) (by omega)), F_X12_holds_242, c_0, gd_t (show ¬ ((0 : Int32) < 0 ∨ 180 ≤ 0) from fun w => w.elim (by decide) (fun w => by omega)), hx, ← hb]
        by_cases z : x = 1
        · rw [if_pos z, F_X12_holds_257, gd_t (.inr rfl), decide_eq_true z]; rfl
        · rw [if_neg z, F_X12_holds_257, gd_t (.inl rfl), decide_eq_false z]; rfl
    · rw [if_neg hE] at he
      obtain ⟨w1, w2⟩ := o5 k hk (by omega)
      have g54 : ¬ (nI (180 * i + k) < 0 ∨ 5400 ≤ 180 * i + k) := fun w => w.elim (nI_pos (by omega)) (fun w => by omega)
      have ed : nI (sd k) / 1048576 = nI (sd k / 1048576) := by rw [show (1048576 : Int32) = nI 1048576 from rfl, pk_div w1 (by omega) (by omega)]
      have em : nI (sd k) - nI (sd k) / 1048576 * 1048576 = nI (sd k % 1048576) := by rw [show (1048576 : Int32) = nI 1048576 from rfl, pk_rem w1 (by omega) (by omega)]
      rw [ed] at em
      have hop : sd k / 1048576 < 2 ^ 31 := Nat.lt_of_le_of_lt (Nat.div_le_self _ _) w1
      have hmd : sd k % 1048576 < 1048576 := Nat.mod_lt _ (by decide)
      have lit : ∀ c : Nat, c < 256 → (nI (sd k / 1048576) = nI c ↔ sd k / 1048576 = c) := fun c hc => nI_eq hop (by omega)
      have hun : Lp_X12_holds_19 (F_X12_holds_210 fu) (F_X12_holds_242 fu) fu (N + 1) V (nI (12 * i + j)) (nI st.length) (nI (180 * i)) (nI (180 * i + k)) = if nI (sd k / 1048576) = nI 0 then (F_X12_holds_73 (Lp_X12_holds_19 (F_X12_holds_210 fu) (F_X12_holds_242 fu) fu N) (F_X12_holds_210 fu) (F_X12_holds_242 fu) fu V (nI (12 * i + j)) (nI st.length) (nI (180 * i)) (nI (180 * i + (k + 1))) (nI (sd k / 1048576)) (nI (sd k % 1048576))) else if nI (sd k / 1048576) = nI 1 then (F_X12_holds_73 (Lp_X12_holds_19 (F_X12_holds_210 fu) (F_X12_holds_242 fu) fu N) (F_X12_holds_210 fu) (F_X12_holds_242 fu) fu V (nI (12 * i + j)) (nI st.length) (nI (180 * i)) (nI (180 * i + (k + 1))) (nI (sd k / 1048576)) (nI (sd k % 1048576))) else if nI (sd k / 1048576) = nI 10 then (gd (¬ (nI st.length - 1 < 0 ∨ 180 ≤ (nI st.length - 1).toNatClampNeg)) <| gd (¬ (nI st.length - 1 < 0 ∨ 180 ≤ (nI st.length - 1).toNatClampNeg)) <| bv (setV V 2271 (0) (nI st.length - 1).toNatClampNeg (1 - (V 2271 (0) (nI st.length - 1).toNatClampNeg))) fun V10 => F_X12_holds_239 (Lp_X12_holds_19 (F_X12_holds_210 fu) (F_X12_holds_242 fu) fu N) (F_X12_holds_210 fu) (F_X12_holds_242 fu) fu V10 (nI (12 * i + j)) (nI st.length) (nI (180 * i)) (nI (180 * i + (k + 1)))) else if nI (sd k / 1048576) = nI 11 then (F_X12_holds_145 (Lp_X12_holds_19 (F_X12_holds_210 fu) (F_X12_holds_242 fu) fu N) (F_X12_holds_210 fu) (F_X12_holds_242 fu) fu V (nI (12 * i + j)) (nI st.length) (nI (180 * i)) (nI (180 * i + (k + 1))) (nI (sd k / 1048576)) (nI (sd k % 1048576))) else if nI (sd k / 1048576) = nI 12 then (F_X12_holds_145 (Lp_X12_holds_19 (F_X12_holds_210 fu) (F_X12_holds_242 fu) fu N) (F_X12_holds_210 fu) (F_X12_holds_242 fu) fu V (nI (12 * i + j)) (nI st.length) (nI (180 * i)) (nI (180 * i + (k + 1))) (nI (sd k / 1048576)) (nI (sd k % 1048576))) else if nI (sd k / 1048576) = nI 5 then (F_X12_holds_201 (Lp_X12_holds_19 (F_X12_holds_210 fu) (F_X12_holds_242 fu) fu N) (F_X12_holds_210 fu) (F_X12_holds_242 fu) fu V (nI (12 * i + j)) (nI st.length - 1) (nI (180 * i)) (nI (180 * i + (k + 1))) (nI (sd k / 1048576))) else if nI (sd k / 1048576) = nI 6 then (F_X12_holds_201 (Lp_X12_holds_19 (F_X12_holds_210 fu) (F_X12_holds_242 fu) fu N) (F_X12_holds_210 fu) (F_X12_holds_242 fu) fu V (nI (12 * i + j)) (nI st.length - 1) (nI (180 * i)) (nI (180 * i + (k + 1))) (nI (sd k / 1048576))) else (F_X12_holds_212 (Lp_X12_holds_19 (F_X12_holds_210 fu) (F_X12_holds_242 fu) fu N) (F_X12_holds_210 fu) (F_X12_holds_242 fu) fu V (nI (12 * i + j)) (nI st.length - 1) (nI (180 * i)) (nI (180 * i + (k + 1))) (nI (sd k / 1048576))) := by
        rw [Lp_X12_holds_19, F_X12_holds_19, nI_clamp (show 12 * i + j < 2 ^ 31 by omega), gd_t g360, o4, if_neg (nI_ge (by omega) (by omega)), nI_clamp (show 180 * i + k < 2 ^ 31 by omega), gd_t g54, gd_t g54, w2, ed, em, nI_1]
        rfl
      have psh : ∀ v : Int32, st.length < 180 → ∃ V', F_X12_holds_95 (Lp_X12_holds_19 (F_X12_holds_210 fu) (F_X12_holds_242 fu) fu N) (F_X12_holds_210 fu) (F_X12_holds_242 fu) fu V (nI (12 * i + j)) (nI st.length) (nI (180 * i)) (nI (180 * i + (k + 1))) v (nI st.length) = Lp_X12_holds_19 (F_X12_holds_210 fu) (F_X12_holds_242 fu) fu N V' (nI (12 * i + j)) (nI (v :: st).length) (nI (180 * i)) (nI (180 * i + (k + 1))) ∧ Fr [2271] V V' ∧ HR V' (v :: st) := fun v hl => by
        refine ⟨setV V 2271 0 st.length v, ?_, (Fr.refl _ V).set (by decide), ?_, ?_⟩
        · rw [F_X12_holds_95, nI_clamp (show st.length < 2 ^ 31 by omega), gd_t (show ¬ (nI st.length < 0 ∨ 180 ≤ st.length) from fun w => w.elim (nI_pos (by omega)) (fun w => by omega)), bv_eq, F_X12_holds_239, nI_1]; rfl
        · rw [setV_at, if_pos ⟨rfl, rfl⟩]
        · refine stL.cg st hH (fun q hq => ?_)
          rw [setV_at, if_neg (fun z => by omega)]
      rw [hun]
      by_cases c0 : sd k / 1048576 = 0
      · rw [if_pos c0] at he
        rw [if_pos ((lit 0 (by omega)).mpr c0), F_X12_holds_73, if_pos (by rw [c0]; rfl)]
        obtain ⟨V', q1, q2, q3⟩ := psh (nI (sd k % 1048576)) (by omega)
        rw [q1]
        obtain ⟨V1, z1, z2⟩ := ih N (k + 1) b _ V' (by omega) (by omega) (by omega) (by rw [List.length_cons]; omega) (hOO.fr q2) q3 hj he
        exact ⟨V1, z1, q2.trans z2⟩
      rw [if_neg c0] at he
      rw [if_neg (fun z => c0 ((lit 0 (by omega)).mp z))]
      by_cases c1 : sd k / 1048576 = 1
      · rw [if_pos c1] at he
        rw [if_pos ((lit 1 (by omega)).mpr c1), F_X12_holds_73, if_neg (by rw [c1]; decide)]
        by_cases h9 : sd k % 1048576 < 9
        · rw [if_pos h9] at he
          obtain ⟨V', q1, q2, q3⟩ := psh (rs9 f (sd k % 1048576)) (by omega)
          rw [nI_clamp (show sd k % 1048576 < 2 ^ 31 by omega), gd_t (show ¬ (nI (sd k % 1048576) < 0 ∨ 9 ≤ sd k % 1048576) from fun w => w.elim (nI_pos (by omega)) (fun w => by omega)), o6, show f (sd k % 1048576) = rs9 f (sd k % 1048576) from (if_pos h9).symm, q1]
          obtain ⟨V1, z1, z2⟩ := ih N (k + 1) b _ V' (by omega) (by omega) (by omega) (by rw [List.length_cons]; omega) (hOO.fr q2) q3 hj he
          exact ⟨V1, z1, q2.trans z2⟩
        · rw [if_neg h9] at he; cases he
      rw [if_neg c1] at he
      rw [if_neg (fun z => c1 ((lit 1 (by omega)).mp z))]
      match st, hlen, hH, he with
      | [], _, _, he => cases he
      | x :: st, hlen, hH, he =>
        have hl2 : st.length + 1 + (F + 1) ≤ 180 := hlen
        have e1 : nI (x :: st).length - 1 = nI st.length := nI_pred st.length
        have gl : ¬ (nI st.length < 0 ∨ 180 ≤ st.length) := fun w => w.elim (nI_pos (by omega)) (fun w => by omega)
        have hx : V 2271 0 st.length = x := hH.1
        rw [e1, nI_clamp (show st.length < 2 ^ 31 by omega)]
        simp only [stR] at he
        by_cases c10 : sd k / 1048576 = 10
        · rw [if_pos c10] at he
          rw [if_pos ((lit 10 (by omega)).mpr c10), gd_t gl, gd_t gl, hx, bv_eq, F_X12_holds_239]
          have hF1 : Fr [2271] V (setV V 2271 0 st.length (1 - x)) := (Fr.refl _ V).set (by decide)
          have hH1 : HR (setV V 2271 0 st.length (1 - x)) ((1 - x) :: st) := ⟨by rw [setV_at, if_pos ⟨rfl, rfl⟩], stL.cg st hH.2 (fun q hq => by rw [setV_at, if_neg (fun z => by omega)])⟩
          obtain ⟨V1, z1, z2⟩ := ih N (k + 1) b _ _ (by omega) (by omega) (by omega) (by rw [List.length_cons]; omega) (hOO.fr hF1) hH1 hj he
          exact ⟨V1, z1, hF1.trans z2⟩
        rw [if_neg c10] at he
        rw [if_neg (fun z => c10 ((lit 10 (by omega)).mp z))]
        have jmp : ∀ (c12 : Int32), (if x = c12 then evR sd (rs9 f) e F (sd k % 1048576) (x :: st) else evR sd (rs9 f) e F (k + 1) st) = some b → s ≤ sd k % 1048576 → ∃ V1, F_X12_holds_165 (Lp_X12_holds_19 (F_X12_holds_210 fu) (F_X12_holds_242 fu) fu N) (F_X12_holds_210 fu) (F_X12_holds_242 fu) fu V (nI (12 * i + j)) (nI (x :: st).length) (nI (180 * i)) (nI (180 * i + (k + 1))) (nI (sd k % 1048576)) c12 x = some (b01 b, V1) ∧ Fr [2271] V V1 := fun c12 hq hs => by
          rw [F_X12_holds_165]
          by_cases z : x = c12
          · rw [if_pos z] at hq
            rw [if_pos z, nI_add, F_X12_holds_239]
            exact ih N (sd k % 1048576) b (x :: st) V (by omega) hs (by omega) (by rw [List.length_cons]; omega) hOO hH hj hq
          · rw [if_neg z] at hq
            rw [if_neg z, e1, F_X12_holds_239]
            exact ih N (k + 1) b st V (by omega) (by omega) (by omega) (by omega) hOO hH.2 hj hq
        by_cases c11 : sd k / 1048576 = 11
        · rw [if_pos c11] at he
          rw [if_pos ((lit 11 (by omega)).mpr c11), F_X12_holds_145, e1, nI_clamp (show st.length < 2 ^ 31 by omega), gd_t gl, if_neg (by rw [c11]; decide), hx]
          exact jmp 0 he (hj k hk (by omega) (.inl c11))
        rw [if_neg c11] at he
        rw [if_neg (fun z => c11 ((lit 11 (by omega)).mp z))]
        by_cases c12 : sd k / 1048576 = 12
        · rw [if_pos c12] at he
          rw [if_pos ((lit 12 (by omega)).mpr c12), F_X12_holds_145, e1, nI_clamp (show st.length < 2 ^ 31 by omega), gd_t gl, if_pos (by rw [c12]; rfl), hx]
          exact jmp 1 he (hj k hk (by omega) (.inr c12))
        rw [if_neg c12] at he
        rw [if_neg (fun z => c12 ((lit 12 (by omega)).mp z))]
        simp only [jnR] at he
        match st, hl2, hH, he, e1, gl, hx with
        | [], _, _, he, _, _, _ => cases he
        | y :: st, hl2, hH, he, e1, gl, hx =>
          have hl3 : st.length + 1 + 1 + (F + 1) ≤ 180 := hl2
          simp only [] at he
          have e2 : nI (y :: st).length - 1 = nI st.length := nI_pred st.length
          have gl2 : ¬ (nI st.length < 0 ∨ 180 ≤ st.length) := fun w => w.elim (nI_pos (by omega)) (fun w => by omega)
          have hy : V 2271 0 st.length = y := hH.2.1
          have h2 : 2 ≤ sd k / 1048576 := by omega
          cases hrk : rkV (sd k / 1048576) y x with
          | none =>
            rw [hrk] at he
            obtain ⟨h56, hx0⟩ := rk_none hrk
            have hb : false = b := Option.some.inj he
            subst hb
            have h201 : F_X12_holds_201 (Lp_X12_holds_19 (F_X12_holds_210 fu) (F_X12_holds_242 fu) fu N) (F_X12_holds_210 fu) (F_X12_holds_242 fu) fu V (nI (12 * i + j)) (nI (y :: st).length) (nI (180 * i)) (nI (180 * i + (k + 1))) (nI (sd k / 1048576)) = some (b01 false, V) := by
              rw [F_X12_holds_201, nI_clamp (show (y :: st).length < 2 ^ 31 by rw [List.length_cons]; omega), gd_t gl, hx, if_pos hx0, F_X12_holds_210]; rfl
            refine ⟨V, ?_, Fr.refl _ V⟩
            rcases h56 with z | z
            · rw [if_pos ((lit 5 (by omega)).mpr z), h201]
            · rw [if_neg (fun q => by have := (lit 5 (by omega)).mp q; omega), if_pos ((lit 6 (by omega)).mpr z), h201]
          | some v =>
            rw [hrk] at he
            have hrc := fun (W : St) => reckon_R (fu := fu) (V := W) hop h2 hrk
            have hF1 : Fr [2271] V (setV V 2271 0 st.length v) := (Fr.refl _ V).set (by decide)
            have hH1 : HR (setV V 2271 0 st.length v) (v :: st) := ⟨by rw [setV_at, if_pos ⟨rfl, rfl⟩], stL.cg st hH.2.2 (fun q hq => by rw [setV_at, if_neg (fun z => by omega)])⟩
            obtain ⟨V1, z1, z2⟩ := ih N (k + 1) b _ _ (by omega) (by omega) (by omega) (by rw [List.length_cons]; omega) (hOO.fr hF1) hH1 hj he
            have h212 : F_X12_holds_212 (Lp_X12_holds_19 (F_X12_holds_210 fu) (F_X12_holds_242 fu) fu N) (F_X12_holds_210 fu) (F_X12_holds_242 fu) fu V (nI (12 * i + j)) (nI (y :: st).length) (nI (180 * i)) (nI (180 * i + (k + 1))) (nI (sd k / 1048576)) = some (b01 b, V1) := by
              rw [F_X12_holds_212, e2, nI_clamp (show st.length < 2 ^ 31 by omega), gd_t gl2, nI_clamp (show (y :: st).length < 2 ^ 31 by rw [List.length_cons]; omega), gd_t gl, hy, hx, hrc, bd_some, gd_t gl2, bv_eq, F_X12_holds_239]
              exact z1
            refine ⟨V1, ?_, hF1.trans z2⟩
            have h201 : ((sd k / 1048576 = 5 ∨ sd k / 1048576 = 6)) → F_X12_holds_201 (Lp_X12_holds_19 (F_X12_holds_210 fu) (F_X12_holds_242 fu) fu N) (F_X12_holds_210 fu) (F_X12_holds_242 fu) fu V (nI (12 * i + j)) (nI (y :: st).length) (nI (180 * i)) (nI (180 * i + (k + 1))) (nI (sd k / 1048576)) = some (b01 b, V1) := fun h56 => by
              have hx0 : ¬ x = 0 := fun z => by
                subst z
                unfold rkV at hrk
                rcases h56 with q | q <;> rw [q] at hrk <;> simp at hrk
              rw [F_X12_holds_201, nI_clamp (show (y :: st).length < 2 ^ 31 by rw [List.length_cons]; omega), gd_t gl, hx, if_neg hx0, h212]
            by_cases c5 : sd k / 1048576 = 5
            · rw [if_pos ((lit 5 (by omega)).mpr c5), h201 (.inl c5)]
            rw [if_neg (fun z => c5 ((lit 5 (by omega)).mp z))]
            by_cases c6 : sd k / 1048576 = 6
            · rw [if_pos ((lit 6 (by omega)).mpr c6), h201 (.inr c6)]
            rw [if_neg (fun z => c6 ((lit 6 (by omega)).mp z)), h212]
