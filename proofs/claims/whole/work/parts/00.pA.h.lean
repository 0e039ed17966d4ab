/-! the reference's reader: small steps -/
def sdV (U : St) (k : Nat) : Nat := (U 2251 0 k).toNatClampNeg
def nnR (U : St) (s e : Nat) : Prop := ∀ k, s ≤ k → k < e → ¬ U 2251 0 k < 0
def agS (U U' : St) (s e : Nat) : Prop := ∀ k, s ≤ k → k < e → U' 2251 0 k = U 2251 0 k
def agW (U U' : St) (w : Nat) : Prop := ∀ i, i < w → U' 2252 0 i = U 2252 0 i
def RFf (U : St) (s e : Nat) (ds : List Den) : Prop := FLR (sdV U) s e ds ∧ nnR U s e
theorem agS.c {U U' : St} {s e : Nat} (h : agS U U' s e) : agC (sdV U) (sdV U') s e := fun k k1 k2 => by unfold sdV; rw [h k k1 k2]
theorem nnR.cg {U U' : St} {s e : Nat} (h : nnR U s e) (ha : agS U U' s e) : nnR U' s e := fun k k1 k2 => by rw [ha k k1 k2]; exact h k k1 k2
theorem nnR.app {U : St} {s e e' : Nat} (h : nnR U s e) (h' : nnR U e e') : nnR U s e' := fun k k1 k2 => by
  by_cases z : k < e
  · exact h k k1 z
  · exact h' k (by omega) k2
theorem RFf.cg {U U' : St} {s e : Nat} {ds : List Den} (h : RFf U s e ds) (ha : agS U U' s e) : RFf U' s e ds := ⟨h.1.cg ha.c, h.2.cg ha⟩
theorem RFf.app {U : St} {s e e' : Nat} {ds : List Den} {d : Den} (h : RFf U s e ds) (h' : RFf U e e' [d]) : RFf U s e' (d :: ds) := ⟨h.1.app h'.1, h.2.app h'.2⟩
def rfw : List Nat := [2243, 2245, 2246, 2247, 2248, 2249, 2251, 2252]
def RQ (U : St) (T : Nat → Int32) (n p o c w : Nat) : Prop := TxR U T n ∧ U 2243 0 0 = nI p ∧ U 2247 0 0 = nI o ∧ U 2248 0 0 = nI c ∧ U 2249 0 0 = nI w
def syV (U : St) (c w : Nat) : St := setV (setV U 2251 0 c (nI w)) 2248 0 0 (nI (c + 1))
theorem syV_fr (U : St) (c w : Nat) : Fr [2248, 2251] U (syV U c w) := ((Fr.refl _ U).set (by decide)).set (by decide)
theorem syV_old {U : St} {c w k : Nat} (h : k ≠ c) : syV U c w 2251 0 k = U 2251 0 k := by
  unfold syV; rw [setV_fn (by decide), setV_at, if_neg (fun z => h z.2)]
theorem syV_new {U : St} {c w : Nat} : syV U c w 2251 0 c = nI w := by
  unfold syV; rw [setV_fn (by decide), setV_at, if_pos ⟨rfl, rfl⟩]
theorem syV_sz {U : St} {c w : Nat} : syV U c w 2248 0 0 = nI (c + 1) := by
  unfold syV; rw [setV_at, if_pos ⟨rfl, rfl⟩]
theorem syV_cw {U : St} {c w : Nat} (hw : w < 2 ^ 31) : sdV (syV U c w) c = w := by unfold sdV; rw [syV_new, nI_clamp hw]
theorem says_R {fu c op v : Nat} {U : St} (hc : c < 180) (h : U 2248 0 0 = nI c) : f_X12_says fu U (nI op) (nI v) = some (0, syV U c (1048576 * op + v)) := by
  have e1 : (1048576 : Int32) * nI op + nI v = nI (1048576 * op + v) := by rw [show (1048576 : Int32) = nI 1048576 from rfl, pk_mul, nI_add]
  have g : ¬ (nI c < 0 ∨ 180 ≤ c) := fun w => w.elim (nI_pos (by omega)) (fun w => by omega)
  have e3 : setV U 2251 0 c (nI (1048576 * op + v)) 2248 0 0 = nI c := by rw [setV_fn (by decide)]; exact h
  rw [f_X12_says, h, nI_clamp (show c < 2 ^ 31 by omega), gd_t g, e1, bv_eq, e3, nI_1, bv_eq]
  rfl
theorem wrong_R {fu k p : Nat} {U : St} : f_X12_wrong fu U (nI k) (nI p) = some (0, setV U 2245 0 0 (flt k p)) := by
  rw [f_X12_wrong, bv_eq]; rfl
theorem top_0 {fu : Nat} {U : St} (h : U 2249 0 0 = nI 0) : f_X12_top fu U = some (-1, U) := by
  rw [f_X12_top, h, if_pos (by decide), F_X12_top_26]
theorem top_S {fu w x : Nat} {U : St} (hw : w < 180) (hx : x < 2 ^ 31) (h : U 2249 0 0 = nI (w + 1)) (hv : U 2252 0 w = nI x) : f_X12_top fu U = some (nI (x / 1048576), U) := by
  have e1 : nI (w + 1) - 1 = nI w := nI_pred w
  have g : ¬ (nI w < 0 ∨ 180 ≤ w) := fun w => w.elim (nI_pos (by omega)) (fun w => by omega)
  have e2 : nI x / 1048576 = nI (x / 1048576) := by rw [show (1048576 : Int32) = nI 1048576 from rfl, pk_div hx (by omega) (by omega)]
  rw [f_X12_top, h, if_neg (nI_ne0 (by omega) (by omega)), e1, nI_clamp (show w < 2 ^ 31 by omega), gd_t g, hv, e2, F_X12_top_26]
def opV2 (U : St) (p o w what : Nat) : St := setV (setV (setV (setV U 2247 0 0 (nI (o + 1))) 2252 0 w (nI (1048576 * what))) 2249 0 0 (nI (w + 1))) 2243 0 0 (nI (p + 1))
theorem opens_R {fu n p o c w what : Nat} {U : St} {T : Nat → Int32} (h : RQ U T n p o c w) (hw : w < 180) (ho : o < 6) : f_X12_opens fu U (nI what) = some (1, opV2 U p o w what) ∧ RQ (opV2 U p o w what) T n (p + 1) (o + 1) c (w + 1) ∧ Fr [2243, 2247, 2249, 2252] U (opV2 U p o w what) ∧ opV2 U p o w what 2252 0 w = nI (1048576 * what) ∧ agW U (opV2 U p o w what) w := by
  obtain ⟨h1, h2, h3, h4, h5⟩ := h
  have hne : ¬ nI o = 6 := fun z => by have := (nI_eq (b := 6) (by omega) (by omega)).mp z; omega
  have g : ¬ (nI w < 0 ∨ 180 ≤ w) := fun w => w.elim (nI_pos (by omega)) (fun w => by omega)
  have hF : Fr [2243, 2247, 2249, 2252] U (opV2 U p o w what) := ((((Fr.refl _ U).set (by decide)).set (by decide)).set (by decide)).set (by decide)
  have em : (1048576 : Int32) * nI what = nI (1048576 * what) := by rw [show (1048576 : Int32) = nI 1048576 from rfl, pk_mul]
  refine ⟨?_, ⟨h1.fr hF (by decide), ?_, ?_, ?_, ?_⟩, hF, ?_, fun i hi => ?_⟩
  · rw [f_X12_opens, h3, if_neg hne, nI_1, bv_eq, setV_fn (show 2249 ≠ 2247 by decide), h5, nI_clamp (show w < 2 ^ 31 by omega), gd_t g, em, bv_eq, setV_fn (show 2249 ≠ 2252 by decide), setV_fn (show 2249 ≠ 2247 by decide), h5, nI_1, bv_eq, setV_fn (show 2243 ≠ 2249 by decide), setV_fn (show 2243 ≠ 2252 by decide), setV_fn (show 2243 ≠ 2247 by decide), h2, nI_1, bv_eq]
    rfl
  · unfold opV2; rw [setV_at, if_pos ⟨rfl, rfl⟩]
  · unfold opV2; rw [setV_fn (by decide), setV_fn (by decide), setV_fn (by decide), setV_at, if_pos ⟨rfl, rfl⟩]
  · rw [hF 2248 (by decide)]; exact h4
  · unfold opV2; rw [setV_fn (by decide), setV_at, if_pos ⟨rfl, rfl⟩]
  · unfold opV2; rw [setV_fn (by decide), setV_fn (by decide), setV_at, if_pos ⟨rfl, rfl⟩]
  · unfold opV2; rw [setV_fn (by decide), setV_fn (by decide), setV_at, if_neg (fun z => by omega), setV_fn (by decide)]
theorem opens_6 {fu n p c w what : Nat} {U : St} {T : Nat → Int32} (h : RQ U T n p 6 c w) : f_X12_opens fu U (nI what) = some (0, setV U 2245 0 0 (flt 5 p)) := by
  rw [f_X12_opens, h.2.2.1, if_pos (show nI 6 = 6 from rfl), h.2.1, show f_X12_wrong fu U 5 (nI p) = some (0, setV U 2245 0 0 (flt 5 p)) from wrong_R, bd_some, gd_t (.inl rfl)]
theorem has_R {fu w b : Nat} {U : St} (hw : w ≤ 180) (h5 : U 2249 0 0 = nI w) (hx : ∀ i, b ≤ i → i < w → ∃ x, x < 2 ^ 31 ∧ U 2252 0 i = nI x) : ∀ (N i : Nat), b ≤ i → i ≤ w → w < i + N → (Lp_X12_hasOpenSum_2 (F_X12_hasOpenSum_25 fu) (F_X12_hasOpenSum_33 fu) fu N U (nI i) = some (1, U) ∧ ∃ k x, i ≤ k ∧ k < w ∧ U 2252 0 k = nI x ∧ x < 2 ^ 31 ∧ x / 1048576 = 14) ∨ (Lp_X12_hasOpenSum_2 (F_X12_hasOpenSum_25 fu) (F_X12_hasOpenSum_33 fu) fu N U (nI i) = some (0, U) ∧ ∀ k x, i ≤ k → k < w → U 2252 0 k = nI x → x < 2 ^ 31 → x / 1048576 ≠ 14) := by
  intro N
  induction N with
  | zero => intro i h1 h2 h3; omega
  | succ N ih =>
    intro i h1 h2 h3
    by_cases z : w ≤ i
    · right
      refine ⟨?_, fun k x k1 k2 => by omega⟩
      rw [Lp_X12_hasOpenSum_2, F_X12_hasOpenSum_2, h5, if_pos (nI_le z (by omega)), F_X12_hasOpenSum_33]
    · obtain ⟨x, x1, x2⟩ := hx i h1 (by omega)
      have g : ¬ (nI i < 0 ∨ 180 ≤ i) := fun w => w.elim (nI_pos (by omega)) (fun w => by omega)
      have e2 : nI x / 1048576 = nI (x / 1048576) := by rw [show (1048576 : Int32) = nI 1048576 from rfl, pk_div x1 (by omega) (by omega)]
      have hlt : x / 1048576 < 2 ^ 31 := Nat.lt_of_le_of_lt (Nat.div_le_self _ _) x1
      by_cases y : x / 1048576 = 14
      · left
        refine ⟨?_, i, x, Nat.le_refl i, by omega, x2, x1, y⟩
        rw [Lp_X12_hasOpenSum_2, F_X12_hasOpenSum_2, h5, if_neg (nI_ge (by omega) (by omega)), nI_clamp (show i < 2 ^ 31 by omega), gd_t g, x2, e2, y, if_pos (show nI 14 = 14 from rfl), F_X12_hasOpenSum_25]
      · have hne : ¬ nI (x / 1048576) = 14 := fun q => y ((nI_eq (b := 14) hlt (by omega)).mp q)
        have hun : Lp_X12_hasOpenSum_2 (F_X12_hasOpenSum_25 fu) (F_X12_hasOpenSum_33 fu) fu (N + 1) U (nI i) = Lp_X12_hasOpenSum_2 (F_X12_hasOpenSum_25 fu) (F_X12_hasOpenSum_33 fu) fu N U (nI (i + 1)) := by
          rw [Lp_X12_hasOpenSum_2, F_X12_hasOpenSum_2, h5, if_neg (nI_ge (by omega) (by omega)), nI_clamp (show i < 2 ^ 31 by omega), gd_t g, x2, e2, if_neg hne, nI_1]
        rw [hun]
        rcases ih (i + 1) (by omega) (by omega) (by omega) with ⟨a1, k, x', a2, a3, a4⟩ | ⟨a1, a2⟩
        · exact .inl ⟨a1, k, x', by omega, a3, a4⟩
        · refine .inr ⟨a1, fun k x' k1 k2 k3 k4 => ?_⟩
          by_cases q : k = i
          · subst q
            have : x' = x := (nI_eq k4 x1).mp (by rw [← k3, x2])
            subst this; exact y
          · exact a2 k x' (by omega) k2 k3 k4
/-! closing sums -/
def tpOK (U : St) (w : Nat) : Prop := w = 0 ∨ ∃ x, U 2252 0 (w - 1) = nI x ∧ x < 2 ^ 31 ∧ 7 ≤ x / 1048576
def okPp (P : Option (Nat × Den)) : Prop := ∀ sg d, P = some (sg, d) → (sg = 42 ∨ sg = 47 ∨ sg = 37)
def okSs (S : Option (Nat × Den)) : Prop := ∀ sg d, S = some (sg, d) → (sg = 43 ∨ sg = 45)
def wtS (U : St) (w : Nat) (S : Option (Nat × Den)) : Prop := ∀ sg d, S = some (sg, d) → U 2252 0 w = nI (1048576 * opN sg)
/-- a sign is put behind what it joins -/
theorem close_1 {fu n p o c w sg s0 N : Nat} {U : St} {T : Nat → Int32} {x1 : Int32} {ds : List Den} {d1 d2 : Den} (h : RQ U T n p o c (w + 1)) (hw : w < 180) (hc : c < 180) (hop : isOp sg) (hv : U 2252 0 w = nI (1048576 * opN sg)) (hgo : 4 ≤ opN sg ∨ x1 = 1) (hs0 : s0 ≤ c) (hC : RFf U s0 c (d2 :: d1 :: ds)) : ∃ U', Lp_X12_closesSums_0 (F_X12_closesSums_59 fu) fu (N + 1) U x1 = Lp_X12_closesSums_0 (F_X12_closesSums_59 fu) fu N U' x1 ∧ Fr rfw U U' ∧ RQ U' T n p o (c + 1) w ∧ agS U U' 0 c ∧ agW U U' w ∧ RFf U' s0 (c + 1) (opD sg d1 d2 :: ds) := by
  have hon := opN_ok (.inl hop)
  have hon6 : opN sg ≤ 6 := by rcases hop with z | z | z | z | z <;> subst z <;> decide
  have hdv : 1048576 * opN sg / 1048576 = opN sg := by omega
  have ht := fun U' (h' : U' 2249 0 0 = nI (w + 1)) (hv' : U' 2252 0 w = nI (1048576 * opN sg)) => top_S (fu := fu) (U := U') (x := 1048576 * opN sg) hw (by omega) h' hv'
  rw [hdv] at ht
  have ht0 := ht U h.2.2.2.2 hv
  have hsy := says_R (fu := fu) (op := opN sg) (v := 0) (U := U) hc h.2.2.2.1
  rw [Nat.add_zero, nI_0] at hsy
  have h37 : F_X12_closesSums_37 (Lp_X12_closesSums_0 (F_X12_closesSums_59 fu) fu N) (F_X12_closesSums_59 fu) fu U x1 = Lp_X12_closesSums_0 (F_X12_closesSums_59 fu) fu N (setV (syV U c (1048576 * opN sg)) 2249 0 0 (nI w)) x1 := by
    rw [F_X12_closesSums_37, ht0, bd_some, hsy, bd_some, syV_fr U c _ 2249 (by decide), h.2.2.2.2, show nI (w + 1) - 1 = nI w from nI_pred w, bv_eq]
  have hF : Fr rfw U (setV (syV U c (1048576 * opN sg)) 2249 0 0 (nI w)) := (Fr.weak (syV_fr U c _) (by decide)).set (by decide)
  have hag : agS U (setV (syV U c (1048576 * opN sg)) 2249 0 0 (nI w)) 0 c := fun k _ k2 => by rw [setV_fn (by decide), syV_old (by omega)]
  refine ⟨setV (syV U c (1048576 * opN sg)) 2249 0 0 (nI w), ?_, hF, ⟨h.1.fr hF (by decide), ?_, ?_, ?_, ?_⟩, hag, fun i _ => ?_, ?_⟩
  · rw [← h37, Lp_X12_closesSums_0, F_X12_closesSums_0, ht0, bd_some]
    by_cases z : 4 ≤ opN sg
    · rw [if_neg (show ¬ nI (opN sg) < 4 from nI_nlt (b := 4) z (by omega)), ht0, bd_some, if_pos (show nI (opN sg) ≤ 6 from nI_le (b := 6) hon6 (by omega))]
    · have hx1 := hgo.resolve_left z
      subst hx1
      rw [if_pos (show nI (opN sg) < 4 from nI_lt (b := 4) (by omega) (by omega)), F_X12_closesSums_17, if_neg (by decide), ht0, bd_some]
      by_cases y : opN sg = 2
      · rw [y, if_pos (show nI 2 = 2 from rfl)]
      · have e3 : opN sg = 3 := by omega
        rw [e3, if_neg (by decide), ht0, bd_some, e3, if_pos (show nI 3 = 3 from rfl)]
  · rw [setV_fn (by decide), syV_fr U c _ 2243 (by decide)]; exact h.2.1
  · rw [setV_fn (by decide), syV_fr U c _ 2247 (by decide)]; exact h.2.2.1
  · rw [setV_fn (by decide)]; exact syV_sz
  · rw [setV_at, if_pos ⟨rfl, rfl⟩]
  · rw [setV_fn (by decide), syV_fr U c _ 2252 (by decide)]
  · have hC' := hC.cg (U' := setV (syV U c (1048576 * opN sg)) 2249 0 0 (nI w)) (fun k k1 k2 => hag k (by omega) k2)
    have hw' : sdV (setV (syV U c (1048576 * opN sg)) 2249 0 0 (nI w)) c = 1048576 * opN sg := by unfold sdV; rw [setV_fn (by decide), syV_new, nI_clamp (by omega)]
    refine ⟨hC'.1.op hw' hop, hC'.2.app (fun k k1 k2 => ?_)⟩
    have : k = c := by omega
    subst this
    rw [setV_fn (by decide), syV_new]; exact nI_pos (by omega)
theorem close_end {fu n p o c w N : Nat} {U : St} {T : Nat → Int32} {x1 : Int32} (h : RQ U T n p o c w) (hw : w ≤ 180) (hx1 : x1 = 0 ∨ x1 = 1) (ht : tpOK U w ∨ (x1 = 0 ∧ ∃ v, w = v + 1 ∧ ∃ x, U 2252 0 v = nI x ∧ x < 2 ^ 31 ∧ x / 1048576 < 4)) : Lp_X12_closesSums_0 (F_X12_closesSums_59 fu) fu (N + 1) U x1 = some (0, U) := by
  have hend : ∀ r, f_X12_top fu U = some (r, U) → ((r < 4) ∨ ¬ r ≤ 6) → (x1 = 0 ∨ (¬ r = 2 ∧ ¬ r = 3)) → Lp_X12_closesSums_0 (F_X12_closesSums_59 fu) fu (N + 1) U x1 = some (0, U) := fun r hr h1 h2 => by
    have h17 : F_X12_closesSums_17 (Lp_X12_closesSums_0 (F_X12_closesSums_59 fu) fu N) (F_X12_closesSums_59 fu) fu U x1 = some (0, U) := by
      rw [F_X12_closesSums_17]
      rcases h2 with h2 | ⟨h2, h3⟩
      · rw [if_pos h2, F_X12_closesSums_59]
      · by_cases z : x1 = 0
        · rw [if_pos z, F_X12_closesSums_59]
        · rw [if_neg z, hr, bd_some, if_neg h2, hr, bd_some, if_neg h3, F_X12_closesSums_59]
    rw [Lp_X12_closesSums_0, F_X12_closesSums_0, hr, bd_some]
    by_cases z : r < 4
    · rw [if_pos z]; exact h17
    · rw [if_neg z, hr, bd_some, if_neg (h1.resolve_left z)]; exact h17
  rcases ht with (ht | ⟨x, x1', x2, x3⟩) | ⟨hx0, v, hv, x, x1', x2, x3⟩
  · subst ht
    exact hend (-1) (top_0 h.2.2.2.2) (.inl (by decide)) (.inr ⟨by decide, by decide⟩)
  · have hlt : x / 1048576 < 2 ^ 31 := Nat.lt_of_le_of_lt (Nat.div_le_self _ _) x2
    by_cases hw0 : w = 0
    · subst hw0
      exact hend (-1) (top_0 h.2.2.2.2) (.inl (by decide)) (.inr ⟨by decide, by decide⟩)
    · obtain ⟨v, rfl⟩ : ∃ v, w = v + 1 := ⟨w - 1, by omega⟩
      have := top_S (fu := fu) (U := U) (w := v) (x := x) (by omega) x2 h.2.2.2.2 x1'
      refine hend _ this (.inr (nI_ge (b := x / 1048576) (a := 6) (by omega) hlt)) (.inr ⟨fun z => ?_, fun z => ?_⟩)
      · have := (nI_eq (b := 2) hlt (by omega)).mp z; omega
      · have := (nI_eq (b := 3) hlt (by omega)).mp z; omega
  · subst hv
    have := top_S (fu := fu) (U := U) (w := v) (x := x) (by omega) x2 h.2.2.2.2 x1'
    exact hend _ this (.inl (nI_lt (b := 4) x3 (by omega))) (.inl hx0)
theorem closes_R {fu n p o c w s0 : Nat} {U : St} {T : Nat → Int32} {S P : Option (Nat × Den)} {d : Den} (hfu : 1000 ≤ fu) (h : RQ U T n p o c (w + cn S + cn P)) (hw : w + cn S + cn P ≤ 180) (hc : c + cn S + cn P ≤ 180) (hS : okSs S) (hP : okPp P) (hwS : wtS U w S) (hwP : wtS U (w + cn S) P) (ht : tpOK U w) (hs0 : s0 ≤ c) (hC : RFf U s0 c (d :: (pl P ++ pl S))) : (∃ U', f_X12_closesSums fu U 0 = some (0, U') ∧ Fr rfw U U' ∧ RQ U' T n p o (c + cn P) (w + cn S) ∧ agS U U' 0 c ∧ agW U U' (w + cn S) ∧ RFf U' s0 (c + cn P) (cmb P d :: pl S)) ∧ (∃ U', f_X12_closesSums fu U 1 = some (0, U') ∧ Fr rfw U U' ∧ RQ U' T n p o (c + cn P + cn S) w ∧ agS U U' 0 c ∧ agW U U' w ∧ RFf U' s0 (c + cn P + cn S) [cmb S (cmb P d)]) := by
  obtain ⟨fu', rfl⟩ : ∃ N', fu = N' + 3 := ⟨fu - 3, by omega⟩
  -- the first step: P
  have stepP : ∀ x1 : Int32, ∃ U' N', Lp_X12_closesSums_0 (F_X12_closesSums_59 (fu' + 3)) (fu' + 3) (fu' + 3) U x1 = Lp_X12_closesSums_0 (F_X12_closesSums_59 (fu' + 3)) (fu' + 3) N' U' x1 ∧ fu' + 2 ≤ N' ∧ Fr rfw U U' ∧ RQ U' T n p o (c + cn P) (w + cn S) ∧ agS U U' 0 c ∧ agW U U' (w + cn S) ∧ RFf U' s0 (c + cn P) (cmb P d :: pl S) := fun x1 => by
    cases P with
    | none => exact ⟨U, fu' + 3, rfl, by omega, Fr.refl _ U, h, fun _ _ _ => rfl, fun _ _ => rfl, hC⟩
    | some q =>
      obtain ⟨sg, dp⟩ := q
      have hsg := hP sg dp rfl
      have h1 : 4 ≤ opN sg := by rcases hsg with z | z | z <;> subst z <;> decide
      have hc' : c + cn S + 1 ≤ 180 := hc
      have hw' : w + cn S + 1 ≤ 180 := hw
      obtain ⟨U', a1, a2, a3, a4, a5, a6⟩ := close_1 (fu := fu' + 3) (N := fu' + 2) (x1 := x1) (w := w + cn S) h (by omega) (by omega) (hop_D hsg) (hwP sg dp rfl) (.inl h1) hs0 hC
      exact ⟨U', fu' + 2, a1, Nat.le_refl _, a2, a3, a4, a5, a6⟩
  constructor
  · obtain ⟨U', N', a1, a2, a3, a4, a5, a6, a7⟩ := stepP 0
    obtain ⟨N', rfl⟩ : ∃ N2, N' = N2 + 1 := ⟨N' - 1, by omega⟩
    refine ⟨U', ?_, a3, a4, a5, a6, a7⟩
    rw [f_X12_closesSums, a1]
    refine close_end a4 (by omega) (.inl rfl) ?_
    cases S with
    | none =>
      left
      rcases ht with ht | ⟨x, x1, x2, x3⟩
      · exact .inl ht
      · by_cases z : w = 0
        · exact .inl z
        · exact .inr ⟨x, by rw [show w + cn none - 1 = w - 1 from rfl, a6 (w - 1) (by show w - 1 < w + 0; omega)]; exact x1, x2, x3⟩
    | some q =>
      obtain ⟨sg, dS⟩ := q
      have hsg := hS sg dS rfl
      have h1 : opN sg < 4 := by rcases hsg with z | z <;> subst z <;> decide
      refine .inr ⟨rfl, w, rfl, 1048576 * opN sg, ?_, by omega, by omega⟩
      rw [a6 w (by show w < w + 1; omega)]; exact hwS sg dS rfl
  · obtain ⟨U', N', a1, a2, a3, a4, a5, a6, a7⟩ := stepP 1
    obtain ⟨N', rfl⟩ : ∃ N2, N' = N2 + 2 := ⟨N' - 2, by omega⟩
    have tp' : ∀ U2, agW U U2 w → tpOK U2 w := fun U2 hag => by
      rcases ht with ht | ⟨x, x1, x2, x3⟩
      · exact .inl ht
      · by_cases z : w = 0
        · exact .inl z
        · exact .inr ⟨x, by rw [hag (w - 1) (by omega)]; exact x1, x2, x3⟩
    cases S with
    | none =>
      refine ⟨U', ?_, a3, a4, a5, a6, a7⟩
      rw [f_X12_closesSums, a1]
      exact close_end a4 (by have : w + cn none = w := rfl
                             omega) (.inr rfl) (.inl (tp' U' a6))
    | some q =>
      obtain ⟨sg, dS⟩ := q
      have hsg := hS sg dS rfl
      have hcs : cn (some (sg, dS)) = 1 := rfl
      rw [hcs] at hc hw a4 a6
      obtain ⟨U2, b1, b2, b3, b4, b5, b6⟩ := close_1 (fu := fu' + 3) (N := N' + 1) (x1 := 1) (w := w) a4 (by omega) (by omega) (hop_E hsg) (by rw [a6 w (by omega)]; exact hwS sg dS rfl) (.inr rfl) (by omega) a7
      refine ⟨U2, ?_, a3.trans b2, b3, fun k k1 k2 => by rw [b4 k k1 (by omega)]; exact a5 k k1 k2, fun i hi => by rw [b5 i hi]; exact a6 i (by omega), b6⟩
      rw [f_X12_closesSums, a1, b1]
      exact close_end b3 (by omega) (.inr rfl) (.inl (tp' U2 (fun i hi => by rw [b5 i hi]; exact a6 i (by omega))))
