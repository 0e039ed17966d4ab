/-! the class's reader -/
def kwV (V : St) (k : Nat) : Nat := (V 1905 0 k).toNatClampNeg
def nnC (V : St) (s e : Nat) : Prop := ∀ k, s ≤ k → k < e → ¬ V 1905 0 k < 0
def CF (V : St) (s e : Nat) (ds : List Den) : Prop := FLC (kwV V) s e ds ∧ clC (kwV V) s e ∧ nnC V s e
def CG (V : St) (s e : Nat) (d : Den) : Prop := GC (kwV V) s e d ∧ clC (kwV V) s e ∧ nnC V s e
def agV (V V' : St) (s e : Nat) : Prop := ∀ k, s ≤ k → k < e → V' 1905 0 k = V 1905 0 k
theorem agV.c {V V' : St} {s e : Nat} (h : agV V V' s e) : agC (kwV V) (kwV V') s e := fun k k1 k2 => by unfold kwV; rw [h k k1 k2]
theorem clC.cg {cw cw' : Nat → Nat} {s e : Nat} (h : clC cw s e) (ha : agC cw cw' s e) : clC cw' s e := fun k k1 k2 => by rw [ha k k1 k2]; exact h k k1 k2
theorem nnC.cg {V V' : St} {s e : Nat} (h : nnC V s e) (ha : agV V V' s e) : nnC V' s e := fun k k1 k2 => by rw [ha k k1 k2]; exact h k k1 k2
theorem CF.cg {V V' : St} {s e : Nat} {ds : List Den} (h : CF V s e ds) (ha : agV V V' s e) : CF V' s e ds := ⟨h.1.cg ha.c, h.2.1.cg ha.c, h.2.2.cg ha⟩
theorem CG.cg {V V' : St} {s e : Nat} {d : Den} (h : CG V s e d) (ha : agV V V' s e) : CG V' s e d := ⟨h.1.cg ha.c, h.2.1.cg ha.c, h.2.2.cg ha⟩
theorem clC.app {cw : Nat → Nat} {s e e' : Nat} (h : clC cw s e) (h' : clC cw e e') : clC cw s e' := fun k k1 k2 => by
  by_cases z : k < e
  · exact h k k1 z
  · exact h' k (by omega) k2
theorem nnC.app {V : St} {s e e' : Nat} (h : nnC V s e) (h' : nnC V e e') : nnC V s e' := fun k k1 k2 => by
  by_cases z : k < e
  · exact h k k1 z
  · exact h' k (by omega) k2
theorem CF.app {V : St} {s e e' : Nat} {ds : List Den} {d : Den} (h : CF V s e ds) (h' : CF V e e' [d]) : CF V s e' (d :: ds) := ⟨h.1.app h'.1, h.2.1.app h'.2.1, h.2.2.app h'.2.2⟩
def emV (V : St) (s w : Nat) : St := setV (setV V 1905 0 s (nI w)) 1907 0 0 (nI (s + 1))
theorem emV_fr (V : St) (s w : Nat) : Fr [1905, 1907] V (emV V s w) := ((Fr.refl _ V).set (by decide)).set (by decide)
theorem emV_old {V : St} {s w k : Nat} (h : k ≠ s) : emV V s w 1905 0 k = V 1905 0 k := by
  unfold emV; rw [setV_fn (by decide), setV_at, if_neg (fun z => h z.2)]
theorem emV_new {V : St} {s w : Nat} : emV V s w 1905 0 s = nI w := by
  unfold emV; rw [setV_fn (by decide), setV_at, if_pos ⟨rfl, rfl⟩]
theorem emV_sz {V : St} {s w : Nat} : emV V s w 1907 0 0 = nI (s + 1) := by
  unfold emV; rw [setV_at, if_pos ⟨rfl, rfl⟩]
theorem emV_cw {V : St} {s w : Nat} (hw : w < 2 ^ 31) : kwV (emV V s w) s = w := by unfold kwV; rw [emV_new, nI_clamp hw]
theorem emit_C {fu s sg num : Nat} {V : St} (hs : s < 160) (hg : sg < 256) (hn : num ≤ 99999) (e : V 1907 0 0 = nI s) : f_X9_emit fu V (nI sg) (nI num) = some (1, emV V s (256 * num + sg)) := by
  have e1 : nI num <<< ((8 : Int32) &&& 31) = nI (256 * num) := by
    have := pk_shlN (n := num) (8 &&& 31) 8 (by decide) (by omega)
    rw [this]; congr 1; omega
  have e2 : nI (256 * num) ||| nI sg = nI (256 * num + sg) := by
    rw [nI_or (by omega) (by omega)]
    congr 1
    exact (Nat.two_pow_add_eq_or_of_lt (i := 8) hg num).symm
  have hl : lenV V 160 0 = 160 := by unfold lenV; rw [if_pos (by decide)]
  have hng : ¬ nI 160 ≤ nI s := nI_ge hs (by omega)
  have g : ¬ (nI s < 0 ∨ 160 ≤ s) := fun w => w.elim (nI_pos (by omega)) (fun w => by omega)
  have e3 : setV V 1905 0 s (nI (256 * num + sg)) 1907 0 0 = nI s := by rw [setV_fn (by decide)]; exact e
  rw [f_X9_emit, hl, e, if_neg hng, nI_clamp (show s < 2 ^ 31 by omega), gd_t g, e1, e2, bv_eq, e3, nI_1, bv_eq, F_X9_emit_37]
  rfl
theorem fail_C {fu k p : Nat} {V : St} (e : V 1910 0 0 = nI p) : f_X9_fail fu V (nI k) = some (0, setV V 1911 0 0 (flt k p)) := by
  rw [f_X9_fail, e, bv_eq]; rfl
theorem take_C {fu n p c : Nat} {V : St} {T : Nat → Int32} (ht : TxC V T n) (hp : p ≤ n) (hc : c < 128) (e : V 1910 0 0 = nI p) : f_X9_take fu V (nI c) = if hN T n p = c then some (1, setV V 1910 0 0 (nI (p + 1))) else some (0, setV V 1911 0 0 (flt 1 p)) := by
  have hn := ht.1.1
  obtain ⟨t1, t2, t3⟩ := tape_C (p := p) ht
  have no : F_X9_take_28 fu V = some (0, setV V 1911 0 0 (flt 1 p)) := by
    rw [F_X9_take_28, F_X9_take_29, if_pos rfl, e, flt_1, bv_eq, F_X9_take_59, gd_t (.inl rfl)]
  by_cases z : p < n
  · obtain ⟨a1, a2, a3⟩ := hN_spec ht.1 z
    have g : ¬ (nI p < 0 ∨ 400 ≤ p) := fun w => w.elim (nI_pos (by omega)) (fun w => by omega)
    rw [f_X9_take, ht.2.2.1, e, if_neg (nI_ge z (by omega)), gd_t t1, t2, nI_clamp (show p < 2 ^ 31 by omega), gd_t g, t3]
    by_cases y : hN T n p = c
    · rw [if_pos y]
      rcases a3 with ⟨b1, b2⟩ | ⟨b1, b2⟩
      · rw [b2, y, if_pos rfl, F_X9_take_29, if_neg (by decide), e, nI_1, bv_eq, F_X9_take_59, gd_t (.inr rfl)]
      · omega
    · rw [if_neg y, if_neg ?_, no]
      intro w
      rcases a3 with ⟨b1, b2⟩ | ⟨b1, b2⟩
      · rw [b2] at w; exact y ((nI_eq (by omega) (by omega)).mp w)
      · rw [w] at b2; exact nI_pos (by omega) b2
  · have : hN T n p = 256 := by unfold hN; rw [if_neg z]
    rw [if_neg (by omega), f_X9_take, ht.2.2.1, e, if_pos (nI_le (by omega) (by omega)), no]
theorem lead_C {fu c e : Nat} (hfu : 1000 ≤ fu) (hc : c < 256) (he : e ≤ 160) : ∀ (r N s : Nat) (V : St), s + r = e → r < N → V 1907 0 0 = nI e → ∃ V', Lp_X9_leadHere_2 (F_X9_leadHere_41 fu) fu N V (nI c) (nI s) = some (0, V') ∧ Fr [1905] V V' ∧ ∀ k, V' 1905 0 k = if s ≤ k ∧ k < e ∧ V 1905 0 k = nI c then nI (256 * e + c) else V 1905 0 k := by
  intro r
  induction r with
  | zero =>
    intro N s V hr hN' h7
    obtain ⟨N, rfl⟩ : ∃ N', N = N' + 1 := ⟨N - 1, by omega⟩
    refine ⟨V, ?_, Fr.refl _ V, fun k => by rw [if_neg (by omega)]⟩
    rw [Lp_X9_leadHere_2, F_X9_leadHere_2, h7, if_pos (nI_le (by omega) (by omega)), F_X9_leadHere_41]
  | succ r ih =>
    intro N s V hr hN' h7
    obtain ⟨N, rfl⟩ : ∃ N', N = N' + 1 := ⟨N - 1, by omega⟩
    have g : ¬ (nI s < 0 ∨ 160 ≤ s) := fun w => w.elim (nI_pos (by omega)) (fun w => by omega)
    have e1 : nI e <<< ((8 : Int32) &&& 31) = nI (256 * e) := by
      have := pk_shlN (n := e) (8 &&& 31) 8 (by decide) (by omega)
      rw [this]; congr 1; omega
    have e2 : nI (256 * e) ||| nI c = nI (256 * e + c) := by
      rw [nI_or (by omega) (by omega)]
      congr 1
      exact (Nat.two_pow_add_eq_or_of_lt (i := 8) hc e).symm
    by_cases z : V 1905 0 s = nI c
    · obtain ⟨V', a1, a2, a3⟩ := ih N (s + 1) (setV V 1905 0 s (nI (256 * e + c))) (by omega) (by omega) (by rw [setV_fn (by decide)]; exact h7)
      refine ⟨V', ?_, ((Fr.refl _ V).set (by decide)).trans a2, fun k => ?_⟩
      · rw [Lp_X9_leadHere_2, F_X9_leadHere_2, h7, if_neg (nI_ge (by omega) (by omega)), nI_clamp (show s < 2 ^ 31 by omega), gd_t g, if_pos z, gd_t g, e1, e2, bv_eq, F_X9_leadHere_35, nI_1]
        exact a1
      · by_cases y : k = s
        · subst y
          have e0 : setV V 1905 0 k (nI (256 * e + c)) 1905 0 k = nI (256 * e + c) := by rw [setV_at, if_pos ⟨rfl, rfl⟩]
          rw [a3 k, e0, if_neg (by omega), if_pos ⟨Nat.le_refl k, by omega, z⟩]
        · have e0 : setV V 1905 0 s (nI (256 * e + c)) 1905 0 k = V 1905 0 k := by rw [setV_at, if_neg (fun w => y w.2)]
          rw [a3 k, e0]
          have : (s + 1 ≤ k) = (s ≤ k) := by apply propext; omega
          simp only [this]
    · obtain ⟨V', a1, a2, a3⟩ := ih N (s + 1) V (by omega) (by omega) h7
      refine ⟨V', ?_, a2, fun k => ?_⟩
      · rw [Lp_X9_leadHere_2, F_X9_leadHere_2, h7, if_neg (nI_ge (by omega) (by omega)), nI_clamp (show s < 2 ^ 31 by omega), gd_t g, if_neg z, F_X9_leadHere_35, nI_1]
        exact a1
      · rw [a3 k]
        by_cases y : k = s
        · subst y
          rw [if_neg (by omega), if_neg (fun w => z w.2.2)]
        · have : (s + 1 ≤ k) = (s ≤ k) := by apply propext; omega
          simp only [this]
def rdw : List Nat := [1905, 1907, 1910, 1911]
def bnd (mode o : Nat) : Nat := 2 * (6 - o) + (if mode = 0 then 5 else if mode = 1 then 4 else if mode = 2 then 2 else 1)
def FRG (mode : Nat) (V : St) (s e : Nat) (d : Den) : Prop := if mode ≤ 1 then CG V s e d else CF V s e [d]
def okR (fu n : Nat) (T : Nat → Int32) (g : St → Int32 → RR) (r : Nat → PR) (mode o : Nat) : Prop := ∀ (V : St) (p s : Nat), TxC V T n → V 1910 0 0 = nI p → V 1907 0 0 = nI s → s ≤ p → p ≤ n → (∀ f, r p = .inl f → ∃ V', g V (nI o) = some (0, V') ∧ Fr rdw V V' ∧ V' 1911 0 0 = f) ∧ (∀ a d, r p = .inr (a, d) → ∃ V' e, g V (nI o) = some (1, V') ∧ Fr rdw V V' ∧ V' 1910 0 0 = nI a ∧ V' 1907 0 0 = nI e ∧ p < a ∧ a ≤ n ∧ s < e ∧ e + p ≤ s + a ∧ agV V V' 0 s ∧ FRG mode V' s e d)
/-! sums -/
def sgI (S : Option (Nat × Den)) : Int32 := match S with
  | none => 0
  | some (sg, _) => nI sg
def cn (S : Option (Nat × Den)) : Nat := match S with
  | none => 0
  | some _ => 1
def pl (S : Option (Nat × Den)) : List Den := match S with
  | none => []
  | some (_, d) => [d]
def okSg (S : Option (Nat × Den)) : Prop := ∀ sg d, S = some (sg, d) → isOp sg
theorem emitP {fu s0 e1 : Nat} {V : St} {P : Option (Nat × Den)} {d : Den} {rest : List Den} {K : St → RR} (hP : okSg P) (hs : s0 ≤ e1) (h160 : e1 + cn P ≤ 160) (h7 : V 1907 0 0 = nI e1) (hC : CF V s0 e1 (d :: (pl P ++ rest))) : ∃ V2, (if sgI P = 0 then K V else bd (f_X9_emit fu V (sgI P) 0) fun _ V8 => K V8) = K V2 ∧ Fr [1905, 1907] V V2 ∧ V2 1907 0 0 = nI (e1 + cn P) ∧ agV V V2 0 e1 ∧ CF V2 s0 (e1 + cn P) (cmb P d :: rest) := by
  cases P with
  | none => exact ⟨V, by rw [if_pos (show sgI none = 0 from rfl)], Fr.refl _ V, h7, fun _ _ _ => rfl, hC⟩
  | some w =>
    obtain ⟨sg, d1⟩ := w
    have hop := hP sg d1 rfl
    have hsg : sg < 256 ∧ 1 ≤ sg ∧ sg ≠ 38 ∧ sg ≠ 124 := by rcases hop with z | z | z | z | z <;> omega
    have h160' : e1 + 1 ≤ 160 := h160
    have he := emit_C (fu := fu) (V := V) (s := e1) (sg := sg) (num := 0) (by omega) hsg.1 (by omega) h7
    rw [nI_0, Nat.mul_zero, Nat.zero_add] at he
    have hne : ¬ nI sg = 0 := nI_ne0 (by omega) (by omega)
    have hag : agV V (emV V e1 sg) 0 e1 := fun k _ k2 => emV_old (by omega)
    refine ⟨emV V e1 sg, ?_, emV_fr V e1 sg, emV_sz, hag, ?_⟩
    · show (if nI sg = 0 then K V else bd (f_X9_emit fu V (nI sg) 0) fun _ V8 => K V8) = _
      rw [if_neg hne, he, bd_some]
    · have hC' : CF (emV V e1 sg) s0 e1 (d :: d1 :: rest) := hC.cg (fun k k1 k2 => hag k (by omega) k2)
      have hw : kwV (emV V e1 sg) e1 = sg := emV_cw (by omega)
      refine ⟨hC'.1.op hw hop, hC'.2.1.app (fun k k1 k2 => ?_), hC'.2.2.app (fun k k1 k2 => ?_)⟩
      · have : k = e1 := by have : k < e1 + 1 := k2
                            omega
        subst this; rw [hw]; exact ⟨hsg.2.2.1, hsg.2.2.2⟩
      · have : k = e1 := by have : k < e1 + 1 := k2
                            omega
        subst this; rw [emV_new]; exact nI_pos (by omega)
