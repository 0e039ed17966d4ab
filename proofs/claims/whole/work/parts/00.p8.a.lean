/-! the cheapest: what is sought -/
def agr (n : Nat) (c t : Nat → Nat) : Prop := ∀ k, k < n → c k = t k
def CheapP (P : (Nat → Nat) → Prop) (s l : Nat) (A B LJ LP : Nat → Nat) (r : Int32) (b : Nat → Int32) : Prop :=
  (r = -1 ∧ ∀ c, okC s c → P c → ¬ Bears s l A B LJ LP c) ∨ ∃ c, okC s c ∧ P c ∧ Bears s l A B LJ LP c ∧ r = nI (inchs s c) ∧ (∀ k, k < s → b k = nI (c k)) ∧ ∀ c', okC s c' → P c' → Bears s l A B LJ LP c' → inchs s c ≤ inchs s c' ∧ (inchs s c' = inchs s c → ¬ lexLt s c' c)
theorem CheapP.iff {P Q : (Nat → Nat) → Prop} {s l : Nat} {A B LJ LP : Nat → Nat} {r : Int32} {b : Nat → Int32} (h : CheapP P s l A B LJ LP r b) (hq : ∀ c, okC s c → (P c ↔ Q c)) : CheapP Q s l A B LJ LP r b := by
  rcases h with ⟨h1, h2⟩ | ⟨c, h1, h2, h3, h4, h5, h6⟩
  · exact .inl ⟨h1, fun c hc hp => h2 c hc ((hq c hc).mpr hp)⟩
  · exact .inr ⟨c, h1, (hq c h1).mp h2, h3, h4, h5, fun c' hc' hp => h6 c' hc' ((hq c' hc').mpr hp)⟩
theorem tbo_mono {a b : Nat} (h : a ≤ b) : tbo a ≤ tbo b := by
  unfold tbo
  split
  · split
    · omega
    · split <;> omega
  · split
    · rw [if_neg (by omega)]; split <;> omega
    · rw [if_neg (by omega), if_neg (by omega)]; omega
theorem bears_mono {s l : Nat} {A B LJ LP c c' : Nat → Nat} (h : ∀ k, k < s → c k ≤ c' k) (hb : Bears s l A B LJ LP c) : Bears s l A B LJ LP c' := fun S h0 q hq hS => by
  have h1 := hb S h0 q hq hS
  have h2 : cut s A B c S ≤ cut s A B c' S := sN_mono s (fun k hk => by
    have := tbo_mono (h k hk)
    split <;> omega)
  omega
theorem tus_le (t : Nat) : tus t ≤ 9 := by unfold tus; split; omega; split <;> omega
theorem tus_ge (t : Nat) : 2 ≤ tus t := by unfold tus; split; omega; split <;> omega
theorem inchs_le {c : Nat → Nat} : ∀ n, inchs n c ≤ 9 * n := by
  intro n
  induction n with
  | zero => exact Nat.le_refl 0
  | succ n ih => unfold inchs at ih ⊢; unfold sN; have := tus_le (c n); omega
theorem inchs_agr {c t : Nat → Nat} {n : Nat} (h : agr n c t) : inchs n c = inchs n t := sN_congr n (fun e he => by rw [h e he])
theorem inchs_ge {c : Nat → Nat} {i : Nat} : ∀ n, i ≤ n → inchs i c + 2 * (n - i) ≤ inchs n c := by
  intro n
  induction n with
  | zero => intro h; have : i = 0 := by omega
            subst this; omega
  | succ n ih =>
    intro h
    by_cases z : i = n + 1
    · subst z; omega
    · have := ih (by omega)
      have := tus_ge (c n)
      have e : inchs (n + 1) c = inchs n c + tus (c n) := rfl
      omega
theorem lex_succ {n : Nat} {c t : Nat → Nat} : lexLt (n + 1) c t ↔ (lexLt n c t ∨ (agr n c t ∧ c n < t n)) := by
  constructor
  · rintro ⟨k, k1, k2, k3⟩
    by_cases z : k = n
    · subst z; exact .inr ⟨k2, k3⟩
    · exact .inl ⟨k, by omega, k2, k3⟩
  · rintro (⟨k, k1, k2, k3⟩ | ⟨k2, k3⟩)
    · exact ⟨k, by omega, k2, k3⟩
    · exact ⟨n, by omega, k2, k3⟩
theorem lex_asym {n : Nat} {c t : Nat → Nat} (h : lexLt n c t) : ¬ lexLt n t c := by
  rintro ⟨q, q1, q2, q3⟩
  obtain ⟨k, k1, k2, k3⟩ := h
  rcases Nat.lt_trichotomy k q with z | z | z
  · have := q2 k z; omega
  · subst z; omega
  · have := k2 q z; omega
theorem lex_irr {n : Nat} {c t : Nat → Nat} (h : agr n c t) : ¬ lexLt n c t := by
  rintro ⟨k, k1, k2, k3⟩
  have := h k k1; omega
theorem lex_up {i n : Nat} {c t c' : Nat → Nat} (hi : i ≤ n) (h : lexLt i c t) (ha : agr i c' t) : lexLt n c c' := by
  obtain ⟨k, k1, k2, k3⟩ := h
  exact ⟨k, by omega, fun q hq => by rw [k2 q hq, ha q (by omega)], by rw [ha k k1]; exact k3⟩
theorem lex_tot {n : Nat} {c t : Nat → Nat} : agr n c t ∨ lexLt n c t ∨ lexLt n t c := by
  induction n with
  | zero => exact .inl (fun k hk => by omega)
  | succ n ih =>
    rcases ih with h | h | h
    · rcases Nat.lt_trichotomy (c n) (t n) with z | z | z
      · exact .inr (.inl (lex_succ.mpr (.inr ⟨h, z⟩)))
      · refine .inl (fun k hk => ?_)
        by_cases y : k = n
        · subst y; exact z
        · exact h k (by omega)
      · exact .inr (.inr (lex_succ.mpr (.inr ⟨fun k hk => (h k hk).symm, z⟩)))
    · exact .inr (.inl (lex_succ.mpr (.inl h)))
    · exact .inr (.inr (lex_succ.mpr (.inl h)))
theorem cheap_uniq {s l : Nat} {A B LJ LP : Nat → Nat} {r r' : Int32} {b b' : Nat → Int32} (hs : s ≤ 8) (h : IsCheap s l A B LJ LP r b) (h' : IsCheap s l A B LJ LP r' b') : r = r' ∧ (¬ r = -1 → ∀ k, k < s → b k = b' k) := by
  have hne : ∀ c, ¬ nI (inchs s c) = -1 := fun c z => by
    have := inchs_le (c := c) s
    have q := nI_pos (n := inchs s c) (by omega)
    rw [z] at q; exact q (by decide)
  rcases h with ⟨h1, h2⟩ | ⟨c, h1, h2, h3, h4, h5⟩
  · rcases h' with ⟨g1, g2⟩ | ⟨c', g1, g2, g3, g4, g5⟩
    · exact ⟨by rw [h1, g1], fun z => absurd h1 z⟩
    · exact absurd g2 (h2 c' g1)
  · rcases h' with ⟨g1, g2⟩ | ⟨c', g1, g2, g3, g4, g5⟩
    · exact absurd h2 (g2 c h1)
    · have e1 := h5 c' g1 g2
      have e2 := g5 c h1 h2
      have e : inchs s c = inchs s c' := by omega
      have ha : agr s c c' := by
        rcases lex_tot (n := s) (c := c) (t := c') with z | z | z
        · exact z
        · exact absurd z (e2.2 e)
        · exact absurd z (e1.2 e.symm)
      exact ⟨by rw [h3, g3, e], fun _ k hk => by rw [h4 k hk, g4 k hk, ha k hk]⟩
def PB (i : Nat) (t : Nat → Nat) (x : Nat) (c : Nat → Nat) : Prop := lexLt i c t ∨ (agr i c t ∧ c i < x)
theorem CheapP.skip {i x s l : Nat} {t A B LJ LP : Nat → Nat} {r : Int32} {b : Nat → Int32} (h : CheapP (PB i t x) s l A B LJ LP r b) (hi : i < s) (hk : ∀ c, okC s c → agr i c t → c i = x → Bears s l A B LJ LP c → ¬ r = -1 ∧ ∀ c0, r = nI (inchs s c0) → inchs s c0 ≤ inchs s c) : CheapP (PB i t (x + 1)) s l A B LJ LP r b := by
  rcases h with ⟨h1, h2⟩ | ⟨c0, h1, h2, h3, h4, h5, h6⟩
  · refine .inl ⟨h1, fun c hc hp hb => ?_⟩
    rcases hp with hp | ⟨hp, hp2⟩
    · exact h2 c hc (.inl hp) hb
    · by_cases z : c i = x
      · exact (hk c hc hp z hb).1 h1
      · exact h2 c hc (.inr ⟨hp, by omega⟩) hb
  · refine .inr ⟨c0, h1, ?_, h3, h4, h5, fun c hc hp hb => ?_⟩
    · rcases h2 with z | ⟨z, y⟩
      · exact .inl z
      · exact .inr ⟨z, by omega⟩
    · rcases hp with hp | ⟨hp, hp2⟩
      · exact h6 c hc (.inl hp) hb
      · by_cases z : c i = x
        · refine ⟨(hk c hc hp z hb).2 c0 h4, fun _ => lex_asym ?_⟩
          rcases h2 with y | ⟨y, y2⟩
          · exact lex_up (by omega) y hp
          · exact ⟨i, hi, fun q hq => by rw [y q hq, hp q hq], by omega⟩
        · exact h6 c hc (.inr ⟨hp, by omega⟩) hb
theorem CheapP.leaf {s l : Nat} {t A B LJ LP : Nat → Nat} {r : Int32} {b b' : Nat → Int32} (hs : s ≤ 8) (h : CheapP (fun c => lexLt s c t) s l A B LJ LP r b) (ht : okC s t) (hB : Bears s l A B LJ LP t) (hr : r = -1 ∨ ∃ R, r = nI R ∧ R ≤ 72 ∧ inchs s t < R) (hb : ∀ k, k < s → b' k = nI (t k)) : CheapP (fun c => lexLt s c t ∨ agr s c t) s l A B LJ LP (nI (inchs s t)) b' := by
  refine .inr ⟨t, ht, .inr (fun _ _ => rfl), hB, rfl, hb, fun c hc hp hbc => ?_⟩
  rcases hp with hp | hp
  · rcases h with ⟨h1, h2⟩ | ⟨c0, h1, h2, h3, h4, h5, h6⟩
    · exact absurd hbc (h2 c hc hp)
    · have := (h6 c hc hp hbc).1
      have hc0 := inchs_le (c := c0) s
      rcases hr with hr | ⟨R, r1, r2, r3⟩
      · exfalso
        have q := nI_pos (n := inchs s c0) (by omega)
        rw [← h4, hr] at q; exact q (by decide)
      · have : R = inchs s c0 := (nI_eq (by omega) (by omega)).mp (by rw [← r1, h4])
        exact ⟨by omega, fun z => by omega⟩
  · exact ⟨by rw [inchs_agr hp]; exact Nat.le_refl _, fun _ => lex_irr hp⟩
/-! the class's choose -/
def spv (CS CN : Nat → Nat) (i : Nat) (t : Nat → Nat) (e : Nat) : Int32 := 60 * nI (pcR (CS e) 31 0) - nI (CN e) - sm (fun k => if (CS e).testBit k = true then 60 - nI (tbo (t k)) else 0) i
def ext (i : Nat) (t : Nat → Nat) (k : Nat) : Nat := if k < i then t k else 2
def upN (t : Nat → Nat) (i x : Nat) (k : Nat) : Nat := if k = i then x else t k
theorem spv_congr {CS CN : Nat → Nat} {i e : Nat} {t t' : Nat → Nat} (h : agr i t t') : spv CS CN i t e = spv CS CN i t' e := by
  unfold spv
  rw [sm_congr i (fun k hk => by rw [h k hk])]
theorem spv_succ {CS CN : Nat → Nat} {i x e : Nat} {t : Nat → Nat} : spv CS CN (i + 1) (upN t i x) e = if (CS e).testBit i = true then spv CS CN i t e - (60 - nI (tbo x)) else spv CS CN i t e := by
  rw [← spv_congr (t := upN t i x) (t' := t) (fun k hk => if_neg (by omega))]
  unfold spv
  rw [sm]
  have e1 : upN t i x i = x := if_pos rfl
  rw [e1]
  by_cases z : (CS e).testBit i = true
  · simp only [z, if_true]; grind
  · simp only [z, Bool.false_eq_true, if_false]; grind
theorem e60 : (60 : Int32) - nI (tbo 2) = 0 := by decide
theorem spv_ext {CS CN : Nat → Nat} {i e : Nat} {t : Nat → Nat} : ∀ n, i ≤ n → spv CS CN n (ext i t) e = spv CS CN i t e := by
  intro n
  induction n with
  | zero => intro h; have : i = 0 := by omega
            subst this; exact spv_congr (fun k hk => by omega)
  | succ n ih =>
    intro h
    by_cases z : i = n + 1
    · subst z; exact spv_congr (fun k hk => if_pos hk)
    · rw [← ih (by omega)]
      unfold spv
      rw [sm]
      have e1 : ext i t n = 2 := if_neg (by omega)
      have e2 : (60 : Int32) - nI (tbo 2) = 0 := e60
      rw [e1, e2]
      simp only [ite_self]
      grind
theorem sound_bears {j s l c : Nat} {A B LJ LP CS CN t : Nat → Nat} {i : Nat} (hs8 : s ≤ 8) (hi : i ≤ s) (hO : CutsOK j s l c A B LJ LP CS CN (2 ^ j)) (hA : ∀ k, k < s → A k < j ∧ B k < j) (hL : ∀ q, q < l → LJ q < j ∧ 1 ≤ LP q ∧ LP q ≤ 500) : (∀ e, e < c → 0 ≤ spv CS CN i t e) ↔ Bears s l A B LJ LP (ext i t) := by
  have hbits := hO.bits
  have hcn := hO.cn (fun q hq => (hL q hq).2.2)
  rw [← cuts_bears (T := ext i t) hO hA (fun q hq => ⟨(hL q hq).1, (hL q hq).2.1⟩)]
  have hsp : ∀ e, e < c → (0 ≤ spv CS CN i t e ↔ CN e ≤ capM (CS e) (ext i t) s) := fun e he => by
    rw [← spv_ext s hi]
    unfold spv
    rw [spare_end hs8 (hbits e he)]
    have q1 := hcn e he
    have q2 := capM_le (m := CS e) (c := ext i t) s
    have z := pk_sub_toInt (a := capM (CS e) (ext i t) s) (b := CN e) (by omega) (by omega)
    rw [Int32.le_iff_toInt_le, z, show (0 : Int32).toInt = 0 by decide]
    omega
  exact ⟨fun h e he => (hsp e he).mp (h e he), fun h e he => (hsp e he).mpr (h e he)⟩
theorem CutS.of {V V' : St} {nD d c : Nat} {CS : Nat → Nat} {sp sp' : Nat → Int32} (h : CutS V nD d c CS sp) (hg : ∀ v, v ∈ [2104, 1214, 1207, 1209] → V' v = V v) (hs : ∀ e, e < c → sp e = sp' e) : CutS V' nD d c CS sp' := by
  unfold CutS at h ⊢
  rw [hg 2104 (by decide), hg 1214 (by decide), hg 1207 (by decide), hg 1209 (by decide)]
  obtain ⟨h1, h2, h3, h4, h5, h6⟩ := h
  exact ⟨h1, h2, h3, h4, h5, fun k hk => ⟨(h6 k hk).1, (h6 k hk).2.1, by rw [(h6 k hk).2.2, hs k hk]⟩⟩
def ChF (d : Nat) (W W' : St) : Prop := Fr [1209, 1210, 1211, 1215] W W' ∧ ∀ d', d' ≠ d → W' 1211 d' = W 1211 d' ∧ W' 1215 d' = W 1215 d'
theorem ChF.refl (d : Nat) (W : St) : ChF d W W := ⟨Fr.refl _ W, fun _ _ => ⟨rfl, rfl⟩⟩
theorem ChF.trans {d : Nat} {W W' W'' : St} (h : ChF d W W') (h' : ChF d W' W'') : ChF d W W'' := ⟨h.1.trans h'.1, fun d' hd => ⟨((h'.2 d' hd).1).trans (h.2 d' hd).1, ((h'.2 d' hd).2).trans (h.2 d' hd).2⟩⟩
theorem ChF.fr {d : Nat} {W W' : St} {ws : List Nat} (h : Fr ws W W') (h1 : ws.all (fun v => [1209, 1210].contains v) = true) : ChF d W W' := by
  have h2 : Fr [1209, 1210] W W' := h.weak h1
  exact ⟨h2.weak (by decide), fun d' _ => ⟨by rw [h2 1211 (by decide)], by rw [h2 1215 (by decide)]⟩⟩
def ChI (W : St) (nD d s c i : Nat) (CS CN t : Nat → Nat) : Prop := CutS W nD d c CS (spv CS CN i t) ∧ W 1212 d 0 = nI s ∧ ∀ k, k < i → t k < 3 ∧ W 1210 d k = nI (t k)
theorem gT1_eq {t : Nat} (h : t < 3) : gT1 (nI t) = nI (tus t) := by
  rcases (show t = 0 ∨ t = 1 ∨ t = 2 by omega) with rfl | rfl | rfl <;> rfl
theorem PB_lt {i x : Nat} {t c : Nat → Nat} : PB i t x c ↔ lexLt (i + 1) c (upN t i x) := by
  have e : ∀ k, k < i → upN t i x k = t k := fun k hk => if_neg (by omega)
  have e2 : upN t i x i = x := if_pos rfl
  rw [lex_succ, e2]
  unfold PB
  have h1 : lexLt i c t ↔ lexLt i c (upN t i x) := by
    constructor
    · rintro ⟨k, k1, k2, k3⟩; exact ⟨k, k1, fun q hq => by rw [e q (by omega)]; exact k2 q hq, by rw [e k k1]; exact k3⟩
    · rintro ⟨k, k1, k2, k3⟩; exact ⟨k, k1, fun q hq => by rw [← e q (by omega)]; exact k2 q hq, by rw [← e k k1]; exact k3⟩
  have h2 : agr i c t ↔ agr i c (upN t i x) := by
    constructor
    · intro h k hk; rw [e k hk]; exact h k hk
    · intro h k hk; rw [← e k hk]; exact h k hk
  rw [h1, h2]
theorem PB_le {i x : Nat} {t c : Nat → Nat} : PB i t (x + 1) c ↔ (lexLt (i + 1) c (upN t i x) ∨ agr (i + 1) c (upN t i x)) := by
  rw [← PB_lt]
  have e : ∀ k, k < i → upN t i x k = t k := fun k hk => if_neg (by omega)
  have e2 : upN t i x i = x := if_pos rfl
  unfold PB
  constructor
  · rintro (h | ⟨h1, h2⟩)
    · exact .inl (.inl h)
    · by_cases z : c i = x
      · refine .inr (fun k hk => ?_)
        by_cases y : k = i
        · subst y; rw [e2]; exact z
        · rw [e k (by omega)]; exact h1 k (by omega)
      · exact .inl (.inr ⟨h1, by omega⟩)
  · rintro ((h | ⟨h1, h2⟩) | h)
    · exact .inl h
    · exact .inr ⟨h1, by omega⟩
    · refine .inr ⟨fun k hk => ?_, ?_⟩
      · rw [← e k hk]; exact h k (by omega)
      · have := h i (by omega); omega
theorem PB_0 {i : Nat} {t c : Nat → Nat} : PB i t 0 c ↔ lexLt i c t := ⟨fun h => h.elim id (fun z => by omega), .inl⟩
theorem PB_3 {i s : Nat} {t c : Nat → Nat} (hi : i < s) (hc : okC s c) : PB i t 3 c ↔ (lexLt i c t ∨ agr i c t) := ⟨fun h => h.elim .inl (fun z => .inr z.1), fun h => h.elim .inl (fun z => .inr ⟨z, hc i hi⟩)⟩
theorem CheapP.val {P : (Nat → Nat) → Prop} {s l : Nat} {A B LJ LP : Nat → Nat} {r : Int32} {b : Nat → Int32} (h : CheapP P s l A B LJ LP r b) (hs : s ≤ 8) : r = -1 ∨ ∃ R, r = nI R ∧ R ≤ 72 := by
  rcases h with ⟨h1, -⟩ | ⟨c, -, -, -, h1, -⟩
  · exact .inl h1
  · have := inchs_le (c := c) s
    exact .inr ⟨_, h1, by omega⟩
theorem cpV_fn {V : St} {a b i n v : Nat} (h : v ≠ b) : cpV V a b i n v = V v := by
  funext x y; exact if_neg (fun z => h z.1)
