/-! orders as rows and as lists -/
theorem rl_len {row : Nat → Nat} : ∀ m i, (rl row i m).length = m := by
  intro m
  induction m with
  | zero => intro i; rfl
  | succ m ih => intro i; rw [rl, List.length_cons, ih]
theorem rl_mem {row : Nat → Nat} {q : Nat} : ∀ m i, q ∈ rl row i m ↔ ∃ k, i ≤ k ∧ k < i + m ∧ row k = q := by
  intro m
  induction m with
  | zero =>
    intro i
    constructor
    · intro h; cases h
    · rintro ⟨k, k1, k2, -⟩; omega
  | succ m ih =>
    intro i
    rw [rl, List.mem_cons, ih]
    constructor
    · rintro (h | ⟨k, k1, k2, k3⟩)
      · exact ⟨i, Nat.le_refl i, by omega, h.symm⟩
      · exact ⟨k, by omega, by omega, k3⟩
    · rintro ⟨k, k1, k2, k3⟩
      by_cases z : k = i
      · subst z; exact .inl k3.symm
      · exact .inr ⟨k, by omega, by omega, k3⟩
theorem rl_nodup {row : Nat → Nat} : ∀ m i, (∀ a b, i ≤ a → a < i + m → i ≤ b → b < i + m → row a = row b → a = b) → (rl row i m).Nodup := by
  intro m
  induction m with
  | zero => intro i _; exact List.nodup_nil
  | succ m ih =>
    intro i h
    rw [rl, List.nodup_cons]
    refine ⟨fun z => ?_, ih (i + 1) (fun a b h1 h2 h3 h4 => h a b (by omega) (by omega) (by omega) (by omega))⟩
    obtain ⟨k, k1, k2, k3⟩ := (rl_mem m (i + 1)).mp z
    have := h k i (by omega) (by omega) (by omega) (by omega) k3
    omega
theorem pm_ord {n : Nat} {row : Nat → Nat} (h : isPm n row) : Ord (2 ^ n - 1) n (rl row 0 n) := by
  refine ⟨rl_nodup n 0 (fun a b _ h1 _ h2 => h.2 a b (by omega) (by omega)), rl_len n 0, fun p => ?_⟩
  rw [rl_mem, Nat.testBit_two_pow_sub_one, decide_eq_true_eq]
  constructor
  · rintro ⟨k, -, k2, k3⟩
    rw [← k3]; exact h.1 k (by omega)
  · intro hp
    obtain ⟨i, i1, i2⟩ := pm_surj n row h p hp
    exact ⟨i, Nat.zero_le i, by omega, i2⟩
theorem getD_mem : ∀ (L : List Nat) (i : Nat), i < L.length → L.getD i 0 ∈ L := by
  intro L
  induction L with
  | nil => intro i h; cases h
  | cons p ps ih =>
    intro i h
    cases i with
    | zero => exact List.mem_cons_self ..
    | succ i => exact List.mem_cons_of_mem p (ih i (by rw [List.length_cons] at h; omega))
theorem getD_inj : ∀ (L : List Nat), L.Nodup → ∀ i j, i < L.length → j < L.length → L.getD i 0 = L.getD j 0 → i = j := by
  intro L
  induction L with
  | nil => intro _ i j h; cases h
  | cons p ps ih =>
    intro hn i j hi hj he
    rw [List.nodup_cons] at hn
    rw [List.length_cons] at hi hj
    cases i with
    | zero =>
      cases j with
      | zero => rfl
      | succ j =>
        have he' : p = ps.getD j 0 := he
        exact absurd (by rw [he']; exact getD_mem ps j (by omega)) hn.1
    | succ i =>
      cases j with
      | zero =>
        have he' : ps.getD i 0 = p := he
        exact absurd (by rw [← he']; exact getD_mem ps i (by omega)) hn.1
      | succ j =>
        have he' : ps.getD i 0 = ps.getD j 0 := he
        rw [ih hn.2 i j (by omega) (by omega) he']
theorem rl_getD {row : Nat → Nat} : ∀ (L : List Nat) (i : Nat), (∀ k, k < L.length → row (i + k) = L.getD k 0) → rl row i L.length = L := by
  intro L
  induction L with
  | nil => intro i _; rfl
  | cons p ps ih =>
    intro i h
    rw [List.length_cons, rl]
    have h0 := h 0 (by rw [List.length_cons]; omega)
    have h0' : row i = p := h0
    rw [h0', ih (i + 1) (fun k hk => by
      have := h (k + 1) (by rw [List.length_cons]; omega)
      rw [show i + 1 + k = i + (k + 1) by omega, this]; rfl)]
theorem ord_pm {n : Nat} {L : List Nat} (h : Ord (2 ^ n - 1) n L) : isPm n (fun i => L.getD i 0) ∧ rl (fun i => L.getD i 0) 0 n = L := by
  obtain ⟨h1, h2, h3⟩ := h
  refine ⟨⟨fun i hi => ?_, fun i j hi hj he => getD_inj L h1 i j (by omega) (by omega) he⟩, ?_⟩
  · have := (h3 _).mp (getD_mem L i (by omega))
    rw [Nat.testBit_two_pow_sub_one, decide_eq_true_eq] at this
    exact this
  · have := rl_getD (row := fun i => L.getD i 0) L 0 (fun k _ => by rw [Nat.zero_add])
    rw [h2] at this; exact this
theorem lex_rl {r r' : Nat → Nat} : ∀ m i, (∃ k, i ≤ k ∧ k < i + m ∧ (∀ j, i ≤ j → j < k → r j = r' j) ∧ r k < r' k) → lexL (rl r i m) (rl r' i m) := by
  intro m
  induction m with
  | zero => rintro i ⟨k, k1, k2, -⟩; omega
  | succ m ih =>
    rintro i ⟨k, k1, k2, k3, k4⟩
    rw [rl, rl]
    by_cases z : k = i
    · subst z; exact .inl k4
    · exact .inr ⟨k3 i (Nat.le_refl i) (by omega), ih (i + 1) ⟨k, by omega, by omega, fun j h1 h2 => k3 j (by omega) h2, k4⟩⟩
theorem ones_all : ∀ n : Nat, n < 10 → sS (fun _ => 1) (2 ^ n - 1) = n := by decide
/-! the class's search -/
def lyw : List Nat := [1501, 1502, 1503, 1504, 1505, 1506, 1507, 1508]
theorem search_new {fu nT x p Wd : Nat} {V : St} {len wid : Nat → Nat} (hfu : 1000 ≤ fu) (h : CoV V nT x p len wid) (hW1 : 1 ≤ Wd) (hWd : Wd ≤ 200) (hw : ∀ k, k < p → wid k ≤ Wd) : ∃ V1, F_X5_search_28 fu V (nI x) (nI Wd) = some (0, V1) ∧ Fr lyw V V1 ∧ V1 1506 0 0 = nI x ∧ V1 1507 0 0 = nI Wd ∧ V1 1508 0 0 = nI p ∧ IsLeast p Wd len wid (V1 1505 0 0) (V1 1504 0) := by
  have hh := h
  obtain ⟨hx, h30, hn, hp9, hp, hpl, hk⟩ := h
  have hp2 : 2 ^ p ≤ 512 := Nat.pow_le_pow_right (n := 2) (by decide) hp9
  have hp0 : 0 < 2 ^ p := Nat.pow_pos (by decide)
  have hF0 : Fr lyw V (setV (setV (setV V 1506 0 0 (nI x)) 1507 0 0 (nI Wd)) 1508 0 0 (nI p)) := (((Fr.refl _ V).set (by decide)).set (by decide)).set (by decide)
  have h0 := hh.fr hF0 (by decide)
  have hl60 : ∀ k, k < p → len k ≤ 60 := fun k hk' => (hk k hk').2.1
  have hw60 : ∀ k, k < p → wid k ≤ 60 := fun k hk' => (hk k hk').2.2.2.1
  obtain ⟨V1, a1, a2, a3⟩ := measure_eq (fu := fu) hfu h0 (by rw [setV_at, if_pos ⟨rfl, rfl⟩])
  have e8 : V1 1508 0 0 = nI p := by rw [a2 1508 (by decide), setV_at, if_pos ⟨rfl, rfl⟩]
  have e7 : V1 1507 0 0 = nI Wd := by rw [a2 1507 (by decide), setV_fn (by decide), setV_at, if_pos ⟨rfl, rfl⟩]
  have e6 : V1 1506 0 0 = nI x := by rw [a2 1506 (by decide), setV_fn (by decide), setV_fn (by decide), setV_at, if_pos ⟨rfl, rfl⟩]
  obtain ⟨V2, sh, b1, b2, b3, b4⟩ := shorten_eq (fu := fu) (p := p) (Wd := Wd) (V := V1) (len := len) (wid := wid) hfu hp9 hWd hl60 (fun k hk' => ⟨hw60 k hk', hw k hk'⟩) e8 a3
  have hse2 : SeV V2 p len wid := fun S hS => by rw [b2 1501 (by decide), b2 1502 (by decide)]; exact a3 S hS
  have hall : 2 ^ p - 1 < 2 ^ p := by omega
  have w3 := b3 (2 ^ p - 1) hall
  have h540 := sh_540 b4 (2 ^ p - 1) hall
  have hF2 : Fr lyw V V2 := (hF0.trans (Fr.weak a2 (by decide))).trans (Fr.weak b2 (by decide))
  have hF3 : Fr lyw V (setV V2 1505 0 0 (nI (sh (2 ^ p - 1)))) := hF2.set (by decide)
  have hI3 : PlI (setV V2 1505 0 0 (nI (sh (2 ^ p - 1)))) nT x p Wd (sh (2 ^ p - 1)) len wid sh := by
    refine ⟨hh.fr hF3 (by decide), ?_, ?_, fun S hS => ?_, fun T hT => ?_⟩
    · rw [setV_fn (by decide), b2 1507 (by decide)]; exact e7
    · rw [setV_at, if_pos ⟨rfl, rfl⟩]
    · rw [setV_fn (by decide), setV_fn (by decide)]; exact hse2 S hS
    · rw [setV_fn (by decide)]; exact b3 T hT
  obtain ⟨L0, o1, o2⟩ := sh_order hp2 b4 hall
  rw [ones_all p (by omega)] at o1
  obtain ⟨V3, f1, f2, f3⟩ := place_eq (fu := fu) hfu hWd hw b4 (by omega) 12 (setV V2 1505 0 0 (nI (sh (2 ^ p - 1)))) 0 (2 ^ p - 1) p 0 Wd 0 hI3 (by omega) (by omega) ⟨L0, o1⟩ hall (Nat.le_refl _) (by omega) (fun _ => by omega)
  rcases f3 with ⟨g1, L, g2, g3, g4, g5⟩ | ⟨-, g2⟩
  · refine ⟨V3, ?_, hF3.trans (Fr.weak f1 (by decide)), ?_, ?_, ?_, ?_⟩
    · have hc0 : cntV V 2105 = nT := cnt_n (by decide) (by omega) hn
      have w8 : V2 1508 0 0 = nI p := by rw [b2 1508 (by decide)]; exact e8
      have em : nI (2 ^ p) - 1 = nI (2 ^ p - 1) := by rw [show (1 : Int32) = nI 1 from rfl, pk_sub hp0]
      have gp : f_X5_place fu (setV V2 1505 0 0 (nI (sh (2 ^ p - 1)))) (nI x) 0 (nI (2 ^ p - 1)) 0 (nI Wd) 0 = some (1, V3) := g1
      simp (disch := omega) only [F_X5_search_28, hc0, hp, a1, b1, w8, shl1 hp9, em, w3, gp, bd_some, n10, n00, bv_eq, within_eq, in_eq, gd_T, gd_t, i00, i10, c_0, c_1, c_m1, ite10, ite01, setV_fn, setV_at, cntS, nI_pos, nI_clamp, nI_leI, nI_ltI, nI_eq, nI_1, if_true, if_false, not_true, not_false, and_self, and_true, true_and, false_and, and_false, or_false, false_or, or_true, true_or, not_false_eq_true, ite_self, ite_true, ite_false, reduceIte, Nat.reduceEqDiff, Nat.reduceMul, Nat.reduceAdd, Nat.reduceLT, Nat.reducePow, ne_eq]
    · rw [f1 1506 (by decide), setV_fn (by decide), b2 1506 (by decide)]; exact e6
    · rw [f1 1507 (by decide), setV_fn (by decide), b2 1507 (by decide)]; exact e7
    · rw [f1 1508 (by decide), setV_fn (by decide), b2 1508 (by decide)]; exact e8
    · obtain ⟨p1, p2⟩ := ord_pm g2
      have hst : ∀ M, Ord (2 ^ p - 1) p M → gr Wd len wid M 0 Wd = gr Wd len wid M 0 0 := fun M hM => gr_start (fun q hq => by
        have hb := (hM.2.2 q).mp hq
        have hq' := bit_ltp hall hb
        exact ⟨(hk q hq').2.2.1, hw q hq'⟩)
      have hlow : ∀ row', isPm p row' → sh (2 ^ p - 1) ≤ lenOf Wd len wid p row' := fun row' hr => by
        have hor := pm_ord hr
        rw [lenOf_gr, ← hst _ hor]
        obtain ⟨Y, y1, y2, y3⟩ := gr_ge hp2 b4 (fun k T hT hb' => hw k (bit_ltp hT hb')) (rl row' 0 p) _ p 0 Wd hall hor
        by_cases z : Y = 0
        · subst z; rw [Nat.xor_zero] at y3; omega
        · have := sh_part hp2 b4 9 _ Y sS_le9 hall y1 z y2
          omega
      have hle : lenOf Wd len wid p (fun i => L.getD i 0) ≤ sh (2 ^ p - 1) := by
        rw [lenOf_gr, p2, ← hst L g2]; omega
      have heq : lenOf Wd len wid p (fun i => L.getD i 0) = sh (2 ^ p - 1) := Nat.le_antisymm hle (hlow _ p1)
      refine ⟨fun k hk' => ⟨hl60 k hk', hw60 k hk'⟩, fun i => L.getD i 0, p1, ?_, fun i hi => ?_, fun row' hr => ⟨by rw [heq]; exact hlow row' hr, fun he hlx => ?_⟩⟩
      · rw [f1 1505 (by decide), setV_at, if_pos ⟨rfl, rfl⟩, heq]
      · have := g5 i hi
        rw [Nat.zero_add] at this; exact this
      · have hor := pm_ord hr
        refine g4 (rl row' 0 p) hor ?_ ?_
        · rw [hst _ hor, ← lenOf_gr]; omega
        · rw [← p2]
          obtain ⟨k, k1, k2, k3⟩ := hlx
          exact lex_rl p 0 ⟨k, Nat.zero_le k, by omega, fun j _ hj => k2 j hj, k3⟩
  · exact absurd (by omega) (g2 L0 o1)
