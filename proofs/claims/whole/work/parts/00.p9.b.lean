/-! rows of a pattern: the greedy laying of a list -/
def gr (W : Nat) (len wid : Nat → Nat) : List Nat → Nat → Nat → Nat
  | [], h, _ => h
  | p :: ps, h, l => if l < wid p then h + gr W len wid ps (len p) (W - wid p) else gr W len wid ps (max h (len p)) (l - wid p)
def rl (row : Nat → Nat) : Nat → Nat → List Nat
  | _, 0 => []
  | i, m + 1 => row i :: rl row (i + 1) m
theorem gr_run {W : Nat} {len wid row : Nat → Nat} : ∀ m i, (lenRun W len wid row i).1 + gr W len wid (rl row i m) (lenRun W len wid row i).2.1 (lenRun W len wid row i).2.2 = lenOf W len wid (i + m) row := by
  intro m
  induction m with
  | zero => intro i; rfl
  | succ m ih =>
    intro i
    have h := ih (i + 1)
    rw [show i + 1 + m = i + (m + 1) by omega] at h
    rw [← h, rl, gr]
    have e : lenRun W len wid row (i + 1) = lenStep W len wid (row i) (lenRun W len wid row i) := rfl
    rw [e]
    unfold lenStep
    split
    · simp only []; omega
    · simp only []
theorem lenOf_gr {W n : Nat} {len wid row : Nat → Nat} : lenOf W len wid n row = gr W len wid (rl row 0 n) 0 0 := by
  have := gr_run (W := W) (len := len) (wid := wid) (row := row) n 0
  rw [Nat.zero_add] at this
  rw [← this]
  show 0 + gr W len wid (rl row 0 n) 0 0 = gr W len wid (rl row 0 n) 0 0
  rw [Nat.zero_add]
theorem gr_start {W : Nat} {len wid : Nat → Nat} {L : List Nat} (h : ∀ p, p ∈ L → 1 ≤ wid p ∧ wid p ≤ W) : gr W len wid L 0 W = gr W len wid L 0 0 := by
  cases L with
  | nil => rfl
  | cons p ps =>
    have := h p (List.mem_cons_self ..)
    rw [gr, gr, if_neg (by omega), if_pos (by omega), Nat.zero_max, Nat.zero_add]
def Ord (S m : Nat) (L : List Nat) : Prop := L.Nodup ∧ L.length = m ∧ ∀ p, p ∈ L ↔ S.testBit p = true
theorem Ord.nil {S : Nat} {L : List Nat} (h : Ord S 0 L) : S = 0 := by
  obtain ⟨-, h2, h3⟩ := h
  have : L = [] := List.eq_nil_of_length_eq_zero h2
  subst this
  exact mask0 (fun j => by
    cases hs : S.testBit j
    · rfl
    · have := (h3 j).mpr hs; cases this)
theorem Ord.zero {m : Nat} {L : List Nat} (h : Ord 0 m L) : L = [] := by
  obtain ⟨-, -, h3⟩ := h
  cases L with
  | nil => rfl
  | cons p ps => have := (h3 p).mp (List.mem_cons_self ..); rw [Nat.zero_testBit] at this; cases this
theorem Ord.tail {S m p : Nat} {ps : List Nat} (h : Ord S m (p :: ps)) : S.testBit p = true ∧ ∃ m', m = m' + 1 ∧ Ord (S ^^^ 2 ^ p) m' ps := by
  obtain ⟨h1, h2, h3⟩ := h
  have hp := (h3 p).mp (List.mem_cons_self ..)
  rw [List.nodup_cons] at h1
  refine ⟨hp, ps.length, by rw [← h2]; rfl, h1.2, rfl, fun q => ?_⟩
  rw [xor_sub (sub_one hp), Nat.testBit_two_pow]
  by_cases z : q = p
  · subst z; simp [h1.1]
  · have : ¬ p = q := fun y => z y.symm
    have := h3 q
    simp_all
theorem Ord.cons {S m p : Nat} {ps : List Nat} (hp : S.testBit p = true) (h : Ord (S ^^^ 2 ^ p) m ps) : Ord S (m + 1) (p :: ps) := by
  obtain ⟨h1, h2, h3⟩ := h
  have hx : ∀ q, q ∈ ps ↔ (S.testBit q = true ∧ ¬ p = q) := fun q => by
    rw [h3 q, xor_sub (sub_one hp), Nat.testBit_two_pow]; simp
  refine ⟨List.nodup_cons.mpr ⟨fun z => ((hx p).mp z).2 rfl, h1⟩, by rw [List.length_cons, h2], fun q => ?_⟩
  rw [List.mem_cons, hx q]
  by_cases z : q = p
  · subst z; simp [hp]
  · have : ¬ p = q := fun y => z y.symm
    simp [z, this]
/-! parting a set into rows -/
def shOK (W : Nat) (len wid sh : Nat → Nat) (top : Nat) : Prop := sh 0 = 0 ∧ ∀ S, S < top → S ≠ 0 → (∃ X, subM X S ∧ X.testBit (lw S) = true ∧ sS wid X ≤ W ∧ sh S = mS len X + sh (S ^^^ X)) ∧ (∀ X, subM X S → X.testBit (lw S) = true → sS wid X ≤ W → sh S ≤ mS len X + sh (S ^^^ X)) ∧ sh S ≤ 60 * sS (fun _ => 1) S
theorem sh_part {W top : Nat} {len wid sh : Nat → Nat} (htop : top ≤ 512) (h : shOK W len wid sh top) : ∀ (n S X : Nat), sS (fun _ => 1) S ≤ n → S < top → subM X S → X ≠ 0 → sS wid X ≤ W → sh S ≤ mS len X + sh (S ^^^ X) := by
  intro n
  induction n with
  | zero =>
    intro S X hn hS hX h0
    exfalso
    have : S ≠ 0 := fun z => h0 (Nat.le_zero.mp (by rw [← z]; exact hX.le))
    have := sS_pos (show S < 512 by omega) this
    omega
  | succ n ih =>
    intro S X hn hS hX h0 hw
    have hS0 : S ≠ 0 := fun z => h0 (Nat.le_zero.mp (by rw [← z]; exact hX.le))
    obtain ⟨-, r2, -⟩ := h.2 S hS hS0
    by_cases hp : X.testBit (lw S) = true
    · exact r2 X hX hp hw
    · obtain ⟨-, -, -, hlw⟩ := lw_and S (by omega) hS0
      have hx1 := hX.xor
      have hS1 : S ^^^ X < top := Nat.lt_of_le_of_lt hx1.le hS
      have hb1 : (S ^^^ X).testBit (lw S) = true := by rw [xor_sub hX, hlw]; simp [hp]
      have hS1n : S ^^^ X ≠ 0 := fun z => by rw [z, Nat.zero_testBit] at hb1; cases hb1
      have e1 : lw (S ^^^ X) = lw S := lw_uniq (by omega) hb1 (fun j hj => by rw [xor_sub hX, lw_low j hj]; rfl)
      obtain ⟨⟨Y, y1, y2, y3, y4⟩, -, -⟩ := h.2 (S ^^^ X) hS1 hS1n
      rw [e1] at y2
      have hYS := y1.trans hx1
      have hY0 : Y ≠ 0 := fun z => by rw [z, Nat.zero_testBit] at y2; cases y2
      have a1 := r2 Y hYS y2 y3
      have hXY : subM X (S ^^^ Y) := fun j hj => by
        rw [xor_sub hYS, hX j hj]
        cases hy : Y.testBit j
        · rfl
        · have := y1 j hy
          rw [xor_sub hX, hj] at this
          simp at this
      have a2 := ih (S ^^^ Y) X (by have := xor_lt (show S < 512 by omega) hYS hY0; omega) (Nat.lt_of_le_of_lt hYS.xor.le hS) hXY h0 hw
      rw [xor_xor] at a2
      omega
/-- no order is shorter than the best parting -/
theorem gr_ge {W top : Nat} {len wid sh : Nat → Nat} (htop : top ≤ 512) (h : shOK W len wid sh top) (hw : ∀ p S, S < top → S.testBit p = true → wid p ≤ W) : ∀ (L : List Nat) (S m a l : Nat), S < top → Ord S m L → ∃ Y, subM Y S ∧ sS wid Y ≤ l ∧ max a (mS len Y) + sh (S ^^^ Y) ≤ gr W len wid L a l := by
  intro L
  induction L with
  | nil =>
    intro S m a l hS hO
    have hm : m = 0 := hO.2.1.symm
    subst hm
    have := hO.nil
    subst this
    refine ⟨0, subM.zero 0, by rw [sS_0]; omega, ?_⟩
    rw [mS_0, Nat.xor_self, h.1, gr]
    omega
  | cons p ps ih =>
    intro S m a l hS hO
    obtain ⟨hp, m', -, hO'⟩ := hO.tail
    have hs1 := sub_one hp
    have hS' : S ^^^ 2 ^ p < top := Nat.lt_of_le_of_lt hs1.xor.le hS
    have hp9 : p < 9 := bit_lt9 (by omega) hp
    have mk : ∀ Y, subM Y (S ^^^ 2 ^ p) → subM (Y ||| 2 ^ p) S ∧ sS wid (Y ||| 2 ^ p) = wid p + sS wid Y ∧ mS len (Y ||| 2 ^ p) = max (len p) (mS len Y) ∧ S ^^^ (Y ||| 2 ^ p) = S ^^^ 2 ^ p ^^^ Y := fun Y hY => by
      have hYp : ∀ j, (Y ||| 2 ^ p).testBit j = (Y.testBit j || decide (p = j)) := fun j => by rw [Nat.testBit_or, Nat.testBit_two_pow]
      have hYn : ∀ j, Y.testBit j = true → S.testBit j = true ∧ ¬ p = j := fun j hj => by
        have := hY j hj
        rw [xor_sub hs1, Nat.testBit_two_pow] at this
        simpa using this
      have b1 : subM (Y ||| 2 ^ p) S := fun j hj => by
        rw [hYp] at hj
        by_cases z : p = j
        · rw [← z]; exact hp
        · have : Y.testBit j = true := by simpa [z] using hj
          exact (hYn j this).1
      have b2 : subM (2 ^ p) (Y ||| 2 ^ p) := sub_one (by rw [hYp]; simp)
      have b3 : (Y ||| 2 ^ p) ^^^ 2 ^ p = Y := Nat.eq_of_testBit_eq (fun j => by
        rw [xor_sub b2, hYp, Nat.testBit_two_pow]
        have := hYn j
        cases hy : Y.testBit j <;> by_cases z : p = j <;> simp_all)
      have b4 : Y ||| 2 ^ p < 512 := Nat.lt_of_le_of_lt b1.le (by omega)
      refine ⟨b1, ?_, ?_, ?_⟩
      · rw [sS_split b2, b3, sS_one hp9]
      · rw [mS_split b4 b2, b3, mS_one hp9]
      · refine Nat.eq_of_testBit_eq (fun j => ?_)
        rw [xor_sub b1, xor_sub hY, xor_sub hs1, hYp, Nat.testBit_two_pow]
        cases S.testBit j <;> cases Y.testBit j <;> by_cases z : p = j <;> simp [z]
    rw [gr]
    by_cases hl : l < wid p
    · rw [if_pos hl]
      obtain ⟨Y, y1, y2, y3⟩ := ih (S ^^^ 2 ^ p) m' (len p) (W - wid p) hS' hO'
      obtain ⟨k1, k2, k3, k4⟩ := mk Y y1
      have := hw p S hS hp
      have a1 := sh_part htop h 9 S (Y ||| 2 ^ p) sS_le9 hS k1 (fun z => by
        have : (Y ||| 2 ^ p).testBit p = true := by rw [Nat.testBit_or, Nat.testBit_two_pow]; simp
        rw [z, Nat.zero_testBit] at this; cases this) (by omega)
      rw [k3, k4] at a1
      refine ⟨0, subM.zero S, by rw [sS_0]; omega, ?_⟩
      rw [mS_0, Nat.xor_zero]
      omega
    · rw [if_neg hl]
      obtain ⟨Y, y1, y2, y3⟩ := ih (S ^^^ 2 ^ p) m' (max a (len p)) (l - wid p) hS' hO'
      obtain ⟨k1, k2, k3, k4⟩ := mk Y y1
      refine ⟨Y ||| 2 ^ p, k1, by omega, ?_⟩
      rw [k3, k4, ← Nat.max_assoc]; exact y3
/-! some order is as short as the best parting -/
def bl (X : Nat) : Nat → List Nat
  | 0 => []
  | n + 1 => if X.testBit n = true then n :: bl X n else bl X n
theorem bl_mem {X : Nat} : ∀ n p, p ∈ bl X n ↔ (p < n ∧ X.testBit p = true) := by
  intro n
  induction n with
  | zero => intro p; simp [bl]
  | succ n ih =>
    intro p
    rw [bl]
    by_cases z : X.testBit n = true
    · rw [if_pos z, List.mem_cons, ih p]
      by_cases y : p = n
      · subst y; simp [z]
      · have : (p < n + 1) = (p < n) := by apply propext; omega
        simp [y, this]
    · rw [if_neg z, ih p]
      by_cases y : p = n
      · subst y; simp [z]
      · have : (p < n + 1) = (p < n) := by apply propext; omega
        simp [this]
theorem bl_nodup {X : Nat} : ∀ n, (bl X n).Nodup := by
  intro n
  induction n with
  | zero => exact List.nodup_nil
  | succ n ih =>
    rw [bl]
    split
    · exact List.nodup_cons.mpr ⟨fun z => by have := ((bl_mem n n).mp z).1; omega, ih⟩
    · exact ih
theorem bl_len {X : Nat} : ∀ n, (bl X n).length = sN (fun k => if X.testBit k = true then 1 else 0) n := by
  intro n
  induction n with
  | zero => rfl
  | succ n ih =>
    rw [bl, sN]
    split
    · rw [List.length_cons, ih]
    · rw [ih]; rfl
def wsm (wid : Nat → Nat) : List Nat → Nat
  | [] => 0
  | p :: ps => wid p + wsm wid ps
theorem bl_wsm {X : Nat} {wid : Nat → Nat} : ∀ n, wsm wid (bl X n) = sN (fun k => if X.testBit k = true then wid k else 0) n := by
  intro n
  induction n with
  | zero => rfl
  | succ n ih =>
    rw [bl, sN]
    split
    · rw [wsm, ih]; omega
    · rw [ih]; rfl
theorem gr_fits {W T : Nat} {len wid : Nat → Nat} {L : List Nat} {c : Nat} (hL : ∀ h l, h ≤ T → gr W len wid L h l ≤ c) : ∀ (ps : List Nat) (h l : Nat), (∀ p, p ∈ ps → len p ≤ T) → wsm wid ps ≤ l → h ≤ T → gr W len wid (ps ++ L) h l ≤ c := by
  intro ps
  induction ps with
  | nil => intro h l _ _ hh; exact hL h l hh
  | cons p ps ih =>
    intro h l hp hw hh
    rw [wsm] at hw
    have h1 := hp p (List.mem_cons_self ..)
    rw [List.cons_append, gr, if_neg (by omega)]
    exact ih _ _ (fun q hq => hp q (List.mem_cons_of_mem p hq)) (by omega) (by omega)
theorem gr_two {W H T : Nat} {len wid : Nat → Nat} {L : List Nat} {c : Nat} (hHT : T ≤ H) (h1 : ∀ h l, h ≤ H → gr W len wid L h l ≤ H + c) (h2 : ∀ h l, h ≤ T → gr W len wid L h l ≤ T + c) : ∀ (ps : List Nat) (h l : Nat), (∀ p, p ∈ ps → len p ≤ T) → wsm wid ps ≤ W → h ≤ H → gr W len wid (ps ++ L) h l ≤ H + (T + c) := by
  intro ps
  induction ps with
  | nil => intro h l _ _ hh; have := h1 h l hh; rw [List.nil_append]; omega
  | cons p ps ih =>
    intro h l hp hw hh
    rw [wsm] at hw
    have hp1 := hp p (List.mem_cons_self ..)
    rw [List.cons_append, gr]
    by_cases z : l < wid p
    · rw [if_pos z]
      have := gr_fits h2 ps (len p) (W - wid p) (fun q hq => hp q (List.mem_cons_of_mem p hq)) (by omega) hp1
      omega
    · rw [if_neg z]
      exact ih _ _ (fun q hq => hp q (List.mem_cons_of_mem p hq)) (by omega) (by omega)
def PT (W : Nat) (wid : Nat → Nat) : List Nat → Nat → Prop
  | [], S => S = 0
  | X :: Xs, S => X ≠ 0 ∧ subM X S ∧ sS wid X ≤ W ∧ PT W wid Xs (S ^^^ X)
def ctR (len : Nat → Nat) : List Nat → Nat
  | [] => 0
  | X :: Xs => mS len X + ctR len Xs
def srt (len : Nat → Nat) : List Nat → Prop
  | [] => True
  | X :: Xs => (∀ Y, Y ∈ Xs → mS len Y ≤ mS len X) ∧ srt len Xs
def insR (len : Nat → Nat) (X : Nat) : List Nat → List Nat
  | [] => [X]
  | Y :: Ys => if mS len Y ≤ mS len X then X :: Y :: Ys else Y :: insR len X Ys
theorem insR_mem {len : Nat → Nat} {X Y : Nat} : ∀ Xs, Y ∈ insR len X Xs ↔ (Y = X ∨ Y ∈ Xs) := by
  intro Xs
  induction Xs with
  | nil => simp [insR]
  | cons Z Zs ih =>
    rw [insR]
    split
    · simp only [List.mem_cons]
    · simp only [List.mem_cons, ih]
      constructor
      · rintro (h | h | h)
        · exact .inr (.inl h)
        · exact .inl h
        · exact .inr (.inr h)
      · rintro (h | h | h)
        · exact .inr (.inl h)
        · exact .inl h
        · exact .inr (.inr h)
theorem insR_srt {len : Nat → Nat} {X : Nat} : ∀ Xs, srt len Xs → srt len (insR len X Xs) := by
  intro Xs
  induction Xs with
  | nil => intro _; exact ⟨fun Y hY => (by cases hY), trivial⟩
  | cons Z Zs ih =>
    intro h
    rw [insR]
    by_cases z : mS len Z ≤ mS len X
    · rw [if_pos z]
      refine ⟨fun Y hY => ?_, h⟩
      rcases List.mem_cons.mp hY with y | y
      · rw [y]; exact z
      · have := h.1 Y y; omega
    · rw [if_neg z]
      refine ⟨fun Y hY => ?_, ih h.2⟩
      rcases (insR_mem Zs).mp hY with y | y
      · rw [y]; omega
      · exact h.1 Y y
theorem insR_ct {len : Nat → Nat} {X : Nat} : ∀ Xs, ctR len (insR len X Xs) = mS len X + ctR len Xs := by
  intro Xs
  induction Xs with
  | nil => rfl
  | cons Z Zs ih =>
    rw [insR]
    split
    · rfl
    · rw [ctR, ih, ctR]; omega
theorem insR_PT {W : Nat} {len wid : Nat → Nat} {X : Nat} (hX : X ≠ 0) (hw : sS wid X ≤ W) : ∀ Xs S, subM X S → PT W wid Xs (S ^^^ X) → PT W wid (insR len X Xs) S := by
  intro Xs
  induction Xs with
  | nil => intro S h1 h2; exact ⟨hX, h1, hw, h2⟩
  | cons Z Zs ih =>
    intro S h1 h2
    rw [insR]
    split
    · exact ⟨hX, h1, hw, h2⟩
    · obtain ⟨z1, z2, z3, z4⟩ := h2
      have hZS := z2.trans h1.xor
      refine ⟨z1, hZS, z3, ih (S ^^^ Z) (fun j hj => ?_) (by rw [xor_xor]; exact z4)⟩
      rw [xor_sub hZS, h1 j hj]
      cases hz : Z.testBit j
      · rfl
      · have := z2 j hz
        rw [xor_sub h1, hj] at this
        simp at this
theorem sh_rows {W top : Nat} {len wid sh : Nat → Nat} (htop : top ≤ 512) (h : shOK W len wid sh top) : ∀ (n S : Nat), sS (fun _ => 1) S ≤ n → S < top → ∃ Xs, PT W wid Xs S ∧ srt len Xs ∧ ctR len Xs = sh S := by
  intro n
  induction n with
  | zero =>
    intro S hn hS
    have : S = 0 := Classical.byContradiction (fun z => by have := sS_pos (show S < 512 by omega) z; omega)
    subst this
    exact ⟨[], rfl, trivial, h.1.symm⟩
  | succ n ih =>
    intro S hn hS
    by_cases z : S = 0
    · subst z; exact ⟨[], rfl, trivial, h.1.symm⟩
    · obtain ⟨⟨X, x1, x2, x3, x4⟩, -, -⟩ := h.2 S hS z
      have hX0 : X ≠ 0 := fun z => by rw [z, Nat.zero_testBit] at x2; cases x2
      obtain ⟨Xs, a1, a2, a3⟩ := ih (S ^^^ X) (by have := xor_lt (show S < 512 by omega) x1 hX0; omega) (Nat.lt_of_le_of_lt x1.xor.le hS)
      exact ⟨insR len X Xs, insR_PT hX0 x3 Xs S x1 a1, insR_srt Xs a2, by rw [insR_ct, a3, x4]⟩
def cat : List Nat → List Nat
  | [] => []
  | X :: Xs => bl X 9 ++ cat Xs
theorem cat_ord {W : Nat} {wid : Nat → Nat} : ∀ Xs S, S < 512 → PT W wid Xs S → Ord S (sS (fun _ => 1) S) (cat Xs) := by
  intro Xs
  induction Xs with
  | nil =>
    intro S hS h
    have : S = 0 := h
    subst this
    exact ⟨List.nodup_nil, by rw [sS_0]; rfl, fun p => by rw [Nat.zero_testBit]; simp [cat]⟩
  | cons X Xs ih =>
    intro S hS h
    obtain ⟨-, h2, -, h4⟩ := h
    obtain ⟨o1, o2, o3⟩ := ih (S ^^^ X) (Nat.lt_of_le_of_lt h2.xor.le hS) h4
    have hX := Nat.lt_of_le_of_lt h2.le hS
    have hb : ∀ p, p ∈ bl X 9 ↔ X.testBit p = true := fun p => by
      rw [bl_mem]
      exact ⟨fun z => z.2, fun z => ⟨bit_lt9 hX z, z⟩⟩
    refine ⟨?_, ?_, fun p => ?_⟩
    · rw [cat, List.nodup_append]
      refine ⟨bl_nodup 9, o1, fun a ha b hb' z => ?_⟩
      subst z
      have := (o3 a).mp hb'
      rw [xor_sub h2, (hb a).mp ha] at this
      simp at this
    · rw [cat, List.length_append, o2, sS_split h2, bl_len]; rfl
    · rw [cat, List.mem_append, hb p, o3 p, xor_sub h2]
      have := h2 p
      cases hx : X.testBit p <;> cases hs : S.testBit p <;> simp_all
theorem cat_le {W : Nat} {len wid : Nat → Nat} : ∀ Xs S, S < 512 → PT W wid Xs S → srt len Xs → ∀ (H h l : Nat), (∀ X, X ∈ Xs → mS len X ≤ H) → h ≤ H → gr W len wid (cat Xs) h l ≤ H + ctR len Xs := by
  intro Xs
  induction Xs with
  | nil => intro S hS _ _ H h l _ hh; rw [cat, gr, ctR]; omega
  | cons X Xs ih =>
    intro S hS hP hs H h l hH hh
    obtain ⟨-, h2, h3, h4⟩ := hP
    have hX := Nat.lt_of_le_of_lt h2.le hS
    have hS' := Nat.lt_of_le_of_lt h2.xor.le hS
    rw [cat, ctR]
    refine gr_two (hH X (List.mem_cons_self ..)) (fun h l hh => ih _ hS' h4 hs.2 H h l (fun Y hY => hH Y (List.mem_cons_of_mem X hY)) hh) (fun h l hh => ih _ hS' h4 hs.2 (mS len X) h l hs.1 hh) (bl X 9) h l (fun p hp => ?_) ?_ hh
    · exact (mS_le hX).mp (Nat.le_refl _) p ((bl_mem 9 p).mp hp).2
    · rw [bl_wsm]; exact h3
/-- the order that is as short as the best parting -/
theorem sh_order {W top S : Nat} {len wid sh : Nat → Nat} (htop : top ≤ 512) (h : shOK W len wid sh top) (hS : S < top) : ∃ L, Ord S (sS (fun _ => 1) S) L ∧ gr W len wid L 0 W ≤ sh S := by
  obtain ⟨Xs, a1, a2, a3⟩ := sh_rows htop h 9 S sS_le9 hS
  refine ⟨cat Xs, cat_ord Xs S (by omega) a1, ?_⟩
  rw [← a3]
  cases Xs with
  | nil => exact Nat.le_refl 0
  | cons X Xs =>
    obtain ⟨-, h2, h3, h4⟩ := a1
    have hX : X < 512 := Nat.lt_of_le_of_lt h2.le (by omega)
    rw [cat, ctR]
    refine gr_fits (T := mS len X) (fun h' l hh => cat_le Xs _ (Nat.lt_of_le_of_lt h2.xor.le (show S < 512 by omega)) h4 a2.2 (mS len X) h' l a2.1 hh) (bl X 9) 0 W (fun p hp => ?_) ?_ (Nat.zero_le _)
    · exact (mS_le hX).mp (Nat.le_refl _) p ((bl_mem 9 p).mp hp).2
    · rw [bl_wsm]; exact h3
