/-! faults are never 0 -/
theorem flt_ne {k p : Nat} (hk : 1 ≤ k) (hk2 : k ≤ 5) (hp : p ≤ 200) : flt k p ≠ 0 := fun h => by
  unfold flt at h
  have h1 : nI (1000 * k + p) = 0 := by
    rw [← nI_add, ← pk_mul, show nI 1000 = 1000 from rfl]
    grind
  exact nI_ne0 (by omega) (by omega) h1
theorem numL_ne {T : Nat → Int32} {n : Nat} (h : isTx T n) : ∀ m p v f, p ≤ n → numL (hN T n) m p v = .inl f → f ≠ 0 := by
  have hn := h.1
  intro m
  induction m with
  | zero =>
    intro p v f hp hq
    rw [numL] at hq
    split at hq
    · rw [← Sum.inl.inj hq]; exact flt_ne (by omega) (by omega) (by omega)
    · cases hq
  | succ m ih =>
    intro p v f hp hq
    rw [numL] at hq
    split at hq
    · rename_i hd
      have : p < n := (hN_lt h).mp (by omega)
      exact ih (p + 1) _ f (by omega) hq
    · cases hq
theorem spNum_ne {T : Nat → Int32} {n most p : Nat} {f : Int32} (h : isTx T n) (hp : p ≤ n) (hq : spNum (hN T n) most p = .inl f) : f ≠ 0 := by
  have hn := h.1
  unfold spNum at hq
  split at hq
  · cases hr : numL (hN T n) 5 p 0 with
    | inl g => rw [hr] at hq; rw [← Sum.inl.inj hq]; exact numL_ne h 5 p 0 g hp hr
    | inr w =>
      obtain ⟨a, v⟩ := w
      rw [hr] at hq
      simp only [] at hq
      split at hq
      · cases hq
      · rw [← Sum.inl.inj hq]; exact flt_ne (by omega) (by omega) (by omega)
  · rw [← Sum.inl.inj hq]; exact flt_ne (by omega) (by omega) (by omega)
theorem sp_adv {n m mode o p a : Nat} {T : Nat → Int32} {d : Den} (ht : isTx T n) (hm : mode ≤ 3) (ho1 : 1 ≤ o) (ho6 : o ≤ 6) (hb : bnd mode o ≤ m) (hp : p ≤ n) (h : sp (hN T n) m mode p o = .inr (a, d)) : p < a ∧ a ≤ n := by
  have := (rd_C (fu := 1000) (n := n) (T := T) (by omega) m mode o hm ho1 ho6 hb (fun v i j => if v = 1909 then nI n else if v = 2190 then 400 else if v = 2113 then T j else if v = 1910 then nI p else 0) p 0 ⟨ht, rfl, rfl, rfl, rfl⟩ rfl rfl (by omega) hp).2 a d h
  obtain ⟨V', e, -, -, -, -, h5, h6, -⟩ := this
  exact ⟨h5, h6⟩
theorem sumL_ne {T : Nat → Int32} {n : Nat} {rc : Nat → PR} (ht : isTx T n) (h1 : ∀ p f, p ≤ n → rc p = .inl f → f ≠ 0) (h2 : ∀ p a d, p ≤ n → rc p = .inr (a, d) → p < a ∧ a ≤ n) : ∀ j p S P f, n - p < j → p ≤ n → sumL (hN T n) rc j p S P = .inl f → f ≠ 0 := by
  intro j
  induction j with
  | zero => intro p S P f h; omega
  | succ j ih =>
    intro p S P f hj hp hq
    rw [sumL] at hq
    cases hr : rc p with
    | inl g => rw [hr] at hq; rw [← Sum.inl.inj hq]; exact h1 p g hp hr
    | inr w =>
      obtain ⟨a, d⟩ := w
      rw [hr] at hq
      obtain ⟨a1, a2⟩ := h2 p a d hp hr
      simp only [] at hq
      split at hq
      · have : a < n := (hN_lt ht).mp (by omega)
        exact ih (a + 1) _ _ f (by omega) (by omega) hq
      · split at hq
        · have : a < n := (hN_lt ht).mp (by omega)
          exact ih (a + 1) _ _ f (by omega) (by omega) hq
        · cases hq
theorem cndL_ne {T : Nat → Int32} {n : Nat} {rc : Nat → PR} (ht : isTx T n) (h1 : ∀ p f, p ≤ n → rc p = .inl f → f ≠ 0) (h2 : ∀ p a d, p ≤ n → rc p = .inr (a, d) → p < a ∧ a ≤ n) : ∀ j p q f, n - p < j → p ≤ n → cndL (hN T n) rc j p q = .inl f → f ≠ 0 := by
  intro j
  induction j with
  | zero => intro p q f h; omega
  | succ j ih =>
    intro p q f hj hp hq
    rw [cndL] at hq
    cases hr : rc p with
    | inl g => rw [hr] at hq; rw [← Sum.inl.inj hq]; exact h1 p g hp hr
    | inr w =>
      obtain ⟨a, d⟩ := w
      rw [hr] at hq
      obtain ⟨a1, a2⟩ := h2 p a d hp hr
      simp only [] at hq
      split at hq
      · have : a < n := (hN_lt ht).mp (by omega)
        exact ih (a + 1) _ f (by omega) (by omega) hq
      · split at hq
        · have : a < n := (hN_lt ht).mp (by omega)
          exact ih (a + 1) _ f (by omega) (by omega) hq
        · cases hq
theorem thn_ne {r : PR} {k : Nat → Den → PR} {f : Int32} (hq : thn r k = .inl f) (h1 : ∀ g, r = .inl g → g ≠ 0) (h2 : ∀ a d, r = .inr (a, d) → k a d = .inl f → f ≠ 0) : f ≠ 0 := by
  cases r with
  | inl g => rw [← Sum.inl.inj (show (Sum.inl g : PR) = .inl f from hq)]; exact h1 g rfl
  | inr w => obtain ⟨a, d⟩ := w; exact h2 a d rfl hq
theorem sp_ne {T : Nat → Int32} {n : Nat} (ht : isTx T n) : ∀ (m mode o p : Nat) (f : Int32), mode ≤ 3 → 1 ≤ o → o ≤ 6 → bnd mode o ≤ m → p ≤ n → sp (hN T n) m mode p o = .inl f → f ≠ 0 := by
  have hn := ht.1
  intro m
  induction m with
  | zero =>
    intro mode o p f _ _ _ hb
    unfold bnd at hb
    exfalso
    repeat' split at hb
    all_goals omega
  | succ m ih =>
    intro mode o p f hm ho1 ho6 hb hp hq
    rcases (show mode = 0 ∨ mode = 1 ∨ mode = 2 ∨ mode = 3 by omega) with rfl | rfl | rfl | rfl
    · rw [sp] at hq
      have hb' : bnd 1 o ≤ m := by unfold bnd at hb ⊢; simp at hb ⊢; omega
      exact cndL_ne ht (fun p g h1 h2 => ih 1 o p g (by omega) ho1 ho6 hb' h1 h2) (fun p a d h1 h2 => sp_adv ht (by omega) ho1 ho6 hb' h1 h2) 200 p _ f (by omega) hp hq
    · rw [sp] at hq
      have hb' : bnd 2 o ≤ m := by unfold bnd at hb ⊢; simp at hb ⊢; omega
      split at hq
      · rename_i hA
        have hpn : p < n := (hN_lt ht).mp (by omega)
        split at hq
        · rename_i ho
          have hbA : bnd 0 (o + 1) ≤ m := by unfold bnd at hb ⊢; simp at hb ⊢; omega
          have hbB : bnd 1 (o + 1) ≤ m := by unfold bnd at hb ⊢; simp at hb ⊢; omega
          split at hq
          · refine thn_ne hq (fun g hg => ih 0 (o + 1) (p + 1) g (by omega) (by omega) (by omega) hbA (by omega) hg) (fun a d hr hk => ?_)
            have := sp_adv ht (by omega) (by omega) (by omega) hbA (by omega) hr
            split at hk
            · cases hk
            · rw [← Sum.inl.inj hk]; exact flt_ne (by omega) (by omega) (by omega)
          · exact thn_ne hq (fun g hg => ih 1 (o + 1) (p + 1) g (by omega) (by omega) (by omega) hbB (by omega) hg) (fun a d hr hk => (by cases hk))
        · rw [← Sum.inl.inj hq]; exact flt_ne (by omega) (by omega) (by omega)
      · refine thn_ne hq (fun g hg => ih 2 o p g (by omega) ho1 ho6 hb' hp hg) (fun a d hr hk => ?_)
        have := sp_adv ht (by omega) ho1 ho6 hb' hp hr
        split at hk
        · rename_i hc
          have han : a < n := (hN_lt ht).mp (by omega)
          exact thn_ne hk (fun g hg => ih 2 o (a + 1) g (by omega) ho1 ho6 hb' (by omega) hg) (fun b d2 _ hk2 => (by cases hk2))
        · rw [← Sum.inl.inj hk]; exact flt_ne (by omega) (by omega) (by omega)
    · rw [sp] at hq
      have hb' : bnd 3 o ≤ m := by unfold bnd at hb ⊢; simp at hb ⊢; omega
      exact sumL_ne ht (fun p g h1 h2 => ih 3 o p g (by omega) ho1 ho6 hb' h1 h2) (fun p a d h1 h2 => sp_adv ht (by omega) ho1 ho6 hb' h1 h2) 200 p _ _ f (by omega) hp hq
    · rw [sp] at hq
      split at hq
      · rename_i hA
        have hpn : p < n := (hN_lt ht).mp (by omega)
        split at hq
        · rename_i ho
          have hbA : bnd 2 (o + 1) ≤ m := by unfold bnd at hb ⊢; simp at hb ⊢; omega
          refine thn_ne hq (fun g hg => ih 2 (o + 1) (p + 1) g (by omega) (by omega) (by omega) hbA (by omega) hg) (fun a d hr hk => ?_)
          have := sp_adv ht (by omega) (by omega) (by omega) hbA (by omega) hr
          split at hk
          · cases hk
          · rw [← Sum.inl.inj hk]; exact flt_ne (by omega) (by omega) (by omega)
        · rw [← Sum.inl.inj hq]; exact flt_ne (by omega) (by omega) (by omega)
      · split at hq
        · cases hr : spNum (hN T n) 99999 p with
          | inl g => rw [hr] at hq; rw [← Sum.inl.inj hq]; exact spNum_ne ht hp hr
          | inr w => obtain ⟨a, v⟩ := w; rw [hr] at hq; cases hq
        · split at hq
          · cases hq
          · rw [← Sum.inl.inj hq]; exact flt_ne (by omega) (by omega) (by omega)
/-! clauses and texts -/
abbrev Cls : Type := Nat × Nat × Nat × Option Den
def isLt (j : Nat) : Prop := j = 98 ∨ j = 109 ∨ j = 112 ∨ j = 99 ∨ j = 103 ∨ j = 100 ∨ j = 120
def spCd (H : Nat → Nat) (a : Nat) : PR := if H a = 40 then thn (sp H 30 0 (a + 1) 1) (fun b d => if H b = 41 then .inr (b + 1, d) else .inl (flt 1 b)) else .inl (flt 1 a)
def spNo (H : Nat → Nat) (p : Nat) : Sum Int32 (Nat × Nat) := if H p = 98 ∨ H p = 109 then .inr (p + 1, 0) else spNum H (if H p = 100 then 100 else 99999) (p + 1)
def spCl (H : Nat → Nat) (p k : Nat) : Sum Int32 (Nat × Cls) := if H p = 98 ∨ H p = 109 ∨ H p = 112 ∨ H p = 99 ∨ H p = 103 ∨ H p = 100 ∨ H p = 120 then (if k = 12 then .inl (flt 4 p) else if H p = 120 then (match spNum H 29 (p + 1) with
    | .inl f => .inl f
    | .inr (a, v) => if H a = 46 then (match spNum H 11 (a + 1) with
      | .inl f => .inl f
      | .inr (b, w) => .inr (b, (120, v, w, none))) else .inl (flt 1 a)) else (match spNo H p with
    | .inl f => .inl f
    | .inr (a, v) => (match spCd H a with
      | .inl f => .inl f
      | .inr (b, d) => .inr (b, (H p, v, 0, some d))))) else .inl (flt 1 p)
def txL (H : Nat → Nat) (n : Nat) : Nat → Nat → Nat → Sum Int32 (List Cls)
  | 0, _, _ => .inl (flt 1 0)
  | j + 1, p, k => match spCl H p k with
    | .inl f => .inl f
    | .inr (a, cl) => if a < n then (if H a = 59 then (match txL H n j (a + 1) (k + 1) with
      | .inl f => .inl f
      | .inr L => .inr (cl :: L)) else .inl (flt 1 a)) else .inr [cl]
theorem spCd_adv {T : Nat → Int32} {n p a : Nat} {d : Den} (ht : isTx T n) (hp : p ≤ n) (h : spCd (hN T n) p = .inr (a, d)) : p < a ∧ a ≤ n := by
  unfold spCd at h
  split at h
  · rename_i hA
    have hpn : p < n := (hN_lt ht).mp (by omega)
    cases hr : sp (hN T n) 30 0 (p + 1) 1 with
    | inl f => rw [hr] at h; cases h
    | inr w =>
      obtain ⟨b, d'⟩ := w
      rw [hr] at h
      simp only [thn] at h
      have := sp_adv ht (by omega) (by omega) (by omega) (by decide) (by omega) hr
      split at h
      · rename_i hc
        have hbn : b < n := (hN_lt ht).mp (by omega)
        obtain ⟨rfl, rfl⟩ := inr2 h
        omega
      · cases h
  · cases h
theorem spCd_ne {T : Nat → Int32} {n p : Nat} {f : Int32} (ht : isTx T n) (hp : p ≤ n) (h : spCd (hN T n) p = .inl f) : f ≠ 0 := by
  have hn := ht.1
  unfold spCd at h
  split at h
  · rename_i hA
    have hpn : p < n := (hN_lt ht).mp (by omega)
    refine thn_ne h (fun g hg => sp_ne ht 30 0 1 (p + 1) g (by omega) (by omega) (by omega) (by decide) (by omega) hg) (fun a d hr hk => ?_)
    have := sp_adv ht (by omega) (by omega) (by omega) (by decide) (by omega) hr
    split at hk
    · cases hk
    · rw [← Sum.inl.inj hk]; exact flt_ne (by omega) (by omega) (by omega)
  · rw [← Sum.inl.inj h]; exact flt_ne (by omega) (by omega) (by omega)
theorem spNo_adv {T : Nat → Int32} {n p a v : Nat} (ht : isTx T n) (hp : p < n) (h : spNo (hN T n) p = .inr (a, v)) : p < a ∧ a ≤ n ∧ v ≤ 99999 := by
  unfold spNo at h
  split at h
  · have := Sum.inr.inj h
    simp only [Prod.mk.injEq] at this
    omega
  · have := spNum_adv ht h; omega
theorem spCl_ne {T : Nat → Int32} {n p k : Nat} {f : Int32} (ht : isTx T n) (hp : p ≤ n) (h : spCl (hN T n) p k = .inl f) : f ≠ 0 := by
  have hn := ht.1
  unfold spCl at h
  split at h
  · rename_i hl
    have hpn : p < n := (hN_lt ht).mp (by omega)
    split at h
    · rw [← Sum.inl.inj h]; exact flt_ne (by omega) (by omega) (by omega)
    · split at h
      · cases hr : spNum (hN T n) 29 (p + 1) with
        | inl g => rw [hr] at h; rw [← Sum.inl.inj h]; exact spNum_ne ht (by omega) hr
        | inr w =>
          obtain ⟨a, v⟩ := w
          have ha := spNum_adv ht hr
          rw [hr] at h
          simp only [] at h
          split at h
          · rename_i hc
            have han : a < n := (hN_lt ht).mp (by omega)
            cases hr2 : spNum (hN T n) 11 (a + 1) with
            | inl g => rw [hr2] at h; rw [← Sum.inl.inj h]; exact spNum_ne ht (by omega) hr2
            | inr w => obtain ⟨b, v2⟩ := w; rw [hr2] at h; cases h
          · rw [← Sum.inl.inj h]; exact flt_ne (by omega) (by omega) (by omega)
      · cases hr : spNo (hN T n) p with
        | inl g =>
          rw [hr] at h; rw [← Sum.inl.inj h]
          unfold spNo at hr
          split at hr
          · cases hr
          · exact spNum_ne ht (by omega) hr
        | inr w =>
          obtain ⟨a, v⟩ := w
          have ha := spNo_adv ht hpn hr
          rw [hr] at h
          simp only [] at h
          cases hr2 : spCd (hN T n) a with
          | inl g => rw [hr2] at h; rw [← Sum.inl.inj h]; exact spCd_ne ht (by omega) hr2
          | inr w => obtain ⟨b, d⟩ := w; rw [hr2] at h; cases h
  · rw [← Sum.inl.inj h]; exact flt_ne (by omega) (by omega) (by omega)
theorem spCl_adv {T : Nat → Int32} {n p k a : Nat} {cl : Cls} (ht : isTx T n) (hp : p ≤ n) (h : spCl (hN T n) p k = .inr (a, cl)) : p < a ∧ a ≤ n := by
  unfold spCl at h
  split at h
  · rename_i hl
    have hpn : p < n := (hN_lt ht).mp (by omega)
    split at h
    · cases h
    · split at h
      · cases hr : spNum (hN T n) 29 (p + 1) with
        | inl g => rw [hr] at h; cases h
        | inr w =>
          obtain ⟨a', v⟩ := w
          have ha := spNum_adv ht hr
          rw [hr] at h
          simp only [] at h
          split at h
          · cases hr2 : spNum (hN T n) 11 (a' + 1) with
            | inl g => rw [hr2] at h; cases h
            | inr w =>
              obtain ⟨b, v2⟩ := w
              have hb := spNum_adv ht hr2
              rw [hr2] at h
              have := Sum.inr.inj h
              simp only [Prod.mk.injEq] at this
              omega
          · cases h
      · cases hr : spNo (hN T n) p with
        | inl g => rw [hr] at h; cases h
        | inr w =>
          obtain ⟨a', v⟩ := w
          have ha := spNo_adv ht hpn hr
          rw [hr] at h
          simp only [] at h
          cases hr2 : spCd (hN T n) a' with
          | inl g => rw [hr2] at h; cases h
          | inr w =>
            obtain ⟨b, d⟩ := w
            have hb := spCd_adv ht (by omega) hr2
            rw [hr2] at h
            have := Sum.inr.inj h
            simp only [Prod.mk.injEq] at this
            omega
  · cases h
theorem txL_ne {T : Nat → Int32} {n : Nat} (ht : isTx T n) : ∀ j p k f, p ≤ n → txL (hN T n) n j p k = .inl f → f ≠ 0 := by
  have hn := ht.1
  intro j
  induction j with
  | zero => intro p k f _ h; rw [txL] at h; rw [← Sum.inl.inj h]; exact flt_ne (by omega) (by omega) (by omega)
  | succ j ih =>
    intro p k f hp h
    rw [txL] at h
    cases hr : spCl (hN T n) p k with
    | inl g => rw [hr] at h; rw [← Sum.inl.inj h]; exact spCl_ne ht hp hr
    | inr w =>
      obtain ⟨a, cl⟩ := w
      have ha := spCl_adv ht hp hr
      rw [hr] at h
      simp only [] at h
      split at h
      · split at h
        · cases hr2 : txL (hN T n) n j (a + 1) (k + 1) with
          | inl g => rw [hr2] at h; rw [← Sum.inl.inj h]; exact ih (a + 1) (k + 1) g (by omega) hr2
          | inr L => rw [hr2] at h; cases h
        · rw [← Sum.inl.inj h]; exact flt_ne (by omega) (by omega) (by omega)
      · cases h
