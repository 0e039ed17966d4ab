/-! flows and cuts -/
def sI (f : Nat → Int) : Nat → Int
  | 0 => 0
  | n + 1 => sI f n + f n
theorem sI_congr {f g : Nat → Int} : ∀ n, (∀ e, e < n → f e = g e) → sI f n = sI g n := by
  intro n
  induction n with
  | zero => intro _; rfl
  | succ n ih => intro h; unfold sI; rw [ih (fun e he => h e (by omega)), h n (by omega)]
theorem sI_le {f g : Nat → Int} : ∀ n, (∀ e, e < n → f e ≤ g e) → sI f n ≤ sI g n := by
  intro n
  induction n with
  | zero => intro _; exact Int.le_refl 0
  | succ n ih => intro h; unfold sI; have := ih (fun e he => h e (by omega)); have := h n (by omega); omega
theorem sI_upd {f g : Nat → Int} {a : Nat} {d : Int} : ∀ n, (∀ e, e < n → g e = if e = a then f e + d else f e) → sI g n = if a < n then sI f n + d else sI f n := by
  intro n
  induction n with
  | zero => intro _; rw [if_neg (by omega)]; rfl
  | succ n ih =>
    intro h
    unfold sI
    rw [ih (fun e he => h e (by omega)), h n (by omega)]
    by_cases c1 : a < n
    · rw [if_pos c1, if_neg (by omega), if_pos (by omega)]; omega
    · by_cases c2 : n = a
      · rw [if_neg c1, if_pos c2, if_pos (by omega)]; omega
      · rw [if_neg c1, if_neg c2, if_neg (by omega)]
def ind (b : Bool) : Int := if b = true then 1 else 0
def netF (s : Nat) (A B : Nat → Nat) (S : Nat → Bool) (fl : Nat → Int) : Int := sI (fun k => fl k * (ind (S (A k)) - ind (S (B k)))) s
def cutI (s : Nat) (A B : Nat → Nat) (S : Nat → Bool) (cap : Nat → Int) : Int := sI (fun k => if S (A k) = S (B k) then 0 else cap k) s
theorem net_le {s : Nat} {A B : Nat → Nat} {S : Nat → Bool} {fl cap : Nat → Int} (h : ∀ k, k < s → -cap k ≤ fl k ∧ fl k ≤ cap k) : netF s A B S fl ≤ cutI s A B S cap := by
  refine sI_le s (fun k hk => ?_)
  obtain ⟨h1, h2⟩ := h k hk
  cases h3 : S (A k) <;> cases h4 : S (B k) <;> simp [ind] <;> omega
theorem net_closed {s : Nat} {A B : Nat → Nat} {S : Nat → Bool} {fl cap : Nat → Int} (h1 : ∀ k, k < s → S (A k) = true → S (B k) = false → fl k = cap k) (h2 : ∀ k, k < s → S (A k) = false → S (B k) = true → fl k = -cap k) : netF s A B S fl = cutI s A B S cap := by
  refine sI_congr s (fun k hk => ?_)
  have a1 := h1 k hk; have a2 := h2 k hk
  cases h3 : S (A k) <;> cases h4 : S (B k) <;> simp [ind]
  · have := a2 h3 h4; omega
  · have := a1 h3 h4; omega
theorem net_upd {s k : Nat} {A B : Nat → Nat} {S : Nat → Bool} {fl fl' : Nat → Int} {d : Int} (hk : k < s) (h : ∀ e, e < s → fl' e = if e = k then fl e + d else fl e) : netF s A B S fl' = netF s A B S fl + d * (ind (S (A k)) - ind (S (B k))) := by
  have := sI_upd (f := fun e => fl e * (ind (S (A e)) - ind (S (B e)))) (g := fun e => fl' e * (ind (S (A e)) - ind (S (B e)))) (a := k) (d := d * (ind (S (A k)) - ind (S (B k)))) s (fun e he => by
    rw [h e he]
    by_cases z : e = k
    · subst z; rw [if_pos rfl, if_pos rfl, Int.add_mul]
    · rw [if_neg z, if_neg z])
  rw [if_pos hk] at this
  exact this
theorem cutI_cut {s : Nat} {A B c : Nat → Nat} {S : Nat → Bool} : cutI s A B S (fun k => (tbo (c k) : Int)) = (cut s A B c S : Int) := by
  unfold cutI cut
  have : ∀ n, sI (fun k => if S (A k) = S (B k) then (0 : Int) else (tbo (c k) : Int)) n = ((sN (fun k => if S (A k) = S (B k) then 0 else tbo (c k)) n : Nat) : Int) := by
    intro n
    induction n with
    | zero => rfl
    | succ n ih =>
      unfold sI sN
      rw [ih]
      by_cases z : S (A n) = S (B n)
      · simp [z]
      · simp [z]
  exact this s
/-- led by a flow: every set with the joint and without the floor leads so much out -/
def LedF (s : Nat) (A B : Nat → Nat) (fl : Nat → Int) (src : Nat) (led : Int) : Prop := ∀ S : Nat → Bool, S src = true → S 0 = false → netF s A B S fl = led
theorem bears_one {s src p : Nat} {A B c : Nat → Nat} {fl : Nat → Int} {led : Int} {S0 : Nat → Bool} (hcap : ∀ k, k < s → -(tbo (c k) : Int) ≤ fl k ∧ fl k ≤ tbo (c k)) (hled : LedF s A B fl src led) (hs0 : S0 src = true) (hs1 : S0 0 = false) (hc1 : ∀ k, k < s → S0 (A k) = true → S0 (B k) = false → fl k = tbo (c k)) (hc2 : ∀ k, k < s → S0 (A k) = false → S0 (B k) = true → fl k = -(tbo (c k) : Int)) : ((p : Int) ≤ led) ↔ ∀ S : Nat → Bool, S 0 = false → S src = true → p ≤ cut s A B c S := by
  constructor
  · intro h S h0 h1
    have e := hled S h1 h0
    have l := net_le (S := S) (A := A) (B := B) (s := s) (fl := fl) (cap := fun k => (tbo (c k) : Int)) hcap
    rw [cutI_cut] at l
    omega
  · intro h
    have e := hled S0 hs0 hs1
    have l := net_closed (S := S0) (A := A) (B := B) (s := s) (fl := fl) (cap := fun k => (tbo (c k) : Int)) hc1 hc2
    rw [cutI_cut] at l
    have := h S0 hs1 hs0
    omega
