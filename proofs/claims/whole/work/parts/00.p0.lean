/-! PURE WORK: what a value in RR comes to -/
def Wp (m : RR) (Q : Int32 → St → Prop) : Prop := ∃ (r : Int32) (V : St), m = some (r, V) ∧ Q r V
theorem Wp.ret {r : Int32} {V : St} {Q : Int32 → St → Prop} (h : Q r V) : Wp (some (r, V)) Q := ⟨r, V, rfl, h⟩
theorem Wp.gd {c : Prop} [Decidable c] {a : RR} {Q : Int32 → St → Prop} (hc : c) (h : Wp a Q) : Wp (gd c a) Q := by
  unfold _root_.gd; rw [if_pos hc]; exact h
theorem Wp.bd {m : RR} {k : Int32 → St → RR} {Q : Int32 → St → Prop} (h : Wp m (fun r V => Wp (k r V) Q)) : Wp (bd m k) Q := by
  obtain ⟨r, V, e, h⟩ := h; subst e; exact h
theorem Wp.bv {x : St} {k : St → RR} {Q : Int32 → St → Prop} (h : Wp (k x) Q) : Wp (bv x k) Q := h
theorem Wp.ite {c : Prop} [Decidable c] {a b : RR} {Q : Int32 → St → Prop} (h1 : c → Wp a Q) (h2 : ¬ c → Wp b Q) : Wp (if c then a else b) Q := by
  by_cases h : c
  · rw [if_pos h]; exact h1 h
  · rw [if_neg h]; exact h2 h
theorem Wp.mono {m : RR} {Q Q' : Int32 → St → Prop} (h : Wp m Q) (hq : ∀ r V, Q r V → Q' r V) : Wp m Q' := by
  obtain ⟨r, V, e, h⟩ := h; exact ⟨r, V, e, hq r V h⟩
