/-! signs of a text -/
def hI (j : Nat) : Int32 := if j < 256 then nI j else -1
theorem hI_eq {j c : Nat} (hj : j ≤ 256) (hc : c < 256) : hI j = nI c ↔ j = c := by
  unfold hI
  by_cases z : j < 256
  · rw [if_pos z]; exact nI_eq (by omega) (by omega)
  · rw [if_neg z]
    constructor
    · intro h
      have q := nI_pos (n := c) (by omega)
      rw [← h] at q; exact absurd (by decide) q
    · intro h; omega
theorem hI_33 {j : Nat} (hj : j ≤ 256) : (hI j = 33) = (j = 33) := propext (hI_eq (c := 33) hj (by omega))
theorem hI_35 {j : Nat} (hj : j ≤ 256) : (hI j = 35) = (j = 35) := propext (hI_eq (c := 35) hj (by omega))
theorem hI_37 {j : Nat} (hj : j ≤ 256) : (hI j = 37) = (j = 37) := propext (hI_eq (c := 37) hj (by omega))
theorem hI_38 {j : Nat} (hj : j ≤ 256) : (hI j = 38) = (j = 38) := propext (hI_eq (c := 38) hj (by omega))
theorem hI_40 {j : Nat} (hj : j ≤ 256) : (hI j = 40) = (j = 40) := propext (hI_eq (c := 40) hj (by omega))
theorem hI_41 {j : Nat} (hj : j ≤ 256) : (hI j = 41) = (j = 41) := propext (hI_eq (c := 41) hj (by omega))
theorem hI_42 {j : Nat} (hj : j ≤ 256) : (hI j = 42) = (j = 42) := propext (hI_eq (c := 42) hj (by omega))
theorem hI_43 {j : Nat} (hj : j ≤ 256) : (hI j = 43) = (j = 43) := propext (hI_eq (c := 43) hj (by omega))
theorem hI_45 {j : Nat} (hj : j ≤ 256) : (hI j = 45) = (j = 45) := propext (hI_eq (c := 45) hj (by omega))
theorem hI_46 {j : Nat} (hj : j ≤ 256) : (hI j = 46) = (j = 46) := propext (hI_eq (c := 46) hj (by omega))
theorem hI_47 {j : Nat} (hj : j ≤ 256) : (hI j = 47) = (j = 47) := propext (hI_eq (c := 47) hj (by omega))
theorem hI_59 {j : Nat} (hj : j ≤ 256) : (hI j = 59) = (j = 59) := propext (hI_eq (c := 59) hj (by omega))
theorem hI_60 {j : Nat} (hj : j ≤ 256) : (hI j = 60) = (j = 60) := propext (hI_eq (c := 60) hj (by omega))
theorem hI_61 {j : Nat} (hj : j ≤ 256) : (hI j = 61) = (j = 61) := propext (hI_eq (c := 61) hj (by omega))
theorem hI_62 {j : Nat} (hj : j ≤ 256) : (hI j = 62) = (j = 62) := propext (hI_eq (c := 62) hj (by omega))
theorem hI_64 {j : Nat} (hj : j ≤ 256) : (hI j = 64) = (j = 64) := propext (hI_eq (c := 64) hj (by omega))
theorem hI_91 {j : Nat} (hj : j ≤ 256) : (hI j = 91) = (j = 91) := propext (hI_eq (c := 91) hj (by omega))
theorem hI_93 {j : Nat} (hj : j ≤ 256) : (hI j = 93) = (j = 93) := propext (hI_eq (c := 93) hj (by omega))
theorem hI_97 {j : Nat} (hj : j ≤ 256) : (hI j = 97) = (j = 97) := propext (hI_eq (c := 97) hj (by omega))
theorem hI_98 {j : Nat} (hj : j ≤ 256) : (hI j = 98) = (j = 98) := propext (hI_eq (c := 98) hj (by omega))
theorem hI_99 {j : Nat} (hj : j ≤ 256) : (hI j = 99) = (j = 99) := propext (hI_eq (c := 99) hj (by omega))
theorem hI_100 {j : Nat} (hj : j ≤ 256) : (hI j = 100) = (j = 100) := propext (hI_eq (c := 100) hj (by omega))
theorem hI_103 {j : Nat} (hj : j ≤ 256) : (hI j = 103) = (j = 103) := propext (hI_eq (c := 103) hj (by omega))
theorem hI_104 {j : Nat} (hj : j ≤ 256) : (hI j = 104) = (j = 104) := propext (hI_eq (c := 104) hj (by omega))
theorem hI_105 {j : Nat} (hj : j ≤ 256) : (hI j = 105) = (j = 105) := propext (hI_eq (c := 105) hj (by omega))
theorem hI_106 {j : Nat} (hj : j ≤ 256) : (hI j = 106) = (j = 106) := propext (hI_eq (c := 106) hj (by omega))
theorem hI_107 {j : Nat} (hj : j ≤ 256) : (hI j = 107) = (j = 107) := propext (hI_eq (c := 107) hj (by omega))
theorem hI_109 {j : Nat} (hj : j ≤ 256) : (hI j = 109) = (j = 109) := propext (hI_eq (c := 109) hj (by omega))
theorem hI_110 {j : Nat} (hj : j ≤ 256) : (hI j = 110) = (j = 110) := propext (hI_eq (c := 110) hj (by omega))
theorem hI_112 {j : Nat} (hj : j ≤ 256) : (hI j = 112) = (j = 112) := propext (hI_eq (c := 112) hj (by omega))
theorem hI_113 {j : Nat} (hj : j ≤ 256) : (hI j = 113) = (j = 113) := propext (hI_eq (c := 113) hj (by omega))
theorem hI_116 {j : Nat} (hj : j ≤ 256) : (hI j = 116) = (j = 116) := propext (hI_eq (c := 116) hj (by omega))
theorem hI_119 {j : Nat} (hj : j ≤ 256) : (hI j = 119) = (j = 119) := propext (hI_eq (c := 119) hj (by omega))
theorem hI_120 {j : Nat} (hj : j ≤ 256) : (hI j = 120) = (j = 120) := propext (hI_eq (c := 120) hj (by omega))
theorem hI_124 {j : Nat} (hj : j ≤ 256) : (hI j = 124) = (j = 124) := propext (hI_eq (c := 124) hj (by omega))
theorem hI_m1 {j : Nat} (hj : j ≤ 256) : (hI j = -1) = (j = 256) := by
  unfold hI
  by_cases z : j < 256
  · rw [if_pos z]
    apply propext
    constructor
    · intro h
      have q := nI_pos (n := j) (by omega)
      rw [h] at q; exact absurd (by decide) q
    · intro h; omega
  · rw [if_neg z]
    apply propext
    exact ⟨fun _ => by omega, fun _ => rfl⟩
theorem hI_lt {j : Nat} (hj : j ≤ 256) : (hI j < 48) = (j < 48 ∨ j = 256) := by
  unfold hI
  by_cases z : j < 256
  · rw [if_pos z]
    apply propext
    rw [show (48 : Int32) = nI 48 from rfl, nI_ltI (by omega) (by omega)]
    omega
  · rw [if_neg z]
    apply propext
    exact ⟨fun _ => by omega, fun _ => by decide⟩
theorem hI_gt {j : Nat} (hj : j ≤ 256) : (57 < hI j) = (57 < j ∧ j ≠ 256) := by
  unfold hI
  by_cases z : j < 256
  · rw [if_pos z]
    apply propext
    rw [show (57 : Int32) = nI 57 from rfl, nI_ltI (by omega) (by omega)]
    omega
  · rw [if_neg z]
    apply propext
    exact ⟨fun h => absurd h (by decide), fun h => absurd (show j = 256 by omega) h.2⟩
def hN (T : Nat → Int32) (n p : Nat) : Nat := if p < n then (T p &&& 255).toNatClampNeg else 256
def isTx (T : Nat → Int32) (n : Nat) : Prop := n ≤ 160 ∧ ∀ j, -128 ≤ T j ∧ T j ≤ 127
theorem hN_spec {T : Nat → Int32} {n p : Nat} (h : isTx T n) (hp : p < n) : hN T n p < 256 ∧ T p &&& 255 = nI (hN T n p) ∧ ((hN T n p < 128 ∧ T p = nI (hN T n p)) ∨ (128 ≤ hN T n p ∧ T p < 0)) := by
  unfold hN
  rw [if_pos hp]
  rcases byte_or (h.2 p) with ⟨j, h1, h2, h3⟩ | ⟨h1, j, h2, h3, h4⟩
  · rw [h3, nI_clamp (by omega)]; exact ⟨by omega, rfl, .inl ⟨h1, h2⟩⟩
  · rw [h4, nI_clamp (by omega)]; exact ⟨by omega, rfl, .inr ⟨h2, h1⟩⟩
theorem hN_le {T : Nat → Int32} {n p : Nat} (h : isTx T n) : hN T n p ≤ 256 := by
  by_cases z : p < n
  · have := (hN_spec h z).1; omega
  · unfold hN; rw [if_neg z]; exact Nat.le_refl _
theorem hN_lt {T : Nat → Int32} {n p : Nat} (h : isTx T n) : hN T n p < 256 ↔ p < n := by
  by_cases z : p < n
  · exact ⟨fun _ => z, fun _ => (hN_spec h z).1⟩
  · unfold hN; rw [if_neg z]; exact ⟨fun w => by omega, fun w => absurd w z⟩
def TxC (V : St) (T : Nat → Int32) (n : Nat) : Prop := isTx T n ∧ V 1908 0 0 = 0 ∧ V 1909 0 0 = nI n ∧ V 2190 0 0 = 400 ∧ V 2113 0 = T
def TxR (V : St) (T : Nat → Int32) (n : Nat) : Prop := isTx T n ∧ V 2244 0 0 = nI n ∧ V 2241 0 = T
theorem here_C {fu n p : Nat} {V : St} {T : Nat → Int32} (h : TxC V T n) (hp : p ≤ 200) (e : V 1910 0 0 = nI p) : f_X9_here fu V = some (hI (hN T n p), V) := by
  obtain ⟨h1, h2, h3, h4, h5⟩ := h
  have hn := h1.1
  by_cases z : p < n
  · obtain ⟨a1, a2, -⟩ := hN_spec h1 z
    have hl : lenV V 1002190 0 = 400 := by show (V 2190 0 0).toNatClampNeg = 400; rw [h4]; rfl
    have hv : V 2113 0 p = T p := by rw [h5]
    have g1 : ¬ (0 : Int32) < 0 ∧ (0 : Int32).toNatClampNeg < cntV V 2 := ⟨by decide, by unfold cntV; rw [if_pos (by decide)]; decide⟩
    have g2 : ¬ (nI p < 0 ∨ 400 ≤ p) := fun w => w.elim (nI_pos (by omega)) (fun w => by omega)
    unfold hI
    rw [if_pos a1, ← a2, ← hv, f_X9_here, h3, e, if_neg (nI_ge z (by omega)), h2, gd_t g1, c_0, hl, nI_clamp (show p < 2 ^ 31 by omega), gd_t g2, F_X9_here_28]
  · have : hN T n p = 256 := by unfold hN; rw [if_neg z]
    rw [this, f_X9_here, h3, e, if_pos (nI_le (by omega) (by omega)), F_X9_here_28]; rfl
theorem here_R {fu n p : Nat} {V : St} {T : Nat → Int32} (h : TxR V T n) (hp : p ≤ 200) (e : V 2243 0 0 = nI p) : f_X12_here fu V = some (hI (hN T n p), V) := by
  obtain ⟨h1, h2, h3⟩ := h
  have hn := h1.1
  by_cases z : p < n
  · obtain ⟨a1, a2, -⟩ := hN_spec h1 z
    have hv : V 2241 0 p = T p := by rw [h3]
    have g2 : ¬ (nI p < 0 ∨ 400 ≤ p) := fun w => w.elim (nI_pos (by omega)) (fun w => by omega)
    unfold hI
    rw [if_pos a1, ← a2, ← hv, f_X12_here, h2, e, if_neg (nI_ge z (by omega)), nI_clamp (show p < 2 ^ 31 by omega), gd_t g2, F_X12_here_28]
  · have : hN T n p = 256 := by unfold hN; rw [if_neg z]
    rw [this, f_X12_here, h2, e, if_pos (nI_le (by omega) (by omega)), F_X12_here_28]; rfl
/-! the signs that are sought -/
def lix (j : Nat) : Nat := if j = 119 then 0 else if j = 107 then 1 else if j = 110 then 2 else if j = 113 then 3 else if j = 105 then 4 else if j = 97 then 5 else if j = 116 then 6 else if j = 106 then 7 else if j = 104 then 8 else 9
theorem ioA : ∀ j : Nat, j < 257 → ((¬ hI j < 0 ∧ ¬ sIdx 0 ((hI j).toUInt32 % 65536).toInt32 < 0) ↔ (j = 98 ∨ j = 109 ∨ j = 112 ∨ j = 99 ∨ j = 103 ∨ j = 100 ∨ j = 120)) := by decide +kernel
theorem ioB : ∀ j : Nat, j < 257 → ((¬ hI j < 0 ∧ ¬ sIdx 1 ((hI j).toUInt32 % 65536).toInt32 < 0) ↔ (j = 112 ∨ j = 99 ∨ j = 103 ∨ j = 100)) := by decide +kernel
theorem ioC : ∀ j : Nat, j < 257 → ((¬ hI j < 0 ∧ ¬ sIdx 2 ((hI j).toUInt32 % 65536).toInt32 < 0) ↔ lix j < 9) := by decide +kernel
theorem ioC2 : ∀ j : Nat, j < 257 → lix j < 9 → sIdx 2 ((hI j).toUInt32 % 65536).toInt32 = nI (lix j) := by decide +kernel
theorem ioD : ∀ j : Nat, j < 257 → ((¬ hI j < 0 ∧ ¬ sIdx 3 ((hI j).toUInt32 % 65536).toInt32 < 0) ↔ (j = 42 ∨ j = 47 ∨ j = 37)) := by decide +kernel
theorem ioE : ∀ j : Nat, j < 257 → ((¬ hI j < 0 ∧ ¬ sIdx 4 ((hI j).toUInt32 % 65536).toInt32 < 0) ↔ (j = 43 ∨ j = 45)) := by decide +kernel
theorem ioF : ∀ j : Nat, j < 257 → ((¬ hI j < 0 ∧ ¬ sIdx 5 ((hI j).toUInt32 % 65536).toInt32 < 0) ↔ (j = 60 ∨ j = 61 ∨ j = 62)) := by decide +kernel
theorem io_eq {fu k j : Nat} {V : St} {P : Prop} [Decidable P] (hk : k < 7) (h : (¬ hI j < 0 ∧ ¬ sIdx k ((hI j).toUInt32 % 65536).toInt32 < 0) ↔ P) : f_X9_isOneOf fu V k (hI j) = some (if P then 1 else 0, V) := by
  unfold f_X9_isOneOf
  rw [if_pos hk]
  by_cases z : P
  · rw [if_pos z, if_pos (h.mpr z)]
  · rw [if_neg z, if_neg (fun w => z (h.mp w))]
theorem factOf_eq : ∀ j : Nat, j < 257 → (if hI j = 97 then (5 : Int32) else if hI j = 104 then 8 else if hI j = 105 then 4 else if hI j = 106 then 7 else if hI j = 107 then 1 else if hI j = 110 then 2 else if hI j = 113 then 3 else if hI j = 116 then 6 else if hI j = 119 then 0 else -1) = if lix j < 9 then nI (lix j) else -1 := by decide +kernel
theorem fact_eq {fu j : Nat} {V : St} (hj : j < 257) : f_X12_factOf fu V (hI j) = some (if lix j < 9 then nI (lix j) else -1, V) := by
  rw [← factOf_eq j hj]
  unfold f_X12_factOf
  repeat' split
  all_goals rfl
theorem letter_eq {fu j : Nat} {V : St} (hj : j ≤ 256) : f_X12_isLetter fu V (hI j) = some (if j = 98 ∨ j = 109 ∨ j = 112 ∨ j = 99 ∨ j = 103 ∨ j = 100 ∨ j = 120 then 1 else 0, V) := by
  simp only [f_X12_isLetter, F_X12_isLetter_42, F_X12_isLetter_47, hI_98 hj, hI_109 hj, hI_112 hj, hI_99 hj, hI_103 hj, hI_100 hj, hI_120 hj, gd]
  repeat' split
  all_goals first | rfl | (exfalso; omega) | (simp_all)
theorem sgn_eq {fu j : Nat} {V : St} (hj : j ≤ 256) : f_X12_sumSign fu V (hI j) = some (if j = 43 ∨ j = 45 ∨ j = 42 ∨ j = 47 ∨ j = 37 then nI (opN j) else -1, V) := by
  simp only [f_X12_sumSign, F_X12_sumSign_52, hI_43 hj, hI_45 hj, hI_42 hj, hI_47 hj, hI_37 hj]
  repeat' split
  all_goals first | (exfalso; omega) | (rename_i z _; subst z; rfl) | (rename_i z; subst z; rfl) | rfl | simp_all
/-! the grammar -/
def flt (k p : Nat) : Int32 := (-1000) * nI k - nI p
abbrev PR : Type := Sum Int32 (Nat × Den)
def dgt (H : Nat → Nat) (p : Nat) : Prop := 48 ≤ H p ∧ H p ≤ 57
def numL (H : Nat → Nat) : Nat → Nat → Nat → Sum Int32 (Nat × Nat)
  | 0, p, v => if 48 ≤ H p ∧ H p ≤ 57 then .inl (flt 2 p) else .inr (p, v)
  | m + 1, p, v => if 48 ≤ H p ∧ H p ≤ 57 then numL H m (p + 1) (10 * v + (H p - 48)) else .inr (p, v)
def spNum (H : Nat → Nat) (most p : Nat) : Sum Int32 (Nat × Nat) := if 48 ≤ H p ∧ H p ≤ 57 then (match numL H 5 p 0 with
  | .inl f => .inl f
  | .inr (a, v) => if v ≤ most then .inr (a, v) else .inl (flt 3 p)) else .inl (flt 1 p)
def cmb (S : Option (Nat × Den)) (d : Den) : Den := match S with
  | none => d
  | some (sg, d1) => opD sg d1 d
def sumL (H : Nat → Nat) (rc : Nat → PR) : Nat → Nat → Option (Nat × Den) → Option (Nat × Den) → PR
  | 0, _, _, _ => .inl 0
  | j + 1, p, S, P => match rc p with
    | .inl f => .inl f
    | .inr (a, d) => if H a = 42 ∨ H a = 47 ∨ H a = 37 then sumL H rc j (a + 1) S (some (H a, cmb P d)) else if H a = 43 ∨ H a = 45 then sumL H rc j (a + 1) (some (H a, cmb S (cmb P d))) none else .inr (a, cmb S (cmb P d))
def cndL (H : Nat → Nat) (rc : Nat → PR) : Nat → Nat → Qd → PR
  | 0, _, _ => .inl 0
  | j + 1, p, q => match rc p with
    | .inl f => .inl f
    | .inr (a, d) => if H a = 38 then cndL H rc j (a + 1) (qAnd q d) else if H a = 124 then cndL H rc j (a + 1) (qOr q d) else .inr (a, qEnd q d)
def thn (r : PR) (k : Nat → Den → PR) : PR := match r with
  | .inl f => .inl f
  | .inr (a, d) => k a d
def sp (H : Nat → Nat) : Nat → Nat → Nat → Nat → PR
  | 0, _, _, _ => .inl 0
  | m + 1, 0, p, o => cndL H (fun p => sp H m 1 p o) 200 p (fun _ => some 2)
  | m + 1, 1, p, o => if H p = 33 ∨ H p = 40 then (if o < 6 then (if H p = 40 then thn (sp H m 0 (p + 1) (o + 1)) (fun a d => if H a = 41 then .inr (a + 1, d) else .inl (flt 1 a)) else thn (sp H m 1 (p + 1) (o + 1)) (fun a d => .inr (a, ntD d))) else .inl (flt 5 p)) else thn (sp H m 2 p o) (fun a d1 => if H a = 60 ∨ H a = 61 ∨ H a = 62 then thn (sp H m 2 (a + 1) o) (fun b d2 => .inr (b, cmD (H a) d1 d2)) else .inl (flt 1 a))
  | m + 1, 2, p, o => sumL H (fun p => sp H m 3 p o) 200 p none none
  | m + 1, _ + 3, p, o => if H p = 91 then (if o < 6 then thn (sp H m 2 (p + 1) (o + 1)) (fun a d => if H a = 93 then .inr (a + 1, d) else .inl (flt 1 a)) else .inl (flt 5 p)) else if 48 ≤ H p ∧ H p ≤ 57 then (match spNum H 99999 p with
    | .inl f => .inl f
    | .inr (a, v) => .inr (a, fun _ => some (nI v))) else if lix (H p) < 9 then .inr (p + 1, fun f => some (f (lix (H p)))) else .inl (flt 1 p)
