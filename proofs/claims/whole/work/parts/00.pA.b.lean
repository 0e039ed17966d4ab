/-! the reference's machine -/
def rkV (op : Nat) (l r : Int32) : Option Int32 := if op = 2 then some (l + r) else if op = 3 then some (l - r) else if op = 4 then some (l * r) else if op = 7 then some (b01 (decide (l < r))) else if op = 8 then some (b01 (decide (r < l))) else if op = 5 then (if r = 0 then none else some (l / r)) else if op = 6 then (if r = 0 then none else some (l - l / r * r)) else some (b01 (decide (l = r)))
def finR (st : List Int32) : Option Bool := match st with
  | [b] => some (decide (b = 1))
  | _ => none
def jnR (op k : Nat) (b : Int32) (st : List Int32) (c : Nat → List Int32 → Option Bool) : Option Bool := match st with
  | [] => none
  | a :: st2 => match rkV op a b with
    | none => some false
    | some v => c (k + 1) (v :: st2)
def stR (op v k : Nat) (st : List Int32) (c : Nat → List Int32 → Option Bool) : Option Bool := match st with
  | [] => none
  | b :: st1 => if op = 10 then c (k + 1) ((1 - b) :: st1) else
      if op = 11 then (if b = 0 then c v (b :: st1) else c (k + 1) st1) else
      if op = 12 then (if b = 1 then c v (b :: st1) else c (k + 1) st1) else jnR op k b st1 c
def evR (sd : Nat → Nat) (f : Nat → Int32) (E : Nat) : Nat → Nat → List Int32 → Option Bool
  | 0, _, _ => none
  | F + 1, k, st => if E ≤ k then finR st else
    if sd k / 1048576 = 0 then evR sd f E F (k + 1) (nI (sd k % 1048576) :: st) else
    if sd k / 1048576 = 1 then (if sd k % 1048576 < 9 then evR sd f E F (k + 1) (f (sd k % 1048576) :: st) else none) else
    stR (sd k / 1048576) (sd k % 1048576) k st (fun k st => evR sd f E F k st)
def FLR (sd : Nat → Nat) (s e : Nat) (ds : List Den) : Prop := s ≤ e ∧ ∀ sd', agC sd sd' s e → ∀ f E F st, e ≤ E → E - s < F → (∀ vs, vals ds f = some vs → ∃ F', E - e < F' ∧ evR sd' f E F s st = evR sd' f E F' e (vs ++ st)) ∧ (vals ds f = none → evR sd' f E F s st = some false)
theorem FLR.cg {cw cw' : Nat → Nat} {s e : Nat} {ds : List Den} (h : FLR cw s e ds) (ha : agC cw cw' s e) : FLR cw' s e ds := ⟨h.1, fun cw2 h2 => h.2 cw2 (fun k k1 k2 => by rw [h2 k k1 k2, ha k k1 k2])⟩
theorem FLR.nil {cw : Nat → Nat} {s : Nat} : FLR cw s s [] := by
  refine ⟨Nat.le_refl s, fun cw' _ f E F st _ hF => ⟨fun vs hv => ⟨F, hF, ?_⟩, fun hv => by cases hv⟩⟩
  have : vs = [] := (Option.some.inj hv).symm
  subst this; rfl
theorem FLR.app {cw : Nat → Nat} {s e e' : Nat} {ds : List Den} {d : Den} (h : FLR cw s e ds) (h' : FLR cw e e' [d]) : FLR cw s e' (d :: ds) := by
  obtain ⟨h1, h2⟩ := h
  obtain ⟨g1, g2⟩ := h'
  refine ⟨Nat.le_trans h1 g1, fun cw' ha f E F st hE hF => ?_⟩
  obtain ⟨a1, a2⟩ := h2 cw' (fun k k1 k2 => ha k k1 (by omega)) f E F st (by omega) hF
  rw [vals]
  cases hv : vals ds f with
  | none =>
    refine ⟨fun vs z => (by cases z), fun _ => ?_⟩
    exact a2 hv
  | some vs =>
    obtain ⟨F1, f1, b1⟩ := a1 vs hv
    obtain ⟨c1, c2⟩ := g2 cw' (fun k k1 k2 => ha k (by omega) k2) f E F1 (vs ++ st) hE f1
    rw [vals1] at c1 c2
    cases hd : d f with
    | none =>
      rw [hd] at c2
      exact ⟨fun vs z => (by cases z), fun _ => by rw [b1]; exact c2 rfl⟩
    | some v =>
      rw [hd] at c1
      refine ⟨fun ws z => ?_, fun z => (by cases z)⟩
      have : ws = v :: vs := (Option.some.inj z).symm
      subst this
      obtain ⟨F2, f2, b2⟩ := c1 [v] rfl
      exact ⟨F2, f2, by rw [b1, b2]; rfl⟩
theorem FLR.num {cw : Nat → Nat} {s v : Nat} (hv : v < 1048576) (h : cw s = v) : FLR cw s (s + 1) [fun _ => some (nI v)] := by
  refine ⟨Nat.le_succ s, fun cw' ha f E F st hE hF => ?_⟩
  obtain ⟨F, rfl⟩ : ∃ F', F = F' + 1 := ⟨F - 1, by omega⟩
  have hc : cw' s = v := by rw [ha s (Nat.le_refl s) (by omega), h]
  rw [vals1]
  refine ⟨fun vs z => ⟨F, by omega, ?_⟩, fun z => (by cases z)⟩
  have : vs = [nI v] := (Option.some.inj z).symm
  subst this
  rw [evR, hc, if_neg (by omega), if_pos (by omega), Nat.mod_eq_of_lt hv]; rfl
theorem FLR.ltr {cw : Nat → Nat} {s v : Nat} (hv : v < 9) (h : cw s = 1048576 + v) : FLR cw s (s + 1) [fun f => some (f v)] := by
  refine ⟨Nat.le_succ s, fun cw' ha f E F st hE hF => ?_⟩
  obtain ⟨F, rfl⟩ : ∃ F', F = F' + 1 := ⟨F - 1, by omega⟩
  have hc : cw' s = 1048576 + v := by rw [ha s (Nat.le_refl s) (by omega), h]
  have e1 : (1048576 + v) / 1048576 = 1 := by omega
  have e2 : (1048576 + v) % 1048576 = v := by omega
  rw [vals1]
  refine ⟨fun vs z => ⟨F, by omega, ?_⟩, fun z => (by cases z)⟩
  have : vs = [f v] := (Option.some.inj z).symm
  subst this
  rw [evR, hc, e1, e2, if_neg (by omega), if_neg (by omega), if_pos rfl, if_pos hv]; rfl
def opN (sg : Nat) : Nat := if sg = 43 then 2 else if sg = 45 then 3 else if sg = 42 then 4 else if sg = 47 then 5 else if sg = 37 then 6 else if sg = 60 then 7 else if sg = 62 then 8 else 9
theorem rk_op {sg : Nat} {l r : Int32} (h : isOp sg) : rkV (opN sg) l r = opV sg l r := by
  rcases h with z | z | z | z | z <;> subst z <;> rfl
theorem rk_cm {sg : Nat} {l r : Int32} (h : isCm sg) : rkV (opN sg) l r = some (b01 (cmV sg l r)) := by
  rcases h with z | z | z <;> subst z <;> rfl
theorem opN_ok {sg : Nat} (h : isOp sg ∨ isCm sg) : 2 ≤ opN sg ∧ opN sg ≤ 9 := by
  rcases h with (z | z | z | z | z) | (z | z | z) <;> subst z <;> decide
theorem FLR.bin {cw : Nat → Nat} {s e op : Nat} {ds : List Den} {d1 d2 dd : Den} (h : FLR cw s e (d2 :: d1 :: ds)) (hw : cw e = 1048576 * op) (ho : 2 ≤ op ∧ op ≤ 9) (hd : ∀ f, dd f = match d1 f with
  | none => none
  | some a => match d2 f with
    | none => none
    | some b => rkV op a b) : FLR cw s (e + 1) (dd :: ds) := by
  obtain ⟨h1, h2⟩ := h
  refine ⟨by omega, fun cw' ha f E F st hE hF => ?_⟩
  obtain ⟨a1, a2⟩ := h2 cw' (fun k k1 k2 => ha k k1 (by omega)) f E F st (by omega) hF
  have hwe : cw' e / 1048576 = op := by rw [ha e h1 (by omega), hw]; omega
  have hst : ∀ F' a b st', E - e < F' + 1 → evR cw' f E (F' + 1) e (b :: a :: st') = match rkV op a b with
      | none => some false
      | some v => evR cw' f E F' (e + 1) (v :: st') := fun F' a b st' _ => by
    rw [evR, hwe, if_neg (by omega), if_neg (by omega), if_neg (by omega)]
    simp only [stR]
    rw [if_neg (by omega), if_neg (by omega), if_neg (by omega)]
    simp only [jnR]
  rw [vals2] at a1 a2
  rw [vals, hd f]
  cases hv : vals ds f with
  | none =>
    rw [hv] at a2
    exact ⟨fun vs z => (by cases z), fun _ => a2 rfl⟩
  | some vs =>
    rw [hv] at a1 a2
    cases hd1 : d1 f with
    | none =>
      rw [hd1] at a2
      exact ⟨fun vs z => (by cases z), fun _ => a2 rfl⟩
    | some a =>
      rw [hd1] at a1 a2
      cases hd2 : d2 f with
      | none =>
        rw [hd2] at a2
        exact ⟨fun vs z => (by cases z), fun _ => a2 rfl⟩
      | some b =>
        rw [hd2] at a1
        obtain ⟨F1, f1, b1⟩ := a1 (b :: a :: vs) rfl
        obtain ⟨F1, rfl⟩ : ∃ F', F1 = F' + 1 := ⟨F1 - 1, by omega⟩
        simp only []
        have b2 := hst F1 a b (vs ++ st) f1
        cases ho' : rkV op a b with
        | none =>
          rw [ho'] at b2
          exact ⟨fun vs z => (by cases z), fun _ => by rw [b1]; exact b2⟩
        | some v =>
          rw [ho'] at b2
          refine ⟨fun ws z => ⟨F1, by omega, ?_⟩, fun z => (by cases z)⟩
          have : ws = v :: vs := (Option.some.inj z).symm
          subst this
          rw [b1]; exact b2
theorem FLR.op {cw : Nat → Nat} {s e sg : Nat} {ds : List Den} {d1 d2 : Den} (h : FLR cw s e (d2 :: d1 :: ds)) (hw : cw e = 1048576 * opN sg) (hs : isOp sg) : FLR cw s (e + 1) (opD sg d1 d2 :: ds) := h.bin hw (opN_ok (.inl hs)) (fun f => by
  unfold opD
  cases d1 f with
  | none => rfl
  | some a =>
    cases d2 f with
    | none => rfl
    | some b => exact (rk_op hs).symm)
theorem FLR.cmp {cw : Nat → Nat} {s e sg : Nat} {ds : List Den} {d1 d2 : Den} (h : FLR cw s e (d2 :: d1 :: ds)) (hw : cw e = 1048576 * opN sg) (hs : isCm sg) : FLR cw s (e + 1) (cmD sg d1 d2 :: ds) := h.bin hw (opN_ok (.inr hs)) (fun f => by
  unfold cmD
  cases d1 f with
  | none => rfl
  | some a =>
    cases d2 f with
    | none => rfl
    | some b => exact (rk_cm hs).symm)
theorem FLR.nt {cw : Nat → Nat} {s e : Nat} {d : Den} (h : FLR cw s e [d]) (hw : cw e = 10485760) : FLR cw s (e + 1) [ntD d] := by
  obtain ⟨h1, h2⟩ := h
  refine ⟨by omega, fun cw' ha f E F st hE hF => ?_⟩
  obtain ⟨a1, a2⟩ := h2 cw' (fun k k1 k2 => ha k k1 (by omega)) f E F st (by omega) hF
  have hwe : cw' e / 1048576 = 10 := by rw [ha e h1 (by omega), hw]
  rw [vals1] at a1 a2
  rw [vals1]
  unfold ntD
  cases hd : d f with
  | none =>
    rw [hd] at a2
    exact ⟨fun vs z => (by cases z), fun _ => a2 rfl⟩
  | some b =>
    rw [hd] at a1
    obtain ⟨F1, f1, b1⟩ := a1 [b] rfl
    obtain ⟨F1, rfl⟩ : ∃ F', F1 = F' + 1 := ⟨F1 - 1, by omega⟩
    refine ⟨fun ws z => ⟨F1, by omega, ?_⟩, fun z => (by cases z)⟩
    have : ws = [1 - b] := (Option.some.inj z).symm
    subst this
    rw [b1]
    show evR cw' f E (F1 + 1) e (b :: st) = evR cw' f E F1 (e + 1) ((1 - b) :: st)
    rw [evR, hwe, if_neg (by omega), if_neg (by omega), if_neg (by omega)]
    simp only [stR]
    rw [if_pos trivial]
/-! conditions under way, the reference's: pO, pA the words that wait for their places (0: none) -/
def agX (sd sd' : Nat → Nat) (s e : Nat) (pO pA : Option Nat) (tO tA : Nat) : Prop := (∀ k, s ≤ k → k < e → some k ≠ pO → some k ≠ pA → sd' k = sd k) ∧ (∀ p, pO = some p → sd' p = 12582912 + tO) ∧ (∀ p, pA = some p → sd' p = 11534336 + tA)
def QRf (sd : Nat → Nat) (s e : Nat) (q : Qd) (pO pA : Option Nat) : Prop := s ≤ e ∧ isQ q ∧ (pO = none → ∀ f, q f ≠ some 0) ∧ (pA = none → ∀ f, q f ≠ some 1) ∧ (∀ p, pO = some p → s ≤ p ∧ p < e) ∧ (∀ p, pA = some p → s ≤ p ∧ p < e) ∧ ∀ sd' tO tA, e ≤ tO → e ≤ tA → tO < 1048576 → tA < 1048576 → agX sd sd' s e pO pA tO tA → ∀ f E F st, tO ≤ E → tA ≤ E → E - s < F → (q f = none → evR sd' f E F s st = some false) ∧ (q f = some 0 → ∃ F', E - tO < F' ∧ evR sd' f E F s st = evR sd' f E F' tO (1 :: st)) ∧ (q f = some 1 → ∃ F', E - tA < F' ∧ evR sd' f E F s st = evR sd' f E F' tA (0 :: st)) ∧ (q f = some 2 → ∃ F', E - e < F' ∧ evR sd' f E F s st = evR sd' f E F' e st)
theorem QRf.nil {sd : Nat → Nat} {s : Nat} : QRf sd s s (fun _ => some 2) none none := by
  refine ⟨Nat.le_refl s, fun _ => .inr (.inr (.inr rfl)), fun _ f z => (by cases z), fun _ f z => (by cases z), fun p z => (by cases z), fun p z => (by cases z), fun sd' tO tA _ _ _ _ _ f E F st h1 h2 hF => ⟨fun z => (by cases z), fun z => (by cases z), fun z => (by cases z), fun _ => ⟨F, hF, rfl⟩⟩⟩
theorem QRf.cg {sd sd2 : Nat → Nat} {s e : Nat} {q : Qd} {pO pA : Option Nat} (h : QRf sd s e q pO pA) (ha : agC sd sd2 s e) : QRf sd2 s e q pO pA := by
  obtain ⟨h1, h2, h3, h4, h5, h6, h7⟩ := h
  exact ⟨h1, h2, h3, h4, h5, h6, fun sd' tO tA a b c d ⟨x1, x2, x3⟩ => h7 sd' tO tA a b c d ⟨fun k k1 k2 k3 k4 => by rw [x1 k k1 k2 k3 k4, ha k k1 k2], x2, x3⟩⟩
theorem evR_if {sd : Nat → Nat} {f : Nat → Int32} {E F k t : Nat} {b : Int32} {st : List Int32} (hE : k < E) (ht : t < 1048576) (h : sd k = 12582912 + t) : evR sd f E (F + 1) k (b :: st) = if b = 1 then evR sd f E F t (b :: st) else evR sd f E F (k + 1) st := by
  have e1 : (12582912 + t) / 1048576 = 12 := by omega
  have e2 : (12582912 + t) % 1048576 = t := by omega
  rw [evR, h, e1, e2, if_neg (by omega), if_neg (by omega), if_neg (by omega)]
  simp only [stR]
  rw [if_neg (by omega), if_neg (by omega), if_pos trivial]
theorem evR_ifn {sd : Nat → Nat} {f : Nat → Int32} {E F k t : Nat} {b : Int32} {st : List Int32} (hE : k < E) (ht : t < 1048576) (h : sd k = 11534336 + t) : evR sd f E (F + 1) k (b :: st) = if b = 0 then evR sd f E F t (b :: st) else evR sd f E F (k + 1) st := by
  have e1 : (11534336 + t) / 1048576 = 11 := by omega
  have e2 : (11534336 + t) % 1048576 = t := by omega
  rw [evR, h, e1, e2, if_neg (by omega), if_neg (by omega), if_neg (by omega)]
  simp only [stR]
  rw [if_neg (by omega), if_pos trivial]
/-- the words that waited are led to e2 -/
def lnd (sd sd2 : Nat → Nat) (s e2 : Nat) (pO pA : Option Nat) (all : Bool) : Prop := (∀ k, s ≤ k → k < e2 → (all = true → some k ≠ pO) → some k ≠ pA → sd2 k = sd k) ∧ (all = true → ∀ p, pO = some p → sd2 p = 12582912 + e2) ∧ (∀ p, pA = some p → sd2 p = 11534336 + e2)
theorem QRf.and {sd sd2 : Nat → Nat} {s e e2 : Nat} {q : Qd} {d : Den} {pO pA : Option Nat} (h : QRf sd s e q pO pA) (hb : isB d) (hd : FLR sd e e2 [d]) (he2 : e2 < 1000) (hdj : pO = none ∨ pO ≠ pA) (hl : lnd sd sd2 s e2 pO pA false) (hw : sd2 e2 / 1048576 = 11) : QRf sd2 s (e2 + 1) (qAnd q d) pO (some e2) := by
  obtain ⟨h1, hq, h3, h4, h5, h6, h7⟩ := h
  obtain ⟨g1, g2⟩ := hd
  refine ⟨by omega, isQ_and hq, fun z f y => ?_, fun z => (by cases z), fun p z => by have := h5 p z; omega, fun p z => by have := Option.some.inj z; omega, fun sd' tO tA hO hA hO2 hA2 hag f E F st hOE hAE hF => ?_⟩
  · have := h3 z f
    unfold qAnd at y
    rcases hq f with w | w | w | w <;> rw [w] at y
    · cases y
    · exact this w
    · cases y
    · cases hdf : d f with
      | none => rw [hdf] at y; cases y
      | some b => rw [hdf] at y; simp only [] at y; split at y <;> cases y
  obtain ⟨l1, -, l3⟩ := hl
  obtain ⟨x1, x2, x3⟩ := hag
  have hx : agX sd sd' s e pO pA tO e2 := by
    refine ⟨fun k k1 k2 k3 k4 => ?_, x2, fun p hp => ?_⟩
    · rw [x1 k k1 (by omega) k3 (fun z => by have := Option.some.inj z; omega), l1 k k1 (by omega) (fun z => (by cases z)) k4]
    · have hpe := h6 p hp
      have hpO : some p ≠ pO := fun z => by
        rcases hdj with y | y
        · rw [y] at z; cases z
        · exact y (z.symm.trans hp.symm)
      rw [x1 p hpe.1 (by omega) hpO (fun z => by have := Option.some.inj z; omega), l3 p hp]
  have hag2 : agC sd sd' e e2 := fun k k1 k2 => by
    have n1 : some k ≠ pO := fun z => by have := h5 k z.symm; omega
    have n2 : some k ≠ pA := fun z => by have := h6 k z.symm; omega
    rw [x1 k (by omega) (by omega) n1 (fun z => by have := Option.some.inj z; omega), l1 k (by omega) k2 (fun z => (by cases z)) n2]
  have hw2 : sd' e2 = 11534336 + tA := x3 e2 rfl
  obtain ⟨a0, a1, a2, a3⟩ := h7 sd' tO e2 (by omega) g1 hO2 (by omega) hx f E F st hOE (by omega) hF
  unfold qAnd
  rcases hq f with z | z | z | z
  · rw [z]; exact ⟨fun _ => a0 z, fun y => (by cases y), fun y => (by cases y), fun y => (by cases y)⟩
  · rw [z]; exact ⟨fun y => (by cases y), fun _ => a1 z, fun y => (by cases y), fun y => (by cases y)⟩
  · rw [z]
    refine ⟨fun y => (by cases y), fun y => (by cases y), fun _ => ?_, fun y => (by cases y)⟩
    obtain ⟨F1, f1, b1⟩ := a2 z
    obtain ⟨F1, rfl⟩ : ∃ F', F1 = F' + 1 := ⟨F1 - 1, by omega⟩
    refine ⟨F1, by omega, ?_⟩
    rw [b1, evR_ifn (by omega) hA2 hw2, if_pos rfl]
  · rw [z]
    obtain ⟨F1, f1, b1⟩ := a3 z
    obtain ⟨c1, c2⟩ := g2 sd' hag2 f E F1 st (by omega) f1
    rw [vals1] at c1 c2
    cases hdf : d f with
    | none =>
      rw [hdf] at c2
      exact ⟨fun _ => by rw [b1]; exact c2 rfl, fun y => (by cases y), fun y => (by cases y), fun y => (by cases y)⟩
    | some b =>
      rw [hdf] at c1
      obtain ⟨F2, f2, b2⟩ := c1 [b] rfl
      obtain ⟨F2, rfl⟩ : ∃ F', F2 = F' + 1 := ⟨F2 - 1, by omega⟩
      have b3 : evR sd' f E (F2 + 1) e2 ([b] ++ st) = if b = 0 then evR sd' f E F2 tA (b :: st) else evR sd' f E F2 (e2 + 1) st := evR_ifn (by omega) hA2 hw2
      rcases hb f b hdf with y | y
      · subst y
        simp only [show ¬ (0 : Int32) = 1 by decide, if_false]
        refine ⟨fun y => (by cases y), fun y => (by cases y), fun _ => ⟨F2, by omega, ?_⟩, fun y => (by cases y)⟩
        rw [b1, b2, b3, if_pos rfl]
      · subst y
        simp only [if_true]
        refine ⟨fun y => (by cases y), fun y => (by cases y), fun y => (by cases y), fun _ => ⟨F2, by omega, ?_⟩⟩
        rw [b1, b2, b3, if_neg (by decide)]
theorem QRf.or {sd sd2 : Nat → Nat} {s e e2 : Nat} {q : Qd} {d : Den} {pO pA : Option Nat} (h : QRf sd s e q pO pA) (hb : isB d) (hd : FLR sd e e2 [d]) (he2 : e2 < 1000) (hl : lnd sd sd2 s e2 pO pA true) (hw : sd2 e2 / 1048576 = 12) : QRf sd2 s (e2 + 1) (qOr q d) (some e2) none := by
  obtain ⟨h1, hq, h3, h4, h5, h6, h7⟩ := h
  obtain ⟨g1, g2⟩ := hd
  refine ⟨by omega, isQ_or hq, fun z => (by cases z), fun z f y => ?_, fun p z => by have := Option.some.inj z; omega, fun p z => (by cases z), fun sd' tO tA hO hA hO2 hA2 hag f E F st hOE hAE hF => ?_⟩
  · unfold qOr at y
    rcases hq f with w | w | w | w <;> rw [w] at y
    · cases y
    · cases y
    · cases y
    · cases hdf : d f with
      | none => rw [hdf] at y; cases y
      | some b => rw [hdf] at y; simp only [] at y; split at y <;> cases y
  obtain ⟨l1, l2, l3⟩ := hl
  obtain ⟨x1, x2, x3⟩ := hag
  have k0 : ∀ k, s ≤ k → k < e2 → sd' k = sd2 k := fun k k1 k2 => x1 k k1 (by omega) (fun z => by have := Option.some.inj z; omega) (fun z => (by cases z))
  have hx : agX sd sd' s e pO pA e2 e2 := by
    refine ⟨fun k k1 k2 k3 k4 => ?_, fun p hp => ?_, fun p hp => ?_⟩
    · rw [k0 k k1 (by omega), l1 k k1 (by omega) (fun _ => k3) k4]
    · have hpe := h5 p hp
      rw [k0 p hpe.1 (by omega), l2 rfl p hp]
    · have hpe := h6 p hp
      rw [k0 p hpe.1 (by omega), l3 p hp]
  have hag2 : agC sd sd' e e2 := fun k k1 k2 => by
    have n1 : some k ≠ pO := fun z => by have := h5 k z.symm; omega
    have n2 : some k ≠ pA := fun z => by have := h6 k z.symm; omega
    rw [k0 k (by omega) k2, l1 k (by omega) k2 (fun _ => n1) n2]
  have hw2 : sd' e2 = 12582912 + tO := x2 e2 rfl
  obtain ⟨a0, a1, a2, a3⟩ := h7 sd' e2 e2 g1 g1 (by omega) (by omega) hx f E F st (by omega) (by omega) hF
  unfold qOr
  rcases hq f with z | z | z | z
  · rw [z]; exact ⟨fun _ => a0 z, fun y => (by cases y), fun y => (by cases y), fun y => (by cases y)⟩
  · rw [z]
    refine ⟨fun y => (by cases y), fun _ => ?_, fun y => (by cases y), fun y => (by cases y)⟩
    obtain ⟨F1, f1, b1⟩ := a1 z
    obtain ⟨F1, rfl⟩ : ∃ F', F1 = F' + 1 := ⟨F1 - 1, by omega⟩
    refine ⟨F1, by omega, ?_⟩
    rw [b1, evR_if (by omega) hO2 hw2, if_pos rfl]
  · rw [z]
    refine ⟨fun y => (by cases y), fun y => (by cases y), fun y => (by cases y), fun _ => ?_⟩
    obtain ⟨F1, f1, b1⟩ := a2 z
    obtain ⟨F1, rfl⟩ : ∃ F', F1 = F' + 1 := ⟨F1 - 1, by omega⟩
    refine ⟨F1, by omega, ?_⟩
    rw [b1, evR_if (by omega) hO2 hw2, if_neg (by decide)]
  · rw [z]
    obtain ⟨F1, f1, b1⟩ := a3 z
    obtain ⟨c1, c2⟩ := g2 sd' hag2 f E F1 st (by omega) f1
    rw [vals1] at c1 c2
    cases hdf : d f with
    | none =>
      rw [hdf] at c2
      exact ⟨fun _ => by rw [b1]; exact c2 rfl, fun y => (by cases y), fun y => (by cases y), fun y => (by cases y)⟩
    | some b =>
      rw [hdf] at c1
      obtain ⟨F2, f2, b2⟩ := c1 [b] rfl
      obtain ⟨F2, rfl⟩ : ∃ F', F2 = F' + 1 := ⟨F2 - 1, by omega⟩
      have b3 : evR sd' f E (F2 + 1) e2 ([b] ++ st) = if b = 1 then evR sd' f E F2 tO (b :: st) else evR sd' f E F2 (e2 + 1) st := evR_if (by omega) hO2 hw2
      rcases hb f b hdf with y | y
      · subst y
        simp only [show ¬ (0 : Int32) = 1 by decide, if_false]
        refine ⟨fun y => (by cases y), fun y => (by cases y), fun y => (by cases y), fun _ => ⟨F2, by omega, ?_⟩⟩
        rw [b1, b2, b3, if_neg (by decide)]
      · subst y
        simp only [if_true]
        refine ⟨fun y => (by cases y), fun _ => ⟨F2, by omega, ?_⟩, fun y => (by cases y), fun y => (by cases y)⟩
        rw [b1, b2, b3, if_pos rfl]
theorem QRf.fin {sd sd2 : Nat → Nat} {s e e2 : Nat} {q : Qd} {d : Den} {pO pA : Option Nat} (h : QRf sd s e q pO pA) (hd : FLR sd e e2 [d]) (he2 : e2 < 1000) (hl : lnd sd sd2 s e2 pO pA true) : FLR sd2 s e2 [qEnd q d] := by
  obtain ⟨h1, hq, h3, h4, h5, h6, h7⟩ := h
  obtain ⟨g1, g2⟩ := hd
  refine ⟨by omega, fun sd' ha f E F st hE hF => ?_⟩
  obtain ⟨l1, l2, l3⟩ := hl
  have hx : agX sd sd' s e pO pA e2 e2 := by
    refine ⟨fun k k1 k2 k3 k4 => ?_, fun p hp => ?_, fun p hp => ?_⟩
    · rw [ha k k1 (by omega), l1 k k1 (by omega) (fun _ => k3) k4]
    · have hpe := h5 p hp
      rw [ha p hpe.1 (by omega), l2 rfl p hp]
    · have hpe := h6 p hp
      rw [ha p hpe.1 (by omega), l3 p hp]
  have hag2 : agC sd sd' e e2 := fun k k1 k2 => by
    have n1 : some k ≠ pO := fun z => by have := h5 k z.symm; omega
    have n2 : some k ≠ pA := fun z => by have := h6 k z.symm; omega
    rw [ha k (by omega) k2, l1 k (by omega) k2 (fun _ => n1) n2]
  obtain ⟨a0, a1, a2, a3⟩ := h7 sd' e2 e2 g1 g1 (by omega) (by omega) hx f E F st hE hE hF
  rw [vals1]
  unfold qEnd
  rcases hq f with z | z | z | z
  · rw [z]; exact ⟨fun b y => (by cases y), fun _ => a0 z⟩
  · rw [z]
    refine ⟨fun vs y => ?_, fun y => (by cases y)⟩
    have : vs = [1] := (Option.some.inj y).symm
    subst this
    exact a1 z
  · rw [z]
    refine ⟨fun vs y => ?_, fun y => (by cases y)⟩
    have : vs = [0] := (Option.some.inj y).symm
    subst this
    exact a2 z
  · rw [z]
    obtain ⟨F1, f1, b1⟩ := a3 z
    obtain ⟨c1, c2⟩ := g2 sd' hag2 f E F1 st hE f1
    rw [vals1] at c1 c2
    simp only []
    rw [b1]
    exact ⟨c1, c2⟩
