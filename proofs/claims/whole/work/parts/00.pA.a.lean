/-! texts: what a condition means; the class's code and the reference's -/
abbrev Den : Type := (Nat → Int32) → Option Int32
def opV (sg : Nat) (l r : Int32) : Option Int32 := if sg = 42 then some (l * r) else if sg = 43 then some (l + r) else if sg = 45 then some (l - r) else if r = 0 then none else if sg = 47 then some (l / r) else some (l - l / r * r)
def cmV (sg : Nat) (l r : Int32) : Bool := if sg = 60 then decide (l < r) else if sg = 61 then decide (l = r) else decide (r < l)
def opD (sg : Nat) (d1 d2 : Den) : Den := fun f => match d1 f with
  | none => none
  | some a => match d2 f with
    | none => none
    | some b => opV sg a b
def b01 (b : Bool) : Int32 := if b = true then 1 else 0
def cmD (sg : Nat) (d1 d2 : Den) : Den := fun f => match d1 f with
  | none => none
  | some a => match d2 f with
    | none => none
    | some b => some (b01 (cmV sg a b))
def ntD (d : Den) : Den := fun f => match d f with
  | none => none
  | some b => some (1 - b)
def vals : List Den → (Nat → Int32) → Option (List Int32)
  | [], _ => some []
  | d :: ds, f => match vals ds f with
    | none => none
    | some vs => match d f with
      | none => none
      | some v => some (v :: vs)
def isB (d : Den) : Prop := ∀ f b, d f = some b → b = 0 ∨ b = 1
abbrev Qd : Type := (Nat → Int32) → Option Nat
def qAnd (q : Qd) (d : Den) : Qd := fun f => match q f with
  | some 2 => match d f with
    | none => none
    | some b => if b = 1 then some 2 else some 1
  | x => x
def qOr (q : Qd) (d : Den) : Qd := fun f => match q f with
  | some 2 => match d f with
    | none => none
    | some b => if b = 1 then some 0 else some 2
  | some 1 => some 2
  | x => x
def qEnd (q : Qd) (d : Den) : Den := fun f => match q f with
  | none => none
  | some 2 => d f
  | some 1 => some 0
  | some _ => some 1
def isQ (q : Qd) : Prop := ∀ f, q f = none ∨ q f = some 0 ∨ q f = some 1 ∨ q f = some 2
/-! the class's machine -/
def jnC (sg : Nat) (tr : Bool) (st : List Int32) (k : Bool → List Int32 → Option Bool) : Option Bool := match st with
  | r :: l :: st => if sg = 60 ∨ sg = 61 ∨ sg = 62 then k (cmV sg l r) st else match opV sg l r with
    | none => some false
    | some v => k tr (v :: st)
  | _ => none
def evC (cw : Nat → Nat) (f : Nat → Int32) : Nat → Nat → Nat → Bool → List Int32 → Option Bool
  | 0, _, _, tr, _ => some tr
  | m + 1, p, rs, tr, st => if p < rs then evC cw f m (p + 1) rs tr st else
    if cw p % 256 = 33 then evC cw f m (p + 1) rs (!tr) st else
    if cw p % 256 = 35 then evC cw f m (p + 1) rs tr (nI (cw p / 256) :: st) else
    if cw p % 256 = 38 then evC cw f m (p + 1) (if tr = true then rs else cw p / 256) tr st else
    if cw p % 256 = 64 then evC cw f m (p + 1) rs tr (f (cw p / 256) :: st) else
    if cw p % 256 = 124 then evC cw f m (p + 1) (if tr = true then cw p / 256 else rs) tr st else
    jnC (cw p % 256) tr st (fun tr st => evC cw f m (p + 1) rs tr st)
theorem evC_skip {cw : Nat → Nat} {f : Nat → Int32} {rs : Nat} {tr : Bool} {st : List Int32} : ∀ k m p, p + k ≤ rs → evC cw f (m + k) p rs tr st = evC cw f m (p + k) rs tr st := by
  intro k
  induction k with
  | zero => intro m p _; rfl
  | succ k ih =>
    intro m p h
    rw [← Nat.add_assoc, evC, if_pos (by omega), ih m (p + 1) (by omega), show p + 1 + k = p + (k + 1) by omega]
def agC (cw cw' : Nat → Nat) (s e : Nat) : Prop := ∀ k, s ≤ k → k < e → cw' k = cw k
def FLC (cw : Nat → Nat) (s e : Nat) (ds : List Den) : Prop := s ≤ e ∧ ∀ cw', agC cw cw' s e → ∀ f m rs tr st, rs ≤ s → (∀ vs, vals ds f = some vs → evC cw' f (m + (e - s)) s rs tr st = evC cw' f m e rs tr (vs ++ st)) ∧ (vals ds f = none → evC cw' f (m + (e - s)) s rs tr st = some false)
theorem FLC.cg {cw cw' : Nat → Nat} {s e : Nat} {ds : List Den} (h : FLC cw s e ds) (ha : agC cw cw' s e) : FLC cw' s e ds := ⟨h.1, fun cw2 h2 => h.2 cw2 (fun k k1 k2 => by rw [h2 k k1 k2, ha k k1 k2])⟩
theorem FLC.nil {cw : Nat → Nat} {s : Nat} : FLC cw s s [] := by
  refine ⟨Nat.le_refl s, fun cw' _ f m rs tr st _ => ⟨fun vs hv => ?_, fun hv => by cases hv⟩⟩
  have : vs = [] := (Option.some.inj hv).symm
  subst this
  rw [Nat.sub_self]; rfl
theorem vals1 {d : Den} {f : Nat → Int32} : vals [d] f = match d f with
  | none => none
  | some v => some [v] := by
  show (match d f with | none => none | some v => some (v :: [])) = _
  rfl
theorem FLC.app {cw : Nat → Nat} {s e e' : Nat} {ds : List Den} {d : Den} (h : FLC cw s e ds) (h' : FLC cw e e' [d]) : FLC cw s e' (d :: ds) := by
  obtain ⟨h1, h2⟩ := h
  obtain ⟨g1, g2⟩ := h'
  refine ⟨Nat.le_trans h1 g1, fun cw' ha f m rs tr st hr => ?_⟩
  obtain ⟨a1, a2⟩ := h2 cw' (fun k k1 k2 => ha k k1 (by omega)) f (m + (e' - e)) rs tr st hr
  rw [show m + (e' - s) = m + (e' - e) + (e - s) by omega]
  rw [vals]
  cases hv : vals ds f with
  | none =>
    refine ⟨fun vs z => (by cases z), fun _ => ?_⟩
    exact a2 hv
  | some vs =>
    have b1 := a1 vs hv
    obtain ⟨c1, c2⟩ := g2 cw' (fun k k1 k2 => ha k (by omega) k2) f m rs tr (vs ++ st) (by omega)
    rw [vals1] at c1 c2
    cases hd : d f with
    | none =>
      rw [hd] at c2
      exact ⟨fun vs z => (by cases z), fun _ => by rw [b1]; exact c2 rfl⟩
    | some v =>
      rw [hd] at c1
      refine ⟨fun ws z => ?_, fun z => (by cases z)⟩
      have : ws = v :: vs := (Option.some.inj z).symm
      subst this
      rw [b1, c1 [v] rfl]; rfl
theorem FLC.one {cw : Nat → Nat} {s : Nat} {d : Den} (h : ∀ cw' f m rs tr st, cw' s = cw s → rs ≤ s → ∃ v, d f = some v ∧ evC cw' f (m + 1) s rs tr st = evC cw' f m (s + 1) rs tr (v :: st)) : FLC cw s (s + 1) [d] := by
  refine ⟨Nat.le_succ s, fun cw' ha f m rs tr st hr => ?_⟩
  obtain ⟨v, h1, h2⟩ := h cw' f m rs tr st (ha s (Nat.le_refl s) (by omega)) hr
  rw [vals1, h1, show m + (s + 1 - s) = m + 1 by omega]
  refine ⟨fun vs z => ?_, fun z => (by cases z)⟩
  have : vs = [v] := (Option.some.inj z).symm
  subst this; exact h2
theorem FLC.num {cw : Nat → Nat} {s v : Nat} (h : cw s = 256 * v + 35) : FLC cw s (s + 1) [fun _ => some (nI v)] := FLC.one (fun cw' f m rs tr st hc hr => by
  refine ⟨nI v, rfl, ?_⟩
  have e1 : cw' s % 256 = 35 := by omega
  have e2 : cw' s / 256 = v := by omega
  rw [evC, if_neg (by omega), if_neg (by omega), if_pos e1, e2])
theorem FLC.ltr {cw : Nat → Nat} {s v : Nat} (h : cw s = 256 * v + 64) : FLC cw s (s + 1) [fun f => some (f v)] := FLC.one (fun cw' f m rs tr st hc hr => by
  refine ⟨f v, rfl, ?_⟩
  have e1 : cw' s % 256 = 64 := by omega
  have e2 : cw' s / 256 = v := by omega
  rw [evC, if_neg (by omega), if_neg (by omega), if_neg (by omega), if_neg (by omega), if_pos e1, e2])
def isOp (sg : Nat) : Prop := sg = 42 ∨ sg = 43 ∨ sg = 45 ∨ sg = 47 ∨ sg = 37
def isCm (sg : Nat) : Prop := sg = 60 ∨ sg = 61 ∨ sg = 62
theorem vals2 {d1 d2 : Den} {ds : List Den} {f : Nat → Int32} : vals (d2 :: d1 :: ds) f = match vals ds f with
  | none => none
  | some vs => match d1 f with
    | none => none
    | some a => match d2 f with
      | none => none
      | some b => some (b :: a :: vs) := by
  rw [vals, vals]
  cases vals ds f with
  | none => rfl
  | some vs =>
    cases d1 f with
    | none => rfl
    | some a => rfl
theorem FLC.op {cw : Nat → Nat} {s e sg : Nat} {ds : List Den} {d1 d2 : Den} (h : FLC cw s e (d2 :: d1 :: ds)) (hw : cw e = sg) (hs : isOp sg) : FLC cw s (e + 1) (opD sg d1 d2 :: ds) := by
  obtain ⟨h1, h2⟩ := h
  refine ⟨by omega, fun cw' ha f m rs tr st hr => ?_⟩
  obtain ⟨a1, a2⟩ := h2 cw' (fun k k1 k2 => ha k k1 (by omega)) f (m + 1) rs tr st hr
  rw [show m + (e + 1 - s) = m + 1 + (e - s) by omega]
  have hwe : cw' e = sg := by rw [ha e h1 (by omega), hw]
  have hsg : sg % 256 = sg := by rcases hs with z | z | z | z | z <;> omega
  have hst : ∀ a b st', evC cw' f (m + 1) e rs tr (b :: a :: st') = match opV sg a b with
      | none => some false
      | some v => evC cw' f m (e + 1) rs tr (v :: st') := fun a b st' => by
    have n1 : ¬ (sg = 60 ∨ sg = 61 ∨ sg = 62) := by rcases hs with z | z | z | z | z <;> omega
    have n2 : ¬ sg = 33 ∧ ¬ sg = 35 ∧ ¬ sg = 38 ∧ ¬ sg = 64 ∧ ¬ sg = 124 := by rcases hs with z | z | z | z | z <;> omega
    rw [evC, hwe, hsg, if_neg (by omega), if_neg n2.1, if_neg n2.2.1, if_neg n2.2.2.1, if_neg n2.2.2.2.1, if_neg n2.2.2.2.2]
    simp only [jnC]
    rw [if_neg n1]
  rw [vals2] at a1 a2
  rw [vals]
  cases hv : vals ds f with
  | none =>
    rw [hv] at a2
    exact ⟨fun vs z => (by cases z), fun _ => a2 rfl⟩
  | some vs =>
    rw [hv] at a1 a2
    unfold opD
    cases hd1 : d1 f with
    | none =>
      rw [hd1] at a2
      exact ⟨fun vs z => (by cases z), fun _ => a2 rfl⟩
    | some a =>
      rw [hd1] at a1 a2
      cases hd2 : d2 f with
      | none =>
        rw [hd2] at a2
        exact ⟨fun vs z => (by cases z), fun _ => a2 rfl⟩
      | some b =>
        rw [hd2] at a1
        have b1 := a1 (b :: a :: vs) rfl
        simp only []
        have b2 := hst a b (vs ++ st)
        cases ho : opV sg a b with
        | none =>
          rw [ho] at b2
          exact ⟨fun vs z => (by cases z), fun _ => by rw [b1]; exact b2⟩
        | some v =>
          rw [ho] at b2
          refine ⟨fun ws z => ?_, fun z => (by cases z)⟩
          have : ws = v :: vs := (Option.some.inj z).symm
          subst this
          rw [b1]; exact b2
def GC (cw : Nat → Nat) (s e : Nat) (d : Den) : Prop := s ≤ e ∧ isB d ∧ ∀ cw', agC cw cw' s e → ∀ f m rs tr st, rs ≤ s → (∀ b, d f = some b → ∃ rs', rs' ≤ e ∧ evC cw' f (m + (e - s)) s rs tr st = evC cw' f m e rs' (decide (b = 1)) st) ∧ (d f = none → evC cw' f (m + (e - s)) s rs tr st = some false)
theorem GC.cg {cw cw' : Nat → Nat} {s e : Nat} {d : Den} (h : GC cw s e d) (ha : agC cw cw' s e) : GC cw' s e d := ⟨h.1, h.2.1, fun cw2 h2 => h.2.2 cw2 (fun k k1 k2 => by rw [h2 k k1 k2, ha k k1 k2])⟩
theorem b01_or (b : Bool) : b01 b = 0 ∨ b01 b = 1 := by cases b <;> simp [b01]
theorem b01_dec (b : Bool) : decide (b01 b = 1) = b := by cases b <;> decide
theorem isB_cm {sg : Nat} {d1 d2 : Den} : isB (cmD sg d1 d2) := fun f b h => by
  unfold cmD at h
  cases h1 : d1 f with
  | none => rw [h1] at h; cases h
  | some x =>
    rw [h1] at h
    cases h2 : d2 f with
    | none => rw [h2] at h; cases h
    | some y =>
      rw [h2] at h
      rw [← Option.some.inj h]; exact b01_or _
theorem isB_nt {d : Den} (hd : isB d) : isB (ntD d) := fun f b h => by
  unfold ntD at h
  cases h1 : d f with
  | none => rw [h1] at h; cases h
  | some x =>
    rw [h1] at h
    rw [← Option.some.inj h]
    rcases hd f x h1 with z | z <;> subst z <;> decide
theorem isB_end {q : Qd} {d : Den} (hd : isB d) : isB (qEnd q d) := fun f b h => by
  unfold qEnd at h
  split at h
  · cases h
  · exact hd f b h
  · rw [← Option.some.inj h]; exact .inl rfl
  · rw [← Option.some.inj h]; exact .inr rfl
theorem isQ_and {q : Qd} {d : Den} (h : isQ q) : isQ (qAnd q d) := fun f => by
  unfold qAnd
  rcases h f with z | z | z | z <;> rw [z]
  · exact .inl rfl
  · exact .inr (.inl rfl)
  · exact .inr (.inr (.inl rfl))
  · cases d f with
    | none => exact .inl rfl
    | some b =>
      simp only []
      split
      · exact .inr (.inr (.inr rfl))
      · exact .inr (.inr (.inl rfl))
theorem isQ_or {q : Qd} {d : Den} (h : isQ q) : isQ (qOr q d) := fun f => by
  unfold qOr
  rcases h f with z | z | z | z <;> rw [z]
  · exact .inl rfl
  · exact .inr (.inl rfl)
  · exact .inr (.inr (.inr rfl))
  · cases d f with
    | none => exact .inl rfl
    | some b =>
      simp only []
      split
      · exact .inr (.inl rfl)
      · exact .inr (.inr (.inr rfl))
theorem GC.cmp {cw : Nat → Nat} {s e sg : Nat} {d1 d2 : Den} (h : FLC cw s e [d2, d1]) (hw : cw e = sg) (hs : isCm sg) : GC cw s (e + 1) (cmD sg d1 d2) := by
  obtain ⟨h1, h2⟩ := h
  refine ⟨by omega, isB_cm, fun cw' ha f m rs tr st hr => ?_⟩
  obtain ⟨a1, a2⟩ := h2 cw' (fun k k1 k2 => ha k k1 (by omega)) f (m + 1) rs tr st hr
  rw [show m + (e + 1 - s) = m + 1 + (e - s) by omega]
  have hwe : cw' e = sg := by rw [ha e h1 (by omega), hw]
  have hsg : sg % 256 = sg := by rcases hs with z | z | z <;> omega
  have hst : ∀ a b st', evC cw' f (m + 1) e rs tr (b :: a :: st') = evC cw' f m (e + 1) rs (cmV sg a b) st' := fun a b st' => by
    have n2 : ¬ sg = 33 ∧ ¬ sg = 35 ∧ ¬ sg = 38 ∧ ¬ sg = 64 ∧ ¬ sg = 124 := by rcases hs with z | z | z <;> omega
    rw [evC, hwe, hsg, if_neg (by omega), if_neg n2.1, if_neg n2.2.1, if_neg n2.2.2.1, if_neg n2.2.2.2.1, if_neg n2.2.2.2.2]
    simp only [jnC]
    rw [if_pos (show sg = 60 ∨ sg = 61 ∨ sg = 62 from hs)]
  rw [vals2] at a1 a2
  have hv : vals [] f = some [] := rfl
  rw [hv] at a1 a2
  unfold cmD
  cases hd1 : d1 f with
  | none =>
    rw [hd1] at a2
    exact ⟨fun b z => (by cases z), fun _ => a2 rfl⟩
  | some a =>
    rw [hd1] at a1 a2
    cases hd2 : d2 f with
    | none =>
      rw [hd2] at a2
      exact ⟨fun b z => (by cases z), fun _ => a2 rfl⟩
    | some b =>
      rw [hd2] at a1
      have b1 := a1 [b, a] rfl
      refine ⟨fun c z => ⟨rs, by omega, ?_⟩, fun z => (by cases z)⟩
      rw [← Option.some.inj z, b01_dec, b1]
      exact hst a b st
theorem GC.nt {cw : Nat → Nat} {s e : Nat} {d : Den} (h : GC cw s e d) (hw : cw e = 33) : GC cw s (e + 1) (ntD d) := by
  obtain ⟨h1, h0, h2⟩ := h
  refine ⟨by omega, isB_nt h0, fun cw' ha f m rs tr st hr => ?_⟩
  obtain ⟨a1, a2⟩ := h2 cw' (fun k k1 k2 => ha k k1 (by omega)) f (m + 1) rs tr st hr
  rw [show m + (e + 1 - s) = m + 1 + (e - s) by omega]
  have hwe : cw' e % 256 = 33 := by rw [ha e h1 (by omega), hw]
  unfold ntD
  cases hd : d f with
  | none => exact ⟨fun b z => (by cases z), fun _ => a2 hd⟩
  | some b =>
    obtain ⟨rs', r1, r2⟩ := a1 b hd
    refine ⟨fun c z => ⟨rs', by omega, ?_⟩, fun z => (by cases z)⟩
    rw [← Option.some.inj z, r2, evC, if_neg (by omega), if_pos hwe]
    congr 1
    rcases h0 f b hd with y | y <;> subst y <;> decide
/-! conditions under way, the class's -/
def ptC (cw : Nat → Nat) (tA tO k : Nat) : Nat := if cw k = 38 then 256 * tA + 38 else if cw k = 124 then 256 * tO + 124 else cw k
def QC (cw : Nat → Nat) (s e : Nat) (q : Qd) : Prop := s ≤ e ∧ isQ q ∧ ∀ cw' tA tO, e ≤ tA → e ≤ tO → (∀ k, s ≤ k → k < e → cw' k = ptC cw tA tO k) → ∀ f m rs tr st, rs ≤ s → (q f = none → evC cw' f (m + (e - s)) s rs tr st = some false) ∧ (q f = some 0 → evC cw' f (m + (e - s)) s rs tr st = evC cw' f m e tO true st) ∧ (q f = some 1 → evC cw' f (m + (e - s)) s rs tr st = evC cw' f m e tA false st) ∧ (q f = some 2 → ∃ rs' tr', rs' ≤ e ∧ evC cw' f (m + (e - s)) s rs tr st = evC cw' f m e rs' tr' st)
theorem QC.nil {cw : Nat → Nat} {s : Nat} : QC cw s s (fun _ => some 2) := by
  refine ⟨Nat.le_refl s, fun _ => .inr (.inr (.inr rfl)), fun cw' tA tO _ _ _ f m rs tr st hr => ⟨fun z => (by cases z), fun z => (by cases z), fun z => (by cases z), fun _ => ⟨rs, tr, hr, ?_⟩⟩⟩
  rw [Nat.sub_self]; rfl
theorem QC.cg {cw cw' : Nat → Nat} {s e : Nat} {q : Qd} (h : QC cw s e q) (ha : agC cw cw' s e) : QC cw' s e q := ⟨h.1, h.2.1, fun cw2 tA tO h1 h2 h3 => h.2.2 cw2 tA tO h1 h2 (fun k k1 k2 => by rw [h3 k k1 k2]; unfold ptC; rw [ha k k1 k2])⟩
def clC (cw : Nat → Nat) (s e : Nat) : Prop := ∀ k, s ≤ k → k < e → cw k ≠ 38 ∧ cw k ≠ 124
theorem QC.and {cw : Nat → Nat} {s e e2 : Nat} {q : Qd} {d : Den} (h : QC cw s e q) (hd : GC cw e e2 d) (hc : clC cw e e2) (hw : cw e2 = 38) : QC cw s (e2 + 1) (qAnd q d) := by
  obtain ⟨h1, hq, h2⟩ := h
  obtain ⟨g1, g0, g2⟩ := hd
  refine ⟨by omega, isQ_and hq, fun cw' tA tO hA hO hp f m rs tr st hr => ?_⟩
  have hp1 : ∀ k, s ≤ k → k < e → cw' k = ptC cw tA tO k := fun k k1 k2 => hp k k1 (by omega)
  have hp2 : agC cw cw' e e2 := fun k k1 k2 => by
    rw [hp k (by omega) (by omega)]; unfold ptC
    rw [if_neg (hc k k1 k2).1, if_neg (hc k k1 k2).2]
  have hp3 : cw' e2 = 256 * tA + 38 := by rw [hp e2 (by omega) (by omega)]; unfold ptC; rw [if_pos hw]
  obtain ⟨a0, a1, a2, a3⟩ := h2 cw' tA tO (by omega) (by omega) hp1 f (m + (e2 + 1 - e)) rs tr st hr
  rw [show m + (e2 + 1 - s) = m + (e2 + 1 - e) + (e - s) by omega]
  have sk : ∀ t b, e2 + 1 ≤ t → evC cw' f (m + (e2 + 1 - e)) e t b st = evC cw' f m (e2 + 1) t b st := fun t b ht => by
    rw [evC_skip (e2 + 1 - e) m e (by omega), show e + (e2 + 1 - e) = e2 + 1 by omega]
  unfold qAnd
  rcases hq f with z | z | z | z
  · rw [z]
    exact ⟨fun _ => a0 z, fun y => (by cases y), fun y => (by cases y), fun y => (by cases y)⟩
  · rw [z]
    exact ⟨fun y => (by cases y), fun _ => by rw [a1 z]; exact sk tO true hO, fun y => (by cases y), fun y => (by cases y)⟩
  · rw [z]
    exact ⟨fun y => (by cases y), fun y => (by cases y), fun _ => by rw [a2 z]; exact sk tA false hA, fun y => (by cases y)⟩
  · rw [z]
    obtain ⟨rs', tr', r1, r2⟩ := a3 z
    obtain ⟨c1, c2⟩ := g2 cw' hp2 f (m + 1) rs' tr' st r1
    rw [show m + 1 + (e2 - e) = m + (e2 + 1 - e) by omega, ← r2] at c1 c2
    cases hdf : d f with
    | none => exact ⟨fun _ => c2 hdf, fun y => (by cases y), fun y => (by cases y), fun y => (by cases y)⟩
    | some b =>
      obtain ⟨rs2, t1, t2⟩ := c1 b hdf
      have e1 : cw' e2 % 256 = 38 := by omega
      have e3 : cw' e2 / 256 = tA := by omega
      rw [evC, if_neg (by omega), if_neg (by omega), if_neg (by omega), if_pos e1, e3] at t2
      by_cases hb : b = 1
      · subst hb
        simp only [if_true]
        exact ⟨fun y => (by cases y), fun y => (by cases y), fun y => (by cases y), fun _ => ⟨rs2, true, by omega, t2⟩⟩
      · simp only [hb, if_false]
        have hbd : decide (b = 1) = false := decide_eq_false hb
        rw [hbd] at t2
        exact ⟨fun y => (by cases y), fun y => (by cases y), fun _ => t2, fun y => (by cases y)⟩
theorem QC.or {cw cw2 : Nat → Nat} {s e e2 : Nat} {q : Qd} {d : Den} (h : QC cw s e q) (hd : GC cw e e2 d) (hc : clC cw e e2) (hlt : e < e2) (h2w : ∀ k, s ≤ k → k < e2 → cw2 k = if cw k = 38 then 256 * e2 + 38 else cw k) (hw : cw2 e2 = 124) : QC cw2 s (e2 + 1) (qOr q d) := by
  obtain ⟨h1, hq, h2⟩ := h
  obtain ⟨g1, g0, g2⟩ := hd
  refine ⟨by omega, isQ_or hq, fun cw' tA tO hA hO hp f m rs tr st hr => ?_⟩
  have hp1 : ∀ k, s ≤ k → k < e → cw' k = ptC cw e2 tO k := fun k k1 k2 => by
    rw [hp k k1 (by omega)]; unfold ptC
    rw [h2w k k1 (by omega)]
    by_cases z : cw k = 38
    · rw [if_pos z, if_neg (by omega), if_neg (by omega), if_pos z]
    · rw [if_neg z, if_neg z, if_neg z]
  have hp2 : agC cw cw' e e2 := fun k k1 k2 => by
    rw [hp k (by omega) (by omega)]; unfold ptC
    rw [h2w k (by omega) k2, if_neg (hc k k1 k2).1, if_neg (hc k k1 k2).1, if_neg (hc k k1 k2).2]
  have hp3 : cw' e2 = 256 * tO + 124 := by rw [hp e2 (by omega) (by omega)]; unfold ptC; rw [if_neg (by omega), if_pos hw]
  obtain ⟨a0, a1, a2, a3⟩ := h2 cw' e2 tO (by omega) (by omega) hp1 f (m + (e2 + 1 - e)) rs tr st hr
  rw [show m + (e2 + 1 - s) = m + (e2 + 1 - e) + (e - s) by omega]
  have e1 : cw' e2 % 256 = 124 := by omega
  have e3 : cw' e2 / 256 = tO := by omega
  have stp : ∀ r b, r ≤ e2 → evC cw' f (m + 1) e2 r b st = evC cw' f m (e2 + 1) (if b = true then tO else r) b st := fun r b hr => by
    rw [evC, if_neg (by omega), if_neg (by omega), if_neg (by omega), if_neg (by omega), if_neg (by omega), if_pos e1, e3]
  unfold qOr
  rcases hq f with z | z | z | z
  · rw [z]
    exact ⟨fun _ => a0 z, fun y => (by cases y), fun y => (by cases y), fun y => (by cases y)⟩
  · rw [z]
    refine ⟨fun y => (by cases y), fun _ => ?_, fun y => (by cases y), fun y => (by cases y)⟩
    rw [a1 z, evC_skip (e2 + 1 - e) m e (by omega), show e + (e2 + 1 - e) = e2 + 1 by omega]
  · rw [z]
    refine ⟨fun y => (by cases y), fun y => (by cases y), fun y => (by cases y), fun _ => ⟨e2, false, by omega, ?_⟩⟩
    rw [a2 z, show m + (e2 + 1 - e) = m + 1 + (e2 - e) by omega, evC_skip (e2 - e) (m + 1) e (by omega), show e + (e2 - e) = e2 by omega, stp e2 false (Nat.le_refl e2)]
    rfl
  · rw [z]
    obtain ⟨rs', tr', r1, r2⟩ := a3 z
    obtain ⟨c1, c2⟩ := g2 cw' hp2 f (m + 1) rs' tr' st r1
    rw [show m + 1 + (e2 - e) = m + (e2 + 1 - e) by omega, ← r2] at c1 c2
    cases hdf : d f with
    | none => exact ⟨fun _ => c2 hdf, fun y => (by cases y), fun y => (by cases y), fun y => (by cases y)⟩
    | some b =>
      obtain ⟨rs2, t1, t2⟩ := c1 b hdf
      rw [stp rs2 _ t1] at t2
      by_cases hb : b = 1
      · subst hb
        simp only [if_true]
        exact ⟨fun y => (by cases y), fun _ => t2, fun y => (by cases y), fun y => (by cases y)⟩
      · simp only [hb, if_false]
        have hbd : decide (b = 1) = false := decide_eq_false hb
        rw [hbd] at t2
        exact ⟨fun y => (by cases y), fun y => (by cases y), fun y => (by cases y), fun _ => ⟨rs2, false, by omega, t2⟩⟩
theorem QC.fin {cw cw2 : Nat → Nat} {s e e2 : Nat} {q : Qd} {d : Den} (h : QC cw s e q) (hd : GC cw e e2 d) (hc : clC cw e e2) (h2w : ∀ k, s ≤ k → k < e2 → cw2 k = ptC cw e2 e2 k) : GC cw2 s e2 (qEnd q d) := by
  obtain ⟨h1, hq, h2⟩ := h
  obtain ⟨g1, g0, g2⟩ := hd
  refine ⟨by omega, isB_end g0, fun cw' ha f m rs tr st hr => ?_⟩
  have hp1 : ∀ k, s ≤ k → k < e → cw' k = ptC cw e2 e2 k := fun k k1 k2 => by rw [ha k k1 (by omega), h2w k k1 (by omega)]
  have hp2 : agC cw cw' e e2 := fun k k1 k2 => by
    rw [ha k (by omega) k2, h2w k (by omega) k2]; unfold ptC
    rw [if_neg (hc k k1 k2).1, if_neg (hc k k1 k2).2]
  obtain ⟨a0, a1, a2, a3⟩ := h2 cw' e2 e2 (by omega) (by omega) hp1 f (m + (e2 - e)) rs tr st hr
  rw [show m + (e2 - s) = m + (e2 - e) + (e - s) by omega]
  have sk : ∀ b, evC cw' f (m + (e2 - e)) e e2 b st = evC cw' f m e2 e2 b st := fun b => by
    rw [evC_skip (e2 - e) m e (by omega), show e + (e2 - e) = e2 by omega]
  unfold qEnd
  rcases hq f with z | z | z | z
  · rw [z]; exact ⟨fun b y => (by cases y), fun _ => a0 z⟩
  · rw [z]
    refine ⟨fun b y => ⟨e2, Nat.le_refl e2, ?_⟩, fun y => (by cases y)⟩
    have : b = 1 := (Option.some.inj y).symm
    subst this
    rw [a1 z, sk]; rfl
  · rw [z]
    refine ⟨fun b y => ⟨e2, Nat.le_refl e2, ?_⟩, fun y => (by cases y)⟩
    have : b = 0 := (Option.some.inj y).symm
    subst this
    rw [a2 z, sk]; rfl
  · rw [z]
    obtain ⟨rs', tr', r1, r2⟩ := a3 z
    obtain ⟨c1, c2⟩ := g2 cw' hp2 f m rs' tr' st r1
    rw [← r2] at c1 c2
    exact ⟨c1, c2⟩
