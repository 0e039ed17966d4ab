/-! CONSTRUCTORS: an object q and its rows -/
abbrev FS : Type := Nat ⊕ Value
def fldv (as : List Nat) : FS → Value
  | .inl m => va_rf as[m]?
  | .inr v => v
/-- object q of class ci, its fields by sp, rows as (cells cs) made since M0 -/
def CI (M0 : MH) (q ci : Nat) (sp : List FS) (as : List Nat) (cs : List va_E) (M : MH) : Prop :=
  M q = some (.inr (ci, sp.map (fldv as))) ∧ as.length = cs.length ∧ as.Nodup ∧ (∀ (k a : Nat), as[k]? = some a → M0 a = none ∧ a ≠ q ∧ M a = cs[k]?) ∧ ∀ x, x ≠ q → x ∉ as → M x = M0 x
theorem CI.start {M : MH} {q ci : Nat} {sp : List FS} {fs : List Value} (hM : M q = some (.inr (ci, fs))) (h : sp.map (fldv []) = fs) : CI M q ci sp [] [] M :=
  ⟨by rw [h]; exact hM, rfl, List.nodup_nil, fun k a h => by simp at h, fun x _ _ => rfl⟩
theorem CI.hsm {M0 M : MH} {q ci : Nat} {sp : List FS} {as : List Nat} {cs : List va_E} (h : CI M0 q ci sp as cs M) {k a : Nat} (hk : as[k]? = Option.some a) : ∃ e, M a = Option.some e ∧ cs[k]? = Option.some e := by
  obtain ⟨z1, z2, z3⟩ := h.2.2.2.1 k a hk
  have hl : k < cs.length := by rw [← h.2.1]; exact (List.getElem?_eq_some_iff.mp hk).1
  exact ⟨cs[k], by rw [z3, List.getElem?_eq_getElem hl], List.getElem?_eq_getElem hl⟩
theorem CI.set {M0 M : MH} {q ci k : Nat} {sp sp' : List FS} {as : List Nat} {cs : List va_E} {v : Value} (h : CI M0 q ci sp as cs M) (hs : sp.set k (.inr v) = sp') : CI M0 q ci sp' as cs (mset M q (.inr (ci, (sp.map (fldv as)).set k v))) := by
  subst hs
  refine ⟨by rw [mset_self, List.map_set]; rfl, h.2.1, h.2.2.1, fun j a hj => ?_, fun x h1 h2 => by rw [mset_ne _ _ h1]; exact h.2.2.2.2 x h1 h2⟩
  obtain ⟨z1, z2, z3⟩ := h.2.2.2.1 j a hj
  exact ⟨z1, z2, by rw [mset_ne _ _ z2]; exact z3⟩
def uniq (sp : List FS) (m k : Nat) : Bool := sp[k]? matches some (.inl _) && (List.range sp.length).all (fun j => match sp[j]? with
  | some (.inl x) => (x == m) == (j == k)
  | _ => true)
theorem uniq_at {sp : List FS} {m k : Nat} (h : uniq sp m k = true) : sp[k]? = some (.inl m) := by
  unfold uniq at h
  rw [Bool.and_eq_true] at h
  cases hk : sp[k]? with
  | none => rw [hk] at h; simp at h
  | some z =>
    cases z with
    | inr v => rw [hk] at h; simp at h
    | inl x =>
      have hl := (List.getElem?_eq_some_iff.mp hk).1
      have := List.all_eq_true.mp h.2 k (List.mem_range.mpr hl)
      rw [hk] at this
      simp at this
      rw [this]
theorem uniq_ne {sp : List FS} {m k j : Nat} (h : uniq sp m k = true) (hj : j ≠ k) : sp[j]? ≠ some (.inl m) := by
  intro z
  unfold uniq at h
  rw [Bool.and_eq_true] at h
  have hl := (List.getElem?_eq_some_iff.mp z).1
  have := List.all_eq_true.mp h.2 j (List.mem_range.mpr hl)
  rw [z] at this
  simp at this
  exact hj this
/-- positions are given out as they come: place y is at most m, or not yet set -/
theorem fldv_mono {sp : List FS} {as : List Nat} {a k m : Nat} {bs : List Nat} (hm : as.length = m) (h : uniq sp m k = true) (hb : ∀ x ∈ sp, ∀ y, x = .inl y → y ≤ m ∨ m + 1 + bs.length ≤ y) : (sp.map (fldv as)).set k (.ref a) = sp.map (fldv (as ++ a :: bs)) := by
  apply List.ext_getElem?
  intro j
  by_cases hj : j = k
  · subst hj
    have hs := uniq_at h
    have hl : j < (sp.map (fldv as)).length := by rw [List.length_map]; exact (List.getElem?_eq_some_iff.mp hs).1
    rw [List.getElem?_set_self hl, List.getElem?_map, hs, Option.map_some]
    show some (Value.ref a) = some (va_rf (as ++ a :: bs)[m]?)
    rw [List.getElem?_append_right (by omega), hm, Nat.sub_self]
    rfl
  · rw [List.getElem?_set_ne (Ne.symm hj), List.getElem?_map, List.getElem?_map]
    cases hx : sp[j]? with
    | none => rfl
    | some x =>
      rw [Option.map_some, Option.map_some]
      cases x with
      | inr v => rfl
      | inl y =>
        have hn : y ≠ m := fun e => uniq_ne h hj (by rw [hx, e])
        show some (va_rf as[y]?) = some (va_rf (as ++ a :: bs)[y]?)
        rcases hb _ (List.mem_of_getElem? hx) y rfl with hy | hy
        · rw [List.getElem?_append_left (by omega)]
        · rw [List.getElem?_eq_none (by omega), List.getElem?_eq_none (by rw [List.length_append, List.length_cons]; omega)]
def gaps (sp : List FS) (m n : Nat) : Bool := sp.all (fun x => match x with
  | .inl y => Nat.ble y m || Nat.ble (m + 1 + n) y
  | _ => true)
theorem gaps_of {sp : List FS} {m n : Nat} (h : gaps sp m n = true) : ∀ x ∈ sp, ∀ y, x = .inl y → y ≤ m ∨ m + 1 + n ≤ y := by
  rintro x hx y rfl
  have := List.all_eq_true.mp h _ hx
  simp only [Bool.or_eq_true] at this
  rcases this with z | z
  · exact Or.inl (Nat.le_of_ble_eq_true z)
  · exact Or.inr (Nat.le_of_ble_eq_true z)
/-- a new object p with its own rows bs becomes field k of q -/
theorem CI.join {M0 M M2 : MH} {q ci k p cp m : Nat} {sp sq : List FS} {as bs : List Nat} {cs ds cs' : List va_E} {z0 : va_E} (h : CI M0 q ci sp as cs M) (hp : M p = none) (hB : CI (mset M p z0) p cp sq bs ds M2) (hm : cs.length = m) (hu : uniq sp m k = true) (hg : gaps sp m ds.length = true) (hcs : cs ++ (.inr (cp, sq.map (fldv bs))) :: ds = cs') : CI M0 q ci sp (as ++ p :: bs) cs' (mset M2 q (.inr (ci, (sp.map (fldv as)).set k (.ref p)))) := by
  subst hcs
  obtain ⟨a1, a2, a3, a4, a5⟩ := h
  obtain ⟨b1, b2, b3, b4, b5⟩ := hB
  have hpq : p ≠ q := fun e => by rw [e, a1] at hp; cases hp
  have hpa : p ∉ as := fun z => by
    obtain ⟨j, hj⟩ := List.getElem?_of_mem z
    obtain ⟨e, he, -⟩ := CI.hsm ⟨a1, a2, a3, a4, a5⟩ hj
    rw [hp] at he; cases he
  have hbn : ∀ x ∈ bs, M x = none ∧ x ≠ p := fun x hx => by
    obtain ⟨j, hj⟩ := List.getElem?_of_mem hx
    obtain ⟨z1, z2, -⟩ := b4 j x hj
    exact ⟨by rw [mset_ne _ _ z2] at z1; exact z1, z2⟩
  have hqb : q ∉ bs := fun z => by have := (hbn q z).1; rw [a1] at this; cases this
  have hab : ∀ x ∈ as, x ∉ bs := fun x hx hx2 => by
    obtain ⟨j, hj⟩ := List.getElem?_of_mem hx
    obtain ⟨e, he, -⟩ := CI.hsm ⟨a1, a2, a3, a4, a5⟩ hj
    rw [(hbn x hx2).1] at he; cases he
  have hnone : ∀ x, M x = none → M0 x = none := fun x hx => by
    have h1 : x ≠ q := fun e => by rw [e, a1] at hx; cases hx
    have h2 : x ∉ as := fun z => by
      obtain ⟨j, hj⟩ := List.getElem?_of_mem z
      obtain ⟨e, he, -⟩ := CI.hsm ⟨a1, a2, a3, a4, a5⟩ hj
      rw [hx] at he; cases he
    rw [← a5 x h1 h2]; exact hx
  refine ⟨?_, by rw [List.length_append, List.length_append, List.length_cons, List.length_cons, a2, b2], ?_, fun j a hj => ?_, fun x h1 h2 => ?_⟩
  · rw [mset_self, fldv_mono (by rw [a2, hm]) hu (by rw [b2]; exact gaps_of hg)]
  · refine List.nodup_append.mpr ⟨a3, List.nodup_cons.mpr ⟨fun z => (hbn p z).2 rfl, b3⟩, fun x hx y hy e => ?_⟩
    subst e
    rcases List.mem_cons.mp hy with e | e
    · exact hpa (e ▸ hx)
    · exact hab x hx e
  · by_cases hja : j < as.length
    · rw [List.getElem?_append_left hja] at hj
      obtain ⟨z1, z2, z3⟩ := a4 j a hj
      have hma := List.mem_of_getElem? hj
      have hap : a ≠ p := fun e => hpa (e ▸ hma)
      refine ⟨z1, z2, ?_⟩
      rw [mset_ne _ _ z2, b5 a hap (hab a hma), mset_ne _ _ hap, z3, List.getElem?_append_left (by rw [← a2]; exact hja)]
    · rw [List.getElem?_append_right (by omega)] at hj
      rw [List.getElem?_append_right (by rw [← a2]; omega), ← a2]
      cases hjx : j - as.length with
      | zero =>
        rw [hjx, List.getElem?_cons_zero] at hj
        cases hj
        refine ⟨hnone p hp, hpq, ?_⟩
        rw [mset_ne _ _ hpq, b1, List.getElem?_cons_zero]
      | succ i =>
        rw [hjx, List.getElem?_cons_succ] at hj
        obtain ⟨z1, z2, z3⟩ := b4 i a hj
        have hma := List.mem_of_getElem? hj
        have haq : a ≠ q := fun e => hqb (e ▸ hma)
        refine ⟨hnone a (hbn a hma).1, haq, ?_⟩
        rw [mset_ne _ _ haq, z3, List.getElem?_cons_succ]
  · have h3 : x ∉ as := fun z => h2 (List.mem_append.mpr (Or.inl z))
    have h4 : x ≠ p := fun e => h2 (List.mem_append.mpr (Or.inr (by rw [e]; exact List.mem_cons_self)))
    have h5 : x ∉ bs := fun z => h2 (List.mem_append.mpr (Or.inr (List.mem_cons_of_mem _ z)))
    rw [mset_ne _ _ h1, b5 x h4 h5, mset_ne _ _ h4, a5 x h1 h3]
/-- a new row p becomes field k of q -/
theorem CI.row {M0 M : MH} {q ci k p m : Nat} {sp : List FS} {as : List Nat} {cs cs' : List va_E} {e : va_E} (h : CI M0 q ci sp as cs M) (hp : M p = none) (hm : cs.length = m) (hu : uniq sp m k = true) (hcs : cs ++ [e] = cs') : CI M0 q ci sp (as ++ [p]) cs' (mset (mset M p e) q (.inr (ci, (sp.map (fldv as)).set k (.ref p)))) := by
  subst hcs
  obtain ⟨a1, a2, a3, a4, a5⟩ := h
  have hpq : p ≠ q := fun e => by rw [e, a1] at hp; cases hp
  have hpa : p ∉ as := fun z => by
    obtain ⟨j, hj⟩ := List.getElem?_of_mem z
    obtain ⟨e, he, -⟩ := CI.hsm ⟨a1, a2, a3, a4, a5⟩ hj
    rw [hp] at he; cases he
  refine ⟨?_, by rw [List.length_append, List.length_append, a2]; rfl, ?_, fun j a hj => ?_, fun x h1 h2 => ?_⟩
  · rw [mset_self, fldv_mono (bs := []) (by rw [a2, hm]) hu (fun x hx y _ => by have := Nat.lt_or_ge m y; show y ≤ m ∨ m + 1 + 0 ≤ y; omega)]
  · refine List.nodup_append.mpr ⟨a3, List.nodup_cons.mpr ⟨List.not_mem_nil, List.nodup_nil⟩, fun x hx y hy e => ?_⟩
    subst e
    exact hpa ((List.mem_singleton.mp hy) ▸ hx)
  · by_cases hja : j < as.length
    · rw [List.getElem?_append_left hja] at hj
      obtain ⟨z1, z2, z3⟩ := a4 j a hj
      have hap : a ≠ p := fun e => hpa (e ▸ List.mem_of_getElem? hj)
      refine ⟨z1, z2, ?_⟩
      rw [mset_ne _ _ z2, mset_ne _ _ hap, z3, List.getElem?_append_left (by rw [← a2]; exact hja)]
    · rw [List.getElem?_append_right (by omega)] at hj
      rw [List.getElem?_append_right (by rw [← a2]; omega), ← a2]
      cases hjx : j - as.length with
      | zero =>
        rw [hjx, List.getElem?_cons_zero] at hj
        cases hj
        refine ⟨by rw [← a5 p hpq hpa]; exact hp, hpq, ?_⟩
        rw [mset_ne _ _ hpq, mset_self, List.getElem?_cons_zero]
      | succ i => rw [hjx] at hj; simp at hj
  · have h3 : x ∉ as := fun z => h2 (List.mem_append.mpr (Or.inl z))
    have h4 : x ≠ p := fun e => h2 (List.mem_append.mpr (Or.inr (by rw [e]; exact List.mem_cons_self)))
    rw [mset_ne _ _ h1, mset_ne _ _ h4, a5 x h1 h3]
theorem CI.old {M0 M : MH} {q ci : Nat} {sp : List FS} {as : List Nat} {cs : List va_E} (h : CI M0 q ci sp as cs M) {x : Nat} (hx : M0 x ≠ none) (hq : x ≠ q) : M x = M0 x := by
  refine h.2.2.2.2 x hq (fun z => ?_)
  obtain ⟨j, hj⟩ := List.getElem?_of_mem z
  exact hx (h.2.2.2.1 j x hj).1
section CT
variable {E : EN} {X : CX} {own : String} {cc : ByteArray} {nl : Nat} {ret : Option FieldType} {rm : Room} {P : Option Value → MH → Prop} {M M0 : MH} {L : List (Option Value)} {kc ks pc pc1 pc2 : Nat} {st : List Value} {idx q ci k m : Nat} {sp sp' : List FS} {as : List Nat} {cs cs' : List va_E}
theorem c_putF {v : Value} {ty : FieldType} (hd : Dk cc pc (.putfield idx) 3 pc1) (hf : FPF own idx ci k ty) (hC : CI M0 q ci sp as cs M) (hn : narrow ty v = v) (hfit : fits ty v = true) (hl : k < sp.length) (hs : sp.set k (.inr v) = sp') (K : ∀ M', CI M0 q ci sp' as cs M' → G E X own cc nl ret true rm P M' L kc ks pc1 st) : G E X own cc nl ret true rm P M L kc ks pc (v :: .ref q :: st) :=
  r_putF hd hf rfl hC.1 hn hfit (by rw [List.length_map]; exact hl) (K _ (hC.set hs))
theorem c_put {v : Value} {ty : FieldType} (hd : Dk cc pc (.putfield idx) 3 pc1) (hf : FP own idx ci k ty) (hC : CI M0 q ci sp as cs M) (hn : narrow ty v = v) (hfit : fits ty v = true) (hl : k < sp.length) (hs : sp.set k (.inr v) = sp') (K : ∀ M', CI M0 q ci sp' as cs M' → G E X own cc nl ret true rm P M' L kc ks pc1 st) : G E X own cc nl ret true rm P M L kc ks pc (v :: .ref q :: st) :=
  r_put hd hf hC.1 hn hfit (by rw [List.length_map]; exact hl) (K _ (hC.set hs))
theorem c_rowF {p : Nat} {e : va_E} {ty : FieldType} (hd : Dk cc pc (.putfield idx) 3 pc1) (hf : FPF own idx ci k ty) (hC : CI M0 q ci sp as cs M) (hp : M p = none) (hn : narrow ty (.ref p) = .ref p) (hfit : fits ty (.ref p) = true) (hm : cs.length = m) (hu : uniq sp m k = true) (hcs : cs ++ [e] = cs') (K : ∀ (M' : MH), CI M0 q ci sp (as ++ [p]) cs' M' → G E X own cc nl ret true rm P M' L kc ks pc1 st) : G E X own cc nl ret true rm P (mset M p e) L kc ks pc (.ref p :: .ref q :: st) := by
  have hpq : q ≠ p := fun z => by have := hC.1; rw [z, hp] at this; cases this
  refine r_putF hd hf rfl (by rw [mset_ne _ _ hpq]; exact hC.1) hn hfit (by rw [List.length_map]; exact (List.getElem?_eq_some_iff.mp (uniq_at hu)).1) (K _ (hC.row hp hm hu hcs))
theorem c_row {p : Nat} {e : va_E} {ty : FieldType} (hd : Dk cc pc (.putfield idx) 3 pc1) (hf : FP own idx ci k ty) (hC : CI M0 q ci sp as cs M) (hp : M p = none) (hn : narrow ty (.ref p) = .ref p) (hfit : fits ty (.ref p) = true) (hm : cs.length = m) (hu : uniq sp m k = true) (hcs : cs ++ [e] = cs') (K : ∀ (M' : MH), CI M0 q ci sp (as ++ [p]) cs' M' → G E X own cc nl ret true rm P M' L kc ks pc1 st) : G E X own cc nl ret true rm P (mset M p e) L kc ks pc (.ref p :: .ref q :: st) := by
  have hpq : q ≠ p := fun z => by have := hC.1; rw [z, hp] at this; cases this
  refine r_put hd hf (by rw [mset_ne _ _ hpq]; exact hC.1) hn hfit (by rw [List.length_map]; exact (List.getElem?_eq_some_iff.mp (uniq_at hu)).1) (K _ (hC.row hp hm hu hcs))
theorem c_joinF {M2 : MH} {p cp : Nat} {sq : List FS} {bs : List Nat} {ds : List va_E} {z0 : va_E} {ty : FieldType} (hd : Dk cc pc (.putfield idx) 3 pc1) (hf : FPF own idx ci k ty) (hC : CI M0 q ci sp as cs M) (hp : M p = none) (hB : CI (mset M p z0) p cp sq bs ds M2) (hn : narrow ty (.ref p) = .ref p) (hfit : fits ty (.ref p) = true) (hm : cs.length = m) (hu : uniq sp m k = true) (hg : gaps sp m ds.length = true) (hcs : cs ++ (.inr (cp, sq.map (fldv bs))) :: ds = cs') (K : ∀ (M' : MH), CI M0 q ci sp (as ++ p :: bs) cs' M' → G E X own cc nl ret true rm P M' L kc ks pc1 st) : G E X own cc nl ret true rm P M2 L kc ks pc (.ref p :: .ref q :: st) := by
  have hpq : q ≠ p := fun z => by have := hC.1; rw [z, hp] at this; cases this
  have hq2 : M2 q = M q := by
    rw [hB.old (by rw [mset_ne _ _ hpq, hC.1]; exact Option.some_ne_none _) hpq, mset_ne _ _ hpq]
  refine r_putF hd hf rfl (by rw [hq2]; exact hC.1) hn hfit (by rw [List.length_map]; exact (List.getElem?_eq_some_iff.mp (uniq_at hu)).1) (K _ (hC.join hp hB hm hu hg hcs))
end CT
theorem CI.lst {E : EN} {M M' : MH} {a : Nat} (h1 : M' a = some (lo 0 (eT E 2) 0)) (h2 : ∀ x, x ≠ a → M' x = M x) : CI M a 13 [.inr (.int 0), .inr (.ref (eT E 2)), .inr (.int 0)] [] [] M' :=
  ⟨h1, rfl, List.nodup_nil, fun k a h => by simp at h, fun x hx _ => h2 x hx⟩
