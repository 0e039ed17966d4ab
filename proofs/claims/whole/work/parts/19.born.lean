/-! a new object of a list's group -/
def ing (Li c : Nat) : Bool := match ctab c with
  | some t => t.2.2.1 == Li
  | none => false
theorem ing_of {Li c : Nat} {t : TB} (h : ctab c = some t) (e : t.2.2.1 = Li) : ing Li c = true := by
  unfold ing; rw [h]; simp [e]
theorem ing_no {Li c : Nat} {t : TB} (h : ctab c = some t) (e : t.2.2.1 ≠ Li) : ¬ ing Li c = true := by
  unfold ing; rw [h]; simp [e]
theorem ing_tab {Li c : Nat} (h : ing Li c = true) : ∃ t : TB, ctab c = some t ∧ t.2.2.1 = Li := by
  unfold ing at h
  cases hc : ctab c with
  | none => rw [hc] at h; cases h
  | some t => rw [hc] at h; exact ⟨t, rfl, by simpa using h⟩
def adN (ad : AD) (Li n row : Nat) (na : Nat → Nat) : AD := fun c i => if c = Li ∧ i = 1 then row else if ing Li c = true ∧ i = n then na c else ad c i
def lnv (a : Nat) : Nat := if a < 1000000 then 0 else a - 1000000
/-- gv: the variables of the group of Li, and of nothing else -/
def okG (Li : Nat) (gv : List Nat) : Bool := tabL.all (fun r => !(gv.contains r.2.2.2.1) && !(r.1 == Li) && !(lnv r.2.2.1 == Li) && r.2.2.2.2.all (fun d => !((d.1 == 0 || d.1 == 3) && d.2.1 == Li) && !(d.1 == 1 && d.2.1 == Li) && !(d.1 == 3 && d.2.2 == Li) && !(d.1 == 2 && ing Li d.2.1)) && (r.2.2.2.1 == Li || (!(gv.contains r.1 && !(r.2.1 == 0)) && !(gv.contains (lnv r.2.2.1)) && r.2.2.2.2.all (fun d => !((d.1 == 0 || d.1 == 3) && gv.contains d.2.1) && !(d.1 == 1 && ing Li d.2.1))))) && listL.all (fun q => !(gv.contains q.1) && (q.1 == Li || !(ing Li q.2)))
def QR (V : St) : Prop := (¬ V 1506 0 0 < 0 → (V 1506 0 0).toNatClampNeg < cntV V 2105) ∧ ∀ i, i < cntV V 2105 → ¬ V 2003 i 0 < 0 → (V 2003 i 0).toNatClampNeg < cntV V 2103
def qOK : Bool := tabL.all (fun r => r.2.2.2.2.all (fun d => !(d.1 == 3) || (r.1 == 1500 && d == (3, 1506, 2000)) || (r.1 == 1900 && d == (3, 1908, 2113)) || (r.1 == 2000 && d == (3, 2003, 1000))))
theorem q_ok : qOK = true := by decide +kernel
theorem ing_cnt {V : St} {Li c : Nat} {t : TB} (h : ctab c = some t) (hi : ing Li c = true) : cntV V t.2.2.1 = cntV V Li := by
  obtain ⟨t', h1, h2⟩ := ing_tab hi
  rw [h] at h1; cases h1; rw [h2]
theorem QR.use {V : St} (hQ : QR V) {Li c i : Nat} {t : TB} {d : Nat × Nat × Nat} (hc : ctab c = some t) (hi : i < cntV V t.2.2.1) (hd : d ∈ t.2.2.2) (h3 : d.1 = 3) (hL : 1000 ≤ Li) (hg : ing Li d.2.2 = true) (hp : ¬ V d.2.1 i 0 < 0) : (V d.2.1 i 0).toNatClampNeg < cntV V Li := by
  have h1 := List.all_eq_true.mp (List.all_eq_true.mp q_ok (c, t) (ctab_mem hc)) d hd
  simp only [h3, Bool.or_eq_true, Bool.and_eq_true, beq_iff_eq, Bool.not_eq_true', beq_self_eq_true, Bool.false_eq_true, false_or, Bool.not_true] at h1
  rcases h1 with (⟨rfl, rfl⟩ | ⟨rfl, rfl⟩) | ⟨rfl, rfl⟩
  · have e : t = (0, 5, 1, [(1, 1501, 0), (1, 1502, 0), (1, 1503, 0), (1, 1504, 0), (0, 1505, 0), (3, 1506, 2000), (0, 1507, 0), (0, 1508, 0)]) := Option.some.inj (hc.symm.trans ct_1500)
    subst e
    have hi0 : i = 0 := by have : i < 1 := hi; omega
    subst hi0
    rw [← ing_cnt ct_2000 hg]
    exact hQ.1 hp
  · have := ing_cnt (V := fun _ _ _ => 0) ct_2113 hg
    unfold cntV at this
    rw [if_pos (show 2 < 1000 by omega), if_neg (by omega)] at this
    exact absurd this (show ¬ (2 : Nat) = (0 : Int32).toNatClampNeg by decide)
  · have e := Option.some.inj (hc.symm.trans ct_2000)
    subst e
    rw [← ing_cnt ct_1000 hg]
    exact hQ.2 i hi hp
def Born (E : EN) (ad : AD) (V : St) (Li n : Nat) (gv : List Nat) (F : Nat → Nat → Int32) (M0 M2 : MH) (na : Nat → Nat) : Prop :=
  (∀ (row c : Nat) (t : TB), ctab c = some t → t.2.2.1 = Li → M0 (na c) = none ∧ M2 (na c) = some (cellOf E (adN ad Li n row na) (mkV V Li n gv F) c n t)) ∧ (∀ c c', ing Li c = true → ing Li c' = true → na c = na c' → c = c') ∧ ∀ x, M0 x ≠ none → M2 x = M0 x
theorem okG_tab {Li : Nat} {gv : List Nat} (h : okG Li gv = true) {c : Nat} {t : TB} (hc : ctab c = some t) : t.2.2.1 ∉ gv ∧ c ≠ Li ∧ lnv t.2.1 ≠ Li ∧ (∀ d ∈ t.2.2.2, ((d.1 = 0 ∨ d.1 = 3) → d.2.1 ≠ Li) ∧ (d.1 = 1 → d.2.1 ≠ Li) ∧ (d.1 = 3 → d.2.2 ≠ Li) ∧ (d.1 = 2 → ¬ ing Li d.2.1 = true)) ∧ (t.2.2.1 = Li ∨ ((c ∈ gv → t.1 = 0) ∧ lnv t.2.1 ∉ gv ∧ ∀ d ∈ t.2.2.2, ((d.1 = 0 ∨ d.1 = 3) → d.2.1 ∉ gv) ∧ (d.1 = 1 → ¬ ing Li d.2.1 = true))) := by
  unfold okG at h
  rw [Bool.and_eq_true] at h
  have h1 := List.all_eq_true.mp h.1 (c, t) (ctab_mem hc)
  simp only [Bool.and_eq_true, Bool.or_eq_true, List.all_eq_true] at h1
  obtain ⟨⟨⟨⟨a1, a2⟩, a3⟩, a4⟩, a5⟩ := h1
  refine ⟨by simpa using a1, by simpa using a2, by simpa using a3, fun d hd => ?_, ?_⟩
  · obtain ⟨⟨⟨b1, b2⟩, b3⟩, b4⟩ := a4 d hd
    refine ⟨fun z => ?_, fun z => ?_, fun z => ?_, fun z => ?_⟩
    · rcases z with z | z <;> simpa [z] using b1
    · simpa [z] using b2
    · simpa [z] using b3
    · simpa [z] using b4
  · rcases a5 with a5 | ⟨⟨b1, b2⟩, b3⟩
    · exact Or.inl (by simpa using a5)
    · refine Or.inr ⟨fun z => ?_, by simpa using b2, fun d hd => ?_⟩
      · simpa [z] using b1
      · obtain ⟨z1, z2⟩ := b3 d hd
        refine ⟨fun z => ?_, fun z => ?_⟩
        · rcases z with z | z <;> simpa [z] using z1
        · simpa [z] using z2
theorem okG_list {Li : Nat} {gv : List Nat} (h : okG Li gv = true) {Lj g : Nat} (hL : (Lj, g) ∈ listL) : Lj ∉ gv ∧ (Lj = Li ∨ ¬ ing Li g = true) := by
  unfold okG at h
  rw [Bool.and_eq_true] at h
  have h1 := List.all_eq_true.mp h.2 (Lj, g) hL
  simp only [Bool.and_eq_true, Bool.or_eq_true] at h1
  exact ⟨by simpa using h1.1, by
    rcases h1.2 with z | z
    · exact Or.inl (by simpa using z)
    · exact Or.inr (by simpa using z)⟩
theorem listL_fun : ∀ p ∈ listL, ∀ q ∈ listL, p.1 = q.1 → p.2 = q.2 := by decide +kernel
theorem listL_grp : ∀ p ∈ listL, ing p.1 p.2 = true := by decide +kernel
theorem mkV_old {V : St} {Li n v i j : Nat} {gv : List Nat} {F : Nat → Nat → Int32} (h1 : v ≠ Li) (h2 : v ∉ gv ∨ i ≠ n) : mkV V Li n gv F v i j = V v i j := by
  unfold mkV
  rw [if_neg (fun z => h1 z.1), if_neg (fun z => ?_)]
  rcases h2 with h | h
  · exact h z.1
  · exact h z.2
theorem mkV_cntB {V : St} {Li n : Nat} {gv : List Nat} {F : Nat → Nat → Int32} {b : Nat} (h1 : b ≠ Li) (h2 : b ∉ gv) : cntV (mkV V Li n gv F) b = cntV V b := by
  unfold cntV; rw [mkV_old h1 (Or.inl h2)]
theorem mkV_Li {V : St} {Li n : Nat} {gv : List Nat} {F : Nat → Nat → Int32} : mkV V Li n gv F Li 0 0 = nI (n + 1) := if_pos ⟨rfl, rfl, rfl⟩
theorem mkV_cntLi {V : St} {Li n : Nat} {gv : List Nat} {F : Nat → Nat → Int32} (hb : 1000 ≤ Li) (hn : n ≤ 1000) : cntV (mkV V Li n gv F) Li = n + 1 := by
  unfold cntV; rw [if_neg (by omega), mkV_Li, nI_clamp (by omega)]
theorem mkV_len {V : St} {Li n : Nat} {gv : List Nat} {F : Nat → Nat → Int32} {a i : Nat} (h1 : lnv a ≠ Li) (h2 : lnv a ∉ gv ∨ i ≠ n) : lenV (mkV V Li n gv F) a i = lenV V a i := by
  unfold lenV lnv at *
  by_cases h : a < 1000000
  · rw [if_pos h, if_pos h]
  · rw [if_neg h] at h1 h2
    rw [if_neg h, if_neg h, mkV_old h1 h2]
theorem adN_old {ad : AD} {Li n row c i : Nat} {na : Nat → Nat} (h1 : ¬ (c = Li ∧ i = 1)) (h2 : ¬ ing Li c = true ∨ i ≠ n) : adN ad Li n row na c i = ad c i := by
  unfold adN
  rw [if_neg h1, if_neg (fun z => ?_)]
  rcases h2 with h | h
  · exact h z.1
  · exact h z.2
theorem fv_born {ad : AD} {V : St} {Li n row i : Nat} {gv : List Nat} {F : Nat → Nat → Int32} {na : Nat → Nat} {c : Nat} {t : TB} (hO : okG Li gv = true) (hL : 1000 ≤ Li) (hn : cntV V Li = n) (hQ : QR V) (hc : ctab c = some t) (hi : i < cntV V t.2.2.1) {d : Nat × Nat × Nat} (hd : d ∈ t.2.2.2) : fv (adN ad Li n row na) (mkV V Li n gv F) i d = fv ad V i d := by
  obtain ⟨o1, o2, o3, o4, o5⟩ := okG_tab hO hc
  obtain ⟨p1, p2, p3, p4⟩ := o4 d hd
  have hin : t.2.2.1 = Li → i ≠ n := fun e => by rw [e, hn] at hi; omega
  have hv : (d.1 = 0 ∨ d.1 = 3) → mkV V Li n gv F d.2.1 i 0 = V d.2.1 i 0 := fun z => by
    refine mkV_old (p1 z) ?_
    rcases o5 with e | ⟨-, -, w⟩
    · exact Or.inr (hin e)
    · exact Or.inl ((w d hd).1 z)
  unfold fv
  by_cases h0 : d.1 = 0
  · rw [if_pos h0, if_pos h0, hv (Or.inl h0)]
  · rw [if_neg h0, if_neg h0]
    by_cases h1 : d.1 = 1
    · rw [if_pos h1, if_pos h1, adN_old (fun z => p2 h1 z.1)]
      rcases o5 with e | ⟨-, -, w⟩
      · exact Or.inr (hin e)
      · exact Or.inl ((w d hd).2 h1)
    · rw [if_neg h1, if_neg h1]
      by_cases h2 : d.1 = 2
      · rw [if_pos h2, if_pos h2, adN_old (fun z => by omega) (Or.inl (p4 h2))]
      · have h3 : d.1 = 3 := by have := tag_le hc hd; omega
        rw [if_neg h2, if_neg h2, hv (Or.inr h3)]
        by_cases hp : V d.2.1 i 0 < 0
        · rw [if_pos hp, if_pos hp]
        · rw [if_neg hp, if_neg hp, adN_old (fun z => p3 h3 z.1)]
          by_cases hg : ing Li d.2.2 = true
          · have := hQ.use hc hi hd h3 hL hg hp
            exact Or.inr (by omega)
          · exact Or.inl hg
theorem cell_born {E : EN} {ad : AD} {V : St} {Li n row i : Nat} {gv : List Nat} {F : Nat → Nat → Int32} {na : Nat → Nat} {c : Nat} {t : TB} (hO : okG Li gv = true) (hL : 1000 ≤ Li) (hn : cntV V Li = n) (hQ : QR V) (hc : ctab c = some t) (hi : i < cntV V t.2.2.1) : cellOf E (adN ad Li n row na) (mkV V Li n gv F) c i t = cellOf E ad V c i t := by
  obtain ⟨o1, o2, o3, o4, o5⟩ := okG_tab hO hc
  have hin : t.2.2.1 = Li → i ≠ n := fun e => by rw [e, hn] at hi; omega
  unfold cellOf
  by_cases h0 : t.1 = 0
  · rw [if_pos h0, if_pos h0, List.map_congr_left (fun d hd => fv_born hO hL hn hQ hc hi hd)]
  · have e1 : lenV (mkV V Li n gv F) t.2.1 i = lenV V t.2.1 i := mkV_len o3 (by
      rcases o5 with e | ⟨-, w, -⟩
      · exact Or.inr (hin e)
      · exact Or.inl w)
    have e2 : mkV V Li n gv F c i = V c i := funext fun j => mkV_old o2 (by
      rcases o5 with e | ⟨w, -, -⟩
      · exact Or.inr (hin e)
      · exact Or.inl (fun z => h0 (w z)))
    rw [if_neg h0, if_neg h0, e1, e2]
theorem Rep.born {E : EN} {ad : AD} {V : St} {Li g n d : Nat} {gv : List Nat} {F : Nat → Nat → Int32} {M0 M2 M3 : MH} {na : Nat → Nat} {mc : Int32} {f : Nat → Option Nat} (hR : Rep E ad V M0) (hL : (Li, g) ∈ listL) (hO : okG Li gv = true) (hn : V Li 0 0 = nI n) (hn2 : n ≤ 1000) (hQ : QR V) (hB : Born E ad V Li n gv F M0 M2 na) (hA : Added E M2 (ad Li 0) mc d n f (na g) M3) (hd : 1 ≤ n → d = ad Li 1) (hf : ∀ j, j < n → f j = some (ad g j)) : ∃ row, Rep E (adN ad Li n row na) (mkV V Li n gv F) M3 := by
  obtain ⟨row, cap, f', a1, a2, a3, a4, a5, a6, a7, a8, a9⟩ := hA
  obtain ⟨b1, b2, b3⟩ := hB
  have hbig : 1000 ≤ Li := list_big _ hL
  have hcnt : cntV V Li = n := by unfold cntV; rw [if_neg (by omega), hn, nI_clamp (by omega)]
  have hlno : ∀ {Lj gj : Nat}, (Lj, gj) ∈ listL → ¬ ing Li Lj = true := fun {Lj gj} h z => by
    obtain ⟨t, h1, -⟩ := ing_tab z
    have := list_notab _ h
    rw [show (Lj, gj).1 = Lj from rfl, h1] at this
    cases this
  have hV0 : ¬ V Li 0 0 = 0 ↔ 1 ≤ n := by
    rw [hn]
    constructor
    · intro z
      rcases Nat.eq_zero_or_pos n with e | e
      · exact absurd (by rw [e]; rfl) z
      · exact e
    · intro z e
      have := congrArg Int32.toNatClampNeg e
      rw [nI_clamp (by omega)] at this
      have e0 : (0 : Int32).toNatClampNeg = 0 := by decide
      omega
  -- old places hold something
  have hold : ∀ {c i : Nat}, dom V c i → M0 (ad c i) ≠ none := by
    rintro c i (⟨t, h1, h2⟩ | ⟨⟨gj, h1⟩, h2⟩)
    · rw [hR.1 c t i h1 h2]; exact Option.some_ne_none _
    · obtain ⟨-, mc', d', q1, q2⟩ := hR.2.2 c gj h1
      rcases h2 with rfl | ⟨rfl, h2⟩
      · rw [q1]; exact Option.some_ne_none _
      · rcases q2 with ⟨-, q2⟩ | ⟨-, rfl, cap', f'', q3, -⟩
        · exact absurd q2 h2
        · rw [q3]; exact Option.some_ne_none _
  have hdl : dom V Li 0 := Or.inr ⟨⟨g, hL⟩, Or.inl rfl⟩
  have hdl1 : 1 ≤ n → dom V Li 1 := fun z => Or.inr ⟨⟨g, hL⟩, Or.inr ⟨rfl, hV0.mpr z⟩⟩
  -- row against old places other than the list's own row
  have hrow : ∀ {c i : Nat}, dom V c i → ¬ (c = Li ∧ i = 1) → ad c i ≠ row := by
    intro c i hdm hne e
    rcases a8 with ⟨r1, r2⟩ | r1
    · rw [r1, hd r2] at e
      exact hne (hR.2.1 c Li i 1 hdm (hdl1 r2) e)
    · have h1 := hold hdm
      rw [e] at h1
      exact h1 (by rw [← b3 row h1]; exact r1)
  have hfr : ∀ {c i : Nat}, dom V c i → ¬ (c = Li ∧ i = 1) → ¬ (c = Li ∧ i = 0) → M3 (ad c i) = M0 (ad c i) := by
    intro c i hdm h1 h2
    rw [a9 _ (fun e => h2 (hR.2.1 c Li i 0 hdm hdl e)) (hrow hdm h1)]
    exact b3 _ (hold hdm)
  have hna : ∀ {c : Nat}, ing Li c = true → M0 (na c) = none ∧ M2 (na c) ≠ none := by
    intro c hc
    obtain ⟨t, h1, h2⟩ := ing_tab hc
    obtain ⟨z1, z2⟩ := b1 0 c t h1 h2
    exact ⟨z1, by rw [z2]; exact Option.some_ne_none _⟩
  have hnl : ∀ {c i : Nat}, dom V c i → ∀ {c' : Nat}, ing Li c' = true → ad c i ≠ na c' := fun h c' h' e => hold h (by rw [e]; exact (hna h').1)
  have hnr : ∀ {c : Nat}, ing Li c = true → na c ≠ row := by
    intro c hc e
    rcases a8 with ⟨r1, r2⟩ | r1
    · rw [r1, hd r2] at e
      exact hnl (hdl1 r2) hc e.symm
    · exact (hna hc).2 (by rw [e]; exact r1)
  have tri : ∀ {c i : Nat}, dom (mkV V Li n gv F) c i → (dom V c i ∧ ¬ (c = Li ∧ i = 1) ∧ adN ad Li n row na c i = ad c i) ∨ (ing Li c = true ∧ i = n ∧ adN ad Li n row na c i = na c) ∨ (c = Li ∧ i = 1 ∧ adN ad Li n row na c i = row) := by
    rintro c i (⟨t, h1, h2⟩ | ⟨⟨gj, h1⟩, h2⟩)
    · obtain ⟨o1, o2, -⟩ := okG_tab hO h1
      by_cases hg : t.2.2.1 = Li
      · rw [hg, mkV_cntLi hbig hn2] at h2
        by_cases hin : i = n
        · refine Or.inr (Or.inl ⟨ing_of h1 hg, hin, ?_⟩)
          unfold adN
          rw [if_neg (fun z => o2 z.1), if_pos ⟨ing_of h1 hg, hin⟩]
        · exact Or.inl ⟨Or.inl ⟨t, h1, by rw [hg, hcnt]; omega⟩, fun z => o2 z.1, adN_old (fun z => o2 z.1) (Or.inr hin)⟩
      · rw [mkV_cntB hg o1] at h2
        exact Or.inl ⟨Or.inl ⟨t, h1, h2⟩, fun z => o2 z.1, adN_old (fun z => o2 z.1) (Or.inl (ing_no h1 hg))⟩
    · by_cases e : c = Li ∧ i = 1
      · exact Or.inr (Or.inr ⟨e.1, e.2, by unfold adN; rw [if_pos e]⟩)
      · refine Or.inl ⟨Or.inr ⟨⟨gj, h1⟩, ?_⟩, e, adN_old e (Or.inl (hlno h1))⟩
        rcases h2 with h2 | ⟨h2, h3⟩
        · exact Or.inl h2
        · refine Or.inr ⟨h2, ?_⟩
          rwa [mkV_old (fun z => e ⟨z, h2⟩) (Or.inl (okG_list hO h1).1)] at h3
  refine ⟨row, fun c t i hc hi => ?_, fun c c' i i' h1 h2 h3 => ?_, fun Lj gj hLj => ?_⟩
  · obtain ⟨o1, o2, -⟩ := okG_tab hO hc
    rcases tri (Or.inl ⟨t, hc, hi⟩) with ⟨z1, z2, z3⟩ | ⟨z1, z2, z3⟩ | ⟨z1, -⟩
    · have hi' : i < cntV V t.2.2.1 := by
        rcases z1 with ⟨t', y1, y2⟩ | ⟨⟨gj, y1⟩, -⟩
        · rw [hc] at y1; cases y1; exact y2
        · have := list_notab _ y1
          rw [show (c, gj).1 = c from rfl, hc] at this
          cases this
      rw [z3, hfr z1 z2 (fun z => o2 z.1), hR.1 c t i hc hi', cell_born hO hbig hcnt hQ hc hi']
    · obtain ⟨t', y1, y2⟩ := ing_tab z1
      rw [hc] at y1; cases y1
      rw [z3, a9 _ (fun e => hnl hdl z1 e.symm) (hnr z1), z2]
      exact (b1 row c t hc y2).2
    · exact absurd z1 o2
  · rcases tri h1 with ⟨x1, x2, x3⟩ | ⟨x1, x2, x3⟩ | ⟨x1, x2, x3⟩ <;> rcases tri h2 with ⟨y1, y2, y3⟩ | ⟨y1, y2, y3⟩ | ⟨y1, y2, y3⟩ <;> rw [x3, y3] at h3
    · exact hR.2.1 c c' i i' x1 y1 h3
    · exact absurd h3 (hnl x1 y1)
    · exact absurd h3 (hrow x1 x2)
    · exact absurd h3.symm (hnl y1 x1)
    · exact ⟨b2 c c' x1 y1 h3, by rw [x2, y2]⟩
    · exact absurd h3 (hnr x1)
    · exact absurd h3.symm (hrow y1 y2)
    · exact absurd h3.symm (hnr y1)
    · exact ⟨by rw [x1, y1], by rw [x2, y2]⟩
  · by_cases e : Lj = Li
    · subst e
      have eg : gj = g := listL_fun _ hLj _ hL rfl
      subst eg
      have hgi := listL_grp _ hL
      refine ⟨?_, mc, row, ?_, Or.inr ⟨?_, ?_, cap, f', a2, ?_, a4, fun j hj => ?_⟩⟩
      · rw [mkV_Li]; exact nI_pos (by omega)
      · rw [mkV_Li, adN_old (fun z => by omega) (Or.inl (hlno hL))]; exact a1
      · rw [mkV_Li]; intro z
        have := congrArg Int32.toNatClampNeg z
        rw [nI_clamp (by omega)] at this
        have e0 : (0 : Int32).toNatClampNeg = 0 := by decide
        omega
      · unfold adN; rw [if_pos ⟨rfl, rfl⟩]
      · rw [mkV_Li, nI_clamp (by omega)]; exact a3
      · rw [mkV_Li, nI_clamp (by omega)] at hj
        obtain ⟨tg, tg1, -⟩ := ing_tab hgi
        have hgl : gj ≠ Lj := (okG_tab hO tg1).2.1
        by_cases hjn : j = n
        · rw [hjn, a6]
          unfold adN
          rw [if_neg (fun z => hgl z.1), if_pos ⟨hgi, rfl⟩]
        · rw [a5 j (by omega), hf j (by omega), adN_old (fun z => hgl z.1) (Or.inr hjn)]
    · obtain ⟨l1, l2⟩ := okG_list hO hLj
      obtain ⟨q0, mc', d', q1, q2⟩ := hR.2.2 Lj gj hLj
      have ev : mkV V Li n gv F Lj 0 0 = V Lj 0 0 := mkV_old e (Or.inl l1)
      have ea : ∀ i, adN ad Li n row na Lj i = ad Lj i := fun i => adN_old (fun z => e z.1) (Or.inl (hlno hLj))
      have hd0 : dom V Lj 0 := Or.inr ⟨⟨gj, hLj⟩, Or.inl rfl⟩
      unfold lrep
      rw [ev, ea, ea]
      refine ⟨q0, mc', d', by rw [hfr hd0 (fun z => e z.1) (fun z => e z.1)]; exact q1, ?_⟩
      rcases q2 with q2 | ⟨q2, rfl, cap', f'', q3, q4, q5, q6⟩
      · exact Or.inl q2
      · have hd1 : dom V Lj 1 := Or.inr ⟨⟨gj, hLj⟩, Or.inr ⟨rfl, q2⟩⟩
        refine Or.inr ⟨q2, rfl, cap', f'', by rw [hfr hd1 (fun z => e z.1) (fun z => e z.1)]; exact q3, q4, q5, fun j hj => ?_⟩
        obtain ⟨tg, tg1, -⟩ := ing_tab (listL_grp _ hLj)
        have hgl : gj ≠ Li := (okG_tab hO tg1).2.1
        rw [q6 j hj, adN_old (fun z => hgl z.1) (Or.inl (l2.resolve_left e))]
