/-! from a constructor's rows to a new object of a group; init, add, pop in one step -/
theorem nIx_of {x : Int32} (h : ¬ x < 0) : x = nI x.toNatClampNeg := by
  apply Int32.toInt_inj.mp
  have hlt : x.toInt < 2147483648 := Int32.toInt_lt x
  have h1 := nn_toInt h
  have h2 : x.toNatClampNeg < 2147483648 := by omega
  rw [h1, nn_toInt (nI_pos h2), nI_clamp h2]
def naL (gc AS : List Nat) (c : Nat) : Nat := AS.getD (gc.idxOf c) 0
theorem naL_at {gc AS : List Nat} {k c : Nat} (hc : gc.idxOf c = k) {a : Nat} (ha : AS[k]? = some a) : naL gc AS c = a := by
  unfold naL
  rw [hc, List.getD_eq_getElem?_getD, ha]
  rfl
theorem naL_inj {gc AS : List Nat} {c c' : Nat} (hl : gc.length = AS.length) (hn : AS.Nodup) (h1 : c ∈ gc) (h2 : c' ∈ gc) (h : naL gc AS c = naL gc AS c') : c = c' := by
  have l1 := List.idxOf_lt_length_of_mem h1
  have l2 := List.idxOf_lt_length_of_mem h2
  have e1 : naL gc AS c = AS[gc.idxOf c]'(by omega) := by unfold naL; rw [List.getD_eq_getElem?_getD, List.getElem?_eq_getElem (by omega)]; rfl
  have e2 : naL gc AS c' = AS[gc.idxOf c']'(by omega) := by unfold naL; rw [List.getD_eq_getElem?_getD, List.getElem?_eq_getElem (by omega)]; rfl
  rw [e1, e2] at h
  have e3 : gc.idxOf c = gc.idxOf c' := (List.getElem_inj hn).mp h
  have f1 : gc[gc.idxOf c] = c := List.getElem_idxOf l1
  have f2 : gc[gc.idxOf c'] = c' := List.getElem_idxOf l2
  rw [← f1, ← f2]
  congr 1
def grpIn (Li : Nat) (gc : List Nat) : Bool := tabL.all (fun r => !(r.2.2.2.1 == Li) || gc.contains r.1) && gc.all (fun c => ing Li c)
theorem grpIn_of {Li c : Nat} {gc : List Nat} {t : TB} (h : grpIn Li gc = true) (hc : ctab c = some t) (hL : t.2.2.1 = Li) : c ∈ gc := by
  unfold grpIn at h
  rw [Bool.and_eq_true] at h
  have := List.all_eq_true.mp h.1 (c, t) (ctab_mem hc)
  simpa [hL] using this
theorem Born.ofCI {E : EN} {ad : AD} {V : St} {Li n g q ci : Nat} {gv gc : List Nat} {F : Nat → Nat → Int32} {M0 M2 : MH} {sp : List FS} {as : List Nat} {cs : List va_E} {z0 : va_E} (hq : M0 q = none) (hC : CI (mset M0 q z0) q ci sp as cs M2) (hl : gc.length = cs.length + 1) (hg : gc[0]? = some g) (hG : grpIn Li gc = true)
    (hcell : ∀ (row k c : Nat) (t : TB), gc[k]? = some c → ctab c = some t → ((.inr (ci, sp.map (fldv as))) :: cs)[k]? = some (cellOf E (adN ad Li n row (naL gc (q :: as))) (mkV V Li n gv F) c n t)) : Born E ad V Li n gv F M0 M2 (naL gc (q :: as)) := by
  obtain ⟨a1, a2, a3, a4, a5⟩ := hC
  have hqa : q ∉ as := fun z => by
    obtain ⟨j, hj⟩ := List.getElem?_of_mem z
    exact (a4 j q hj).2.1 rfl
  have hnd : (q :: as).Nodup := List.nodup_cons.mpr ⟨hqa, a3⟩
  have hlen : gc.length = (q :: as).length := by rw [hl, List.length_cons, a2]
  have hat : ∀ (k a : Nat), (q :: as)[k]? = some a → M0 a = none ∧ M2 a = ((.inr (ci, sp.map (fldv as))) :: cs)[k]? := by
    intro k a hk
    cases k with
    | zero =>
      rw [List.getElem?_cons_zero] at hk
      cases hk
      exact ⟨hq, a1⟩
    | succ k =>
      rw [List.getElem?_cons_succ] at hk
      obtain ⟨z1, z2, z3⟩ := a4 k a hk
      exact ⟨by rw [mset_ne _ _ z2] at z1; exact z1, by rw [List.getElem?_cons_succ]; exact z3⟩
  refine ⟨fun row c t hc hL => ?_, fun c c' h1 h2 h3 => ?_, fun x hx => ?_⟩
  · have hm := grpIn_of hG hc hL
    have hk := List.idxOf_lt_length_of_mem hm
    have hgk : gc[gc.idxOf c]? = some c := by rw [List.getElem?_eq_getElem hk, List.getElem_idxOf hk]
    have hAS : (q :: as)[gc.idxOf c]? = some ((q :: as)[gc.idxOf c]'(by omega)) := List.getElem?_eq_getElem (by omega)
    obtain ⟨z1, z2⟩ := hat _ _ hAS
    rw [naL_at rfl hAS]
    exact ⟨z1, by rw [z2]; exact hcell row _ c t hgk hc⟩
  · obtain ⟨t, y1, y2⟩ := ing_tab h1
    obtain ⟨t', y3, y4⟩ := ing_tab h2
    exact naL_inj hlen hnd (grpIn_of hG y1 y2) (grpIn_of hG y3 y4) h3
  · have hxq : x ≠ q := fun e => hx (by rw [e]; exact hq)
    have hxa : x ∉ as := fun z => by
      obtain ⟨j, hj⟩ := List.getElem?_of_mem z
      obtain ⟨z1, z2, -⟩ := a4 j x hj
      rw [mset_ne _ _ z2] at z1
      exact hx z1
    rw [a5 x hxq hxa, mset_ne _ _ hxq]
theorem mkV_new {V : St} {Li n v j : Nat} {gv : List Nat} {F : Nat → Nat → Int32} (h1 : v ≠ Li) (h2 : v ∈ gv) : mkV V Li n gv F v n j = F v j := by
  unfold mkV
  rw [if_neg (fun z => h1 z.1), if_pos ⟨h2, rfl⟩]
theorem mkV_newF {V : St} {Li n v : Nat} {gv : List Nat} {F : Nat → Nat → Int32} (h1 : v ≠ Li) (h2 : v ∈ gv) : mkV V Li n gv F v n = F v := funext fun _ => mkV_new h1 h2
theorem adN_new {ad : AD} {Li n row c : Nat} {na : Nat → Nat} (h1 : c ≠ Li) (h2 : ing Li c = true) : adN ad Li n row na c n = na c := by
  unfold adN
  rw [if_neg (fun z => h1 z.1), if_pos ⟨h2, rfl⟩]
theorem ln_s {l : List Nat} {k : Nat} (h : l.length = k + 1) : ∃ (a : Nat) (t : List Nat), l = a :: t ∧ t.length = k := by
  cases l with
  | nil => cases h
  | cons a t => exact ⟨a, t, rfl, Nat.succ.inj h⟩
theorem ln_0 {l : List Nat} (h : l.length = 0) : l = [] := List.eq_nil_of_length_eq_zero h
theorem list_cls : ∀ p ∈ listL, ∃ ci ds, ctab p.2 = some (0, ci, p.1, ds) ∧ ci < 14 := by
  intro p hp
  simp only [listL, List.mem_cons, List.not_mem_nil, or_false] at hp
  rcases hp with rfl | rfl | rfl | rfl | rfl | rfl | rfl | rfl | rfl | rfl
  · exact ⟨_, _, ct_1000, by decide⟩
  · exact ⟨_, _, ct_1200, by decide⟩
  · exact ⟨_, _, ct_2000, by decide⟩
  · exact ⟨_, _, ct_1600, by decide⟩
  · exact ⟨_, _, ct_1800, by decide⟩
  · exact ⟨_, _, ct_1100, by decide⟩
  · exact ⟨_, _, ct_1300, by decide⟩
  · exact ⟨_, _, ct_1330, by decide⟩
  · exact ⟨_, _, ct_1360, by decide⟩
  · exact ⟨_, _, ct_1700, by decide⟩
theorem cls_some {ci : Nat} (h : ci < 14) : ∃ r : vw_C, classes[ci]? = some r := by
  have : classes.length = 14 := rfl
  exact ⟨classes[ci]'(by omega), List.getElem?_eq_getElem (by omega)⟩
section MK
variable {E : EN} {X : CX} {own : String} {cc : ByteArray} {nl : Nat} {ret : Option FieldType} {ini : Bool} {P : Option Value → MH → Prop} {M0 : MH} {L : List (Option Value)} {kc ks pc pc1 pc2 pc3 : Nat} {ad : AD} {V : St}
theorem k_make {i1 i2 nlI nP q Li g d c s dI cI sI : Nat} {yI : MethodName} {cdI : ByteArray} {As : List Value} {z0 : va_E} {gv : List Nat} {F : Nat → Nat → Int32} {PI : MH → Prop}
    (hdI : Dk cc pc (.invokespecial i1) 3 pc1) (hdA : Dk cc pc1 (.invokevirtual i2) 3 pc2) (hdP : Dk cc pc2 .pop 1 pc3)
    (hwI : CIW own i1 yI cdI nlI nP) (hwA : CVW own i2 yJx4a65c_add_9ea2d.cls yJx4a65c_add_9ea2d cJx4a65c_add_9ea2d 2 (some .boolean) 1)
    (hR : Rep E ad V M0) (hL : (Li, g) ∈ listL) (hO : okG Li gv = true) (hn2 : (V Li 0 0).toNatClampNeg ≤ 1000) (hQ : QR V) (hq : M0 q = none)
    (hCt : Ct E (cxL X) yI cdI nlI none (rmA dI cI sI) (.ref q :: As) (mset M0 q z0) (fun v M' => v = none ∧ PI M'))
    (hB : ∀ M2, PI M2 → ∃ na, na g = q ∧ Born E ad V Li (V Li 0 0).toNatClampNeg gv F M0 M2 na)
    (hP : As.length = nP) (hnl : nlI ≤ 41) (hd : dI + 1 ≤ d ∧ 8 ≤ d) (hc : kc + cI + 1 ≤ c) (hs : ks + sI + 2000 ≤ s) (hcat : (As.map fun v => v.category).sum ≤ 8)
    (K : ∀ (ad' : AD) (M' : MH), (∀ c i, c ≠ Li → ¬ ing Li c = true → ad' c i = ad c i) → Rep E ad' (mkV V Li (V Li 0 0).toNatClampNeg gv F) M' → G E X own cc nl ret ini (rmA d c s) P M' L (kc + cI + 1) (ks + sI + 2000) pc3 []) :
    G E X own cc nl ret ini (rmA d c s) P (mset M0 q z0) L kc ks pc (As.reverse ++ [.ref q, .ref q, .ref (ad Li 0)]) := by
  obtain ⟨l0, mc, dd, l1, l2⟩ := id (hR.2.2 Li g hL)
  have hbig : 1000 ≤ Li := list_big _ hL
  have hVn := nIx_of l0
  have hcnt : cntV V Li = (V Li 0 0).toNatClampNeg := by unfold cntV; rw [if_neg (by omega)]
  refine r_callI (As := As) (rest := [.ref q, .ref (ad Li 0)]) hdI hwI hCt hP (fitA hd.1 hnl (by omega) (by omega)) rfl (by show 1 + (1 + 0) ≤ 8; omega) ?_
  rintro v M2 ⟨rfl, hPI⟩
  obtain ⟨na, hna, hBn⟩ := hB M2 hPI
  obtain ⟨ci, ds, hct, hci⟩ := list_cls _ hL
  obtain ⟨r, hr⟩ := cls_some hci
  have hq2 : M2 q = some (.inr (ci, ds.map (fv (adN ad Li (V Li 0 0).toNatClampNeg 0 na) (mkV V Li (V Li 0 0).toNatClampNeg gv F) (V Li 0 0).toNatClampNeg))) := by
    have := (hBn.1 0 g _ hct rfl).2
    rw [hna] at this
    exact this
  have hold : ∀ x, M0 x ≠ none → M2 x = M0 x := hBn.2.2
  have hM2a : M2 (ad Li 0) = some (lo mc dd (nI (V Li 0 0).toNatClampNeg)) := by
    rw [hold _ (by rw [l1]; exact Option.some_ne_none _), l1, ← hVn]
  have hadd : ∃ (cap : Nat) (f : Nat → Option Nat), ((dd = eT E 2 ∧ (V Li 0 0).toNatClampNeg = 0) ∨ (M2 dd = some (oarr E cap f) ∧ (V Li 0 0).toNatClampNeg ≤ cap ∧ cap ≤ 2000 ∧ 1 ≤ (V Li 0 0).toNatClampNeg ∧ Elem M2 (V Li 0 0).toNatClampNeg f)) ∧ (1 ≤ (V Li 0 0).toNatClampNeg → dd = ad Li 1) ∧ ∀ j, j < (V Li 0 0).toNatClampNeg → f j = some (ad g j) := by
    rcases l2 with ⟨e1, e2⟩ | ⟨e1, rfl, cap, f, e3, e4, e5, e6⟩
    · have e0 : (V Li 0 0).toNatClampNeg = 0 := by rw [e2]; decide
      exact ⟨0, fun _ => none, Or.inl ⟨e1, e0⟩, fun z => by omega, fun j hj => by omega⟩
    · have h1 : 1 ≤ (V Li 0 0).toNatClampNeg := by
        rcases Nat.eq_zero_or_pos (V Li 0 0).toNatClampNeg with z | z
        · rw [z] at hVn; exact absurd hVn e1
        · exact z
      refine ⟨cap, f, Or.inr ⟨by rw [hold _ (by rw [e3]; exact Option.some_ne_none _)]; exact e3, e4, e5, h1, fun i hi y hy => ?_⟩, fun _ => rfl, e6⟩
      rw [e6 i hi] at hy
      cases hy
      have := hR.1 g _ i hct (by show i < cntV V Li; omega)
      exact ⟨ci, _, r, by rw [hold _ (by rw [this]; exact Option.some_ne_none _)]; exact this, hr⟩
  obtain ⟨cap, f, hA, hdd, hf⟩ := hadd
  refine r_callV (As := [.ref q]) (rest := []) hdA hwA hM2a rfl (C_add (cxL X) hM2a hA hn2 hq2 hr) rfl (fitA hd.2 (by decide) hc hs) rfl (Nat.le_of_ble_eq_true rfl) ?_
  rintro v M3 ⟨rfl, hAd⟩
  refine r_pop (v := .int 1) (st := []) hdP rfl ?_
  rw [← hna] at hAd
  obtain ⟨row, hR3⟩ := hR.born hL hO hVn hn2 hQ hBn hAd hdd hf
  exact K _ M3 (fun c i h1 h2 => adN_old (fun z => h1 z.1) (Or.inl h2)) hR3
end MK
