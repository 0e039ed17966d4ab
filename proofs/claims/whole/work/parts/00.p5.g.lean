/-! number, why -/
def Ask (V : St) (nC nT nM nO : Nat) : Prop := I_cloth V nC ∧ I_thing V nC nT ∧ I_mak V nM ∧ I_ord V nO
theorem Ask.fr {V V' : St} {nC nT nM nO : Nat} {ws : List Nat} (h : Ask V nC nT nM nO) (hF : Fr ws V V') (h1 : vI_cloth.all (fun v => !ws.contains v) = true) (h2 : vI_thing.all (fun v => !ws.contains v) = true) (h3 : vI_mak.all (fun v => !ws.contains v) = true) (h4 : vI_ord.all (fun v => !ws.contains v) = true) : Ask V' nC nT nM nO := ⟨h.1.fr hF h1, h.2.1.fr hF h2, h.2.2.1.fr hF h3, h.2.2.2.fr hF h4⟩
theorem av_fr {ws : List Nat} {V V' : St} (hF : Fr ws V V') (hd : av.all (fun v => !ws.contains v) = true) : ∀ v, v ∈ av → V' v = V v := hF.all hd
theorem Inv.scr {k : Nat} {V V' : St} (hI : Inv k V) (hF : Fr [1402, 1403, 1404, 1405, 1406, 1407, 1408, 2270, 2271, 2272, 2273, 2274] V V') : Inv (k + 1) V' := by
  obtain ⟨nC, nD, nT, nM, nP, nK, nS, nR, nL, nO, hL, hmi, hta, hcl, hdr, hth, hla, hma, hor, hpe, hdo, hse, hru, hmk⟩ := hI
  exact ⟨nC, nD, nT, nM, nP, nK, nS, nR, nL, nO, by omega, hmi.fr hF rfl, hta.fr hF rfl, hcl.fr hF rfl, hdr.fr hF rfl, hth.fr hF rfl, hla.fr hF rfl, hma.fr hF rfl, hor.fr hF rfl, hpe.fr hF rfl, hdo.fr hF rfl, hse.fr hF rfl, hru.fr hF rfl, hmk.fr hF rfl⟩
theorem okT_m1 (n : Nat) : okT (-1) n := .inl rfl
theorem okT_nI {i n : Nat} (h : i < n) : okT (nI i) n := .inr ⟨i, h, rfl⟩
theorem askNow_eq {fu nC nT nM nO : Nat} {V : St} {L x m : Int32} (hfu : 1000 ≤ fu) (hA : Ask V nC nT nM nO) (hx : okT x nT) (hm : okT m nM) (hL : L ≠ 120) : ∃ V1, f_X11_askNow fu V L x m = some (lastV V (-1) (V 2101 0 0) (V 2101 0 0) nO L x m, V1) ∧ Fr scr V V1 := by
  obtain ⟨Va, e1, e2, e3⟩ := ask_cs (fu := fu) (wk := V 2101 0 0) (t := V 2101 0 0) (wo := -1) hfu hA.1 hA.2.1 hA.2.2.1 hA.2.2.2
  obtain ⟨Vb, g1, g2⟩ := e3 Va x m (.inr rfl) hx hm
  obtain ⟨V1, h1, h2⟩ := last_eq (fu := fu) hfu hA.2.2.2 hL g2
  refine ⟨V1, ?_, h2.1⟩
  simp only [f_X11_askNow, e1, bd_some, e2 2101 (by decide), g1, h1]
theorem orNothing_eq {fu nC nT nM nO : Nat} {V : St} {L wk t x m : Int32} (hfu : 1000 ≤ fu) (hA : Ask V nC nT nM nO) (hx : okT x nT) (hm : okT m nM) (hL : L ≠ 120) : ∃ V1, f_X12_orNothing fu V L x m wk t = some (if lastV V (V 2259 0 0) wk t nO L x m = -1 then 0 else lastV V (V 2259 0 0) wk t nO L x m, V1) ∧ Fr rsc V V1 := by
  obtain ⟨V1, e1, e2⟩ := numberBy_eq (fu := fu) (wk := wk) (t := t) hfu hA.1 hA.2.1 hA.2.2.1 hA.2.2.2 hx hm hL
  refine ⟨V1, ?_, e2⟩
  simp only [f_X12_orNothing, F_X12_orNothing_25, e1, bd_some]
  split <;> rfl
theorem max0 {V : St} {wo wk t x m L : Int32} {n : Nat} (hO : I_ord V n) : (if 0 < lastV V wo wk t n L x m then lastV V wo wk t n L x m else 0) = if lastV V wo wk t n L x m = -1 then 0 else lastV V wo wk t n L x m := by
  rcases lastV_ge (wo := wo) (wk := wk) (t := t) (x := x) (m := m) (L := L) hO with h | h
  · rw [h]; rfl
  · have h2 : ¬ lastV V wo wk t n L x m = -1 := by intro q; rw [q] at h; revert h; decide
    rw [if_neg h2]
    split
    · rfl
    · grind
theorem findThing_gen {fu : Nat} {V : St} {n : Nat} (x : Int32) (hn : V 2105 0 0 = nI n) (hm : n ≤ 1000) : ∃ r, f_X11_findThing fu V x = some (r, V) ∧ okT r n := by
  rcases ix_or x (show n < 2 ^ 31 by omega) with hv | ⟨i, hi, rfl⟩
  · exact ⟨-1, findThing_no hn hm hv, okT_m1 n⟩
  · exact ⟨nI i, findThing_ok hn hm hi, okT_nI hi⟩
theorem findMaker_gen {fu : Nat} {V : St} {n : Nat} (x : Int32) (hn : V 2106 0 0 = nI n) (hm : n ≤ 1000) : ∃ r, f_X11_findMaker fu V x = some (r, V) ∧ okT r n := by
  rcases ix_or x (show n < 2 ^ 31 by omega) with hv | ⟨i, hi, rfl⟩
  · exact ⟨-1, findMaker_no hn hm hv, okT_m1 n⟩
  · exact ⟨nI i, findMaker_ok hn hm hi, okT_nI hi⟩
theorem num_c {fu nC nT nM nO : Nat} {V : St} {L wk t x m : Int32} (hfu : 1000 ≤ fu) (hA : Ask V nC nT nM nO) (hx : okT x nT) (hm : okT m nM) (hL : L ≠ 120) : ∃ V1, F_X11_number_102 fu V wk t L x m 1 = some (if L = 109 ∨ L = 98 then (if lastV V (-1) wk t nO L x m = -1 then 0 else 1) else if L = 99 then lastV V (-1) wk t nO L x m else if lastV V (-1) wk t nO L x m = -1 then 0 else lastV V (-1) wk t nO L x m, V1) ∧ Fr scr V V1 := by
  obtain ⟨Va, e1, e2, e3⟩ := ask_cs (fu := fu) (wk := wk) (t := t) (wo := -1) hfu hA.1 hA.2.1 hA.2.2.1 hA.2.2.2
  obtain ⟨Vb, g1, g2⟩ := e3 Va x m (.inr rfl) hx hm
  obtain ⟨V1, h1, h2⟩ := last_eq (fu := fu) hfu hA.2.2.2 hL g2
  refine ⟨V1, ?_, h2.1⟩
  have hmx := max0 (wo := -1) (wk := wk) (t := t) (x := x) (m := m) (L := L) hA.2.2.2
  simp only [F_X11_number_102, F_X11_number_161, F_X11_number_172, F_X11_number_191, e1, bd_some, g1, h1, n10, if_false, hmx]
  by_cases c1 : L = 109
  · simp only [c1, true_or, if_true]; split <;> rfl
  · by_cases c2 : L = 98
    · subst c2; rw [if_neg (by decide), if_pos rfl, if_pos (Or.inr rfl)]; split <;> rfl
    · simp only [c1, c2, or_self, if_false]; split <;> rfl
theorem le25 : ((2 : Int32) ≤ 5) = True := by decide
theorem sAt6 (w : Nat) (h : w < 6) : sAt 6 (nI w) = ([112, 99, 103, 100, 109, 98] : List Int32).getD w 0 := by
  unfold sAt sB strByt; rw [nI_clamp (by omega)]; rfl
theorem num_key {fu k w i nC nD nT nM nP nK nS nR nL nO : Nat} {V : St} {m wk t mm : Int32} (hfu : 1000 ≤ fu) (hI' : Inv k V) (hwo : V 2259 0 0 = -1) (hA : Ask V nC nT nM nO) (hth : I_thing V nC nT) (hma : I_mak V nM) (hor : I_ord V nO) (hw : w < 6) (hw2 : ¬ w = 2) (hi : i < nT) (hmm : okT mm nM) (hc1 : f_X11_number fu V (nI w) (nI i) m wk t = F_X11_number_102 fu V wk t (sAt 6 (nI w)) (nI i) mm 1) (hc2 : ∀ U : St, U 2204 0 0 = nI nT → U 2232 0 0 = nI nM → f_X12_number fu U (nI w) (nI i) m wk t = F_X12_number_68 fu U (nI w) (nI i) mm wk t) : Step k (fun V => f_X11_number fu V (nI w) (nI i) m wk t) (fun V => f_X12_number fu V (nI w) (nI i) m wk t) V := by
  have hs := sAt6 w hw
  have hL : sAt 6 (nI w) ≠ 120 := by
    rw [hs]; rcases (show w = 0 ∨ w = 1 ∨ w = 3 ∨ w = 4 ∨ w = 5 by omega) with rfl | rfl | rfl | rfl | rfl <;> decide
  rcases (show w = 0 ∨ w = 1 ∨ w = 3 ∨ w = 4 ∨ w = 5 by omega) with rfl | rfl | rfl | rfl | rfl
  · have hs0 : sAt 6 (nI 0) = 112 := sAt6 0 (by omega)
    obtain ⟨V1, c1, c2⟩ := num_c (fu := fu) (L := 112) (wk := wk) (t := t) hfu hA (okT_nI hi) hmm (by decide)
    rw [if_neg (by decide), if_neg (by decide)] at c1
    have hA1 := hA.fr c2 (by decide) (by decide) (by decide) (by decide)
    have g1 : V1 2204 0 0 = nI nT := by rw [c2 2204 (by decide)]; exact hth.2.2.1
    have g2 : V1 2232 0 0 = nI nM := by rw [c2 2232 (by decide)]; exact hma.2.2.1
    have hag := av_fr c2 (by decide)
    obtain ⟨V2, d1, d2⟩ := orNothing_eq (fu := fu) (L := 112) (wk := wk) (t := t) hfu hA1 (okT_nI hi) hmm (by decide)
    rw [c2 2259 (by decide), hwo, lastV_ag hag] at d1
    refine ⟨_, V1, V2, hc1.trans (by rw [hs0]; exact c1), ?_, hI'.scr ((c2.weak (by decide)).trans (d2.weak (by decide)))⟩
    refine (hc2 V1 g1 g2).trans ?_
    rw [F_X12_number_68, if_pos (by decide), d1, bd_some]
  · have hs0 : sAt 6 (nI 1) = 99 := sAt6 1 (by omega)
    obtain ⟨V1, c1, c2⟩ := num_c (fu := fu) (L := 99) (wk := wk) (t := t) hfu hA (okT_nI hi) hmm (by decide)
    rw [if_neg (by decide), if_pos rfl] at c1
    have hA1 := hA.fr c2 (by decide) (by decide) (by decide) (by decide)
    have g1 : V1 2204 0 0 = nI nT := by rw [c2 2204 (by decide)]; exact hth.2.2.1
    have g2 : V1 2232 0 0 = nI nM := by rw [c2 2232 (by decide)]; exact hma.2.2.1
    have hag := av_fr c2 (by decide)
    obtain ⟨V2, d1, d2⟩ := numberBy_eq (fu := fu) (L := 99) (wk := wk) (t := t) hfu hA1.1 hA1.2.1 hA1.2.2.1 hA1.2.2.2 (okT_nI hi) hmm (by decide)
    rw [c2 2259 (by decide), hwo, lastV_ag hag] at d1
    refine ⟨_, V1, V2, hc1.trans (by rw [hs0]; exact c1), ?_, hI'.scr ((c2.weak (by decide)).trans (d2.weak (by decide)))⟩
    refine (hc2 V1 g1 g2).trans ?_
    rw [F_X12_number_68, if_neg (by decide), if_pos (by decide), d1, bd_some]
  · have hs0 : sAt 6 (nI 3) = 100 := sAt6 3 (by omega)
    obtain ⟨V1, c1, c2⟩ := num_c (fu := fu) (L := 100) (wk := wk) (t := t) hfu hA (okT_nI hi) hmm (by decide)
    rw [if_neg (by decide), if_neg (by decide)] at c1
    have hA1 := hA.fr c2 (by decide) (by decide) (by decide) (by decide)
    have g1 : V1 2204 0 0 = nI nT := by rw [c2 2204 (by decide)]; exact hth.2.2.1
    have g2 : V1 2232 0 0 = nI nM := by rw [c2 2232 (by decide)]; exact hma.2.2.1
    have hag := av_fr c2 (by decide)
    obtain ⟨V2, d1, d2⟩ := orNothing_eq (fu := fu) (L := 100) (wk := wk) (t := t) hfu hA1 (okT_nI hi) hmm (by decide)
    rw [c2 2259 (by decide), hwo, lastV_ag hag] at d1
    refine ⟨_, V1, V2, hc1.trans (by rw [hs0]; exact c1), ?_, hI'.scr ((c2.weak (by decide)).trans (d2.weak (by decide)))⟩
    refine (hc2 V1 g1 g2).trans ?_
    rw [F_X12_number_68, if_neg (by decide), if_neg (by decide), if_neg (by decide), if_pos (by decide), d1, bd_some]
  · have hs0 : sAt 6 (nI 4) = 109 := sAt6 4 (by omega)
    obtain ⟨V1, c1, c2⟩ := num_c (fu := fu) (L := 109) (wk := wk) (t := t) hfu hA (okT_nI hi) hmm (by decide)
    rw [if_pos (Or.inl rfl)] at c1
    have hA1 := hA.fr c2 (by decide) (by decide) (by decide) (by decide)
    have g1 : V1 2204 0 0 = nI nT := by rw [c2 2204 (by decide)]; exact hth.2.2.1
    have g2 : V1 2232 0 0 = nI nM := by rw [c2 2232 (by decide)]; exact hma.2.2.1
    have hag := av_fr c2 (by decide)
    obtain ⟨V2, d2, d1, -⟩ := isSome_eq (fu := fu) (L := 109) (wk := wk) (t := t) hfu hA1.1 hA1.2.1 hA1.2.2.1 hA1.2.2.2 (okT_nI hi) hmm (by decide)
    rw [c2 2259 (by decide), hwo, firstV_ag hag] at d1
    refine ⟨_, V1, V2, hc1.trans (by rw [hs0]; exact c1), ?_, hI'.scr ((c2.weak (by decide)).trans (d2.weak (by decide)))⟩
    refine (hc2 V1 g1 g2).trans ?_
    rw [F_X12_number_68, if_neg (by decide), if_neg (by decide), if_neg (by decide), if_neg (by decide), if_pos (by decide), F_X12_number_165, d1, bd_some]
    have := firstV_none (wo := -1) (wk := wk) (t := t) (x := nI i) (m := mm) (L := 109) hor
    by_cases hq : lastV V (-1) wk t nO 109 (nI i) mm = -1
    · simp [this.mpr hq, F_X12_number_182, hq]
    · have h2 : ¬ firstV V (-1) wk t nO 109 (nI i) mm = none := fun q => hq (this.mp q)
      simp [h2, F_X12_number_182, hq]
  · have hs0 : sAt 6 (nI 5) = 98 := sAt6 5 (by omega)
    obtain ⟨V1, c1, c2⟩ := num_c (fu := fu) (L := 98) (wk := wk) (t := t) hfu hA (okT_nI hi) hmm (by decide)
    rw [if_pos (Or.inr rfl)] at c1
    have hA1 := hA.fr c2 (by decide) (by decide) (by decide) (by decide)
    have g1 : V1 2204 0 0 = nI nT := by rw [c2 2204 (by decide)]; exact hth.2.2.1
    have g2 : V1 2232 0 0 = nI nM := by rw [c2 2232 (by decide)]; exact hma.2.2.1
    have hag := av_fr c2 (by decide)
    obtain ⟨V2, d2, d1, -⟩ := isSome_eq (fu := fu) (L := 98) (wk := wk) (t := t) hfu hA1.1 hA1.2.1 hA1.2.2.1 hA1.2.2.2 (okT_nI hi) hmm (by decide)
    rw [c2 2259 (by decide), hwo, firstV_ag hag] at d1
    refine ⟨_, V1, V2, hc1.trans (by rw [hs0]; exact c1), ?_, hI'.scr ((c2.weak (by decide)).trans (d2.weak (by decide)))⟩
    refine (hc2 V1 g1 g2).trans ?_
    rw [F_X12_number_68, if_neg (by decide), if_neg (by decide), if_neg (by decide), if_neg (by decide), if_neg (by decide), F_X12_number_165, d1, bd_some]
    have := firstV_none (wo := -1) (wk := wk) (t := t) (x := nI i) (m := mm) (L := 98) hor
    by_cases hq : lastV V (-1) wk t nO 98 (nI i) mm = -1
    · simp [this.mpr hq, F_X12_number_182, hq]
    · have h2 : ¬ firstV V (-1) wk t nO 98 (nI i) mm = none := fun q => hq (this.mp q)
      simp [h2, F_X12_number_182, hq]
theorem num_c0 {fu : Nat} {V : St} {w x m wk t L rT rM : Int32} (h1 : 0 ≤ w ∧ w ≤ 5) (h2 : 0 ≤ wk ∧ wk ≤ 499) (h3 : 0 ≤ t ∧ t ≤ 499) (hg : ¬ (w < 0 ∨ strLen.getD 6 0 ≤ w.toNatClampNeg)) (eT : f_X11_findThing fu V x = some (rT, V)) (eM : f_X11_findMaker fu V m = some (rM, V)) (hs : sAt 6 w = L) : f_X11_number fu V w x m wk t = if L = 103 then (if x = -1 then (if m = -1 then F_X11_number_102 fu V wk t L rT rM 1 else F_X11_number_102 fu V wk t L rT rM 0) else F_X11_number_102 fu V wk t L rT rM 0) else if rT < 0 then F_X11_number_102 fu V wk t L rT rM 0 else if rM < 0 then (if m = -1 then F_X11_number_102 fu V wk t L rT rM 1 else F_X11_number_102 fu V wk t L rT rM 0) else F_X11_number_102 fu V wk t L rT rM 1 := by
  simp only [f_X11_number, within_eq, bd_some, h1, h2, h3, ite10, not_true, if_false, and_self, gd_t hg, eT, eM, hs, F_X11_number_78, F_X11_number_97, F_X11_number_101]
theorem num_2 {fu k nC nT nM nO : Nat} {V : St} {x m wk t : Int32} (hfu : 1000 ≤ fu) (hI' : Inv k V) (hwo : V 2259 0 0 = -1) (hA : Ask V nC nT nM nO) (hth : I_thing V nC nT) (hma : I_mak V nM) (hor : I_ord V nO) (h1 : 0 ≤ nI 2 ∧ nI 2 ≤ 5) (h2 : 0 ≤ wk ∧ wk ≤ 499) (h3 : 0 ≤ t ∧ t ≤ 499) : Step k (fun V => f_X11_number fu V (nI 2) x m wk t) (fun V => f_X12_number fu V (nI 2) x m wk t) V := by
  have h30 := hth.1
  have h12 := hma.1
  have hs := sAt6 2 (by omega)
  have hg : ¬ (nI 2 < 0 ∨ strLen.getD 6 0 ≤ (nI 2).toNatClampNeg) := by
    rw [nI_clamp (by omega), show strLen.getD 6 0 = 6 from rfl]; intro q; rcases q with q | q
    · exact nI_pos (by omega) q
    · omega
  obtain ⟨rT, eT, oT⟩ := findThing_gen (fu := fu) (V := V) x hth.2.1 (by omega)
  obtain ⟨rM, eM, oM⟩ := findMaker_gen (fu := fu) (V := V) m hma.2.1 (by omega)
  have hs : sAt 6 (nI 2) = 103 := hs
  by_cases hxm : x = -1 ∧ m = -1
  · obtain ⟨rfl, rfl⟩ := hxm
    obtain ⟨V1, c1, c2⟩ := num_c (fu := fu) (L := 103) (wk := wk) (t := t) hfu hA (okT_m1 _) (okT_m1 _) (by decide)
    have hA1 := hA.fr c2 (by decide) (by decide) (by decide) (by decide)
    obtain ⟨V2, d1, d2⟩ := orNothing_eq (fu := fu) (L := 103) (wk := wk) (t := t) hfu hA1 (okT_m1 _) (okT_m1 _) (by decide)
    rw [c2 2259 (by decide), hwo, lastV_ag (av_fr c2 (by decide))] at d1
    refine ⟨if lastV V (-1) wk t nO 103 (-1) (-1) = -1 then 0 else lastV V (-1) wk t nO 103 (-1) (-1), V1, V2, ?_, ?_, hI'.scr ((c2.weak (by decide)).trans (d2.weak (by decide)))⟩
    · rw [if_neg (by decide), if_neg (by decide)] at c1
      refine (num_c0 h1 h2 h3 hg (findThing_no hth.2.1 (by omega) (.inl (by decide))) (findMaker_no hma.2.1 (by omega) (.inl (by decide))) hs).trans ?_
      rw [if_pos rfl, if_pos rfl, if_pos rfl]; exact c1
    · have e0 : ¬ nI 2 = 0 := by decide
      have e1 : ¬ nI 2 = 1 := by decide
      have e2 : nI 2 = 2 := rfl
      simp (disch := omega) only [f_X12_number, F_X12_number_40, F_X12_number_68, week_eq, h1, h2, h3, e0, e1, e2, d1, t20, t21, le02, le25, bd_some, n10, n00, bv_eq, within_eq, in_eq, gd_T, gd_t, i00, i10, c_0, c_1, c_m1, ite10, ite01, setV_fn, setV_at, cntS, nI_pos, nI_clamp, nI_leI, nI_ltI, nI_eq, nI_1, if_true, if_false, not_true, not_false, and_self, and_true, true_and, false_and, and_false, or_false, false_or, or_true, true_or, not_false_eq_true, ite_self, ite_true, ite_false, reduceIte, Nat.reduceEqDiff, Nat.reduceMul, Nat.reduceAdd, Nat.reduceLT, Nat.reducePow, ne_eq]
  · refine Step.same (r := -1) ?_ ?_ hI'
    · simp only [f_X11_number, within_eq, bd_some, h1, h2, h3, ite10, not_true, if_false, and_self, gd_t hg]
      simp (disch := omega) only [F_X11_number_78, F_X11_number_102, h1, h2, h3, hs, eT, eM, bd_some, n10, n00, bv_eq, within_eq, in_eq, gd_T, gd_t, i00, i10, c_0, c_1, c_m1, ite10, ite01, setV_fn, setV_at, cntS, nI_pos, nI_clamp, nI_leI, nI_ltI, nI_eq, nI_1, if_true, if_false, not_true, not_false, and_self, and_true, true_and, false_and, and_false, or_false, false_or, or_true, true_or, not_false_eq_true, ite_self, ite_true, ite_false, reduceIte, Nat.reduceEqDiff, Nat.reduceMul, Nat.reduceAdd, Nat.reduceLT, Nat.reducePow, ne_eq]
      by_cases hx : x = -1
      · have hm : ¬ m = -1 := fun q => hxm ⟨hx, q⟩
        simp only [hx, hm, if_true, if_false]
      · simp only [hx, if_false, if_true]
    · have e2 : nI 2 = 2 := rfl
      have hmk : m = -1 ∨ (¬ m = -1 ∧ ∃ r, f_X12_isMaker fu V m = some (r, V)) := by
        by_cases hm : m = -1
        · exact .inl hm
        · rcases ix_or m (show nM < 2 ^ 31 by omega) with hv | ⟨i, hi, rfl⟩
          · exact .inr ⟨hm, 0, isMaker_no hma.2.2.1 hv⟩
          · exact .inr ⟨hm, 1, isMaker_ok hma.2.2.1 (by omega) hi⟩
      rcases hmk with rfl | ⟨hm, r, hr⟩
      · have hx : ¬ x = -1 := fun q => hxm ⟨q, rfl⟩
        simp (disch := omega) only [f_X12_number, F_X12_number_40, F_X12_number_66, week_eq, h1, h2, h3, e2, hx, le02, le25, bd_some, n10, n00, bv_eq, within_eq, in_eq, gd_T, gd_t, i00, i10, c_0, c_1, c_m1, ite10, ite01, setV_fn, setV_at, cntS, nI_pos, nI_clamp, nI_leI, nI_ltI, nI_eq, nI_1, if_true, if_false, not_true, not_false, and_self, and_true, true_and, false_and, and_false, or_false, false_or, or_true, true_or, not_false_eq_true, ite_self, ite_true, ite_false, reduceIte, Nat.reduceEqDiff, Nat.reduceMul, Nat.reduceAdd, Nat.reduceLT, Nat.reducePow, ne_eq]
      · simp (disch := omega) only [f_X12_number, F_X12_number_40, F_X12_number_66, F_X12_number_38, week_eq, h1, h2, h3, e2, hm, hr, le02, le25, bd_some, n10, n00, bv_eq, within_eq, in_eq, gd_T, gd_t, i00, i10, c_0, c_1, c_m1, ite10, ite01, setV_fn, setV_at, cntS, nI_pos, nI_clamp, nI_leI, nI_ltI, nI_eq, nI_1, if_true, if_false, not_true, not_false, and_self, and_true, true_and, false_and, and_false, or_false, false_or, or_true, true_or, not_false_eq_true, ite_self, ite_true, ite_false, reduceIte, Nat.reduceEqDiff, Nat.reduceMul, Nat.reduceAdd, Nat.reduceLT, Nat.reducePow, ne_eq]
theorem P_number {fu k : Nat} {V : St} (hfu : 1000 ≤ fu) (hI : Inv k V) (w x m wk t : Int32) : Step k (fun V => f_X11_number fu V w x m wk t) (fun V => f_X12_number fu V w x m wk t) V := by
  have hI' := hI
  obtain ⟨nC, nD, nT, nM, nP, nK, nS, nR, nL, nO, hL, hmi, hta, hcl, hdr, hth, hla, hma, hor, hpe, hdo, hse, hru, hmk⟩ := hI
  have hwo := hmi.2.2.2.2
  have hA : Ask V nC nT nM nO := ⟨hcl, hth, hma, hor⟩
  have h30 := hth.1
  have h12 := hma.1
  rcases (Decidable.em (0 ≤ w ∧ w ≤ 5)).symm with h1 | h1
  · refine Step.same (r := -1) ?_ ?_ hI'
    · simp only [f_X11_number, F_X11_number_33, h1, bd_some, n10, n00, bv_eq, within_eq, in_eq, gd_T, gd_t, i00, i10, c_0, c_1, c_m1, ite10, ite01, setV_fn, setV_at, cntS, nI_pos, nI_clamp, nI_leI, nI_ltI, nI_eq, nI_1, if_true, if_false, not_true, not_false, and_self, and_true, true_and, false_and, and_false, or_false, false_or, or_true, true_or, not_false_eq_true, ite_self, ite_true, ite_false, reduceIte, Nat.reduceEqDiff, Nat.reduceMul, Nat.reduceAdd, Nat.reduceLT, Nat.reducePow, ne_eq]
    · simp only [f_X12_number, F_X12_number_38, h1, bd_some, n10, n00, bv_eq, within_eq, in_eq, gd_T, gd_t, i00, i10, c_0, c_1, c_m1, ite10, ite01, setV_fn, setV_at, cntS, nI_pos, nI_clamp, nI_leI, nI_ltI, nI_eq, nI_1, if_true, if_false, not_true, not_false, and_self, and_true, true_and, false_and, and_false, or_false, false_or, or_true, true_or, not_false_eq_true, ite_self, ite_true, ite_false, reduceIte, Nat.reduceEqDiff, Nat.reduceMul, Nat.reduceAdd, Nat.reduceLT, Nat.reducePow, ne_eq]
  rcases (Decidable.em (0 ≤ wk ∧ wk ≤ 499)).symm with h2 | h2
  · refine Step.same (r := -1) ?_ ?_ hI'
    · simp only [f_X11_number, F_X11_number_33, h1, h2, bd_some, n10, n00, bv_eq, within_eq, in_eq, gd_T, gd_t, i00, i10, c_0, c_1, c_m1, ite10, ite01, setV_fn, setV_at, cntS, nI_pos, nI_clamp, nI_leI, nI_ltI, nI_eq, nI_1, if_true, if_false, not_true, not_false, and_self, and_true, true_and, false_and, and_false, or_false, false_or, or_true, true_or, not_false_eq_true, ite_self, ite_true, ite_false, reduceIte, Nat.reduceEqDiff, Nat.reduceMul, Nat.reduceAdd, Nat.reduceLT, Nat.reducePow, ne_eq]
    · simp only [f_X12_number, F_X12_number_38, h1, h2, week_eq, bd_some, n10, n00, bv_eq, within_eq, in_eq, gd_T, gd_t, i00, i10, c_0, c_1, c_m1, ite10, ite01, setV_fn, setV_at, cntS, nI_pos, nI_clamp, nI_leI, nI_ltI, nI_eq, nI_1, if_true, if_false, not_true, not_false, and_self, and_true, true_and, false_and, and_false, or_false, false_or, or_true, true_or, not_false_eq_true, ite_self, ite_true, ite_false, reduceIte, Nat.reduceEqDiff, Nat.reduceMul, Nat.reduceAdd, Nat.reduceLT, Nat.reducePow, ne_eq]
  rcases (Decidable.em (0 ≤ t ∧ t ≤ 499)).symm with h3 | h3
  · refine Step.same (r := -1) ?_ ?_ hI'
    · simp only [f_X11_number, F_X11_number_33, h1, h2, h3, bd_some, n10, n00, bv_eq, within_eq, in_eq, gd_T, gd_t, i00, i10, c_0, c_1, c_m1, ite10, ite01, setV_fn, setV_at, cntS, nI_pos, nI_clamp, nI_leI, nI_ltI, nI_eq, nI_1, if_true, if_false, not_true, not_false, and_self, and_true, true_and, false_and, and_false, or_false, false_or, or_true, true_or, not_false_eq_true, ite_self, ite_true, ite_false, reduceIte, Nat.reduceEqDiff, Nat.reduceMul, Nat.reduceAdd, Nat.reduceLT, Nat.reducePow, ne_eq]
    · simp only [f_X12_number, F_X12_number_38, h1, h2, h3, week_eq, bd_some, n10, n00, bv_eq, within_eq, in_eq, gd_T, gd_t, i00, i10, c_0, c_1, c_m1, ite10, ite01, setV_fn, setV_at, cntS, nI_pos, nI_clamp, nI_leI, nI_ltI, nI_eq, nI_1, if_true, if_false, not_true, not_false, and_self, and_true, true_and, false_and, and_false, or_false, false_or, or_true, true_or, not_false_eq_true, ite_self, ite_true, ite_false, reduceIte, Nat.reduceEqDiff, Nat.reduceMul, Nat.reduceAdd, Nat.reduceLT, Nat.reducePow, ne_eq]
  obtain ⟨w, -, hw, rfl⟩ := in_nI (a := 0) (n := 6) (x := w) (by rw [nI_0]; exact h1) (by omega) (by omega)
  have hs := sAt6 w hw
  have hg : ¬ (nI w < 0 ∨ strLen.getD 6 0 ≤ (nI w).toNatClampNeg) := by
    rw [nI_clamp (by omega), show strLen.getD 6 0 = 6 from rfl]; intro q; rcases q with q | q
    · exact nI_pos (by omega) q
    · omega
  obtain ⟨rT, eT, oT⟩ := findThing_gen (fu := fu) (V := V) x hth.2.1 (by omega)
  obtain ⟨rM, eM, oM⟩ := findMaker_gen (fu := fu) (V := V) m hma.2.1 (by omega)
  by_cases hw2 : w = 2
  · subst hw2; exact num_2 hfu hI' hwo hA hth hma hor h1 h2 h3
  · have hw2' : ¬ nI w = 2 := fun q => hw2 ((nI_eq (b := 2) (by omega) (by decide)).mp q)
    have hL2 : ¬ sAt 6 (nI w) = 103 := by
      rw [hs]; rcases (show w = 0 ∨ w = 1 ∨ w = 3 ∨ w = 4 ∨ w = 5 by omega) with rfl | rfl | rfl | rfl | rfl <;> decide
    rcases ix_or x (show nT < 2 ^ 31 by omega) with hv | ⟨i, hi, rfl⟩
    · skip
      refine Step.same (r := -1) ?_ ?_ hI'
      · simp only [f_X11_number, within_eq, bd_some, h1, h2, h3, ite10, not_true, if_false, and_self, gd_t hg]
        simp (disch := omega) only [F_X11_number_101, F_X11_number_102, h1, h2, h3, hL2, eM, findThing_no hth.2.1 (show nT ≤ 1000 by omega) hv, bd_some, n10, n00, bv_eq, within_eq, in_eq, gd_T, gd_t, i00, i10, c_0, c_1, c_m1, ite10, ite01, setV_fn, setV_at, cntS, nI_pos, nI_clamp, nI_leI, nI_ltI, nI_eq, nI_1, if_true, if_false, not_true, not_false, and_self, and_true, true_and, false_and, and_false, or_false, false_or, or_true, true_or, not_false_eq_true, ite_self, ite_true, ite_false, reduceIte, Nat.reduceEqDiff, Nat.reduceMul, Nat.reduceAdd, Nat.reduceLT, Nat.reducePow, ne_eq]
      · have hmk : m = -1 ∨ (¬ m = -1 ∧ ∃ r, f_X12_isMaker fu V m = some (r, V)) := by
          by_cases hm : m = -1
          · exact .inl hm
          · rcases ix_or m (show nM < 2 ^ 31 by omega) with hv | ⟨i, hi, rfl⟩
            · exact .inr ⟨hm, 0, isMaker_no hma.2.2.1 hv⟩
            · exact .inr ⟨hm, 1, isMaker_ok hma.2.2.1 (by omega) hi⟩
        rcases hmk with rfl | ⟨hm, r, hr⟩
        · simp (disch := omega) only [f_X12_number, F_X12_number_40, F_X12_number_66, week_eq, h1, h2, h3, hw2', isThing_no hth.2.2.1 hv, bd_some, n10, n00, bv_eq, within_eq, in_eq, gd_T, gd_t, i00, i10, c_0, c_1, c_m1, ite10, ite01, setV_fn, setV_at, cntS, nI_pos, nI_clamp, nI_leI, nI_ltI, nI_eq, nI_1, if_true, if_false, not_true, not_false, and_self, and_true, true_and, false_and, and_false, or_false, false_or, or_true, true_or, not_false_eq_true, ite_self, ite_true, ite_false, reduceIte, Nat.reduceEqDiff, Nat.reduceMul, Nat.reduceAdd, Nat.reduceLT, Nat.reducePow, ne_eq]
        · simp (disch := omega) only [f_X12_number, F_X12_number_40, F_X12_number_66, F_X12_number_38, week_eq, h1, h2, h3, hw2', hm, hr, isThing_no hth.2.2.1 hv, bd_some, n10, n00, bv_eq, within_eq, in_eq, gd_T, gd_t, i00, i10, c_0, c_1, c_m1, ite10, ite01, setV_fn, setV_at, cntS, nI_pos, nI_clamp, nI_leI, nI_ltI, nI_eq, nI_1, if_true, if_false, not_true, not_false, and_self, and_true, true_and, false_and, and_false, or_false, false_or, or_true, true_or, not_false_eq_true, ite_self, ite_true, ite_false, reduceIte, Nat.reduceEqDiff, Nat.reduceMul, Nat.reduceAdd, Nat.reduceLT, Nat.reducePow, ne_eq]
    · skip
      have key := fun (mm : Int32) (hmm : okT mm nM) h1 h2 => num_key (k := k) (w := w) (i := i) (m := m) (wk := wk) (t := t) (nD := 0) (nP := 0) (nK := 0) (nS := 0) (nR := 0) (nL := 0) (mm := mm) hfu hI' hwo hA hth hma hor hw hw2 hi hmm h1 h2
      rcases ix_or m (show nM < 2 ^ 31 by omega) with hv | ⟨q, hq, rfl⟩
      · by_cases hm : m = -1
        · subst hm
          refine key (-1) (okT_m1 _) ?_ (fun U u1 u2 => ?_)
          · refine (num_c0 h1 h2 h3 hg (findThing_ok hth.2.1 (by omega) hi) (findMaker_no hma.2.1 (by omega) hv) rfl).trans ?_
            rw [if_neg hL2, if_neg (nI_pos (by omega)), if_pos (by decide), if_pos rfl]
          · simp (disch := omega) only [f_X12_number, F_X12_number_40, week_eq, h1, h2, h3, hw2', isThing_ok u1 (show nT ≤ 1000 by omega) hi, bd_some, n10, n00, bv_eq, within_eq, in_eq, gd_T, gd_t, i00, i10, c_0, c_1, c_m1, ite10, ite01, setV_fn, setV_at, cntS, nI_pos, nI_clamp, nI_leI, nI_ltI, nI_eq, nI_1, if_true, if_false, not_true, not_false, and_self, and_true, true_and, false_and, and_false, or_false, false_or, or_true, true_or, not_false_eq_true, ite_self, ite_true, ite_false, reduceIte, Nat.reduceEqDiff, Nat.reduceMul, Nat.reduceAdd, Nat.reduceLT, Nat.reducePow, ne_eq]
        · refine Step.same (r := -1) ?_ ?_ hI'
          · simp only [f_X11_number, within_eq, bd_some, h1, h2, h3, ite10, not_true, if_false, and_self, gd_t hg]
            simp (disch := omega) only [F_X11_number_101, F_X11_number_102, h1, h2, h3, hL2, hm, findThing_ok hth.2.1 (show nT ≤ 1000 by omega) hi, findMaker_no hma.2.1 (show nM ≤ 1000 by omega) hv, bd_some, n10, n00, bv_eq, within_eq, in_eq, gd_T, gd_t, i00, i10, c_0, c_1, c_m1, ite10, ite01, setV_fn, setV_at, cntS, nI_pos, nI_clamp, nI_leI, nI_ltI, nI_eq, nI_1, if_true, if_false, not_true, not_false, and_self, and_true, true_and, false_and, and_false, or_false, false_or, or_true, true_or, not_false_eq_true, ite_self, ite_true, ite_false, reduceIte, Nat.reduceEqDiff, Nat.reduceMul, Nat.reduceAdd, Nat.reduceLT, Nat.reducePow, ne_eq]
          · simp (disch := omega) only [f_X12_number, F_X12_number_38, week_eq, h1, h2, h3, hm, isMaker_no hma.2.2.1 hv, bd_some, n10, n00, bv_eq, within_eq, in_eq, gd_T, gd_t, i00, i10, c_0, c_1, c_m1, ite10, ite01, setV_fn, setV_at, cntS, nI_pos, nI_clamp, nI_leI, nI_ltI, nI_eq, nI_1, if_true, if_false, not_true, not_false, and_self, and_true, true_and, false_and, and_false, or_false, false_or, or_true, true_or, not_false_eq_true, ite_self, ite_true, ite_false, reduceIte, Nat.reduceEqDiff, Nat.reduceMul, Nat.reduceAdd, Nat.reduceLT, Nat.reducePow, ne_eq]
      · have hne := ifneg_nI q (by omega)
        refine key (nI q) (okT_nI hq) ?_ (fun U u1 u2 => ?_)
        · refine (num_c0 h1 h2 h3 hg (findThing_ok hth.2.1 (by omega) hi) (findMaker_ok hma.2.1 (by omega) hq) rfl).trans ?_
          rw [if_neg hL2, if_neg (nI_pos (by omega)), if_neg (nI_pos (by omega))]
        · simp (disch := omega) only [f_X12_number, F_X12_number_40, week_eq, h1, h2, h3, hw2', hne, isThing_ok u1 (show nT ≤ 1000 by omega) hi, isMaker_ok u2 (show nM ≤ 1000 by omega) hq, bd_some, n10, n00, bv_eq, within_eq, in_eq, gd_T, gd_t, i00, i10, c_0, c_1, c_m1, ite10, ite01, setV_fn, setV_at, cntS, nI_pos, nI_clamp, nI_leI, nI_ltI, nI_eq, nI_1, if_true, if_false, not_true, not_false, and_self, and_true, true_and, false_and, and_false, or_false, false_or, or_true, true_or, not_false_eq_true, ite_self, ite_true, ite_false, reduceIte, Nat.reduceEqDiff, Nat.reduceMul, Nat.reduceAdd, Nat.reduceLT, Nat.reducePow, ne_eq]
