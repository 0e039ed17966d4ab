/-! lists that grow -/
def rmA (d c s : Nat) : Room := { frames := d, cells := c, slots := s, locals := 60 * d }
theorem fitA {d' d c' s' c s nl' kc ks : Nat} (h : d' + 1 ≤ d) (hn : nl' ≤ 41) (hc : kc + c' ≤ c) (hs : ks + s' ≤ s) : fitR (rmA d' c' s') nl' (rmA d c s) kc ks := by
  refine ⟨h, ?_, hc, hs⟩
  show 8 + (nl' + 11) + 60 * d' ≤ 60 * d
  omega
theorem fitDA {d' d c s nl' kc ks : Nat} (h : d' + 1 ≤ d) (hn : nl' ≤ 41) (hc : kc ≤ c) (hs : ks ≤ s) : fitR (rmD d') nl' (rmA d c s) kc ks := by
  refine ⟨h, ?_, hc, hs⟩
  show 8 + (nl' + 11) + 60 * d' ≤ 60 * d
  omega
theorem fp_Jxc12de_7 : FP RJxc12de 7 13 0 .int := ⟨RJx4a65c, TJx4a65c, 3, "java/util/AbstractList", tyJx4a65c, rfl, by decide, wd_150, Or.inl rfl, in_Jx4a65c, tyJx4a65c_ok, nmJx4a65c, tyJx4a65c_ok 0 (by decide), rfl⟩
abbrev oarr (E : EN) (n : Nat) (f : Nat → Option Nat) : va_E := .inl (eO E, n, .inr (.inr (.inr (.inr f))))
section AL
variable {E : EN} {X : CX} {own : String} {cc : ByteArray} {nl : Nat} {ret : Option FieldType} {ini : Bool} {rm : Room} {P : Option Value → MH → Prop} {M : MH} {L : List (Option Value)} {kc ks pc pc' : Nat} {st : List Value} {idx a : Nat}
theorem r_mmaxA {d c s : Nat} {x y : Int32} (hd : Dk cc pc (.invokestatic idx) 3 pc') (hw : Cond.methodLink own idx yJ9_max_7cf53 ∈ lw_ok) (hF : 1 ≤ d) (hr : (st.map fun v => v.category).sum ≤ 8) (hk : kc ≤ c ∧ ks ≤ s) (K : G E X own cc nl ret ini (rmA d c s) P M L kc ks pc' (.int (if x < y then y else x) :: st)) : G E X own cc nl ret ini (rmA d c s) P M L kc ks pc (.int y :: .int x :: st) := by
  intro C H locs ls ws hP hD hV hS hl
  obtain ⟨hd, rfl⟩ := hd
  have hloc : (st.map fun v => v.category).sum + 13 ≤ (rmA d c s).locals := by show _ ≤ 60 * d; omega
  exact va_mmax C.1 C.2.1 (C.2.2.1.trans hl.1.symm) C.2.2.2.1 (C.2.2.2.2.1 _ hw) (C.2.2.2.2.1 _ wt_J9_max_7cf53) (C.2.2.2.2.1 _ wi_J9_max_7cf53) (C.2.2.2.2.1 _ wc_J9_max_7cf53) hF hloc hk.1 hk.2 hd (K C H locs ls ws hP hD hV hS hl)
theorem r_mminA {d c s : Nat} {x y : Int32} (hd : Dk cc pc (.invokestatic idx) 3 pc') (hw : Cond.methodLink own idx yJ9_min_7cf53 ∈ lw_ok) (hF : 1 ≤ d) (hr : (st.map fun v => v.category).sum ≤ 8) (hk : kc ≤ c ∧ ks ≤ s) (K : G E X own cc nl ret ini (rmA d c s) P M L kc ks pc' (.int (if y < x then y else x) :: st)) : G E X own cc nl ret ini (rmA d c s) P M L kc ks pc (.int y :: .int x :: st) := by
  intro C H locs ls ws hP hD hV hS hl
  obtain ⟨hd, rfl⟩ := hd
  have hloc : (st.map fun v => v.category).sum + 13 ≤ (rmA d c s).locals := by show _ ≤ 60 * d; omega
  exact va_mmin C.1 C.2.1 (C.2.2.1.trans hl.1.symm) C.2.2.2.1 (C.2.2.2.2.1 _ hw) (C.2.2.2.2.1 _ wt_J9_min_7cf53) (C.2.2.2.2.1 _ wi_J9_min_7cf53) (C.2.2.2.2.1 _ wc_J9_min_7cf53) hF hloc hk.1 hk.2 hd (K C H locs ls ws hP hD hV hS hl)
theorem r_anew {n : Int32} {N : Nat} (hd : Dk cc pc (.anewarray idx) 3 pc') (hw : Cond.classLink own idx "java/lang/Object" ∈ lw_ok) (hn : ¬ n < 0) (hN : n.toNatClampNeg = N) (hb : N ≤ 1000000) (hr : kc + 1 ≤ rm.cells ∧ ks + N ≤ rm.slots) (K : ∀ q : Nat, M q = none → E.1 ≤ q → G E X own cc nl ret ini rm P (mset M q (oarr E N (fun _ => none))) L (kc + 1) (ks + N) pc' (.ref q :: st)) : G E X own cc nl ret ini rm P M L kc ks pc (.int n :: st) := by
  intro C H locs ls ws hP hD hV hS hl
  obtain ⟨hd, rfl⟩ := hd
  refine va_newq C.1 C.2.1 C.2.2.2.1 (C.2.2.2.2.1 _ hw) C.kk.2.2.1 C.kk.1 hP hD hS C.hA hn hN (by omega) hr.1 hr.2 hd (fun q cA H1 hK1 hP1 hD1 hS1 => ?_)
  have hcA : cA = eO E := by
    obtain ⟨kA, comp, h1, h2, h3, h4⟩ := (hK1.2 4 (cA, .object "java/lang/Object") (by simp [tys])).2
    obtain ⟨kA', comp', h1', h2', h3', h4'⟩ := (C.kk.1.2 3 (eO E, .object "java/lang/Object") rfl).2
    exact Option.some.inj (h4.symm.trans h4')
  subst hcA
  exact K q (hV.fresh hD1) (hD1.2 ws.length (q, oarr E N (fun _ => none)) (by simp)) C H1 locs ls _ hP1 hD1 hV.push hS1 hl
theorem cast_asg {s : State} {C T : String} (h : va_Nw (.castable C T) s) : ∀ comp c0 : ClassId, s.vm.findClass T = some comp → s.vm.findClass C = some c0 → s.vm.assignable c0 comp = true := by
  intro comp c0 h1 h2
  obtain ⟨c, t, f1, f2, f3⟩ := Cond.castable_spec (va_Nw.use (A := #[]) rfl h)
  cases h2.symm.trans f1
  cases h1.symm.trans f2
  exact f3
theorem r_aast {n v ci : Nat} {f : Nat → Option Nat} {fs : List Value} {r : vw_C} {i : Int32} (hd : Dk cc pc .aastore 1 pc') (hM : M a = some (oarr E n f)) (hv : M v = some (.inr (ci, fs))) (hc : classes[ci]? = some r) (hin : vp_in i n) (K : G E X own cc nl ret ini rm P (mset M a (oarr E n (va_up f i.toNatClampNeg (some v)))) L kc ks pc' st) : G E X own cc nl ret ini rm P M L kc ks pc (.ref v :: .int i :: .ref a :: st) := by
  intro C H locs ls ws hP hD hV hS hl
  obtain ⟨hd, rfl⟩ := hd
  obtain ⟨j, hj⟩ := hV a _ hM
  obtain ⟨j2, hj2⟩ := hV v _ hv
  exact va_astqO C.1 C.2.1 C.kk.1 hP hD hS j 3 j2 ci hj rfl (C.kk.2.2.2.2.1 r (List.mem_of_getElem? hc)) hj2 hc hin hd (fun H1 locs1 hP1 hD1 hS1 => K C H1 locs1 ls _ hP1 hD1 (hV.set hD hj) hS1 hl)
theorem r_copyq {a0 a1 n0 n1 : Nat} {f g : Nat → Option Nat} {sp dp n : Int32} (hd : Dk cc pc (.invokestatic idx) 3 pc') (hw : Cond.methodLink own idx arraycopyName ∈ lw_ok) (h0 : M a0 = some (oarr E n0 f)) (h1 : M a1 = some (oarr E n1 g)) (hs : ¬ sp < 0) (hdp : ¬ dp < 0) (hn : ¬ n < 0) (h4 : sp.toNatClampNeg + n.toNatClampNeg ≤ n0) (h5 : dp.toNatClampNeg + n.toNatClampNeg ≤ n1) (hel : ∀ i : Nat, i < n.toNatClampNeg → ∀ y : Nat, f (sp.toNatClampNeg + i) = some y → ∃ (ci : Nat) (fs : List Value) (r : vw_C), M y = some (.inr (ci, fs)) ∧ classes[ci]? = some r) (hF : 1 ≤ rm.frames) (hl0 : (st.map fun v => v.category).sum + 111 ≤ rm.locals) (K : G E X own cc nl ret ini rm P (mset M a1 (oarr E n1 (va_cpy f g sp.toNatClampNeg dp.toNatClampNeg n.toNatClampNeg))) L kc ks pc' st) : G E X own cc nl ret ini rm P M L kc ks pc (.int n :: .int dp :: .ref a1 :: .int sp :: .ref a0 :: st) := by
  intro C H locs ls ws hP hD hV hS hl
  obtain ⟨hd, rfl⟩ := hd
  obtain ⟨j0, hj0⟩ := hV a0 _ h0
  obtain ⟨j1, hj1⟩ := hV a1 _ h1
  have hacw := acw
  refine va_copyM (E1 := "java/lang/Object") C.1 C.2.1 (C.2.2.1.trans hl.1.symm) C.2.2.2.1 (C.2.2.2.2.1 _ hw) (C.2.2.2.2.1 _ wd_492) (C.2.2.2.2.1 _ wd_491) (C.2.2.2.2.1 _ wd_113) C.kk.1 hP hD hS j0 j1 3 3 hj0 hj1 rfl rfl hs hdp hn h4 h5 (fun i hi y hy => ?_) hF (by omega) hd (fun H1 locs1 hP1 hD1 hS1 => K C H1 locs1 ls _ hP1 hD1 (hV.set hD hj1) hS1 hl)
  obtain ⟨ci, fs, r, q1, q2⟩ := hel i hi y hy
  obtain ⟨j2, hj2⟩ := hV y _ q1
  exact va_rAny C.kk.1 hP hj2 q2 (cast_asg (C.kk.2.2.2.2.1 r (List.mem_of_getElem? q2)))
theorem r_getC {n : Nat} {f : Nat → Option Nat} (hd : Dk cc pc (.invokevirtual idx) 3 pc') (hw : Cond.methodLink own idx ⟨"java/lang/Object", "getClass", "()Ljava/lang/Class;"⟩ ∈ lw_ok) (hM : M a = some (oarr E n f)) (hF : 1 ≤ rm.frames) (hl0 : (st.map fun v => v.category).sum + 14 ≤ rm.locals) (K : G E X own cc nl ret ini rm P M L kc ks pc' (.ref (eT E 3) :: st)) : G E X own cc nl ret ini rm P M L kc ks pc (.ref a :: st) := by
  intro C H locs ls ws hP hD hV hS hl
  obtain ⟨hd, rfl⟩ := hd
  obtain ⟨j, hj⟩ := hV a _ hM
  have hc := hP j _ hj
  obtain ⟨kA', comp', h1', h2', h3', h4'⟩ := (C.kk.1.2 3 (eO E, .object "java/lang/Object") rfl).2
  exact va_getC C.1 C.2.1 (C.2.2.1.trans hl.1.symm) C.2.2.2.1 (C.2.2.2.2.1 _ hw) C.kk.2.2.2.1 (C.2.2.2.2.1 _ wd_1953) (C.2.2.2.2.1 _ wd_466) (C.2.2.2.2.1 _ wd_482) C.2.2.2.2.2.2.2.2.2.2.2.2.2.2.2.2.2.2.2.1 ⟨_, hc, rfl, h4'⟩ hF hl0 hd (K C H locs ls ws hP hD hV hS hl)
theorem r_ldcM (hd : Dk cc pc (.ldc idx) 2 pc') (hw : Cond.classLink own idx "[Ljava/lang/Object;" ∈ lw_ok) (K : G E X own cc nl ret ini rm P M L kc ks pc' (.ref (eT E 3) :: st)) : G E X own cc nl ret ini rm P M L kc ks pc st := by
  intro C H locs ls ws hP hD hV hS hl
  obtain ⟨hd, rfl⟩ := hd
  exact va_ldcM C.1 C.2.1 C.2.2.2.1 (C.2.2.2.2.1 _ hw) C.2.2.2.2.2.2.2.2.2.2.2.2.2.2.2.2.2.2.2.1 hd (K C H locs ls ws hP hD hV hS hl)
theorem r_dlen (hd : Dk cc pc .arraylength 1 pc') (K : G E X own cc nl ret ini rm P M L kc ks pc' (.int 0 :: st)) : G E X own cc nl ret ini rm P M L kc ks pc (.ref (eT E 2) :: st) := by
  intro C H locs ls ws hP hD hV hS hl
  obtain ⟨hd, rfl⟩ := hd
  exact va_tlen C.1 C.2.1 C.2.2.2.2.2.2.2.2.2.2.2.2.2.2.2.1 hS rfl hd (K C H locs ls ws hP hD hV hS hl)
theorem r_getD (hd : Dk cc pc (.getstatic idx) 3 pc') (hw : Cond.fieldLink own idx "java/util/ArrayList" "DEFAULTCAPACITY_EMPTY_ELEMENTDATA" "[Ljava/lang/Object;" ∈ lw_ok) (K : G E X own cc nl ret ini rm P M L kc ks pc' (.ref (eT E 2) :: st)) : G E X own cc nl ret ini rm P M L kc ks pc st := r_gets hd hw (fun g => g.2.2.2.2.1) K
theorem r_obji (hd : Dk cc pc (.invokespecial idx) 3 pc') (hw : Cond.methodLink own idx Lib.objectInit ∈ lw_ok) (hF : 1 ≤ rm.frames) (hl0 : (st.map fun v => v.category).sum + 12 ≤ rm.locals) (K : G E X own cc nl ret ini rm P M L kc ks pc' st) : G E X own cc nl ret ini rm P M L kc ks pc (.ref a :: st) := by
  intro C H locs ls ws hP hD hV hS hl
  obtain ⟨hd, rfl⟩ := hd
  exact W.objInit C.1 C.2.1 C.2.2.2.1 (C.2.2.2.2.1 _ hw) (C.2.2.2.2.1 _ wd_132) (C.2.2.2.2.1 _ wd_133) rfl (hl.1.trans C.2.2.1.symm) rfl hd hF (by show 2 * 0 + _ + 12 ≤ _; omega) (K C H locs ls ws hP hD hV hS hl)
end AL

