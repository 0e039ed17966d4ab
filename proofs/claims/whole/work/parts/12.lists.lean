/-! lists: size, get; casts; statics; what class methods use beside -/
theorem C_pci {E : EN} {M : MH} {i n : Int32} (l : Launch) (h0 : ¬ i < 0) (h1 : i < n) : Ct E l yJ3_checkIndex_8e157 cJ3_checkIndex_8e157 3 (some .int) (rmD 1) [.int i, .int n, .null] M (fun v M' => v = some (.int i) ∧ M' = M) :=
  Ct.of (own := RJ3) (ini := false) (L := [some (.int i), some (.int n), some .null]) rfl rfl (fun h => by cases h) rfl (Nat.le_of_ble_eq_true rfl) rfl (fun X _ => by
    refine r_iload_n DJ3_checkIndex_8e157_0 rfl ?_
    refine r_if_lt DJ3_checkIndex_8e157_1 (fun c => absurd c h0) (fun _ => ?_)
    refine r_iload_n DJ3_checkIndex_8e157_4 rfl ?_
    refine r_iload_n DJ3_checkIndex_8e157_5 rfl ?_
    refine r_icmp_lt DJ3_checkIndex_8e157_6 (fun _ => ?_) (fun c => absurd h1 c)
    refine r_iload_n DJ3_checkIndex_8e157_16 rfl ?_
    exact r_iret DJ3_checkIndex_8e157_17 rfl ⟨Nat.le_refl 0, Nat.le_refl 0⟩ ⟨rfl, rfl⟩)
theorem C_oci {E : EN} {M : MH} {i n : Int32} (l : Launch) (h0 : ¬ i < 0) (h1 : i < n) : Ct E l yJ15_checkIndex_7cf53 cJ15_checkIndex_7cf53 2 (some .int) (rmD 2) [.int i, .int n] M (fun v M' => v = some (.int i) ∧ M' = M) :=
  Ct.of (own := RJ15) (ini := false) (L := [some (.int i), some (.int n)]) rfl rfl (fun h => by cases h) rfl (Nat.le_of_ble_eq_true rfl) rfl (fun X _ => by
    refine r_iload_n DJ15_checkIndex_7cf53_0 rfl ?_
    refine r_iload_n DJ15_checkIndex_7cf53_1 rfl ?_
    refine r_null DJ15_checkIndex_7cf53_2 ?_
    refine r_callS (As := [.int i, .int n, .null]) (rest := []) DJ15_checkIndex_7cf53_3 cs_J15_105 (C_pci (cxL X) h0 h1) rfl (fitD (by decide) (by decide)) rfl (Nat.le_of_ble_eq_true rfl) ?_
    rintro v M' ⟨rfl, rfl⟩
    exact r_iret DJ15_checkIndex_7cf53_6 rfl ⟨Nat.le_refl 0, Nat.le_refl 0⟩ ⟨rfl, rfl⟩)
theorem C_eld {E : EN} {M : MH} {a d cap : Nat} {f : Nat → Option Nat} {mc n i : Int32} (l : Launch) (hM : M a = some (.inr (13, [.int mc, .ref d, .int n]))) (hd : M d = some (.inl (eO E, cap, .inr (.inr (.inr (.inr f)))))) (hi : vp_in i cap) : Ct E l yJx4a65c_elementData_915e3 cJx4a65c_elementData_915e3 2 (some (.object "java/lang/Object")) (rmD 1) [.ref a, .int i] M (fun v M' => v = some (va_rf (f i.toNatClampNeg)) ∧ M' = M) :=
  Ct.of (own := RJx4a65c) (ini := false) (L := [some (.ref a), some (.int i)]) rfl rfl (fun h => by cases h) rfl (Nat.le_of_ble_eq_true rfl) rfl (fun X _ => by
    refine r_aload_n DJx4a65c_elementData_915e3_0 rfl ?_
    refine r_get DJx4a65c_elementData_915e3_1 fl_Jx4a65c_9 hM rfl ?_
    refine r_iload_n DJx4a65c_elementData_915e3_4 rfl ?_
    refine r_aald DJx4a65c_elementData_915e3_5 hd hi ?_
    exact r_aret DJx4a65c_elementData_915e3_6 rfl (Or.inl ⟨_, rfl⟩) (by cases f i.toNatClampNeg with | none => exact Or.inl rfl | some z => exact Or.inr ⟨z, rfl⟩) ⟨Nat.le_refl 0, Nat.le_refl 0⟩ ⟨rfl, rfl⟩)
theorem nn_toInt {x : Int32} (h : ¬ x < 0) : x.toInt = (x.toNatClampNeg : Int) := by
  have h1 : ¬ x.toInt < 0 := fun z => h (Int32.lt_iff_toInt_lt.mpr (by simpa using z))
  show x.toInt = (x.toInt.toNat : Int)
  omega
theorem clamp_lt {x y : Int32} (hx : ¬ x < 0) (hy : ¬ y < 0) (h : x.toNatClampNeg < y.toNatClampNeg) : x < y := Int32.lt_iff_toInt_lt.mpr (by rw [nn_toInt hx, nn_toInt hy]; omega)
theorem list_big : ∀ q ∈ listL, 1000 ≤ q.1 := by decide +kernel
theorem C_lget {E : EN} {ad : AD} {V : St} {M : MH} {Li g : Nat} {x : Int32} (l : Launch) (hR : Rep E ad V M) (hL : (Li, g) ∈ listL) (h0 : ¬ x < 0) (hi : x.toNatClampNeg < cntV V Li) : Ct E l yJx4a65c_get_915e3 cJx4a65c_get_915e3 2 (some (.object "java/lang/Object")) (rmD 3) [.ref (ad Li 0), .int x] M (fun v M' => v = some (rfq ad g x) ∧ Rep E ad V M') := by
  obtain ⟨hn, mc, d, h1, h2⟩ := hR.2.2 Li g hL
  have hbig : ¬ Li < 1000 := Nat.not_lt.mpr (list_big _ hL)
  have hi2 : x.toNatClampNeg < (V Li 0 0).toNatClampNeg := by
    unfold cntV at hi
    rwa [if_neg hbig] at hi
  have hlt := clamp_lt h0 hn hi2
  rcases h2 with ⟨-, h2⟩ | ⟨h2, rfl, cap, f, h3, h4, h5, h6⟩
  · rw [h2] at hi2; exact absurd hi2 (Nat.not_lt_zero _)
  · have hf : va_rf (f x.toNatClampNeg) = rfq ad g x := by rw [h6 _ hi2, rfq_pos h0]; rfl
    refine Ct.of (own := RJx4a65c) (ini := false) (L := [some (.ref (ad Li 0)), some (.int x)]) rfl rfl (fun h => by cases h) rfl (Nat.le_of_ble_eq_true rfl) rfl (fun X _ => ?_)
    refine r_iload_n DJx4a65c_get_915e3_0 rfl ?_
    refine r_aload_n DJx4a65c_get_915e3_1 rfl ?_
    refine r_get DJx4a65c_get_915e3_2 fl_Jx4a65c_48 h1 rfl ?_
    refine r_callS (As := [.int x, .int (V Li 0 0)]) (rest := []) DJx4a65c_get_915e3_5 cs_Jx4a65c_118 (C_oci (cxL X) h0 hlt) rfl (fitD (by decide) (by decide)) rfl (Nat.le_of_ble_eq_true rfl) ?_
    rintro v M' ⟨rfl, rfl⟩
    refine r_pop (v := .int x) (st := []) DJx4a65c_get_915e3_8 rfl ?_
    refine r_aload_n DJx4a65c_get_915e3_9 rfl ?_
    refine r_iload_n DJx4a65c_get_915e3_10 rfl ?_
    refine r_callV (As := [.int x]) (rest := []) DJx4a65c_get_915e3_11 cv_Jx4a65c_123 h1 rfl (C_eld (cxL X) h1 h3 ?_) rfl (fitD (by decide) (by decide)) rfl (Nat.le_of_ble_eq_true rfl) ?_
    · intro z
      rcases z with z | z
      · exact h0 z
      · omega
    · rintro v M' ⟨rfl, rfl⟩
      exact r_aret DJx4a65c_get_915e3_14 rfl (Or.inl ⟨_, rfl⟩) (by rw [hf]; exact rfq_or _ _ _) ⟨Nat.le_refl 0, Nat.le_refl 0⟩ ⟨by rw [hf], hR⟩
theorem C_lsize {E : EN} {ad : AD} {V : St} {M : MH} {Li g : Nat} (l : Launch) (hR : Rep E ad V M) (hL : (Li, g) ∈ listL) : Ct E l yJx4a65c_size_8abf5 cJx4a65c_size_8abf5 1 (some .int) (rmD 1) [.ref (ad Li 0)] M (fun v M' => v = some (.int (V Li 0 0)) ∧ Rep E ad V M') := by
  obtain ⟨hn, mc, d, h1, h2⟩ := hR.2.2 Li g hL
  refine Ct.of (own := RJx4a65c) (ini := false) (L := [some (.ref (ad Li 0))]) rfl rfl (fun h => by cases h) rfl (Nat.le_of_ble_eq_true rfl) rfl (fun X _ => ?_)
  refine r_aload_n DJx4a65c_size_8abf5_0 rfl ?_
  refine r_get DJx4a65c_size_8abf5_1 fl_Jx4a65c_48 h1 rfl ?_
  exact r_iret DJx4a65c_size_8abf5_4 rfl ⟨Nat.le_refl 0, Nat.le_refl 0⟩ ⟨rfl, hR⟩
theorem acmp_in {E : EN} {ad : AD} {V : St} {M : MH} {c b : Nat} {kd ci : Nat} {ds : List (Nat × Nat × Nat)} {x y : Int32} (hR : Rep E ad V M) (ht : ctab c = some (kd, ci, b, ds)) (hx : x < 0 ∨ x.toNatClampNeg < cntV V b) (hy : y.toNatClampNeg < cntV V b) : ∀ i j : Nat, i = x.toNatClampNeg → j = y.toNatClampNeg → ¬ x < 0 → ¬ y < 0 → ad c i = ad c j → i = j := by
  rintro i j rfl rfl h1 h2 h3
  exact (hR.2.1 c c _ _ (Or.inl ⟨_, ht, hx.resolve_left h1⟩) (Or.inl ⟨_, ht, hy⟩) h3).2
section T12
variable {E : EN} {X : CX} {own : String} {cc : ByteArray} {nl : Nat} {ret : Option FieldType} {ini : Bool} {rm : Room} {P : Option Value → MH → Prop} {M : MH} {L L' : List (Option Value)} {kc ks pc pc' tgt : Nat} {st : List Value} {ad : AD} {V : St} {idx ci k c v i b d : Nat} {ds : List (Nat × Nat × Nat)} {x0 : Int32}
theorem s_lsize {Li g : Nat} (hd : Dk cc pc (.invokevirtual idx) 3 pc') (hw : CVW own idx yJx4a65c_size_8abf5.cls yJx4a65c_size_8abf5 cJx4a65c_size_8abf5 1 (some .int) 0) (hR : Rep E ad V M) (hL : (Li, g) ∈ listL) (hF : 2 ≤ d) (hr : (st.map fun v => v.category).sum ≤ 8) (K : G E X own cc nl ret ini (rmD d) P M L 0 0 pc' (.int (V Li 0 0) :: st)) : G E X own cc nl ret ini (rmD d) P M L 0 0 pc (.ref (ad Li 0) :: st) := by
  obtain ⟨hn, mc, dd, h1, h2⟩ := id (hR.2.2 Li g hL)
  refine r_callV (As := []) (rest := st) (P' := fun v M' => v = some (.int (V Li 0 0)) ∧ M' = M) hd hw h1 rfl ?_ rfl (fitD hF (by decide)) rfl hr ?_
  · refine Ct.of (own := RJx4a65c) (ini := false) (L := [some (.ref (ad Li 0))]) rfl rfl (fun h => by cases h) rfl (Nat.le_of_ble_eq_true rfl) rfl (fun X _ => ?_)
    refine r_aload_n DJx4a65c_size_8abf5_0 rfl ?_
    refine r_get DJx4a65c_size_8abf5_1 fl_Jx4a65c_48 h1 rfl ?_
    exact r_iret DJx4a65c_size_8abf5_4 rfl ⟨Nat.le_refl 0, Nat.le_refl 0⟩ ⟨rfl, rfl⟩
  · rintro v M' ⟨rfl, rfl⟩
    exact K
theorem s_lget {Li g : Nat} (hd : Dk cc pc (.invokevirtual idx) 3 pc') (hw : CVW own idx yJx4a65c_get_915e3.cls yJx4a65c_get_915e3 cJx4a65c_get_915e3 2 (some (.object "java/lang/Object")) 1) (hR : Rep E ad V M) (hL : (Li, g) ∈ listL) (hx : ¬ x0 < 0) (hi : x0.toNatClampNeg < cntV V Li) (hF : 4 ≤ d) (hr : (st.map fun v => v.category).sum ≤ 8) (K : ∀ M : MH, Rep E ad V M → G E X own cc nl ret ini (rmD d) P M L 0 0 pc' (rfq ad g x0 :: st)) : G E X own cc nl ret ini (rmD d) P M L 0 0 pc (.int x0 :: .ref (ad Li 0) :: st) := by
  obtain ⟨hn, mc, dd, h1, h2⟩ := id (hR.2.2 Li g hL)
  refine r_callV (As := [.int x0]) (rest := st) hd hw h1 rfl (C_lget (cxL X) hR hL hx hi) rfl (fitD hF (by decide)) rfl hr ?_
  rintro v M' ⟨rfl, hR'⟩
  exact K M' hR'
theorem r_cast {a : Nat} {fs : List Value} {Cn : String} {T : u_T} {N : Nat} (hd : Dk cc pc (.checkcast idx) 3 pc') (hw : Cond.classLink own idx Cn ∈ lw_ok) (hM : M a = some (.inr (ci, fs))) (hc : classes[ci]? = some (Cn, T, N)) (K : G E X own cc nl ret ini rm P M L kc ks pc' (.ref a :: st)) : G E X own cc nl ret ini rm P M L kc ks pc (.ref a :: st) := by
  intro C H locs ls ws hP hD hV hS hl
  obtain ⟨hd, rfl⟩ := hd
  obtain ⟨j, hj⟩ := hV a _ hM
  exact va_castS C.1 C.2.1 C.2.2.2.1 (C.2.2.2.2.1 _ hw) (C.kk.1.1 ci _ hc).2 (va_recv C.kk.1 hP hc hj) hd (K C H locs ls ws hP hD hV hS hl)
theorem q_cast {Cn : String} {T : u_T} {N : Nat} (hx : ¬ x0 < 0) (hd : Dk cc pc (.checkcast idx) 3 pc') (hw : Cond.classLink own idx Cn ∈ lw_ok) (hR : Rep E ad V M) (ht : ctab c = some (0, ci, b, ds)) (hi : x0.toNatClampNeg < cntV V b) (hc : classes[ci]? = some (Cn, T, N)) (K : G E X own cc nl ret ini rm P M L kc ks pc' (rfq ad c x0 :: st)) : G E X own cc nl ret ini rm P M L kc ks pc (rfq ad c x0 :: st) := by
  rw [rfq_pos hx] at K ⊢
  exact r_cast hd hw (hR.obj ht hi) hc K
theorem r_gets {Cn n d : String} {v : Value} (hd : Dk cc pc (.getstatic idx) 3 pc') (hw : Cond.fieldLink own idx Cn n d ∈ lw_ok) (hZ : Gnd E (cxS X) → va_Z Cn n d v (eA3 E) (cxS X) (cxS X).heap) (K : G E X own cc nl ret ini rm P M L kc ks pc' (v :: st)) : G E X own cc nl ret ini rm P M L kc ks pc st := by
  intro C H locs ls ws hP hD hV hS hl
  obtain ⟨hd, rfl⟩ := hd
  exact va_gets C.1 C.2.1 (hZ C.2.2.2.2.2.2.2.2.2.2) hS C.2.2.2.1 (C.2.2.2.2.1 _ hw) (fun _ h => h) hd (K C H locs ls ws hP hD hV hS hl)
theorem s_gets0 (hd : Dk cc pc (.getstatic idx) 3 pc') (hw : Cond.fieldLink own idx "UtilityBoard$Drawing" "BORNE" "[I" ∈ lw_ok) (K : G E X own cc nl ret ini rm P M L kc ks pc' (.ref (eT E 0) :: st)) : G E X own cc nl ret ini rm P M L kc ks pc st := r_gets hd hw (fun g => g.1) K
theorem s_gets1 (hd : Dk cc pc (.getstatic idx) 3 pc') (hw : Cond.fieldLink own idx "UtilityBoard$Drawing" "USED" "[I" ∈ lw_ok) (K : G E X own cc nl ret ini rm P M L kc ks pc' (.ref (eT E 1) :: st)) : G E X own cc nl ret ini rm P M L kc ks pc st := r_gets hd hw (fun g => g.2.2.1) K
theorem s_gald0 {x : Int32} (hd : Dk cc pc .iaload 1 pc') (hin : vp_in x 3) (K : G E X own cc nl ret ini rm P M L kc ks pc' (.int (gT0 x) :: st)) : G E X own cc nl ret ini rm P M L kc ks pc (.int x :: .ref (eT E 0) :: st) := by
  intro C H locs ls ws hP hD hV hS hl
  obtain ⟨hd, rfl⟩ := hd
  exact va_ti C.1 C.2.1 C.2.2.2.2.2.2.2.2.2.2.2.1 hS hin rfl hd (K C H locs ls ws hP hD hV hS hl)
theorem s_gald1 {x : Int32} (hd : Dk cc pc .iaload 1 pc') (hin : vp_in x 3) (K : G E X own cc nl ret ini rm P M L kc ks pc' (.int (gT1 x) :: st)) : G E X own cc nl ret ini rm P M L kc ks pc (.int x :: .ref (eT E 1) :: st) := by
  intro C H locs ls ws hP hD hV hS hl
  obtain ⟨hd, rfl⟩ := hd
  exact va_ti C.1 C.2.1 C.2.2.2.2.2.2.2.2.2.2.2.2.2.1 hS hin rfl hd (K C H locs ls ws hP hD hV hS hl)
theorem s_putT {g : Nat} {ty : FieldType} (hd : Dk cc pc (.putfield idx) 3 pc') (hf : FP own idx ci k ty) (hR : Rep E ad V M) (ho : okS v c k = true) (ht : ctab c = some (0, ci, b, ds)) (hi : i < cntV V b) (hk : ds[k]? = some (3, v, g)) (hn : ∀ a : Nat, narrow ty (.ref a) = .ref a) (hf2 : ∀ a : Nat, fits ty (.ref a) = true) (K : ∀ M' : MH, Rep E ad (setV V v i 0 0) M' → G E X own cc nl ret ini rm P M' L kc ks pc' st) : G E X own cc nl ret ini rm P M L kc ks pc (.ref (ad g 0) :: .ref (ad c i) :: st) :=
  s_putq (n := 0) (x := 0) hd hf hR ho ht hi hk (by rw [if_neg (by decide)]; rfl) (hn _) (hf2 _) K
theorem q_bald {a : Nat} {x : Int32} (hx : ¬ x0 < 0) (hd : Dk cc pc .baload 1 pc') (hR : Rep E ad V M) (ht : ctab c = some (2, a, b, ds)) (hi : x0.toNatClampNeg < cntV V b) (hin : vp_in x (lenV V a x0.toNatClampNeg)) (K : G E X own cc nl ret ini rm P M L kc ks pc' (.int (V c x0.toNatClampNeg x.toNatClampNeg) :: st)) : G E X own cc nl ret ini rm P M L kc ks pc (.int x :: rfq ad c x0 :: st) := by
  rw [rfq_pos hx]; exact s_bald hd hR ht hi hin K
end T12
section T12b
variable {E : EN} {X : CX} {own : String} {cc : ByteArray} {nl : Nat} {ret : Option FieldType} {ini : Bool} {P : Option Value → MH → Prop} {M : MH} {L : List (Option Value)} {pc pc' d : Nat} {st : List Value} {idx : Nat} {x y : Int32}
theorem r_mmax (hd : Dk cc pc (.invokestatic idx) 3 pc') (hw : Cond.methodLink own idx yJ9_max_7cf53 ∈ lw_ok) (hF : 1 ≤ d) (hr : (st.map fun v => v.category).sum ≤ 8) (K : G E X own cc nl ret ini (rmD d) P M L 0 0 pc' (.int (if x < y then y else x) :: st)) : G E X own cc nl ret ini (rmD d) P M L 0 0 pc (.int y :: .int x :: st) := by
  intro C H locs ls ws hP hD hV hS hl
  obtain ⟨hd, rfl⟩ := hd
  have hloc : (st.map fun v => v.category).sum + 13 ≤ (rmD d).locals := by show _ ≤ 60 * d; omega
  exact va_mmax C.1 C.2.1 (C.2.2.1.trans hl.1.symm) C.2.2.2.1 (C.2.2.2.2.1 _ hw) (C.2.2.2.2.1 _ wt_J9_max_7cf53) (C.2.2.2.2.1 _ wi_J9_max_7cf53) (C.2.2.2.2.1 _ wc_J9_max_7cf53) hF hloc (Nat.le_refl 0) (Nat.le_refl 0) hd (K C H locs ls ws hP hD hV hS hl)
theorem r_mmin (hd : Dk cc pc (.invokestatic idx) 3 pc') (hw : Cond.methodLink own idx yJ9_min_7cf53 ∈ lw_ok) (hF : 1 ≤ d) (hr : (st.map fun v => v.category).sum ≤ 8) (K : G E X own cc nl ret ini (rmD d) P M L 0 0 pc' (.int (if y < x then y else x) :: st)) : G E X own cc nl ret ini (rmD d) P M L 0 0 pc (.int y :: .int x :: st) := by
  intro C H locs ls ws hP hD hV hS hl
  obtain ⟨hd, rfl⟩ := hd
  have hloc : (st.map fun v => v.category).sum + 13 ≤ (rmD d).locals := by show _ ≤ 60 * d; omega
  exact va_mmin C.1 C.2.1 (C.2.2.1.trans hl.1.symm) C.2.2.2.1 (C.2.2.2.2.1 _ hw) (C.2.2.2.2.1 _ wt_J9_min_7cf53) (C.2.2.2.2.1 _ wi_J9_min_7cf53) (C.2.2.2.2.1 _ wc_J9_min_7cf53) hF hloc (Nat.le_refl 0) (Nat.le_refl 0) hd (K C H locs ls ws hP hD hV hS hl)
end T12b
