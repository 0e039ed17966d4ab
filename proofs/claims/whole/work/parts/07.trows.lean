theorem gd_inv {c : Prop} [Decidable c] {a : RR} {o : Int32 × St} (h : gd c a = some o) : c ∧ a = some o := by
  unfold gd at h
  by_cases hc : c
  · rw [if_pos hc] at h; exact ⟨hc, h⟩
  · rw [if_neg hc] at h; cases h
theorem bd_inv {m : RR} {k : Int32 → St → RR} {o : Int32 × St} (h : bd m k = some o) : ∃ (r : Int32) (V : St), m = some (r, V) ∧ k r V = some o := by
  cases m with
  | none => cases h
  | some p => exact ⟨p.1, p.2, rfl, h⟩
theorem bv_inv {x : St} {k : St → RR} {o : Int32 × St} (h : bv x k = some o) : ∃ V : St, x = V ∧ k V = some o := ⟨x, rfl, h⟩
theorem if_t {c : Prop} [Decidable c] {a b : RR} {o : Int32 × St} (hc : c) (h : (if c then a else b) = some o) : a = some o := by rw [if_pos hc] at h; exact h
theorem if_f {c : Prop} [Decidable c] {a b : RR} {o : Int32 × St} (hc : ¬ c) (h : (if c then a else b) = some o) : b = some o := by rw [if_neg hc] at h; exact h
/-- a reference to object x of a group; below 0: null -/
def rfq (ad : AD) (g : Nat) (x : Int32) : Value := if x < 0 then .null else .ref (ad g x.toNatClampNeg)
theorem rfq_pos {ad : AD} {g : Nat} {x : Int32} (h : ¬ x < 0) : rfq ad g x = .ref (ad g x.toNatClampNeg) := if_neg h
theorem rfq_neg {ad : AD} {g : Nat} {x : Int32} (h : x < 0) : rfq ad g x = .null := if_pos h
theorem rfq_or (ad : AD) (g : Nat) (x : Int32) : rfq ad g x = .null ∨ ∃ a, rfq ad g x = .ref a := by
  by_cases h : x < 0
  · exact Or.inl (rfq_neg h)
  · exact Or.inr ⟨_, rfq_pos h⟩
theorem nz_nar {v : Int32} (h : v = 0 ∨ v = 1) : narrow .boolean (.int v) = .int v := by
  rcases h with rfl | rfl <;> rfl
theorem nz_fit {v : Int32} (h : v = 0 ∨ v = 1) : fits .boolean (.int v) = true := by
  rcases h with rfl | rfl <;> rfl
theorem nz_vp {v : Int32} (h : v = 0 ∨ v = 1) : vp_nar .boolean v = v := by
  rcases h with rfl | rfl <;> rfl
theorem cnt_keep {V V' : St} {b v i i0 j : Nat} {x : Int32} (hV : setV V v i0 j x = V') (hb : b ≠ v) (h : i < cntV V b) : i < cntV V' b := by
  rw [← hV, cntV_set hb]; exact h
theorem Rep.cg {E : EN} {ad : AD} {V V' : St} {M : MH} (h : Rep E ad V M) (e : V = V') : Rep E ad V' M := e ▸ h
def rmD (d : Nat) : Room := { frames := d, cells := 0, slots := 0, locals := 60 * d }
theorem fitD {d' d nl' : Nat} (h : d' + 1 ≤ d) (hn : nl' ≤ 41) : fitR (rmD d') nl' (rmD d) 0 0 := by
  refine ⟨h, ?_, Nat.le_refl 0, Nat.le_refl 0⟩
  show 8 + (nl' + 11) + 60 * d' ≤ 60 * d
  omega
section T7
variable {E : EN} {X : CX} {own : String} {cc : ByteArray} {nl : Nat} {ret : Option FieldType} {ini : Bool} {rm : Room} {P : Option Value → MH → Prop} {M : MH} {L L' : List (Option Value)} {kc ks pc pc' tgt : Nat} {st : List Value} {ad : AD} {V : St} {idx ci k c v i b : Nat} {ds : List (Nat × Nat × Nat)}
theorem t_istore_n {k : Fin 4} {v : Int32} (hd : Dk cc pc (.istore_n k) 1 pc') (hk : (k : Nat) < nl) (hL : L.set k (some (.int v)) = L') (K : G E X own cc nl ret ini rm P M L' kc ks pc' st) : G E X own cc nl ret ini rm P M L kc ks pc (.int v :: st) := r_istore_n hd hk (hL ▸ K)
theorem t_istore {k : Nat} {v : Int32} (hd : Dk cc pc (.istore k) 2 pc') (hk : k < nl) (hL : L.set k (some (.int v)) = L') (K : G E X own cc nl ret ini rm P M L' kc ks pc' st) : G E X own cc nl ret ini rm P M L kc ks pc (.int v :: st) := r_istore hd hk (hL ▸ K)
theorem t_iinc {k : Nat} {n : Int} {x v : Int32} (hd : Dk cc pc (.iinc k n) 3 pc') (hv : L[k]? = some (some (.int x))) (hx : Int32.ofInt n = v) (hk : k < nl) (hL : L.set k (some (.int (x + v))) = L') (K : G E X own cc nl ret ini rm P M L' kc ks pc' st) : G E X own cc nl ret ini rm P M L kc ks pc st := r_iinc hd hv hx hk (hL ▸ K)
theorem t_astore_n {k : Fin 4} {w : Value} (hw : w = .null ∨ ∃ a, w = .ref a) (hd : Dk cc pc (.astore_n k) 1 pc') (hk : (k : Nat) < nl) (hL : L.set k (some w) = L') (K : G E X own cc nl ret ini rm P M L' kc ks pc' st) : G E X own cc nl ret ini rm P M L kc ks pc (w :: st) := by
  rcases hw with rfl | ⟨a, rfl⟩
  · exact r_astore_nN hd hk (hL ▸ K)
  · exact r_astore_n hd hk (hL ▸ K)
theorem t_astore {k : Nat} {w : Value} (hw : w = .null ∨ ∃ a, w = .ref a) (hd : Dk cc pc (.astore k) 2 pc') (hk : k < nl) (hL : L.set k (some w) = L') (K : G E X own cc nl ret ini rm P M L' kc ks pc' st) : G E X own cc nl ret ini rm P M L kc ks pc (w :: st) := by
  rcases hw with rfl | ⟨a, rfl⟩
  · exact r_astoreN hd hk (hL ▸ K)
  · exact r_astore hd hk (hL ▸ K)
theorem t_aload_n {k : Fin 4} {w : Value} (hw : w = .null ∨ ∃ a, w = .ref a) (hd : Dk cc pc (.aload_n k) 1 pc') (hv : L[(k : Nat)]? = some (some w)) (K : G E X own cc nl ret ini rm P M L kc ks pc' (w :: st)) : G E X own cc nl ret ini rm P M L kc ks pc st := by
  rcases hw with rfl | ⟨a, rfl⟩
  · exact r_aload_nN hd hv K
  · exact r_aload_n hd hv K
theorem t_aload {k : Nat} {w : Value} (hw : w = .null ∨ ∃ a, w = .ref a) (hd : Dk cc pc (.aload k) 2 pc') (hv : L[k]? = some (some w)) (K : G E X own cc nl ret ini rm P M L kc ks pc' (w :: st)) : G E X own cc nl ret ini rm P M L kc ks pc st := by
  rcases hw with rfl | ⟨a, rfl⟩
  · exact r_aloadN hd hv K
  · exact r_aload hd hv K
theorem q_null {g : Nat} (hd : Dk cc pc .aconst_null 1 pc') (K : G E X own cc nl ret ini rm P M L kc ks pc' (rfq ad g (-1) :: st)) : G E X own cc nl ret ini rm P M L kc ks pc st := by
  rw [rfq_neg (show (-1 : Int32) < 0 by decide)] at K
  exact r_null hd K
theorem q_ifnull {g : Nat} {x : Int32} {off : Int} (hd : Db cc pc (.ifnull off) off pc' tgt) (kt : x < 0 → G E X own cc nl ret ini rm P M L kc ks tgt st) (kf : ¬ x < 0 → G E X own cc nl ret ini rm P M L kc ks pc' st) : G E X own cc nl ret ini rm P M L kc ks pc (rfq ad g x :: st) := by
  by_cases h : x < 0
  · rw [rfq_neg h]; exact r_ifnullN hd (kt h)
  · rw [rfq_pos h]; exact r_ifnull hd (kf h)
theorem q_ifnonnull {g : Nat} {x : Int32} {off : Int} (hd : Db cc pc (.ifnonnull off) off pc' tgt) (kt : ¬ x < 0 → G E X own cc nl ret ini rm P M L kc ks tgt st) (kf : x < 0 → G E X own cc nl ret ini rm P M L kc ks pc' st) : G E X own cc nl ret ini rm P M L kc ks pc (rfq ad g x :: st) := by
  by_cases h : x < 0
  · rw [rfq_neg h]; exact r_ifnonnullN hd (kf h)
  · rw [rfq_pos h]; exact r_ifnonnull hd (kt h)
theorem q_acmp_ne {g : Nat} {x y : Int32} {off : Int} (hin : ∀ i j : Nat, i = x.toNatClampNeg → j = y.toNatClampNeg → ¬ x < 0 → ¬ y < 0 → ad g i = ad g j → i = j) (hx : ¬ y < 0) (hd : Db cc pc (.if_acmp .ne off) off pc' tgt) (kt : ¬ x = y → G E X own cc nl ret ini rm P M L kc ks tgt st) (kf : x = y → G E X own cc nl ret ini rm P M L kc ks pc' st) : G E X own cc nl ret ini rm P M L kc ks pc (rfq ad g y :: rfq ad g x :: st) := by
  have ty : rfq ad g y = va_rf (some (ad g y.toNatClampNeg)) := rfq_pos hx
  by_cases h : x < 0
  · have tx : rfq ad g x = va_rf none := rfq_neg h
    rw [tx, ty]
    exact r_acmp_ne hd (fun _ => kt (fun e => hx (e ▸ h))) (fun q => by cases q)
  · have tx : rfq ad g x = va_rf (some (ad g x.toNatClampNeg)) := rfq_pos h
    rw [tx, ty]
    refine r_acmp_ne hd (fun q => kt (fun e => q (by rw [e]))) (fun q => kf ?_)
    have e1 := hin _ _ rfl rfl h hx (Option.some.inj q)
    have i1 : x.toInt = (x.toNatClampNeg : Int) := by
      have : ¬ x.toInt < 0 := fun z => h (Int32.lt_iff_toInt_lt.mpr (by simpa using z))
      show x.toInt = (x.toInt.toNat : Int)
      omega
    have i2 : y.toInt = (y.toNatClampNeg : Int) := by
      have : ¬ y.toInt < 0 := fun z => hx (Int32.lt_iff_toInt_lt.mpr (by simpa using z))
      show y.toInt = (y.toInt.toNat : Int)
      omega
    exact Int32.toInt_inj.mp (by rw [i1, i2, e1])
variable {x0 : Int32}
theorem q_geti (hx : ¬ x0 < 0) (hd : Dk cc pc (.getfield idx) 3 pc') (hf : FL own idx ci k) (hR : Rep E ad V M) (ht : ctab c = some (0, ci, b, ds)) (hi : x0.toNatClampNeg < cntV V b) (hk : ds[k]? = some (0, v, 0)) (K : G E X own cc nl ret ini rm P M L kc ks pc' (.int (V v x0.toNatClampNeg 0) :: st)) : G E X own cc nl ret ini rm P M L kc ks pc (rfq ad c x0 :: st) := by
  rw [rfq_pos hx]; exact s_geti hd hf hR ht hi hk K
theorem q_geta (hx : ¬ x0 < 0) (hd : Dk cc pc (.getfield idx) 3 pc') (hf : FL own idx ci k) (hR : Rep E ad V M) (ht : ctab c = some (0, ci, b, ds)) (hi : x0.toNatClampNeg < cntV V b) (hk : ds[k]? = some (1, v, 0)) (K : G E X own cc nl ret ini rm P M L kc ks pc' (.ref (ad v x0.toNatClampNeg) :: st)) : G E X own cc nl ret ini rm P M L kc ks pc (rfq ad c x0 :: st) := by
  rw [rfq_pos hx]; exact s_geta hd hf hR ht hi hk K
theorem q_getq {g : Nat} (hx : ¬ x0 < 0) (hd : Dk cc pc (.getfield idx) 3 pc') (hf : FL own idx ci k) (hR : Rep E ad V M) (ht : ctab c = some (0, ci, b, ds)) (hi : x0.toNatClampNeg < cntV V b) (hk : ds[k]? = some (3, v, g)) (K : G E X own cc nl ret ini rm P M L kc ks pc' (rfq ad g (V v x0.toNatClampNeg 0) :: st)) : G E X own cc nl ret ini rm P M L kc ks pc (rfq ad c x0 :: st) := by
  rw [rfq_pos hx]; exact s_getq hd hf hR ht hi hk K
theorem q_puti {ty : FieldType} {x : Int32} (hx : ¬ x0 < 0) (hd : Dk cc pc (.putfield idx) 3 pc') (hf : FP own idx ci k ty) (hR : Rep E ad V M) (ho : okS v c k = true) (ht : ctab c = some (0, ci, b, ds)) (hi : x0.toNatClampNeg < cntV V b) (hk : ds[k]? = some (0, v, 0)) (hn : narrow ty (.int x) = .int x) (hfit : fits ty (.int x) = true) (K : ∀ M' : MH, Rep E ad (setV V v x0.toNatClampNeg 0 x) M' → G E X own cc nl ret ini rm P M' L kc ks pc' st) : G E X own cc nl ret ini rm P M L kc ks pc (.int x :: rfq ad c x0 :: st) := by
  rw [rfq_pos hx]; exact s_puti hd hf hR ho ht hi hk hn hfit K
theorem s_putQ {g : Nat} {ty : FieldType} {x : Int32} (hd : Dk cc pc (.putfield idx) 3 pc') (hf : FP own idx ci k ty) (hR : Rep E ad V M) (ho : okS v c k = true) (ht : ctab c = some (0, ci, b, ds)) (hi : i < cntV V b) (hk : ds[k]? = some (3, v, g)) (hn : ∀ a : Nat, narrow ty (.ref a) = .ref a ∧ fits ty (.ref a) = true) (hn0 : narrow ty .null = .null ∧ fits ty .null = true) (K : ∀ M' : MH, Rep E ad (setV V v i 0 x) M' → G E X own cc nl ret ini rm P M' L kc ks pc' st) : G E X own cc nl ret ini rm P M L kc ks pc (rfq ad g x :: .ref (ad c i) :: st) := by
  have h2 : narrow ty (rfq ad g x) = rfq ad g x ∧ fits ty (rfq ad g x) = true := by
    rcases rfq_or ad g x with e | ⟨a, e⟩
    · rw [e]; exact hn0
    · rw [e]; exact hn a
  exact s_putq (n := 0) hd hf hR ho ht hi hk rfl h2.1 h2.2 K
variable {n : Nat} {Cn : String} {T : u_T} {N : Nat} {y : MethodName} {cc' : ByteArray} {nl' d d' : Nat} {ret' : Option FieldType} {As rest st1 : List Value} {a : Nat} {w : Option Value} {V1 : St}
/-- calls of methods that make nothing, over the typed state -/
theorem k_callV (hd : Dk cc pc (.invokevirtual idx) 3 pc') (hw : CVW own idx Cn y cc' nl' ret' n) (hR : Rep E ad V M) (ht : ctab c = some (0, ci, b, ds)) (hi : i < cntV V b) (hc : classes[ci]? = some (Cn, T, N)) (hC : Ct E (cxL X) y cc' nl' ret' (rmD d') (.ref (ad c i) :: As) M (fun v M' => v = w ∧ Rep E ad V1 M')) (hn : As.length = n) (hF : d' + 1 ≤ d) (hl : nl' ≤ 41) (hs : st = As.reverse ++ .ref (ad c i) :: rest) (hr : (rest.map fun v => v.category).sum ≤ 8) (hs1 : w.toList ++ rest = st1)
    (K : ∀ M' : MH, Rep E ad V1 M' → G E X own cc nl ret ini (rmD d) P M' L 0 0 pc' st1) : G E X own cc nl ret ini (rmD d) P M L 0 0 pc st := by
  refine r_callV hd hw (hR.obj ht hi) hc hC hn (fitD hF hl) hs hr ?_
  rintro v M' ⟨rfl, hR'⟩
  rw [hs1]
  exact K M' hR'
theorem k_callQ (hx : ¬ x0 < 0) (hd : Dk cc pc (.invokevirtual idx) 3 pc') (hw : CVW own idx Cn y cc' nl' ret' n) (hR : Rep E ad V M) (ht : ctab c = some (0, ci, b, ds)) (hi : x0.toNatClampNeg < cntV V b) (hc : classes[ci]? = some (Cn, T, N)) (hC : Ct E (cxL X) y cc' nl' ret' (rmD d') (rfq ad c x0 :: As) M (fun v M' => v = w ∧ Rep E ad V1 M')) (hn : As.length = n) (hF : d' + 1 ≤ d) (hl : nl' ≤ 41) (hs : st = As.reverse ++ rfq ad c x0 :: rest) (hr : (rest.map fun v => v.category).sum ≤ 8) (hs1 : w.toList ++ rest = st1)
    (K : ∀ M' : MH, Rep E ad V1 M' → G E X own cc nl ret ini (rmD d) P M' L 0 0 pc' st1) : G E X own cc nl ret ini (rmD d) P M L 0 0 pc st := by
  rw [rfq_pos hx] at hC hs
  exact k_callV hd hw hR ht hi hc hC hn hF hl hs hr hs1 K
theorem k_callS (hd : Dk cc pc (.invokestatic idx) 3 pc') (hw : CSW own idx y cc' nl' ret' n) (hC : Ct E (cxL X) y cc' nl' ret' (rmD d') As M (fun v M' => v = w ∧ Rep E ad V1 M')) (hn : As.length = n) (hF : d' + 1 ≤ d) (hl : nl' ≤ 41) (hs : st = As.reverse ++ rest) (hr : (rest.map fun v => v.category).sum ≤ 8) (hs1 : w.toList ++ rest = st1)
    (K : ∀ M' : MH, Rep E ad V1 M' → G E X own cc nl ret ini (rmD d) P M' L 0 0 pc' st1) : G E X own cc nl ret ini (rmD d) P M L 0 0 pc st := by
  refine r_callS hd hw hC hn (fitD hF hl) hs hr ?_
  rintro v M' ⟨rfl, hR'⟩
  rw [hs1]
  exact K M' hR'
theorem k_callSN {host : String} (hd : Dk cc pc (.invokestatic idx) 3 pc') (hw : CSN own idx y host cc' nl' ret' n) (hC : Ct E (cxL X) y cc' nl' ret' (rmD d') As M (fun v M' => v = w ∧ Rep E ad V1 M')) (hn : As.length = n) (hF : d' + 1 ≤ d) (hl : nl' ≤ 41) (hs : st = As.reverse ++ rest) (hr : (rest.map fun v => v.category).sum ≤ 8) (hs1 : w.toList ++ rest = st1)
    (K : ∀ M' : MH, Rep E ad V1 M' → G E X own cc nl ret ini (rmD d) P M' L 0 0 pc' st1) : G E X own cc nl ret ini (rmD d) P M L 0 0 pc st := by
  refine r_callSN hd hw hC hn (fitD hF hl) hs hr ?_
  rintro v M' ⟨rfl, hR'⟩
  rw [hs1]
  exact K M' hR'
end T7
