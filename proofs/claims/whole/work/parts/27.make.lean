/-! calls in methods that make objects -/
theorem rfq_ad {ad ad' : AD} {g : Nat} {x : Int32} (h : ∀ i, ad' g i = ad g i) : rfq ad g x = rfq ad' g x := by
  unfold rfq
  by_cases hx : x < 0
  · rw [if_pos hx, if_pos hx]
  · rw [if_neg hx, if_neg hx, h]
theorem mkOK_of {V : St} {Li : Nat} (h : mkOK V Li = true) : (V Li 0 0).toNatClampNeg ≤ 1000 ∧ QR V := by
  unfold mkOK at h
  rw [Bool.and_eq_true] at h
  have h2 := h.2
  unfold qrb at h2
  rw [decide_eq_true_eq] at h2
  exact ⟨Nat.le_of_ble_eq_true h.1, h2⟩
theorem Rep.more {E : EN} {ad : AD} {V : St} {M M' : MH} (hR : Rep E ad V M) (h : ∀ x, M x ≠ none → M' x = M x) : Rep E ad V M' := by
  refine ⟨fun c t i hc hi => ?_, hR.2.1, fun Li g hL => ?_⟩
  · have := hR.1 c t i hc hi
    rw [h _ (by rw [this]; exact Option.some_ne_none _)]; exact this
  · obtain ⟨q0, mc, d, q1, q2⟩ := hR.2.2 Li g hL
    refine ⟨q0, mc, d, by rw [h _ (by rw [q1]; exact Option.some_ne_none _)]; exact q1, ?_⟩
    rcases q2 with q2 | ⟨q2, rfl, cap, f, q3, q4⟩
    · exact Or.inl q2
    · exact Or.inr ⟨q2, rfl, cap, f, by rw [h _ (by rw [q3]; exact Option.some_ne_none _)]; exact q3, q4⟩
theorem Rep.new {E : EN} {ad : AD} {V : St} {M : MH} {q : Nat} {e : va_E} (hR : Rep E ad V M) (hq : M q = none) : Rep E ad V (mset M q e) :=
  hR.more (fun x hx => mset_ne _ _ (fun z => hx (by rw [z]; exact hq)))
section MKC
variable {E : EN} {X : CX} {own : String} {cc : ByteArray} {nl : Nat} {ret : Option FieldType} {ini : Bool} {P : Option Value → MH → Prop} {M : MH} {L : List (Option Value)} {kc ks pc pc' d cR sR : Nat} {st : List Value} {ad : AD} {V V1 : St} {idx ci c i b : Nat} {ds : List (Nat × Nat × Nat)} {x0 : Int32}
variable {n : Nat} {Cn : String} {T : u_T} {N : Nat} {y : MethodName} {cc' : ByteArray} {nl' d' : Nat} {ret' : Option FieldType} {As rest st1 : List Value} {w : Option Value}
theorem m_callV (hd : Dk cc pc (.invokevirtual idx) 3 pc') (hw : CVW own idx Cn y cc' nl' ret' n) (hR : Rep E ad V M) (ht : ctab c = some (0, ci, b, ds)) (hi : i < cntV V b) (hc : classes[ci]? = some (Cn, T, N)) (hC : Ct E (cxL X) y cc' nl' ret' (rmD d') (.ref (ad c i) :: As) M (fun v M' => v = w ∧ Rep E ad V1 M')) (hn : As.length = n) (hF : d' + 1 ≤ d) (hk : kc ≤ cR ∧ ks ≤ sR) (hl : nl' ≤ 41) (hs : st = As.reverse ++ .ref (ad c i) :: rest) (hr : (rest.map fun v => v.category).sum ≤ 8) (hs1 : w.toList ++ rest = st1)
    (K : ∀ M' : MH, Rep E ad V1 M' → G E X own cc nl ret ini (rmA d cR sR) P M' L kc ks pc' st1) : G E X own cc nl ret ini (rmA d cR sR) P M L kc ks pc st := by
  refine r_callV hd hw (hR.obj ht hi) hc hC hn (fitDA hF hl hk.1 hk.2) hs hr ?_
  rintro v M' ⟨rfl, hR'⟩
  rw [hs1]
  exact K M' hR'
theorem m_callQ (hx : ¬ x0 < 0) (hd : Dk cc pc (.invokevirtual idx) 3 pc') (hw : CVW own idx Cn y cc' nl' ret' n) (hR : Rep E ad V M) (ht : ctab c = some (0, ci, b, ds)) (hi : x0.toNatClampNeg < cntV V b) (hc : classes[ci]? = some (Cn, T, N)) (hC : Ct E (cxL X) y cc' nl' ret' (rmD d') (rfq ad c x0 :: As) M (fun v M' => v = w ∧ Rep E ad V1 M')) (hn : As.length = n) (hF : d' + 1 ≤ d) (hk : kc ≤ cR ∧ ks ≤ sR) (hl : nl' ≤ 41) (hs : st = As.reverse ++ rfq ad c x0 :: rest) (hr : (rest.map fun v => v.category).sum ≤ 8) (hs1 : w.toList ++ rest = st1)
    (K : ∀ M' : MH, Rep E ad V1 M' → G E X own cc nl ret ini (rmA d cR sR) P M' L kc ks pc' st1) : G E X own cc nl ret ini (rmA d cR sR) P M L kc ks pc st := by
  rw [rfq_pos hx] at hC hs
  exact m_callV hd hw hR ht hi hc hC hn hF hk hl hs hr hs1 K
theorem m_callS (hd : Dk cc pc (.invokestatic idx) 3 pc') (hw : CSW own idx y cc' nl' ret' n) (hC : Ct E (cxL X) y cc' nl' ret' (rmD d') As M (fun v M' => v = w ∧ Rep E ad V1 M')) (hn : As.length = n) (hF : d' + 1 ≤ d) (hk : kc ≤ cR ∧ ks ≤ sR) (hl : nl' ≤ 41) (hs : st = As.reverse ++ rest) (hr : (rest.map fun v => v.category).sum ≤ 8) (hs1 : w.toList ++ rest = st1)
    (K : ∀ M' : MH, Rep E ad V1 M' → G E X own cc nl ret ini (rmA d cR sR) P M' L kc ks pc' st1) : G E X own cc nl ret ini (rmA d cR sR) P M L kc ks pc st := by
  refine r_callS hd hw hC hn (fitDA hF hl hk.1 hk.2) hs hr ?_
  rintro v M' ⟨rfl, hR'⟩
  rw [hs1]
  exact K M' hR'
theorem m_lsize {Li g : Nat} (hd : Dk cc pc (.invokevirtual idx) 3 pc') (hw : CVW own idx yJx4a65c_size_8abf5.cls yJx4a65c_size_8abf5 cJx4a65c_size_8abf5 1 (some .int) 0) (hR : Rep E ad V M) (hL : (Li, g) ∈ listL) (hF : 2 ≤ d) (hk : kc ≤ cR ∧ ks ≤ sR) (hr : (st.map fun v => v.category).sum ≤ 8) (K : G E X own cc nl ret ini (rmA d cR sR) P M L kc ks pc' (.int (V Li 0 0) :: st)) : G E X own cc nl ret ini (rmA d cR sR) P M L kc ks pc (.ref (ad Li 0) :: st) := by
  obtain ⟨hn, mc, dd, h1, h2⟩ := id (hR.2.2 Li g hL)
  refine r_callV (As := []) (rest := st) (P' := fun v M' => v = some (.int (V Li 0 0)) ∧ M' = M) hd hw h1 rfl ?_ rfl (fitDA (d' := 1) hF (by decide) hk.1 hk.2) rfl hr ?_
  · refine Ct.of (own := RJx4a65c) (ini := false) (L := [some (.ref (ad Li 0))]) rfl rfl (fun h => by cases h) rfl (Nat.le_of_ble_eq_true rfl) rfl (fun X _ => ?_)
    refine r_aload_n DJx4a65c_size_8abf5_0 rfl ?_
    refine r_get DJx4a65c_size_8abf5_1 fl_Jx4a65c_48 h1 rfl ?_
    exact r_iret DJx4a65c_size_8abf5_4 rfl ⟨Nat.le_refl 0, Nat.le_refl 0⟩ ⟨rfl, rfl⟩
  · rintro v M' ⟨rfl, rfl⟩
    exact K
end MKC
