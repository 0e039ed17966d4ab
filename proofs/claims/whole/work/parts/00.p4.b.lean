/-! new objects -/
theorem Fr.mk {ws gv : List Nat} {V V' : St} {Li n : Nat} {F : Nat → Nat → Int32} (h : Fr ws V V') (hL : Li ∈ ws) (hg : gv.all (fun v => ws.contains v) = true) : Fr ws V (mkV V' Li n gv F) := fun w hw => by
  rw [mkV_fn (v' := w) (fun q => hw (by rw [q]; exact hL)) (fun q => hw (List.contains_iff_mem.mp (List.all_eq_true.mp hg w q)))]; exact h w hw
theorem mkOK_I {V : St} {nC nT n Li : Nat} (hcl : I_cloth V nC) (hth : I_thing V nC nT) (hla : I_lay V nT) (h : V Li 0 0 = nI n) (hn : n ≤ 1000) : mkOK V Li = true := by
  unfold mkOK qrb
  obtain ⟨c20, c1, -, -⟩ := hcl
  obtain ⟨t30, t1, -, -, ht⟩ := hth
  rw [cnt_n (by decide) (by omega) c1, cnt_n (by decide) (by omega) t1, h, nI_clamp (by omega), Bool.and_eq_true, decide_eq_true_eq]
  refine ⟨Nat.ble_eq_true_of_le hn, fun q => ?_, fun i hi q => ?_⟩
  · rcases hla with e | ⟨x, -, -, -, -, -, hx, -, -, e, -⟩
    · rw [e] at q; exact absurd (show (-1 : Int32) < 0 by decide) q
    · rw [e, nI_clamp (by omega)]; exact hx
  · obtain ⟨p, len, wid, ht⟩ := ht i hi
    obtain ⟨-, -, -, -, -, -, -, -, -, -, -, -, -, -, -, -, hh, -⟩ := ht
    rcases hh with ⟨-, -, e, c, hc, e2⟩ | ⟨-, -, e, -⟩
    · rw [e, e2, nI_clamp (by omega)]; exact hc
    · rw [e] at q; exact absurd (show (-1 : Int32) < 0 by decide) q
theorem P_person {fu k : Nat} {V : St} (hI : Inv k V) (x : Int32) : Step k (fun V => f_X11_person fu V x) (fun V => f_X12_person fu V x) V := by
  have hI' := hI
  obtain ⟨nC, nD, nT, nM, nP, nK, nS, nR, nL, nO, hL, hmi, hta, hcl, hdr, hth, hla, hma, hor, hpe, hdo, hse, hru, hmk⟩ := hI
  have hpe' := hpe
  obtain ⟨h40, hn1, hn2, hfr, hx⟩ := hpe
  by_cases h : 0 ≤ x ∧ x ≤ 1000000
  · by_cases h2 : nP = 40
    · have e1 : ¬ nI nP < 40 := by rw [h2]; decide
      have e2 : nI nP = 40 := by rw [h2]; decide
      refine Step.same (r := -1) ?_ ?_ hI'
      · simp (disch := omega) only [f_X11_person, F_X11_person_22, hn1, h, e1, bd_some, n10, n00, bv_eq, within_eq, in_eq, gd_T, gd_t, i00, i10, c_0, c_1, c_m1, ite10, ite01, setV_fn, setV_at, cntS, nI_pos, nI_clamp, nI_leI, nI_ltI, nI_eq, nI_1, if_true, if_false, not_true, not_false, and_self, and_true, true_and, false_and, and_false, or_false, false_or, or_true, true_or, not_false_eq_true, ite_self, ite_true, ite_false, reduceIte, Nat.reduceEqDiff, Nat.reduceMul, Nat.reduceAdd, Nat.reduceLT, Nat.reducePow, ne_eq]
      · simp (disch := omega) only [f_X12_person, F_X12_person_20, hn2, h, e2, bd_some, n10, n00, bv_eq, within_eq, in_eq, gd_T, gd_t, i00, i10, c_0, c_1, c_m1, ite10, ite01, setV_fn, setV_at, cntS, nI_pos, nI_clamp, nI_leI, nI_ltI, nI_eq, nI_1, if_true, if_false, not_true, not_false, and_self, and_true, true_and, false_and, and_false, or_false, false_or, or_true, true_or, not_false_eq_true, ite_self, ite_true, ite_false, reduceIte, Nat.reduceEqDiff, Nat.reduceMul, Nat.reduceAdd, Nat.reduceLT, Nat.reducePow, ne_eq]
    · have e1 : nI nP < 40 := nI_lt (b := 40) (by omega) (by decide)
      have e2 : ¬ nI nP = 40 := fun q => h2 ((nI_eq (b := 40) (by omega) (by decide)).mp q)
      have hok := mkOK_I hcl hth hla hn1 (by omega)
      have hF : Fr [2108, 1801, 1802, 2279, 2277] V (setV (setV (mkV V 2108 nP gv_1800 (F_1800 x)) 2279 0 nP x) 2277 0 0 (nI (nP + 1))) := (((Fr.refl _ V).mk (by decide) (by decide)).set (by decide)).set (by decide)
      refine ⟨nI nP, mkV V 2108 nP gv_1800 (F_1800 x), setV (setV (mkV V 2108 nP gv_1800 (F_1800 x)) 2279 0 nP x) 2277 0 0 (nI (nP + 1)), ?_, ?_, ?_⟩
      · simp (disch := omega) only [f_X11_person, hn1, h, e1, hok, mkV_cnt, nI_pred, bd_some, n10, n00, bv_eq, within_eq, in_eq, gd_T, gd_t, i00, i10, c_0, c_1, c_m1, ite10, ite01, setV_fn, setV_at, cntS, nI_pos, nI_clamp, nI_leI, nI_ltI, nI_eq, nI_1, if_true, if_false, not_true, not_false, and_self, and_true, true_and, false_and, and_false, or_false, false_or, or_true, true_or, not_false_eq_true, ite_self, ite_true, ite_false, reduceIte, Nat.reduceEqDiff, Nat.reduceMul, Nat.reduceAdd, Nat.reduceLT, Nat.reducePow, ne_eq]
      · have e3 : mkV V 2108 nP gv_1800 (F_1800 x) 2277 = V 2277 := mkV_fn (by decide) (by decide)
        simp (disch := omega) only [f_X12_person, hn2, e3, h, e2, nI_pred, bd_some, n10, n00, bv_eq, within_eq, in_eq, gd_T, gd_t, i00, i10, c_0, c_1, c_m1, ite10, ite01, setV_fn, setV_at, cntS, nI_pos, nI_clamp, nI_leI, nI_ltI, nI_eq, nI_1, if_true, if_false, not_true, not_false, and_self, and_true, true_and, false_and, and_false, or_false, false_or, or_true, true_or, not_false_eq_true, ite_self, ite_true, ite_false, reduceIte, Nat.reduceEqDiff, Nat.reduceMul, Nat.reduceAdd, Nat.reduceLT, Nat.reducePow, ne_eq]
      · refine ⟨nC, nD, nT, nM, nP + 1, nK, nS, nR, nL, nO, by omega, hmi.fr hF rfl, hta.fr hF rfl, hcl.fr hF rfl, hdr.fr hF rfl, hth.fr hF rfl, hla.fr hF rfl, hma.fr hF rfl, hor.fr hF rfl, ?_, hdo.fr hF rfl, hse.fr hF rfl, hru.fr hF rfl, hmk.fr hF rfl⟩
        refine ⟨by omega, by simp (disch := first | omega | decide) only [setV_fn, mkV_cnt], by simp (disch := omega) only [bd_some, n10, n00, bv_eq, within_eq, in_eq, gd_T, gd_t, i00, i10, c_0, c_1, c_m1, ite10, ite01, setV_fn, setV_at, cntS, nI_pos, nI_clamp, nI_leI, nI_ltI, nI_eq, nI_1, if_true, if_false, not_true, not_false, and_self, and_true, true_and, false_and, and_false, or_false, false_or, or_true, true_or, not_false_eq_true, ite_self, ite_true, ite_false, reduceIte, Nat.reduceEqDiff, Nat.reduceMul, Nat.reduceAdd, Nat.reduceLT, Nat.reducePow, ne_eq], fun o ho => ?_, fun o ho => ?_⟩
        · simp (disch := first | omega | decide) only [setV_fn, mkV_fn]; exact hfr o (by omega)
        · simp (disch := first | omega | decide) only [setV_fn, setV_at, mkV_fn, mkV_at, F_1800]
          have := hx o; have := hfr nP; grind
  · refine Step.same (r := -1) ?_ ?_ hI'
    · simp (disch := omega) only [f_X11_person, F_X11_person_22, hn1, h, bd_some, n10, n00, bv_eq, within_eq, in_eq, gd_T, gd_t, i00, i10, c_0, c_1, c_m1, ite10, ite01, setV_fn, setV_at, cntS, nI_pos, nI_clamp, nI_leI, nI_ltI, nI_eq, nI_1, if_true, if_false, not_true, not_false, and_self, and_true, true_and, false_and, and_false, or_false, false_or, or_true, true_or, not_false_eq_true, ite_self, ite_true, ite_false, reduceIte, Nat.reduceEqDiff, Nat.reduceMul, Nat.reduceAdd, Nat.reduceLT, Nat.reducePow, ne_eq]
    · simp (disch := omega) only [f_X12_person, F_X12_person_20, hn2, h, bd_some, n10, n00, bv_eq, within_eq, in_eq, gd_T, gd_t, i00, i10, c_0, c_1, c_m1, ite10, ite01, setV_fn, setV_at, cntS, nI_pos, nI_clamp, nI_leI, nI_ltI, nI_eq, nI_1, if_true, if_false, not_true, not_false, and_self, and_true, true_and, false_and, and_false, or_false, false_or, or_true, true_or, not_false_eq_true, ite_self, ite_true, ite_false, reduceIte, Nat.reduceEqDiff, Nat.reduceMul, Nat.reduceAdd, Nat.reduceLT, Nat.reducePow, ne_eq]
