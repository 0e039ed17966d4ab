/-! small facts -/
theorem gd_t {c : Prop} [Decidable c] {a : RR} (hc : c) : gd c a = a := if_pos hc
theorem gd_T {i : Decidable True} {a : RR} : @gd True i a = a := if_pos trivial
theorem bd_some (r : Int32) (V : St) (k : Int32 → St → RR) : bd (some (r, V)) k = k r V := rfl
theorem bv_eq (x : St) (k : St → RR) : bv x k = k x := rfl
theorem i00 : ((0 : Int32) < 0) = False := by decide
theorem i10 : ((1 : Int32) < 0) = False := by decide
theorem c_0 : (0 : Int32).toNatClampNeg = 0 := rfl
theorem c_1 : (1 : Int32).toNatClampNeg = 1 := rfl
theorem c_m1 : ((-1 : Int32) < 0) = True := by decide
theorem n10 : ((1 : Int32) = 0) = False := by decide
theorem n00 : ((0 : Int32) = 0) = True := by decide
theorem gd_c0 {a : RR} {n : Nat} (h : 0 < n) : gd (¬ ((0 : Int32) < 0 ∨ n ≤ (0 : Int32).toNatClampNeg)) a = a := gd_t (by rw [c_0]; exact fun q => q.elim (fun q => absurd q (by decide)) (fun q => by omega))
theorem ite10 (p : Prop) [Decidable p] : ((if p then (1 : Int32) else 0) = 0) = ¬ p := by by_cases h : p <;> simp [h]
theorem ite01 (p : Prop) [Decidable p] : ((if p then (0 : Int32) else 1) = 0) = p := by by_cases h : p <;> simp [h]
theorem cnt_n {V : St} {b n : Nat} (hb : 1000 ≤ b) (hn : n < 2 ^ 31) (h : V b 0 0 = nI n) : cntV V b = n := by
  unfold cntV; rw [if_neg (by omega), h, nI_clamp hn]
theorem within_eq (fu : Nat) (V : St) (x lo hi : Int32) : f_X11_within fu V x lo hi = some (if lo ≤ x ∧ x ≤ hi then 1 else 0, V) := by
  unfold f_X11_within F_X11_within_14 F_X11_within_15 gd
  grind
theorem in_eq (fu : Nat) (V : St) (x lo hi : Int32) : f_X12_in fu V x lo hi = some (if lo ≤ x ∧ x ≤ hi then 1 else 0, V) := by
  unfold f_X12_in F_X12_in_14 F_X12_in_15 gd
  grind
theorem lt_nI {x : Int32} {i n : Nat} (h : i < n) (hn : n < 2 ^ 31) : 0 ≤ nI i ∧ nI i ≤ nI n - 1 := by
  have h1 := nI_lt h hn
  have h2 := nI_pos' (n := i) (by omega)
  grind
theorem no_nI {x : Int32} {n : Nat} (h : x < 0 ∨ nI n ≤ x) (hn : n < 2 ^ 31) : ¬ (0 ≤ x ∧ x ≤ nI n - 1) := by
  have h2 := nI_pos' (n := n) hn
  grind
theorem gd_in {a : RR} {c N : Nat} (h : c < N) (hN : N < 2 ^ 31) : gd (¬ (nI c < 0 ∨ N ≤ (nI c).toNatClampNeg)) a = a := gd_t (nI_in h hN)
theorem gd_in2 {a : RR} {c n : Nat} (h : c < n) (hn : n < 2 ^ 31) : gd (¬ nI c < 0 ∧ (nI c).toNatClampNeg < n) a = a := gd_t ⟨nI_pos (by omega), by rw [nI_clamp (by omega)]; exact h⟩
theorem gd_c1 {a : RR} {n : Nat} (h : 1 < n) : gd (¬ ((1 : Int32) < 0 ∨ n ≤ (1 : Int32).toNatClampNeg)) a = a := gd_t (by rw [c_1]; exact fun q => q.elim (fun q => absurd q (by decide)) (fun q => by omega))
theorem cntS {V : St} {v i j b : Nat} {x : Int32} (h : b ≠ v) : cntV (setV V v i j x) b = cntV V b := by unfold cntV; rw [setV_fn h]
theorem lenS {V : St} {v i j b i0 : Nat} {x : Int32} (h : b < 1000000) : lenV V b i0 = b := by unfold lenV; rw [if_pos h]
theorem ix8 (a b : Nat) : (8 : Int32) * nI a + nI b = nI (8 * a + b) := by rw [← nI_add, ← pk_mul]; rfl
theorem ix9 (a b : Nat) : (9 : Int32) * nI a + nI b = nI (9 * a + b) := by rw [← nI_add, ← pk_mul]; rfl
theorem ix12 (a b : Nat) : (12 : Int32) * nI a + nI b = nI (12 * a + b) := by rw [← nI_add, ← pk_mul]; rfl
theorem ix20 (a b : Nat) : (20 : Int32) * nI a + nI b = nI (20 * a + b) := by rw [← nI_add, ← pk_mul]; rfl
theorem ix180 (a b : Nat) : (180 : Int32) * nI a + nI b = nI (180 * a + b) := by rw [← nI_add, ← pk_mul]; rfl
theorem ix500 (a b : Nat) : (500 : Int32) * nI a + nI b = nI (500 * a + b) := by rw [← nI_add, ← pk_mul]; rfl
theorem ix15 (a : Nat) : (15000 : Int32) * nI a = nI (15000 * a) := by rw [← pk_mul]; rfl
theorem ix5h (a : Nat) : (500 : Int32) * nI a = nI (500 * a) := by rw [← pk_mul]; rfl
theorem roundedUp_eq {fu : Nat} {V : St} {a b : Int32} (h : 0 < b) : f_X11_roundedUp fu V a b = some (((a + b) - 1) / b, V) := by
  simp only [f_X11_roundedUp, F_X11_roundedUp_15, gd]
  grind
theorem up_eq {fu : Nat} {V : St} {a b : Int32} (h : 0 < b) : f_X12_up fu V a b = some (((a + b) - 1) / b, V) := by
  simp only [f_X12_up, gd]
  grind
theorem findCloth_ok {fu : Nat} {V : St} {n i : Nat} (hn : V 2103 0 0 = nI n) (hm : n ≤ 1000) (hi : i < n) : f_X11_findCloth fu V (nI i) = some (nI i, V) := by
  have hc : cntV V 2103 = n := cnt_n (by decide) (by omega) hn
  have h1 := lt_nI (x := 0) hi (by omega)
  have h2 : (nI i).toNatClampNeg = i := nI_clamp (by omega)
  have h3 := nI_pos (n := i) (by omega)
  unfold f_X11_findCloth F_X11_findCloth_32
  rw [within_eq, bd_some, hn, if_pos h1, if_neg (by decide), hc, h2, gd_t ⟨h3, hi⟩]
theorem findCloth_no {fu : Nat} {V : St} {n : Nat} {x : Int32} (hn : V 2103 0 0 = nI n) (hm : n ≤ 1000) (hx : x < 0 ∨ nI n ≤ x) : f_X11_findCloth fu V x = some (-1, V) := by
  unfold f_X11_findCloth F_X11_findCloth_32
  rw [within_eq, bd_some, hn, if_neg (no_nI hx (by omega)), if_pos rfl]
theorem isCloth_ok {fu : Nat} {V : St} {n i : Nat} (hn : V 2202 0 0 = nI n) (hm : n ≤ 1000) (hi : i < n) : f_X12_isCloth fu V (nI i) = some (1, V) := by
  unfold f_X12_isCloth F_X12_isCloth_17 F_X12_isCloth_16
  rw [hn, if_neg (nI_pos (by omega)), if_neg (nI_ge hi (by omega)), gd_t (Or.inr rfl)]
theorem isCloth_no {fu : Nat} {V : St} {n : Nat} {x : Int32} (hn : V 2202 0 0 = nI n) (hx : x < 0 ∨ nI n ≤ x) : f_X12_isCloth fu V x = some (0, V) := by
  simp only [f_X12_isCloth, F_X12_isCloth_17, F_X12_isCloth_16, hn, gd]
  grind
theorem findDrawing_ok {fu : Nat} {V : St} {n i : Nat} (hn : V 2104 0 0 = nI n) (hm : n ≤ 1000) (hi : i < n) : f_X11_findDrawing fu V (nI i) = some (nI i, V) := by
  have hc : cntV V 2104 = n := cnt_n (by decide) (by omega) hn
  have h1 := lt_nI (x := 0) hi (by omega)
  have h2 : (nI i).toNatClampNeg = i := nI_clamp (by omega)
  have h3 := nI_pos (n := i) (by omega)
  unfold f_X11_findDrawing F_X11_findDrawing_32
  rw [within_eq, bd_some, hn, if_pos h1, if_neg (by decide), hc, h2, gd_t ⟨h3, hi⟩]
theorem findDrawing_no {fu : Nat} {V : St} {n : Nat} {x : Int32} (hn : V 2104 0 0 = nI n) (hm : n ≤ 1000) (hx : x < 0 ∨ nI n ≤ x) : f_X11_findDrawing fu V x = some (-1, V) := by
  unfold f_X11_findDrawing F_X11_findDrawing_32
  rw [within_eq, bd_some, hn, if_neg (no_nI hx (by omega)), if_pos rfl]
theorem isDrawing_ok {fu : Nat} {V : St} {n i : Nat} (hn : V 2203 0 0 = nI n) (hm : n ≤ 1000) (hi : i < n) : f_X12_isDrawing fu V (nI i) = some (1, V) := by
  unfold f_X12_isDrawing F_X12_isDrawing_17 F_X12_isDrawing_16
  rw [hn, if_neg (nI_pos (by omega)), if_neg (nI_ge hi (by omega)), gd_t (Or.inr rfl)]
theorem isDrawing_no {fu : Nat} {V : St} {n : Nat} {x : Int32} (hn : V 2203 0 0 = nI n) (hx : x < 0 ∨ nI n ≤ x) : f_X12_isDrawing fu V x = some (0, V) := by
  simp only [f_X12_isDrawing, F_X12_isDrawing_17, F_X12_isDrawing_16, hn, gd]
  grind
theorem findThing_ok {fu : Nat} {V : St} {n i : Nat} (hn : V 2105 0 0 = nI n) (hm : n ≤ 1000) (hi : i < n) : f_X11_findThing fu V (nI i) = some (nI i, V) := by
  have hc : cntV V 2105 = n := cnt_n (by decide) (by omega) hn
  have h1 := lt_nI (x := 0) hi (by omega)
  have h2 : (nI i).toNatClampNeg = i := nI_clamp (by omega)
  have h3 := nI_pos (n := i) (by omega)
  unfold f_X11_findThing F_X11_findThing_32
  rw [within_eq, bd_some, hn, if_pos h1, if_neg (by decide), hc, h2, gd_t ⟨h3, hi⟩]
theorem findThing_no {fu : Nat} {V : St} {n : Nat} {x : Int32} (hn : V 2105 0 0 = nI n) (hm : n ≤ 1000) (hx : x < 0 ∨ nI n ≤ x) : f_X11_findThing fu V x = some (-1, V) := by
  unfold f_X11_findThing F_X11_findThing_32
  rw [within_eq, bd_some, hn, if_neg (no_nI hx (by omega)), if_pos rfl]
theorem isThing_ok {fu : Nat} {V : St} {n i : Nat} (hn : V 2204 0 0 = nI n) (hm : n ≤ 1000) (hi : i < n) : f_X12_isThing fu V (nI i) = some (1, V) := by
  unfold f_X12_isThing F_X12_isThing_17 F_X12_isThing_16
  rw [hn, if_neg (nI_pos (by omega)), if_neg (nI_ge hi (by omega)), gd_t (Or.inr rfl)]
theorem isThing_no {fu : Nat} {V : St} {n : Nat} {x : Int32} (hn : V 2204 0 0 = nI n) (hx : x < 0 ∨ nI n ≤ x) : f_X12_isThing fu V x = some (0, V) := by
  simp only [f_X12_isThing, F_X12_isThing_17, F_X12_isThing_16, hn, gd]
  grind
theorem findMaker_ok {fu : Nat} {V : St} {n i : Nat} (hn : V 2106 0 0 = nI n) (hm : n ≤ 1000) (hi : i < n) : f_X11_findMaker fu V (nI i) = some (nI i, V) := by
  have hc : cntV V 2106 = n := cnt_n (by decide) (by omega) hn
  have h1 := lt_nI (x := 0) hi (by omega)
  have h2 : (nI i).toNatClampNeg = i := nI_clamp (by omega)
  have h3 := nI_pos (n := i) (by omega)
  unfold f_X11_findMaker F_X11_findMaker_32
  rw [within_eq, bd_some, hn, if_pos h1, if_neg (by decide), hc, h2, gd_t ⟨h3, hi⟩]
theorem findMaker_no {fu : Nat} {V : St} {n : Nat} {x : Int32} (hn : V 2106 0 0 = nI n) (hm : n ≤ 1000) (hx : x < 0 ∨ nI n ≤ x) : f_X11_findMaker fu V x = some (-1, V) := by
  unfold f_X11_findMaker F_X11_findMaker_32
  rw [within_eq, bd_some, hn, if_neg (no_nI hx (by omega)), if_pos rfl]
theorem isMaker_ok {fu : Nat} {V : St} {n i : Nat} (hn : V 2232 0 0 = nI n) (hm : n ≤ 1000) (hi : i < n) : f_X12_isMaker fu V (nI i) = some (1, V) := by
  unfold f_X12_isMaker F_X12_isMaker_17 F_X12_isMaker_16
  rw [hn, if_neg (nI_pos (by omega)), if_neg (nI_ge hi (by omega)), gd_t (Or.inr rfl)]
theorem isMaker_no {fu : Nat} {V : St} {n : Nat} {x : Int32} (hn : V 2232 0 0 = nI n) (hx : x < 0 ∨ nI n ≤ x) : f_X12_isMaker fu V x = some (0, V) := by
  simp only [f_X12_isMaker, F_X12_isMaker_17, F_X12_isMaker_16, hn, gd]
  grind
theorem findPerson_ok {fu : Nat} {V : St} {n i : Nat} (hn : V 2108 0 0 = nI n) (hm : n ≤ 1000) (hi : i < n) : f_X11_findPerson fu V (nI i) = some (nI i, V) := by
  have hc : cntV V 2108 = n := cnt_n (by decide) (by omega) hn
  have h1 := lt_nI (x := 0) hi (by omega)
  have h2 : (nI i).toNatClampNeg = i := nI_clamp (by omega)
  have h3 := nI_pos (n := i) (by omega)
  unfold f_X11_findPerson F_X11_findPerson_32
  rw [within_eq, bd_some, hn, if_pos h1, if_neg (by decide), hc, h2, gd_t ⟨h3, hi⟩]
theorem findPerson_no {fu : Nat} {V : St} {n : Nat} {x : Int32} (hn : V 2108 0 0 = nI n) (hm : n ≤ 1000) (hx : x < 0 ∨ nI n ≤ x) : f_X11_findPerson fu V x = some (-1, V) := by
  unfold f_X11_findPerson F_X11_findPerson_32
  rw [within_eq, bd_some, hn, if_neg (no_nI hx (by omega)), if_pos rfl]
theorem isPerson_ok {fu : Nat} {V : St} {n i : Nat} (hn : V 2277 0 0 = nI n) (hm : n ≤ 1000) (hi : i < n) : f_X12_isPerson fu V (nI i) = some (1, V) := by
  unfold f_X12_isPerson F_X12_isPerson_17 F_X12_isPerson_16
  rw [hn, if_neg (nI_pos (by omega)), if_neg (nI_ge hi (by omega)), gd_t (Or.inr rfl)]
theorem isPerson_no {fu : Nat} {V : St} {n : Nat} {x : Int32} (hn : V 2277 0 0 = nI n) (hx : x < 0 ∨ nI n ≤ x) : f_X12_isPerson fu V x = some (0, V) := by
  simp only [f_X12_isPerson, F_X12_isPerson_17, F_X12_isPerson_16, hn, gd]
  grind
