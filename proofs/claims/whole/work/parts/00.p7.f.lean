/-! thing and rubbed put together -/
theorem P_rubbed {fu k : Nat} {V : St} (hI : Inv k V) (c t b : Int32) (hb : b = 0 ∨ b = 1) : Step k (fun V => f_X11_rubbed fu V c t b) (fun V => f_X12_rubbed fu V c t b) V := by
  rcases hb with rfl | rfl
  · exact P_rubbed0 hI c t
  · exact P_rubbed1 hI c t
theorem P_thing {fu k : Nat} {V : St} (hI : Inv k V) (kd x p n : Int32) : Step k (fun V => f_X11_thing fu V kd x p n) (fun V => f_X12_thing fu V kd x p n) V := by
  by_cases h0 : kd = 0
  · subst h0; exact P_thing0 hI x p n
  by_cases h1 : kd = 1
  · subst h1; exact P_thing1 hI x p n
  by_cases h2 : kd = 2
  · subst h2; exact P_thing2 hI x p n
  have hr : ¬ (0 ≤ kd ∧ kd ≤ 2) := by grind
  refine Step.same (r := -1) ?_ ?_ hI
  · simp only [f_X11_thing, F_X11_thing_31, f_X11_isMadeOf, h0, h1, h2, bd_some, if_true, if_false]
  · simp only [f_X12_thing, F_X12_thing_40, hr, bd_some, n10, n00, bv_eq, gd, within_eq, in_eq, c_0, c_1, c_m1, ite10, ite01, if_true, if_false, not_true, not_false, and_self, and_true, true_and, or_false, false_or, not_false_eq_true, ite_true, ite_false, reduceIte]
