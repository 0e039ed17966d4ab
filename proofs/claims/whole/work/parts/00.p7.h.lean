/-! the reference's search, a stick -/
def zI (x : Int) : Int32 := Int32.ofInt x
theorem zI_toInt {x : Int} (h1 : -1000000 ≤ x) (h2 : x ≤ 1000000) : (zI x).toInt = x := Int32.toInt_ofInt_of_le (by omega) (by omega)
theorem zI_nat (n : Nat) : zI (n : Int) = nI n := by
  unfold zI nI
  apply Int32.toBitVec_inj.mp
  rfl
theorem zI_lt {x y : Int} (h1 : -1000000 ≤ x) (h2 : x ≤ 1000000) (h3 : -1000000 ≤ y) (h4 : y ≤ 1000000) : (zI x < zI y) ↔ x < y := by
  rw [Int32.lt_iff_toInt_lt, zI_toInt h1 h2, zI_toInt h3 h4]
theorem zI_le {x y : Int} (h1 : -1000000 ≤ x) (h2 : x ≤ 1000000) (h3 : -1000000 ≤ y) (h4 : y ≤ 1000000) : (zI x ≤ zI y) ↔ x ≤ y := by
  rw [Int32.le_iff_toInt_le, zI_toInt h1 h2, zI_toInt h3 h4]
theorem zI_add (x y : Int) : zI x + zI y = zI (x + y) := (Int32.ofInt_add x y).symm
theorem zI_sub (x y : Int) : zI x - zI y = zI (x - y) := (Int32.ofInt_sub x y).symm
theorem zI_neg (x : Int) : -zI x = zI (-x) := (Int32.ofInt_neg x).symm
theorem bearsOf_eq {fu t : Nat} {V : St} (h : t < 3) : f_X12_bearsOf fu V (nI t) = some (zI (tbo t), V) := by
  rcases (show t = 0 ∨ t = 1 ∨ t = 2 by omega) with rfl | rfl | rfl <;> rfl
/-- the reference's drawing with a choice and a flow -/
def RfD (V : St) (d j s : Nat) (A B c : Nat → Nat) (fl : Nat → Int) : Prop := d < 22 ∧ j ≤ 8 ∧ s ≤ 8 ∧ V 2209 0 d = nI s ∧ ∀ k, k < s → A k < j ∧ B k < j ∧ A k ≠ B k ∧ c k < 3 ∧ V 2211 0 (8 * d + k) = nI (A k) ∧ V 2212 0 (8 * d + k) = nI (B k) ∧ V 2226 0 k = nI (c k) ∧ V 2228 0 k = zI (fl k) ∧ -(tbo (c k) : Int) ≤ fl k ∧ fl k ≤ tbo (c k)
def upC (cm : Nat → Int32) (v : Nat) (x : Int32) : Nat → Int32 := fun q => if q = v then x else cm q
def cmS1 (A B : Nat → Nat) (cap fl : Nat → Int) (k : Nat) (cm : Nat → Int32) : Nat → Int32 := if ¬ cm (A k) = -1 ∧ cm (B k) = -1 ∧ fl k < cap k then upC cm (B k) (nI k) else cm
def cmS2 (A B : Nat → Nat) (cap fl : Nat → Int) (k : Nat) (cm : Nat → Int32) : Nat → Int32 := if ¬ cm (B k) = -1 ∧ cm (A k) = -1 ∧ -fl k < cap k then upC cm (A k) (nI k) else cm
theorem RfD.fr {V V' : St} {d j s : Nat} {A B c : Nat → Nat} {fl : Nat → Int} (h : RfD V d j s A B c fl) (hF : Fr [2229] V V') : RfD V' d j s A B c fl := by
  unfold RfD at h ⊢
  rw [hF 2209 (by decide), hF 2211 (by decide), hF 2212 (by decide), hF 2226 (by decide), hF 2228 (by decide)]; exact h
theorem set_cm {V : St} {cm : Nat → Int32} {v : Nat} {x : Int32} (h : V 2229 0 = cm) : setV V 2229 0 v x 2229 0 = upC cm v x := by
  funext q; rw [setV_at, h]; unfold upC; simp
theorem stick_2 {fu d j s k : Nat} {V : St} {A B c : Nat → Nat} {fl : Nat → Int} {cm : Nat → Int32} {src rd : Int32} {kh : St → Int32 → Int32 → Int32 → Int32 → RR} {kx : St → Int32 → Int32 → Int32 → RR} (h : RfD V d j s A B c fl) (hk : k < s) (hcm : V 2229 0 = cm) : ∃ V', F_X12_moreFlow_140 kh kx fu V (nI d) src rd (nI k) (nI (8 * d + k)) (zI (tbo (c k))) = kh V' (nI d) src rd (nI (k + 1)) ∧ Fr [2229] V V' ∧ V' 2229 0 = cmS2 A B (fun k => tbo (c k)) fl k cm := by
  obtain ⟨hd, hj, hs, e1, hx⟩ := h
  obtain ⟨a1, a2, a3, a4, a5, a6, a7, a8, a9, a10⟩ := hx k hk
  have tb := tbo_le (c k)
  have hcm' : ∀ q, V 2229 0 q = cm q := fun q => by rw [hcm]
  unfold cmS2
  by_cases c1 : cm (B k) = -1
  · refine ⟨V, ?_, Fr.refl _ V, by rw [if_neg (fun z => z.1 c1)]; exact hcm⟩
    simp (disch := omega) only [F_X12_moreFlow_140, F_X12_moreFlow_199, a6, hcm', c1, bd_some, n10, n00, bv_eq, within_eq, in_eq, gd_T, gd_t, i00, i10, c_0, c_1, c_m1, ite10, ite01, setV_fn, setV_at, cntS, nI_pos, nI_clamp, nI_leI, nI_ltI, nI_eq, nI_1, if_true, if_false, not_true, not_false, and_self, and_true, true_and, false_and, and_false, or_false, false_or, or_true, true_or, not_false_eq_true, ite_self, ite_true, ite_false, reduceIte, Nat.reduceEqDiff, Nat.reduceMul, Nat.reduceAdd, Nat.reduceLT, Nat.reducePow, ne_eq]
  · by_cases c2 : cm (A k) = -1
    · by_cases c3 : -fl k < tbo (c k)
      · have c3' : ¬ zI (tbo (c k)) ≤ -zI (fl k) := by rw [zI_neg, zI_le (by omega) (by omega) (by omega) (by omega)]; omega
        refine ⟨setV V 2229 0 (A k) (nI k), ?_, (Fr.refl _ V).set (by decide), by rw [if_pos ⟨c1, c2, c3⟩]; exact set_cm hcm⟩
        simp (disch := omega) only [F_X12_moreFlow_140, F_X12_moreFlow_199, a5, a6, a8, hcm', c1, c2, c3', bd_some, n10, n00, bv_eq, within_eq, in_eq, gd_T, gd_t, i00, i10, c_0, c_1, c_m1, ite10, ite01, setV_fn, setV_at, cntS, nI_pos, nI_clamp, nI_leI, nI_ltI, nI_eq, nI_1, if_true, if_false, not_true, not_false, and_self, and_true, true_and, false_and, and_false, or_false, false_or, or_true, true_or, not_false_eq_true, ite_self, ite_true, ite_false, reduceIte, Nat.reduceEqDiff, Nat.reduceMul, Nat.reduceAdd, Nat.reduceLT, Nat.reducePow, ne_eq]
      · have c3' : zI (tbo (c k)) ≤ -zI (fl k) := by rw [zI_neg, zI_le (by omega) (by omega) (by omega) (by omega)]; omega
        refine ⟨V, ?_, Fr.refl _ V, by rw [if_neg (fun z => c3 z.2.2)]; exact hcm⟩
        simp (disch := omega) only [F_X12_moreFlow_140, F_X12_moreFlow_199, a5, a6, a8, hcm', c1, c2, c3', bd_some, n10, n00, bv_eq, within_eq, in_eq, gd_T, gd_t, i00, i10, c_0, c_1, c_m1, ite10, ite01, setV_fn, setV_at, cntS, nI_pos, nI_clamp, nI_leI, nI_ltI, nI_eq, nI_1, if_true, if_false, not_true, not_false, and_self, and_true, true_and, false_and, and_false, or_false, false_or, or_true, true_or, not_false_eq_true, ite_self, ite_true, ite_false, reduceIte, Nat.reduceEqDiff, Nat.reduceMul, Nat.reduceAdd, Nat.reduceLT, Nat.reducePow, ne_eq]
    · refine ⟨V, ?_, Fr.refl _ V, by rw [if_neg (fun z => c2 z.2.1)]; exact hcm⟩
      simp (disch := omega) only [F_X12_moreFlow_140, F_X12_moreFlow_199, a5, a6, hcm', c1, c2, bd_some, n10, n00, bv_eq, within_eq, in_eq, gd_T, gd_t, i00, i10, c_0, c_1, c_m1, ite10, ite01, setV_fn, setV_at, cntS, nI_pos, nI_clamp, nI_leI, nI_ltI, nI_eq, nI_1, if_true, if_false, not_true, not_false, and_self, and_true, true_and, false_and, and_false, or_false, false_or, or_true, true_or, not_false_eq_true, ite_self, ite_true, ite_false, reduceIte, Nat.reduceEqDiff, Nat.reduceMul, Nat.reduceAdd, Nat.reduceLT, Nat.reducePow, ne_eq]
theorem stick_1 {fu d j s k : Nat} {V : St} {A B c : Nat → Nat} {fl : Nat → Int} {cm : Nat → Int32} {src rd : Int32} {kh : St → Int32 → Int32 → Int32 → Int32 → RR} {kx : St → Int32 → Int32 → Int32 → RR} (h : RfD V d j s A B c fl) (hk : k < s) (hcm : V 2229 0 = cm) : ∃ V', F_X12_moreFlow_50 kh kx fu V (nI d) src rd (nI k) = kh V' (nI d) src rd (nI (k + 1)) ∧ Fr [2229] V V' ∧ V' 2229 0 = cmS2 A B (fun k => tbo (c k)) fl k (cmS1 A B (fun k => tbo (c k)) fl k cm) := by
  have hh := h
  obtain ⟨hd, hj, hs, e1, hx⟩ := h
  obtain ⟨a1, a2, a3, a4, a5, a6, a7, a8, a9, a10⟩ := hx k hk
  have tb := tbo_le (c k)
  have hcm' : ∀ q, V 2229 0 q = cm q := fun q => by rw [hcm]
  have hbe := fun W => bearsOf_eq (fu := fu) (V := W) a4
  have hle : ¬ s ≤ k := by omega
  have go : ∀ W : St, Fr [2229] V W → W 2229 0 = cmS1 A B (fun k => tbo (c k)) fl k cm → F_X12_moreFlow_50 kh kx fu V (nI d) src rd (nI k) = F_X12_moreFlow_140 kh kx fu W (nI d) src rd (nI k) (nI (8 * d + k)) (zI (tbo (c k))) → ∃ V', F_X12_moreFlow_50 kh kx fu V (nI d) src rd (nI k) = kh V' (nI d) src rd (nI (k + 1)) ∧ Fr [2229] V V' ∧ V' 2229 0 = cmS2 A B (fun k => tbo (c k)) fl k (cmS1 A B (fun k => tbo (c k)) fl k cm) := by
    intro W hF hW he
    obtain ⟨V', g1, g2, g3⟩ := stick_2 (fu := fu) (src := src) (rd := rd) (kh := kh) (kx := kx) (hh.fr hF) hk hW
    exact ⟨V', he.trans g1, hF.trans g2, g3⟩
  by_cases c1 : cm (A k) = -1
  · refine go V (Fr.refl _ V) (by unfold cmS1; rw [if_neg (fun z => z.1 c1)]; exact hcm) ?_
    simp (disch := omega) only [F_X12_moreFlow_50, e1, hle, a7, hbe, ix8, a5, hcm', c1, bd_some, n10, n00, bv_eq, within_eq, in_eq, gd_T, gd_t, i00, i10, c_0, c_1, c_m1, ite10, ite01, setV_fn, setV_at, cntS, nI_pos, nI_clamp, nI_leI, nI_ltI, nI_eq, nI_1, if_true, if_false, not_true, not_false, and_self, and_true, true_and, false_and, and_false, or_false, false_or, or_true, true_or, not_false_eq_true, ite_self, ite_true, ite_false, reduceIte, Nat.reduceEqDiff, Nat.reduceMul, Nat.reduceAdd, Nat.reduceLT, Nat.reducePow, ne_eq]
  · by_cases c2 : cm (B k) = -1
    · by_cases c3 : fl k < tbo (c k)
      · have c3' : ¬ zI (tbo (c k)) ≤ zI (fl k) := by rw [zI_le (by omega) (by omega) (by omega) (by omega)]; omega
        refine go (setV V 2229 0 (B k) (nI k)) ((Fr.refl _ V).set (by decide)) (by unfold cmS1; rw [if_pos ⟨c1, c2, c3⟩]; exact set_cm hcm) ?_
        simp (disch := omega) only [F_X12_moreFlow_50, e1, hle, a7, hbe, ix8, a5, a6, a8, hcm', c1, c2, c3', bd_some, n10, n00, bv_eq, within_eq, in_eq, gd_T, gd_t, i00, i10, c_0, c_1, c_m1, ite10, ite01, setV_fn, setV_at, cntS, nI_pos, nI_clamp, nI_leI, nI_ltI, nI_eq, nI_1, if_true, if_false, not_true, not_false, and_self, and_true, true_and, false_and, and_false, or_false, false_or, or_true, true_or, not_false_eq_true, ite_self, ite_true, ite_false, reduceIte, Nat.reduceEqDiff, Nat.reduceMul, Nat.reduceAdd, Nat.reduceLT, Nat.reducePow, ne_eq]
      · have c3' : zI (tbo (c k)) ≤ zI (fl k) := by rw [zI_le (by omega) (by omega) (by omega) (by omega)]; omega
        refine go V (Fr.refl _ V) (by unfold cmS1; rw [if_neg (fun z => c3 z.2.2)]; exact hcm) ?_
        simp (disch := omega) only [F_X12_moreFlow_50, e1, hle, a7, hbe, ix8, a5, a6, a8, hcm', c1, c2, c3', bd_some, n10, n00, bv_eq, within_eq, in_eq, gd_T, gd_t, i00, i10, c_0, c_1, c_m1, ite10, ite01, setV_fn, setV_at, cntS, nI_pos, nI_clamp, nI_leI, nI_ltI, nI_eq, nI_1, if_true, if_false, not_true, not_false, and_self, and_true, true_and, false_and, and_false, or_false, false_or, or_true, true_or, not_false_eq_true, ite_self, ite_true, ite_false, reduceIte, Nat.reduceEqDiff, Nat.reduceMul, Nat.reduceAdd, Nat.reduceLT, Nat.reducePow, ne_eq]
    · refine go V (Fr.refl _ V) (by unfold cmS1; rw [if_neg (fun z => c2 z.2.1)]; exact hcm) ?_
      simp (disch := omega) only [F_X12_moreFlow_50, e1, hle, a7, hbe, ix8, a5, a6, hcm', c1, c2, bd_some, n10, n00, bv_eq, within_eq, in_eq, gd_T, gd_t, i00, i10, c_0, c_1, c_m1, ite10, ite01, setV_fn, setV_at, cntS, nI_pos, nI_clamp, nI_leI, nI_ltI, nI_eq, nI_1, if_true, if_false, not_true, not_false, and_self, and_true, true_and, false_and, and_false, or_false, false_or, or_true, true_or, not_false_eq_true, ite_self, ite_true, ite_false, reduceIte, Nat.reduceEqDiff, Nat.reduceMul, Nat.reduceAdd, Nat.reduceLT, Nat.reducePow, ne_eq]
