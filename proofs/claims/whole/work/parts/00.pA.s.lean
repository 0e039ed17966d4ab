/-! what an order's clauses say, for both -/
theorem hold_C {fu i j s e K eT : Nat} {V' V18 : St} {d : Den} (hfu : 1000 ≤ fu) (hi : i < cntV V' 1401) (hi2 : i < 30) (hj : j < K) (hK : K ≤ 12) (h4 : V' 1704 i 0 = nI K) (h90 : V' 1790 i 0 = nI eT) (heT : eT ≤ 160) (he : e ≤ eT) (h8 : V' 1708 i j = nI e) (h8p : 0 < j → V' 1708 i (j - 1) = nI s) (h80 : j = 0 → s = 0) (h9 : ∀ k, k < eT → V' 1709 i k = V18 1905 0 k) (hC : CG V18 s e d) : ∃ V1, f_X4_holds fu V' (nI i) (nI j) = some (if decide (d (rs9 (V' 1403 0)) = some 1) = true then 1 else 0, V1) ∧ Fr hw8 V' V1 := by
  obtain ⟨hg, -, hnn⟩ := hC
  obtain ⟨hse, -, hev⟩ := hg
  have hl4 : lenV V' 1001704 i = K := by show (V' 1704 i 0).toNatClampNeg = K; rw [h4, nI_clamp (by omega)]
  have hl9 : lenV V' 1001790 i = eT := by show (V' 1790 i 0).toNatClampNeg = eT; rw [h90, nI_clamp (by omega)]
  have hF0 : Fr hw8 V' (setV (setV (setV (setV V' 1405 0 0 0) 1406 0 0 (nI s)) 1407 0 0 0) 1408 0 0 0) := ((((Fr.refl _ V').set (by decide)).set (by decide)).set (by decide)).set (by decide)
  have hst : f_X4_holds fu V' (nI i) (nI j) = Lp_X4_holds_40 (F_X4_holds_84 fu) fu fu (setV (setV (setV (setV V' 1405 0 0 0) 1406 0 0 (nI s)) 1407 0 0 0) 1408 0 0 0) (nI i) (nI j) (nI s) := by
    rw [f_X4_holds]
    by_cases z : j = 0
    · have hs := h80 z
      subst z hs
      rw [if_pos (show nI 0 = 0 from rfl), F_X4_holds_16, bv_eq, bv_eq, bv_eq, bv_eq, nI_0]
    · have e1 : nI j - 1 = nI (j - 1) := by rw [show (1 : Int32) = nI 1 from rfl, pk_sub (by omega)]
      rw [if_neg (nI_ne0 (by omega) (by omega)), nI_clamp (show i < 2 ^ 31 by omega), gd_t ⟨nI_pos (by omega), hi⟩, e1, nI_clamp (show j - 1 < 2 ^ 31 by omega), gd_t (show ¬ (nI (j - 1) < 0 ∨ lenV V' 1001704 i ≤ j - 1) from fun w => w.elim (nI_pos (by omega)) (fun w => by omega)), h8p (by omega), F_X4_holds_16, bv_eq, bv_eq, bv_eq, bv_eq]
  have hOC : OC (setV (setV (setV (setV V' 1405 0 0 0) 1406 0 0 (nI s)) 1407 0 0 0) 1408 0 0 0) i j e (kwV V18) s (V' 1403 0) := by
    refine OC.fr (V := V') ⟨hi, by omega, by omega, by omega, h8, by omega, by omega, fun k k1 k2 => ?_, rfl⟩ hF0
    obtain ⟨w, w1, w2⟩ := nI_of (hnn k k1 k2)
    unfold kwV
    rw [h9 k (by omega), w2, nI_clamp w1]
    exact ⟨w1, rfl⟩
  have hHC : HC (setV (setV (setV (setV V' 1405 0 0 0) 1406 0 0 (nI s)) 1407 0 0 0) 1408 0 0 0) s false [] := ⟨by rw [setV_at, if_pos ⟨rfl, rfl⟩], by rw [setV_fn (by decide), setV_fn (by decide), setV_at, if_pos ⟨rfl, rfl⟩], by rw [setV_fn (by decide), setV_at, if_pos ⟨rfl, rfl⟩]; rfl, by rw [setV_fn (by decide), setV_fn (by decide), setV_fn (by decide), setV_at, if_pos ⟨rfl, rfl⟩]; rfl, trivial⟩
  obtain ⟨b1, b2⟩ := hev (kwV V18) (fun _ _ _ => rfl) (rs9 (V' 1403 0)) 0 s false [] (Nat.le_refl s)
  rw [Nat.zero_add] at b1 b2
  have hval : evC (kwV V18) (rs9 (V' 1403 0)) (e - s) s s false [] = some (decide (d (rs9 (V' 1403 0)) = some 1)) := by
    cases hd : d (rs9 (V' 1403 0)) with
    | none => rw [b2 hd]; rfl
    | some b =>
      obtain ⟨rs', -, r2⟩ := b1 b hd
      rw [r2, evC]
      congr 1
      by_cases z : b = 1
      · subst z; simp
      · simp [z]
  obtain ⟨V1, q1, q2⟩ := run_C (fu := fu) (i := i) (j := j) (e := e) (s := s) hfu (e - s) fu s s false _ [] _ (by omega) (by omega) (Nat.le_refl s) (by show 0 + (e - s) ≤ 160; omega) hOC hHC (by omega) hval
  refine ⟨V1, ?_, hF0.trans q2⟩
  rw [hst, q1]
  rfl
theorem hold_R {fu i j s e : Nat} {V' U : St} {d : Den} (hfu : 1000 ≤ fu) (hi : i < 30) (hj : j < 12) (he : e ≤ 160) (h6 : V' 2266 0 (12 * i + j) = nI (180 * i + s)) (h7 : V' 2267 0 (12 * i + j) = nI (180 * i + e)) (h60 : ∀ k, k < e → V' 2260 0 (180 * i + k) = U 2251 0 k) (hnn : nnR U 0 e) (hC : RFf U s e [d]) : ∃ V2, f_X12_holds fu V' (nI (12 * i + j)) = some (if decide (d (rs9 (V' 2272 0)) = some 1) = true then 1 else 0, V2) ∧ Fr [2271] V' V2 := by
  obtain ⟨⟨hse, hev⟩, -⟩ := hC
  have hOR : OR V' i j e 0 (sdV U) (V' 2272 0) := by
    refine ⟨hi, hj, by omega, h7, fun k _ k2 => ?_, rfl⟩
    obtain ⟨w, w1, w2⟩ := nI_of (hnn k (by omega) k2)
    unfold sdV
    rw [h60 k k2, w2, nI_clamp w1]
    exact ⟨w1, rfl⟩
  obtain ⟨b1, b2⟩ := hev (sdV U) (fun _ _ _ => rfl) (rs9 (V' 2272 0)) e (e - s + 1) [] (Nat.le_refl e) (by omega)
  rw [vals1] at b1 b2
  have hval : evR (sdV U) (rs9 (V' 2272 0)) e (e - s + 1) s [] = some (decide (d (rs9 (V' 2272 0)) = some 1)) := by
    cases hd : d (rs9 (V' 2272 0)) with
    | none => rw [hd] at b2; rw [b2 rfl]; rfl
    | some b =>
      rw [hd] at b1
      obtain ⟨F', f1, f2⟩ := b1 [b] rfl
      obtain ⟨F', rfl⟩ : ∃ F2, F' = F2 + 1 := ⟨F' - 1, by omega⟩
      rw [f2, evR, if_pos (Nat.le_refl e)]
      show some (decide (b = 1)) = _
      congr 1
      by_cases z : b = 1
      · subst z; simp
      · simp [z]
  obtain ⟨V1, q1, q2⟩ := run_R (fu := fu) (i := i) (j := j) (e := e) (s := 0) (by omega) (e - s + 1) fu s _ [] V' (by omega) (by omega) (by omega) (by show 0 + (e - s + 1) ≤ 180; omega) hOR trivial (fun _ _ _ _ => Nat.zero_le _) hval
  refine ⟨V1, ?_, q2⟩
  have e12 : nI (12 * i + j) / 12 = nI i := by
    rw [show (12 : Int32) = nI 12 from rfl, pk_div (by omega) (by omega) (by omega)]; congr 1; omega
  have e180 : (180 : Int32) * nI i = nI (180 * i) := by rw [show (180 : Int32) = nI 180 from rfl, pk_mul]
  rw [f_X12_holds, nI_clamp (show 12 * i + j < 2 ^ 31 by omega), gd_t (show ¬ (nI (12 * i + j) < 0 ∨ 360 ≤ 12 * i + j) from fun w => w.elim (nI_pos (by omega)) (fun w => by omega)), e12, e180, h6]
  have q1' : Lp_X12_holds_19 (F_X12_holds_210 fu) (F_X12_holds_242 fu) fu fu V' (nI (12 * i + j)) 0 (nI (180 * i)) (nI (180 * i + s)) = some (b01 (decide (d (rs9 (V' 2272 0)) = some 1)), V1) := q1
  rw [q1']
  rfl
theorem HoldsOK.of {V W : St} {i j : Nat} (h : HoldsOK V i j) (h1 : W 1704 i = V 1704 i) (h2 : W 1708 i = V 1708 i) (h3 : W 1709 i = V 1709 i) (h4 : W 1790 i = V 1790 i) (h5 : ∀ q, 180 * i ≤ q → q < 180 * i + 180 → W 2260 0 q = V 2260 0 q) (h6 : W 2266 0 (12 * i + j) = V 2266 0 (12 * i + j)) (h7 : W 2267 0 (12 * i + j) = V 2267 0 (12 * i + j)) : HoldsOK W i j := by
  obtain ⟨g, g0, g1, g2⟩ := h
  exact ⟨g, g0, fun fu V' a b c d e f => g1 fu V' a b (by rw [c, h1]) (by rw [d, h2]) (by rw [e, h3]) (by rw [f, h4]), fun fu V' a b c d => g2 fu V' a (fun q q1 q2 => by rw [b q q1 q2, h5 q q1 q2]) (by rw [c, h6]) (by rw [d, h7])⟩
theorem cpR_lt {f : Nat → Int32} {n k j : Nat} (h : j < k) : cpR f n k j = f j := by
  unfold cpR
  by_cases z : k = n
  · rw [if_pos z]
  · rw [if_neg z, pk_cpy_in (by omega) (by omega)]; congr 1; omega
