/-! new objects of the groups, by program -/
theorem roomT_of (x : Int32) : (if x = 0 then (9 : Int32) else 0).toNatClampNeg = roomT x := by
  unfold roomT
  by_cases h : x = 0
  · rw [if_pos h, if_pos h]; decide
  · rw [if_neg h, if_neg h]; decide
theorem og_1000 : okG 2103 gv_1000 = true := by decide +kernel
theorem B_1000 {E : EN} {ad : AD} {V : St} {n q : Nat} {M0 M2 : MH} {x1 : Int32} {x2 : Int32} {x3 : Int32} (hq : M0 q = none) (h : ∃ as, CI (mset M0 q (.inr (0, [.int 0, .int 0, .int 0]))) q 0 [.inr (.int x1), .inr (.int x2), .inr (.int x3)] as [] M2) : ∃ na, na 1000 = q ∧ Born E ad V 2103 n gv_1000 (F_1000 x1 x2 x3) M0 M2 na := by
  obtain ⟨as, hC⟩ := h
  have hl := hC.2.1
  cases ln_0 hl
  refine ⟨naL [1000] (q :: []), rfl, Born.ofCI (g := 1000) hq hC rfl rfl (by decide +kernel) (fun row k c t hk ht => ?_)⟩
  match k, hk with
  | 0, hk =>
    cases hk
    cases Option.some.inj (ht.symm.trans ct_1000)
    show (some (.inr (0, [.int x1, .int x2, .int x3])) : Option va_E) = some (.inr (0, [.int (mkV V 2103 n gv_1000 (F_1000 x1 x2 x3) 1001 n 0), .int (mkV V 2103 n gv_1000 (F_1000 x1 x2 x3) 1002 n 0), .int (mkV V 2103 n gv_1000 (F_1000 x1 x2 x3) 1003 n 0)]))
    rw [show mkV V 2103 n gv_1000 (F_1000 x1 x2 x3) 1001 n 0 = x1 from (mkV_new (by decide) (by decide)).trans rfl]
    rw [show mkV V 2103 n gv_1000 (F_1000 x1 x2 x3) 1002 n 0 = x2 from (mkV_new (by decide) (by decide)).trans rfl]
    rw [show mkV V 2103 n gv_1000 (F_1000 x1 x2 x3) 1003 n 0 = x3 from (mkV_new (by decide) (by decide)).trans rfl]
  | k + 1, hk => exact absurd hk (by simp)
theorem og_1100 : okG 2109 gv_1100 = true := by decide +kernel
theorem B_1100 {E : EN} {ad : AD} {V : St} {n q : Nat} {M0 M2 : MH} {x1 : Int32} {x2 : Int32} {x3 : Int32} {x4 : Int32} (hq : M0 q = none) (h : ∃ as, CI (mset M0 q (.inr (1, [.int 0, .int 0, .int 0, .int 0, .int 0]))) q 1 [.inr (.int x1), .inr (.int x2), .inr (.int x3), .inr (.int x4), .inr (.int 1)] as [] M2) : ∃ na, na 1100 = q ∧ Born E ad V 2109 n gv_1100 (F_1100 x1 x2 x3 x4) M0 M2 na := by
  obtain ⟨as, hC⟩ := h
  have hl := hC.2.1
  cases ln_0 hl
  refine ⟨naL [1100] (q :: []), rfl, Born.ofCI (g := 1100) hq hC rfl rfl (by decide +kernel) (fun row k c t hk ht => ?_)⟩
  match k, hk with
  | 0, hk =>
    cases hk
    cases Option.some.inj (ht.symm.trans ct_1100)
    show (some (.inr (1, [.int x1, .int x2, .int x3, .int x4, .int 1])) : Option va_E) = some (.inr (1, [.int (mkV V 2109 n gv_1100 (F_1100 x1 x2 x3 x4) 1101 n 0), .int (mkV V 2109 n gv_1100 (F_1100 x1 x2 x3 x4) 1102 n 0), .int (mkV V 2109 n gv_1100 (F_1100 x1 x2 x3 x4) 1103 n 0), .int (mkV V 2109 n gv_1100 (F_1100 x1 x2 x3 x4) 1104 n 0), .int (mkV V 2109 n gv_1100 (F_1100 x1 x2 x3 x4) 1105 n 0)]))
    rw [show mkV V 2109 n gv_1100 (F_1100 x1 x2 x3 x4) 1101 n 0 = x1 from (mkV_new (by decide) (by decide)).trans rfl]
    rw [show mkV V 2109 n gv_1100 (F_1100 x1 x2 x3 x4) 1102 n 0 = x2 from (mkV_new (by decide) (by decide)).trans rfl]
    rw [show mkV V 2109 n gv_1100 (F_1100 x1 x2 x3 x4) 1103 n 0 = x3 from (mkV_new (by decide) (by decide)).trans rfl]
    rw [show mkV V 2109 n gv_1100 (F_1100 x1 x2 x3 x4) 1104 n 0 = x4 from (mkV_new (by decide) (by decide)).trans rfl]
    rw [show mkV V 2109 n gv_1100 (F_1100 x1 x2 x3 x4) 1105 n 0 = 1 from (mkV_new (by decide) (by decide)).trans rfl]
  | k + 1, hk => exact absurd hk (by simp)
theorem og_1200 : okG 2104 gv_1200 = true := by decide +kernel
theorem B_1200 {E : EN} {ad : AD} {V : St} {n q : Nat} {M0 M2 : MH} {x1 : Int32} (hq : M0 q = none) (h : ∃ as, CI (mset M0 q (.inr (2, [.int 0, .null, .null, .null, .null, .null, .null, .null, .null, .null, .null, .int 0, .int 0, .int 0, .int 0, .int 0]))) q 2 [.inr (.int x1), .inl 0, .inl 1, .inl 2, .inl 3, .inl 4, .inl 5, .inl 6, .inl 7, .inl 8, .inl 9, .inr (.int 0), .inr (.int 0), .inr (.int 0), .inr (.int (-1)), .inr (.int 0)] as [.inl (eI E, 8, .inl (fun _ => 0)), .inl (eI E, 8, .inl (fun _ => 0)), .inl (eI E, 8, .inl (fun _ => 0)), .inl (eI E, 8, .inl (fun _ => 0)), .inl (eI E, 8, .inl (fun _ => 0)), .inl (eI E, 127, .inl (fun _ => 0)), .inl (eI E, 127, .inl (fun _ => 0)), .inl (eI E, 127, .inl (fun _ => 0)), .inl (eI E, 8, .inl (fun _ => 0)), .inl (eI E, 8, .inl (fun _ => 0))] M2) : ∃ na, na 1200 = q ∧ Born E ad V 2104 n gv_1200 (F_1200 x1) M0 M2 na := by
  obtain ⟨as, hC⟩ := h
  have hl := hC.2.1
  obtain ⟨a0, as0, rfl, hl0⟩ := ln_s hl
  obtain ⟨a1, as1, rfl, hl1⟩ := ln_s hl0
  obtain ⟨a2, as2, rfl, hl2⟩ := ln_s hl1
  obtain ⟨a3, as3, rfl, hl3⟩ := ln_s hl2
  obtain ⟨a4, as4, rfl, hl4⟩ := ln_s hl3
  obtain ⟨a5, as5, rfl, hl5⟩ := ln_s hl4
  obtain ⟨a6, as6, rfl, hl6⟩ := ln_s hl5
  obtain ⟨a7, as7, rfl, hl7⟩ := ln_s hl6
  obtain ⟨a8, as8, rfl, hl8⟩ := ln_s hl7
  obtain ⟨a9, as9, rfl, hl9⟩ := ln_s hl8
  cases ln_0 hl9
  refine ⟨naL [1200, 1202, 1203, 1204, 1205, 1206, 1207, 1208, 1209, 1210, 1211] (q :: [a0, a1, a2, a3, a4, a5, a6, a7, a8, a9]), rfl, Born.ofCI (g := 1200) hq hC rfl rfl (by decide +kernel) (fun row k c t hk ht => ?_)⟩
  match k, hk with
  | 0, hk =>
    cases hk
    cases Option.some.inj (ht.symm.trans ct_1200)
    show (some (.inr (2, [.int x1, .ref a0, .ref a1, .ref a2, .ref a3, .ref a4, .ref a5, .ref a6, .ref a7, .ref a8, .ref a9, .int 0, .int 0, .int 0, .int (-1), .int 0])) : Option va_E) = some (.inr (2, [.int (mkV V 2104 n gv_1200 (F_1200 x1) 1201 n 0), .ref (adN ad 2104 n row (naL [1200, 1202, 1203, 1204, 1205, 1206, 1207, 1208, 1209, 1210, 1211] (q :: [a0, a1, a2, a3, a4, a5, a6, a7, a8, a9])) 1202 n), .ref (adN ad 2104 n row (naL [1200, 1202, 1203, 1204, 1205, 1206, 1207, 1208, 1209, 1210, 1211] (q :: [a0, a1, a2, a3, a4, a5, a6, a7, a8, a9])) 1203 n), .ref (adN ad 2104 n row (naL [1200, 1202, 1203, 1204, 1205, 1206, 1207, 1208, 1209, 1210, 1211] (q :: [a0, a1, a2, a3, a4, a5, a6, a7, a8, a9])) 1204 n), .ref (adN ad 2104 n row (naL [1200, 1202, 1203, 1204, 1205, 1206, 1207, 1208, 1209, 1210, 1211] (q :: [a0, a1, a2, a3, a4, a5, a6, a7, a8, a9])) 1205 n), .ref (adN ad 2104 n row (naL [1200, 1202, 1203, 1204, 1205, 1206, 1207, 1208, 1209, 1210, 1211] (q :: [a0, a1, a2, a3, a4, a5, a6, a7, a8, a9])) 1206 n), .ref (adN ad 2104 n row (naL [1200, 1202, 1203, 1204, 1205, 1206, 1207, 1208, 1209, 1210, 1211] (q :: [a0, a1, a2, a3, a4, a5, a6, a7, a8, a9])) 1207 n), .ref (adN ad 2104 n row (naL [1200, 1202, 1203, 1204, 1205, 1206, 1207, 1208, 1209, 1210, 1211] (q :: [a0, a1, a2, a3, a4, a5, a6, a7, a8, a9])) 1208 n), .ref (adN ad 2104 n row (naL [1200, 1202, 1203, 1204, 1205, 1206, 1207, 1208, 1209, 1210, 1211] (q :: [a0, a1, a2, a3, a4, a5, a6, a7, a8, a9])) 1209 n), .ref (adN ad 2104 n row (naL [1200, 1202, 1203, 1204, 1205, 1206, 1207, 1208, 1209, 1210, 1211] (q :: [a0, a1, a2, a3, a4, a5, a6, a7, a8, a9])) 1210 n), .ref (adN ad 2104 n row (naL [1200, 1202, 1203, 1204, 1205, 1206, 1207, 1208, 1209, 1210, 1211] (q :: [a0, a1, a2, a3, a4, a5, a6, a7, a8, a9])) 1211 n), .int (mkV V 2104 n gv_1200 (F_1200 x1) 1212 n 0), .int (mkV V 2104 n gv_1200 (F_1200 x1) 1213 n 0), .int (mkV V 2104 n gv_1200 (F_1200 x1) 1214 n 0), .int (mkV V 2104 n gv_1200 (F_1200 x1) 1215 n 0), .int (mkV V 2104 n gv_1200 (F_1200 x1) 1216 n 0)]))
    rw [show mkV V 2104 n gv_1200 (F_1200 x1) 1201 n 0 = x1 from (mkV_new (by decide) (by decide)).trans rfl]
    rw [show adN ad 2104 n row (naL [1200, 1202, 1203, 1204, 1205, 1206, 1207, 1208, 1209, 1210, 1211] (q :: [a0, a1, a2, a3, a4, a5, a6, a7, a8, a9])) 1202 n = a0 from (adN_new (by decide) (by decide +kernel)).trans rfl]
    rw [show adN ad 2104 n row (naL [1200, 1202, 1203, 1204, 1205, 1206, 1207, 1208, 1209, 1210, 1211] (q :: [a0, a1, a2, a3, a4, a5, a6, a7, a8, a9])) 1203 n = a1 from (adN_new (by decide) (by decide +kernel)).trans rfl]
    rw [show adN ad 2104 n row (naL [1200, 1202, 1203, 1204, 1205, 1206, 1207, 1208, 1209, 1210, 1211] (q :: [a0, a1, a2, a3, a4, a5, a6, a7, a8, a9])) 1204 n = a2 from (adN_new (by decide) (by decide +kernel)).trans rfl]
    rw [show adN ad 2104 n row (naL [1200, 1202, 1203, 1204, 1205, 1206, 1207, 1208, 1209, 1210, 1211] (q :: [a0, a1, a2, a3, a4, a5, a6, a7, a8, a9])) 1205 n = a3 from (adN_new (by decide) (by decide +kernel)).trans rfl]
    rw [show adN ad 2104 n row (naL [1200, 1202, 1203, 1204, 1205, 1206, 1207, 1208, 1209, 1210, 1211] (q :: [a0, a1, a2, a3, a4, a5, a6, a7, a8, a9])) 1206 n = a4 from (adN_new (by decide) (by decide +kernel)).trans rfl]
    rw [show adN ad 2104 n row (naL [1200, 1202, 1203, 1204, 1205, 1206, 1207, 1208, 1209, 1210, 1211] (q :: [a0, a1, a2, a3, a4, a5, a6, a7, a8, a9])) 1207 n = a5 from (adN_new (by decide) (by decide +kernel)).trans rfl]
    rw [show adN ad 2104 n row (naL [1200, 1202, 1203, 1204, 1205, 1206, 1207, 1208, 1209, 1210, 1211] (q :: [a0, a1, a2, a3, a4, a5, a6, a7, a8, a9])) 1208 n = a6 from (adN_new (by decide) (by decide +kernel)).trans rfl]
    rw [show adN ad 2104 n row (naL [1200, 1202, 1203, 1204, 1205, 1206, 1207, 1208, 1209, 1210, 1211] (q :: [a0, a1, a2, a3, a4, a5, a6, a7, a8, a9])) 1209 n = a7 from (adN_new (by decide) (by decide +kernel)).trans rfl]
    rw [show adN ad 2104 n row (naL [1200, 1202, 1203, 1204, 1205, 1206, 1207, 1208, 1209, 1210, 1211] (q :: [a0, a1, a2, a3, a4, a5, a6, a7, a8, a9])) 1210 n = a8 from (adN_new (by decide) (by decide +kernel)).trans rfl]
    rw [show adN ad 2104 n row (naL [1200, 1202, 1203, 1204, 1205, 1206, 1207, 1208, 1209, 1210, 1211] (q :: [a0, a1, a2, a3, a4, a5, a6, a7, a8, a9])) 1211 n = a9 from (adN_new (by decide) (by decide +kernel)).trans rfl]
    rw [show mkV V 2104 n gv_1200 (F_1200 x1) 1212 n 0 = 0 from (mkV_new (by decide) (by decide)).trans rfl]
    rw [show mkV V 2104 n gv_1200 (F_1200 x1) 1213 n 0 = 0 from (mkV_new (by decide) (by decide)).trans rfl]
    rw [show mkV V 2104 n gv_1200 (F_1200 x1) 1214 n 0 = 0 from (mkV_new (by decide) (by decide)).trans rfl]
    rw [show mkV V 2104 n gv_1200 (F_1200 x1) 1215 n 0 = (-1) from (mkV_new (by decide) (by decide)).trans rfl]
    rw [show mkV V 2104 n gv_1200 (F_1200 x1) 1216 n 0 = 0 from (mkV_new (by decide) (by decide)).trans rfl]
  | 1, hk =>
    cases hk
    cases Option.some.inj (ht.symm.trans ct_1202)
    show (some (.inl (eI E, 8, .inl (fun _ => 0))) : Option va_E) = some (.inl (eI E, 8, .inl (mkV V 2104 n gv_1200 (F_1200 x1) 1202 n)))
    rw [mkV_newF (v := 1202) (by decide) (by decide)]
    rfl
  | 2, hk =>
    cases hk
    cases Option.some.inj (ht.symm.trans ct_1203)
    show (some (.inl (eI E, 8, .inl (fun _ => 0))) : Option va_E) = some (.inl (eI E, 8, .inl (mkV V 2104 n gv_1200 (F_1200 x1) 1203 n)))
    rw [mkV_newF (v := 1203) (by decide) (by decide)]
    rfl
  | 3, hk =>
    cases hk
    cases Option.some.inj (ht.symm.trans ct_1204)
    show (some (.inl (eI E, 8, .inl (fun _ => 0))) : Option va_E) = some (.inl (eI E, 8, .inl (mkV V 2104 n gv_1200 (F_1200 x1) 1204 n)))
    rw [mkV_newF (v := 1204) (by decide) (by decide)]
    rfl
  | 4, hk =>
    cases hk
    cases Option.some.inj (ht.symm.trans ct_1205)
    show (some (.inl (eI E, 8, .inl (fun _ => 0))) : Option va_E) = some (.inl (eI E, 8, .inl (mkV V 2104 n gv_1200 (F_1200 x1) 1205 n)))
    rw [mkV_newF (v := 1205) (by decide) (by decide)]
    rfl
  | 5, hk =>
    cases hk
    cases Option.some.inj (ht.symm.trans ct_1206)
    show (some (.inl (eI E, 8, .inl (fun _ => 0))) : Option va_E) = some (.inl (eI E, 8, .inl (mkV V 2104 n gv_1200 (F_1200 x1) 1206 n)))
    rw [mkV_newF (v := 1206) (by decide) (by decide)]
    rfl
  | 6, hk =>
    cases hk
    cases Option.some.inj (ht.symm.trans ct_1207)
    show (some (.inl (eI E, 127, .inl (fun _ => 0))) : Option va_E) = some (.inl (eI E, 127, .inl (mkV V 2104 n gv_1200 (F_1200 x1) 1207 n)))
    rw [mkV_newF (v := 1207) (by decide) (by decide)]
    rfl
  | 7, hk =>
    cases hk
    cases Option.some.inj (ht.symm.trans ct_1208)
    show (some (.inl (eI E, 127, .inl (fun _ => 0))) : Option va_E) = some (.inl (eI E, 127, .inl (mkV V 2104 n gv_1200 (F_1200 x1) 1208 n)))
    rw [mkV_newF (v := 1208) (by decide) (by decide)]
    rfl
  | 8, hk =>
    cases hk
    cases Option.some.inj (ht.symm.trans ct_1209)
    show (some (.inl (eI E, 127, .inl (fun _ => 0))) : Option va_E) = some (.inl (eI E, 127, .inl (mkV V 2104 n gv_1200 (F_1200 x1) 1209 n)))
    rw [mkV_newF (v := 1209) (by decide) (by decide)]
    rfl
  | 9, hk =>
    cases hk
    cases Option.some.inj (ht.symm.trans ct_1210)
    show (some (.inl (eI E, 8, .inl (fun _ => 0))) : Option va_E) = some (.inl (eI E, 8, .inl (mkV V 2104 n gv_1200 (F_1200 x1) 1210 n)))
    rw [mkV_newF (v := 1210) (by decide) (by decide)]
    rfl
  | 10, hk =>
    cases hk
    cases Option.some.inj (ht.symm.trans ct_1211)
    show (some (.inl (eI E, 8, .inl (fun _ => 0))) : Option va_E) = some (.inl (eI E, 8, .inl (mkV V 2104 n gv_1200 (F_1200 x1) 1211 n)))
    rw [mkV_newF (v := 1211) (by decide) (by decide)]
    rfl
  | k + 11, hk => exact absurd hk (by simp)
theorem og_1300 : okG 2110 gv_1300 = true := by decide +kernel
theorem B_1300 {E : EN} {ad : AD} {V : St} {n q : Nat} {M0 M2 : MH} {x1 : Int32} {x2 : Int32} {x3 : Int32} {x4 : Int32} (hq : M0 q = none) (h : ∃ as, CI (mset M0 q (.inr (3, [.int 0, .int 0, .int 0, .int 0]))) q 3 [.inr (.int x1), .inr (.int x2), .inr (.int x3), .inr (.int x4)] as [] M2) : ∃ na, na 1300 = q ∧ Born E ad V 2110 n gv_1300 (F_1300 x1 x2 x3 x4) M0 M2 na := by
  obtain ⟨as, hC⟩ := h
  have hl := hC.2.1
  cases ln_0 hl
  refine ⟨naL [1300] (q :: []), rfl, Born.ofCI (g := 1300) hq hC rfl rfl (by decide +kernel) (fun row k c t hk ht => ?_)⟩
  match k, hk with
  | 0, hk =>
    cases hk
    cases Option.some.inj (ht.symm.trans ct_1300)
    show (some (.inr (3, [.int x1, .int x2, .int x3, .int x4])) : Option va_E) = some (.inr (3, [.int (mkV V 2110 n gv_1300 (F_1300 x1 x2 x3 x4) 1301 n 0), .int (mkV V 2110 n gv_1300 (F_1300 x1 x2 x3 x4) 1302 n 0), .int (mkV V 2110 n gv_1300 (F_1300 x1 x2 x3 x4) 1303 n 0), .int (mkV V 2110 n gv_1300 (F_1300 x1 x2 x3 x4) 1304 n 0)]))
    rw [show mkV V 2110 n gv_1300 (F_1300 x1 x2 x3 x4) 1301 n 0 = x1 from (mkV_new (by decide) (by decide)).trans rfl]
    rw [show mkV V 2110 n gv_1300 (F_1300 x1 x2 x3 x4) 1302 n 0 = x2 from (mkV_new (by decide) (by decide)).trans rfl]
    rw [show mkV V 2110 n gv_1300 (F_1300 x1 x2 x3 x4) 1303 n 0 = x3 from (mkV_new (by decide) (by decide)).trans rfl]
    rw [show mkV V 2110 n gv_1300 (F_1300 x1 x2 x3 x4) 1304 n 0 = x4 from (mkV_new (by decide) (by decide)).trans rfl]
  | k + 1, hk => exact absurd hk (by simp)
theorem og_1330 : okG 2111 gv_1330 = true := by decide +kernel
theorem B_1330 {E : EN} {ad : AD} {V : St} {n q : Nat} {M0 M2 : MH} {x1 : Int32} {x2 : Int32} {x3 : Int32} {x4 : Int32} (hq : M0 q = none) (h : ∃ as, CI (mset M0 q (.inr (3, [.int 0, .int 0, .int 0, .int 0]))) q 3 [.inr (.int x1), .inr (.int x2), .inr (.int x3), .inr (.int x4)] as [] M2) : ∃ na, na 1330 = q ∧ Born E ad V 2111 n gv_1330 (F_1330 x1 x2 x3 x4) M0 M2 na := by
  obtain ⟨as, hC⟩ := h
  have hl := hC.2.1
  cases ln_0 hl
  refine ⟨naL [1330] (q :: []), rfl, Born.ofCI (g := 1330) hq hC rfl rfl (by decide +kernel) (fun row k c t hk ht => ?_)⟩
  match k, hk with
  | 0, hk =>
    cases hk
    cases Option.some.inj (ht.symm.trans ct_1330)
    show (some (.inr (3, [.int x1, .int x2, .int x3, .int x4])) : Option va_E) = some (.inr (3, [.int (mkV V 2111 n gv_1330 (F_1330 x1 x2 x3 x4) 1331 n 0), .int (mkV V 2111 n gv_1330 (F_1330 x1 x2 x3 x4) 1332 n 0), .int (mkV V 2111 n gv_1330 (F_1330 x1 x2 x3 x4) 1333 n 0), .int (mkV V 2111 n gv_1330 (F_1330 x1 x2 x3 x4) 1334 n 0)]))
    rw [show mkV V 2111 n gv_1330 (F_1330 x1 x2 x3 x4) 1331 n 0 = x1 from (mkV_new (by decide) (by decide)).trans rfl]
    rw [show mkV V 2111 n gv_1330 (F_1330 x1 x2 x3 x4) 1332 n 0 = x2 from (mkV_new (by decide) (by decide)).trans rfl]
    rw [show mkV V 2111 n gv_1330 (F_1330 x1 x2 x3 x4) 1333 n 0 = x3 from (mkV_new (by decide) (by decide)).trans rfl]
    rw [show mkV V 2111 n gv_1330 (F_1330 x1 x2 x3 x4) 1334 n 0 = x4 from (mkV_new (by decide) (by decide)).trans rfl]
  | k + 1, hk => exact absurd hk (by simp)
theorem og_1360 : okG 2112 gv_1360 = true := by decide +kernel
theorem B_1360 {E : EN} {ad : AD} {V : St} {n q : Nat} {M0 M2 : MH} {x1 : Int32} {x2 : Int32} {x3 : Int32} {x4 : Int32} (hq : M0 q = none) (h : ∃ as, CI (mset M0 q (.inr (3, [.int 0, .int 0, .int 0, .int 0]))) q 3 [.inr (.int x1), .inr (.int x2), .inr (.int x3), .inr (.int x4)] as [] M2) : ∃ na, na 1360 = q ∧ Born E ad V 2112 n gv_1360 (F_1360 x1 x2 x3 x4) M0 M2 na := by
  obtain ⟨as, hC⟩ := h
  have hl := hC.2.1
  cases ln_0 hl
  refine ⟨naL [1360] (q :: []), rfl, Born.ofCI (g := 1360) hq hC rfl rfl (by decide +kernel) (fun row k c t hk ht => ?_)⟩
  match k, hk with
  | 0, hk =>
    cases hk
    cases Option.some.inj (ht.symm.trans ct_1360)
    show (some (.inr (3, [.int x1, .int x2, .int x3, .int x4])) : Option va_E) = some (.inr (3, [.int (mkV V 2112 n gv_1360 (F_1360 x1 x2 x3 x4) 1361 n 0), .int (mkV V 2112 n gv_1360 (F_1360 x1 x2 x3 x4) 1362 n 0), .int (mkV V 2112 n gv_1360 (F_1360 x1 x2 x3 x4) 1363 n 0), .int (mkV V 2112 n gv_1360 (F_1360 x1 x2 x3 x4) 1364 n 0)]))
    rw [show mkV V 2112 n gv_1360 (F_1360 x1 x2 x3 x4) 1361 n 0 = x1 from (mkV_new (by decide) (by decide)).trans rfl]
    rw [show mkV V 2112 n gv_1360 (F_1360 x1 x2 x3 x4) 1362 n 0 = x2 from (mkV_new (by decide) (by decide)).trans rfl]
    rw [show mkV V 2112 n gv_1360 (F_1360 x1 x2 x3 x4) 1363 n 0 = x3 from (mkV_new (by decide) (by decide)).trans rfl]
    rw [show mkV V 2112 n gv_1360 (F_1360 x1 x2 x3 x4) 1364 n 0 = x4 from (mkV_new (by decide) (by decide)).trans rfl]
  | k + 1, hk => exact absurd hk (by simp)
theorem og_1600 : okG 2106 gv_1600 = true := by decide +kernel
theorem B_1600 {E : EN} {ad : AD} {V : St} {n q : Nat} {M0 M2 : MH} {x1 : Int32} {x2 : Int32} {x3 : Int32} {x4 : Int32} {x5 : Int32} (hq : M0 q = none) (h : ∃ as, CI (mset M0 q (.inr (6, [.int 0, .int 0, .int 0, .int 0, .int 0, .null, .int 0, .int 0]))) q 6 [.inr (.int x1), .inr (.int x2), .inr (.int x3), .inr (.int x4), .inr (.int x5), .inl 0, .inr (.int 0), .inr (.int 0)] as [.inl (eI E, 20, .inl (fun _ => 0))] M2) : ∃ na, na 1600 = q ∧ Born E ad V 2106 n gv_1600 (F_1600 x1 x2 x3 x4 x5) M0 M2 na := by
  obtain ⟨as, hC⟩ := h
  have hl := hC.2.1
  obtain ⟨a0, as0, rfl, hl0⟩ := ln_s hl
  cases ln_0 hl0
  refine ⟨naL [1600, 1606] (q :: [a0]), rfl, Born.ofCI (g := 1600) hq hC rfl rfl (by decide +kernel) (fun row k c t hk ht => ?_)⟩
  match k, hk with
  | 0, hk =>
    cases hk
    cases Option.some.inj (ht.symm.trans ct_1600)
    show (some (.inr (6, [.int x1, .int x2, .int x3, .int x4, .int x5, .ref a0, .int 0, .int 0])) : Option va_E) = some (.inr (6, [.int (mkV V 2106 n gv_1600 (F_1600 x1 x2 x3 x4 x5) 1601 n 0), .int (mkV V 2106 n gv_1600 (F_1600 x1 x2 x3 x4 x5) 1602 n 0), .int (mkV V 2106 n gv_1600 (F_1600 x1 x2 x3 x4 x5) 1603 n 0), .int (mkV V 2106 n gv_1600 (F_1600 x1 x2 x3 x4 x5) 1604 n 0), .int (mkV V 2106 n gv_1600 (F_1600 x1 x2 x3 x4 x5) 1605 n 0), .ref (adN ad 2106 n row (naL [1600, 1606] (q :: [a0])) 1606 n), .int (mkV V 2106 n gv_1600 (F_1600 x1 x2 x3 x4 x5) 1607 n 0), .int (mkV V 2106 n gv_1600 (F_1600 x1 x2 x3 x4 x5) 1608 n 0)]))
    rw [show mkV V 2106 n gv_1600 (F_1600 x1 x2 x3 x4 x5) 1601 n 0 = x1 from (mkV_new (by decide) (by decide)).trans rfl]
    rw [show mkV V 2106 n gv_1600 (F_1600 x1 x2 x3 x4 x5) 1602 n 0 = x2 from (mkV_new (by decide) (by decide)).trans rfl]
    rw [show mkV V 2106 n gv_1600 (F_1600 x1 x2 x3 x4 x5) 1603 n 0 = x3 from (mkV_new (by decide) (by decide)).trans rfl]
    rw [show mkV V 2106 n gv_1600 (F_1600 x1 x2 x3 x4 x5) 1604 n 0 = x4 from (mkV_new (by decide) (by decide)).trans rfl]
    rw [show mkV V 2106 n gv_1600 (F_1600 x1 x2 x3 x4 x5) 1605 n 0 = x5 from (mkV_new (by decide) (by decide)).trans rfl]
    rw [show adN ad 2106 n row (naL [1600, 1606] (q :: [a0])) 1606 n = a0 from (adN_new (by decide) (by decide +kernel)).trans rfl]
    rw [show mkV V 2106 n gv_1600 (F_1600 x1 x2 x3 x4 x5) 1607 n 0 = 0 from (mkV_new (by decide) (by decide)).trans rfl]
    rw [show mkV V 2106 n gv_1600 (F_1600 x1 x2 x3 x4 x5) 1608 n 0 = 0 from (mkV_new (by decide) (by decide)).trans rfl]
  | 1, hk =>
    cases hk
    cases Option.some.inj (ht.symm.trans ct_1606)
    show (some (.inl (eI E, 20, .inl (fun _ => 0))) : Option va_E) = some (.inl (eI E, 20, .inl (mkV V 2106 n gv_1600 (F_1600 x1 x2 x3 x4 x5) 1606 n)))
    rw [mkV_newF (v := 1606) (by decide) (by decide)]
    rfl
  | k + 2, hk => exact absurd hk (by simp)
theorem og_1700 : okG 1401 gv_1700 = true := by decide +kernel
theorem B_1700 {E : EN} {ad : AD} {V : St} {n q : Nat} {M0 M2 : MH} {x1 : Int32} {x2 : Int32} {x3 : Int32} {kx : Int32} {ky : Int32} {f1 : Nat → Int32} {f2 : Nat → Int32} {f3 : Nat → Int32} {f4 : Nat → Int32} {f5 : Nat → Int32} (hq : M0 q = none) (h : ∃ as, CI (mset M0 q (.inr (7, [.int 0, .int 0, .int 0, .int 0, .null, .null, .null, .null, .null]))) q 7 [.inr (.int x1), .inr (.int x2), .inr (.int x3), .inr (.int kx), .inl 0, .inl 1, .inl 2, .inl 3, .inl 4] as [.inl (eI E, (kx).toNatClampNeg, .inl (cpR f1 12 (kx).toNatClampNeg)), .inl (eI E, (kx).toNatClampNeg, .inl (cpR f2 12 (kx).toNatClampNeg)), .inl (eI E, (kx).toNatClampNeg, .inl (cpR f3 12 (kx).toNatClampNeg)), .inl (eI E, (kx).toNatClampNeg, .inl (cpR f4 12 (kx).toNatClampNeg)), .inl (eI E, (ky).toNatClampNeg, .inl (cpR f5 160 (ky).toNatClampNeg))] M2) : ∃ na, na 1700 = q ∧ Born E ad V 1401 n gv_1700 (F_1700 x1 x2 x3 kx ky f1 f2 f3 f4 f5) M0 M2 na := by
  obtain ⟨as, hC⟩ := h
  have hl := hC.2.1
  obtain ⟨a0, as0, rfl, hl0⟩ := ln_s hl
  obtain ⟨a1, as1, rfl, hl1⟩ := ln_s hl0
  obtain ⟨a2, as2, rfl, hl2⟩ := ln_s hl1
  obtain ⟨a3, as3, rfl, hl3⟩ := ln_s hl2
  obtain ⟨a4, as4, rfl, hl4⟩ := ln_s hl3
  cases ln_0 hl4
  refine ⟨naL [1700, 1705, 1706, 1707, 1708, 1709] (q :: [a0, a1, a2, a3, a4]), rfl, Born.ofCI (g := 1700) hq hC rfl rfl (by decide +kernel) (fun row k c t hk ht => ?_)⟩
  match k, hk with
  | 0, hk =>
    cases hk
    cases Option.some.inj (ht.symm.trans ct_1700)
    show (some (.inr (7, [.int x1, .int x2, .int x3, .int kx, .ref a0, .ref a1, .ref a2, .ref a3, .ref a4])) : Option va_E) = some (.inr (7, [.int (mkV V 1401 n gv_1700 (F_1700 x1 x2 x3 kx ky f1 f2 f3 f4 f5) 1701 n 0), .int (mkV V 1401 n gv_1700 (F_1700 x1 x2 x3 kx ky f1 f2 f3 f4 f5) 1702 n 0), .int (mkV V 1401 n gv_1700 (F_1700 x1 x2 x3 kx ky f1 f2 f3 f4 f5) 1703 n 0), .int (mkV V 1401 n gv_1700 (F_1700 x1 x2 x3 kx ky f1 f2 f3 f4 f5) 1704 n 0), .ref (adN ad 1401 n row (naL [1700, 1705, 1706, 1707, 1708, 1709] (q :: [a0, a1, a2, a3, a4])) 1705 n), .ref (adN ad 1401 n row (naL [1700, 1705, 1706, 1707, 1708, 1709] (q :: [a0, a1, a2, a3, a4])) 1706 n), .ref (adN ad 1401 n row (naL [1700, 1705, 1706, 1707, 1708, 1709] (q :: [a0, a1, a2, a3, a4])) 1707 n), .ref (adN ad 1401 n row (naL [1700, 1705, 1706, 1707, 1708, 1709] (q :: [a0, a1, a2, a3, a4])) 1708 n), .ref (adN ad 1401 n row (naL [1700, 1705, 1706, 1707, 1708, 1709] (q :: [a0, a1, a2, a3, a4])) 1709 n)]))
    rw [show mkV V 1401 n gv_1700 (F_1700 x1 x2 x3 kx ky f1 f2 f3 f4 f5) 1701 n 0 = x1 from (mkV_new (by decide) (by decide)).trans rfl]
    rw [show mkV V 1401 n gv_1700 (F_1700 x1 x2 x3 kx ky f1 f2 f3 f4 f5) 1702 n 0 = x2 from (mkV_new (by decide) (by decide)).trans rfl]
    rw [show mkV V 1401 n gv_1700 (F_1700 x1 x2 x3 kx ky f1 f2 f3 f4 f5) 1703 n 0 = x3 from (mkV_new (by decide) (by decide)).trans rfl]
    rw [show mkV V 1401 n gv_1700 (F_1700 x1 x2 x3 kx ky f1 f2 f3 f4 f5) 1704 n 0 = kx from (mkV_new (by decide) (by decide)).trans rfl]
    rw [show adN ad 1401 n row (naL [1700, 1705, 1706, 1707, 1708, 1709] (q :: [a0, a1, a2, a3, a4])) 1705 n = a0 from (adN_new (by decide) (by decide +kernel)).trans rfl]
    rw [show adN ad 1401 n row (naL [1700, 1705, 1706, 1707, 1708, 1709] (q :: [a0, a1, a2, a3, a4])) 1706 n = a1 from (adN_new (by decide) (by decide +kernel)).trans rfl]
    rw [show adN ad 1401 n row (naL [1700, 1705, 1706, 1707, 1708, 1709] (q :: [a0, a1, a2, a3, a4])) 1707 n = a2 from (adN_new (by decide) (by decide +kernel)).trans rfl]
    rw [show adN ad 1401 n row (naL [1700, 1705, 1706, 1707, 1708, 1709] (q :: [a0, a1, a2, a3, a4])) 1708 n = a3 from (adN_new (by decide) (by decide +kernel)).trans rfl]
    rw [show adN ad 1401 n row (naL [1700, 1705, 1706, 1707, 1708, 1709] (q :: [a0, a1, a2, a3, a4])) 1709 n = a4 from (adN_new (by decide) (by decide +kernel)).trans rfl]
  | 1, hk =>
    cases hk
    cases Option.some.inj (ht.symm.trans ct_1705)
    show (some (.inl (eI E, (kx).toNatClampNeg, .inl (cpR f1 12 (kx).toNatClampNeg))) : Option va_E) = some (.inl (eI E, (mkV V 1401 n gv_1700 (F_1700 x1 x2 x3 kx ky f1 f2 f3 f4 f5) 1704 n 0).toNatClampNeg, .inl (mkV V 1401 n gv_1700 (F_1700 x1 x2 x3 kx ky f1 f2 f3 f4 f5) 1705 n)))
    rw [show mkV V 1401 n gv_1700 (F_1700 x1 x2 x3 kx ky f1 f2 f3 f4 f5) 1704 n 0 = kx from (mkV_new (by decide) (by decide)).trans rfl]
    rw [mkV_newF (v := 1705) (by decide) (by decide)]
    rfl
  | 2, hk =>
    cases hk
    cases Option.some.inj (ht.symm.trans ct_1706)
    show (some (.inl (eI E, (kx).toNatClampNeg, .inl (cpR f2 12 (kx).toNatClampNeg))) : Option va_E) = some (.inl (eI E, (mkV V 1401 n gv_1700 (F_1700 x1 x2 x3 kx ky f1 f2 f3 f4 f5) 1704 n 0).toNatClampNeg, .inl (mkV V 1401 n gv_1700 (F_1700 x1 x2 x3 kx ky f1 f2 f3 f4 f5) 1706 n)))
    rw [show mkV V 1401 n gv_1700 (F_1700 x1 x2 x3 kx ky f1 f2 f3 f4 f5) 1704 n 0 = kx from (mkV_new (by decide) (by decide)).trans rfl]
    rw [mkV_newF (v := 1706) (by decide) (by decide)]
    rfl
  | 3, hk =>
    cases hk
    cases Option.some.inj (ht.symm.trans ct_1707)
    show (some (.inl (eI E, (kx).toNatClampNeg, .inl (cpR f3 12 (kx).toNatClampNeg))) : Option va_E) = some (.inl (eI E, (mkV V 1401 n gv_1700 (F_1700 x1 x2 x3 kx ky f1 f2 f3 f4 f5) 1704 n 0).toNatClampNeg, .inl (mkV V 1401 n gv_1700 (F_1700 x1 x2 x3 kx ky f1 f2 f3 f4 f5) 1707 n)))
    rw [show mkV V 1401 n gv_1700 (F_1700 x1 x2 x3 kx ky f1 f2 f3 f4 f5) 1704 n 0 = kx from (mkV_new (by decide) (by decide)).trans rfl]
    rw [mkV_newF (v := 1707) (by decide) (by decide)]
    rfl
  | 4, hk =>
    cases hk
    cases Option.some.inj (ht.symm.trans ct_1708)
    show (some (.inl (eI E, (kx).toNatClampNeg, .inl (cpR f4 12 (kx).toNatClampNeg))) : Option va_E) = some (.inl (eI E, (mkV V 1401 n gv_1700 (F_1700 x1 x2 x3 kx ky f1 f2 f3 f4 f5) 1704 n 0).toNatClampNeg, .inl (mkV V 1401 n gv_1700 (F_1700 x1 x2 x3 kx ky f1 f2 f3 f4 f5) 1708 n)))
    rw [show mkV V 1401 n gv_1700 (F_1700 x1 x2 x3 kx ky f1 f2 f3 f4 f5) 1704 n 0 = kx from (mkV_new (by decide) (by decide)).trans rfl]
    rw [mkV_newF (v := 1708) (by decide) (by decide)]
    rfl
  | 5, hk =>
    cases hk
    cases Option.some.inj (ht.symm.trans ct_1709)
    show (some (.inl (eI E, (ky).toNatClampNeg, .inl (cpR f5 160 (ky).toNatClampNeg))) : Option va_E) = some (.inl (eI E, (mkV V 1401 n gv_1700 (F_1700 x1 x2 x3 kx ky f1 f2 f3 f4 f5) 1790 n 0).toNatClampNeg, .inl (mkV V 1401 n gv_1700 (F_1700 x1 x2 x3 kx ky f1 f2 f3 f4 f5) 1709 n)))
    rw [show mkV V 1401 n gv_1700 (F_1700 x1 x2 x3 kx ky f1 f2 f3 f4 f5) 1790 n 0 = ky from (mkV_new (by decide) (by decide)).trans rfl]
    rw [mkV_newF (v := 1709) (by decide) (by decide)]
    rfl
  | k + 6, hk => exact absurd hk (by simp)
theorem og_1800 : okG 2108 gv_1800 = true := by decide +kernel
theorem B_1800 {E : EN} {ad : AD} {V : St} {n q : Nat} {M0 M2 : MH} {x1 : Int32} (hq : M0 q = none) (h : ∃ as, CI (mset M0 q (.inr (8, [.int 0, .int 0]))) q 8 [.inr (.int 0), .inr (.int x1)] as [] M2) : ∃ na, na 1800 = q ∧ Born E ad V 2108 n gv_1800 (F_1800 x1) M0 M2 na := by
  obtain ⟨as, hC⟩ := h
  have hl := hC.2.1
  cases ln_0 hl
  refine ⟨naL [1800] (q :: []), rfl, Born.ofCI (g := 1800) hq hC rfl rfl (by decide +kernel) (fun row k c t hk ht => ?_)⟩
  match k, hk with
  | 0, hk =>
    cases hk
    cases Option.some.inj (ht.symm.trans ct_1800)
    show (some (.inr (8, [.int 0, .int x1])) : Option va_E) = some (.inr (8, [.int (mkV V 2108 n gv_1800 (F_1800 x1) 1801 n 0), .int (mkV V 2108 n gv_1800 (F_1800 x1) 1802 n 0)]))
    rw [show mkV V 2108 n gv_1800 (F_1800 x1) 1801 n 0 = 0 from (mkV_new (by decide) (by decide)).trans rfl]
    rw [show mkV V 2108 n gv_1800 (F_1800 x1) 1802 n 0 = x1 from (mkV_new (by decide) (by decide)).trans rfl]
  | k + 1, hk => exact absurd hk (by simp)
theorem og_2000 : okG 2105 gv_2000 = true := by decide +kernel
theorem B_2000 {E : EN} {ad : AD} {V : St} {n q : Nat} {M0 M2 : MH} {x1 : Int32} {x2 : Int32} {x3 : Int32} {x4 : Int32} {x5 : Int32} {w : Value} (hw : w = rfq ad 1000 x3) (hq : M0 q = none) (h : ∃ as, CI (mset M0 q (.inr (10, [.int 0, .int 0, .null, .int 0, .int 0, .null, .null, .null, .int 0, .int 0]))) q 10 [.inr (.int x1), .inr (.int x2), .inr (w), .inr (.int x4), .inr (.int x5), .inl 0, .inl 1, .inl 2, .inr (.int 0), .inr (.int 1)] as [.inl (eI E, 2, .inl (fun _ => 0)), .inl (eI E, roomT x1, .inl (fun _ => 0)), .inl (eI E, roomT x1, .inl (fun _ => 0))] M2) : ∃ na, na 2000 = q ∧ Born E ad V 2105 n gv_2000 (F_2000 x1 x2 x3 x4 x5) M0 M2 na := by
  obtain ⟨as, hC⟩ := h
  have hl := hC.2.1
  obtain ⟨a0, as0, rfl, hl0⟩ := ln_s hl
  obtain ⟨a1, as1, rfl, hl1⟩ := ln_s hl0
  obtain ⟨a2, as2, rfl, hl2⟩ := ln_s hl1
  cases ln_0 hl2
  refine ⟨naL [2000, 2006, 2007, 2008] (q :: [a0, a1, a2]), rfl, Born.ofCI (g := 2000) hq hC rfl rfl (by decide +kernel) (fun row k c t hk ht => ?_)⟩
  match k, hk with
  | 0, hk =>
    cases hk
    cases Option.some.inj (ht.symm.trans ct_2000)
    show (some (.inr (10, [.int x1, .int x2, w, .int x4, .int x5, .ref a0, .ref a1, .ref a2, .int 0, .int 1])) : Option va_E) = some (.inr (10, [.int (mkV V 2105 n gv_2000 (F_2000 x1 x2 x3 x4 x5) 2001 n 0), .int (mkV V 2105 n gv_2000 (F_2000 x1 x2 x3 x4 x5) 2002 n 0), (if mkV V 2105 n gv_2000 (F_2000 x1 x2 x3 x4 x5) 2003 n 0 < 0 then .null else .ref (adN ad 2105 n row (naL [2000, 2006, 2007, 2008] (q :: [a0, a1, a2])) 1000 (mkV V 2105 n gv_2000 (F_2000 x1 x2 x3 x4 x5) 2003 n 0).toNatClampNeg)), .int (mkV V 2105 n gv_2000 (F_2000 x1 x2 x3 x4 x5) 2004 n 0), .int (mkV V 2105 n gv_2000 (F_2000 x1 x2 x3 x4 x5) 2005 n 0), .ref (adN ad 2105 n row (naL [2000, 2006, 2007, 2008] (q :: [a0, a1, a2])) 2006 n), .ref (adN ad 2105 n row (naL [2000, 2006, 2007, 2008] (q :: [a0, a1, a2])) 2007 n), .ref (adN ad 2105 n row (naL [2000, 2006, 2007, 2008] (q :: [a0, a1, a2])) 2008 n), .int (mkV V 2105 n gv_2000 (F_2000 x1 x2 x3 x4 x5) 2009 n 0), .int (mkV V 2105 n gv_2000 (F_2000 x1 x2 x3 x4 x5) 2010 n 0)]))
    rw [show mkV V 2105 n gv_2000 (F_2000 x1 x2 x3 x4 x5) 2001 n 0 = x1 from (mkV_new (by decide) (by decide)).trans rfl]
    rw [show mkV V 2105 n gv_2000 (F_2000 x1 x2 x3 x4 x5) 2002 n 0 = x2 from (mkV_new (by decide) (by decide)).trans rfl]
    rw [show mkV V 2105 n gv_2000 (F_2000 x1 x2 x3 x4 x5) 2003 n 0 = x3 from (mkV_new (by decide) (by decide)).trans rfl]
    rw [adN_old (fun z => by omega) (Or.inl (by decide +kernel))]
    rw [show mkV V 2105 n gv_2000 (F_2000 x1 x2 x3 x4 x5) 2004 n 0 = x4 from (mkV_new (by decide) (by decide)).trans rfl]
    rw [show mkV V 2105 n gv_2000 (F_2000 x1 x2 x3 x4 x5) 2005 n 0 = x5 from (mkV_new (by decide) (by decide)).trans rfl]
    rw [show adN ad 2105 n row (naL [2000, 2006, 2007, 2008] (q :: [a0, a1, a2])) 2006 n = a0 from (adN_new (by decide) (by decide +kernel)).trans rfl]
    rw [show adN ad 2105 n row (naL [2000, 2006, 2007, 2008] (q :: [a0, a1, a2])) 2007 n = a1 from (adN_new (by decide) (by decide +kernel)).trans rfl]
    rw [show adN ad 2105 n row (naL [2000, 2006, 2007, 2008] (q :: [a0, a1, a2])) 2008 n = a2 from (adN_new (by decide) (by decide +kernel)).trans rfl]
    rw [show mkV V 2105 n gv_2000 (F_2000 x1 x2 x3 x4 x5) 2009 n 0 = 0 from (mkV_new (by decide) (by decide)).trans rfl]
    rw [show mkV V 2105 n gv_2000 (F_2000 x1 x2 x3 x4 x5) 2010 n 0 = 1 from (mkV_new (by decide) (by decide)).trans rfl]
    rw [hw]
    rfl
  | 1, hk =>
    cases hk
    cases Option.some.inj (ht.symm.trans ct_2006)
    show (some (.inl (eI E, 2, .inl (fun _ => 0))) : Option va_E) = some (.inl (eI E, 2, .inl (mkV V 2105 n gv_2000 (F_2000 x1 x2 x3 x4 x5) 2006 n)))
    rw [mkV_newF (v := 2006) (by decide) (by decide)]
    rfl
  | 2, hk =>
    cases hk
    cases Option.some.inj (ht.symm.trans ct_2007)
    show (some (.inl (eI E, roomT x1, .inl (fun _ => 0))) : Option va_E) = some (.inl (eI E, (mkV V 2105 n gv_2000 (F_2000 x1 x2 x3 x4 x5) 2090 n 0).toNatClampNeg, .inl (mkV V 2105 n gv_2000 (F_2000 x1 x2 x3 x4 x5) 2007 n)))
    rw [show mkV V 2105 n gv_2000 (F_2000 x1 x2 x3 x4 x5) 2090 n 0 = if x1 = 0 then 9 else 0 from (mkV_new (by decide) (by decide)).trans rfl]
    rw [roomT_of]
    rw [mkV_newF (v := 2007) (by decide) (by decide)]
    rfl
  | 3, hk =>
    cases hk
    cases Option.some.inj (ht.symm.trans ct_2008)
    show (some (.inl (eI E, roomT x1, .inl (fun _ => 0))) : Option va_E) = some (.inl (eI E, (mkV V 2105 n gv_2000 (F_2000 x1 x2 x3 x4 x5) 2090 n 0).toNatClampNeg, .inl (mkV V 2105 n gv_2000 (F_2000 x1 x2 x3 x4 x5) 2008 n)))
    rw [show mkV V 2105 n gv_2000 (F_2000 x1 x2 x3 x4 x5) 2090 n 0 = if x1 = 0 then 9 else 0 from (mkV_new (by decide) (by decide)).trans rfl]
    rw [roomT_of]
    rw [mkV_newF (v := 2008) (by decide) (by decide)]
    rfl
  | k + 4, hk => exact absurd hk (by simp)
