abbrev AD : Type := Nat → Nat → Nat
theorem setV_same (V : St) (v i j : Nat) (x : Int32) : setV V v i j x v i j = x := if_pos ⟨rfl, rfl, rfl⟩
theorem setV_v (V : St) {v i j v' i' j' : Nat} {x : Int32} (h : v' ≠ v) : setV V v i j x v' i' j' = V v' i' j' := if_neg (fun q => h q.1)
theorem setV_i (V : St) {v i j v' i' j' : Nat} {x : Int32} (h : i' ≠ i) : setV V v i j x v' i' j' = V v' i' j' := if_neg (fun q => h q.2.1)
theorem setV_j (V : St) {v i j v' i' j' : Nat} {x : Int32} (h : j' ≠ j) : setV V v i j x v' i' j' = V v' i' j' := if_neg (fun q => h q.2.2)
def tabL : List (Nat × Nat × Nat × Nat × List (Nat × Nat × Nat)) := [(1000, 0, 0, 2103, [(0, 1001, 0), (0, 1002, 0), (0, 1003, 0)]),
  (1100, 0, 1, 2109, [(0, 1101, 0), (0, 1102, 0), (0, 1103, 0), (0, 1104, 0), (0, 1105, 0)]),
  (1200, 0, 2, 2104, [(0, 1201, 0), (1, 1202, 0), (1, 1203, 0), (1, 1204, 0), (1, 1205, 0), (1, 1206, 0), (1, 1207, 0), (1, 1208, 0), (1, 1209, 0), (1, 1210, 0), (1, 1211, 0), (0, 1212, 0), (0, 1213, 0), (0, 1214, 0), (0, 1215, 0), (0, 1216, 0)]),
  (1202, 1, 8, 2104, []),
  (1203, 1, 8, 2104, []),
  (1204, 1, 8, 2104, []),
  (1205, 1, 8, 2104, []),
  (1206, 1, 8, 2104, []),
  (1207, 1, 127, 2104, []),
  (1208, 1, 127, 2104, []),
  (1209, 1, 127, 2104, []),
  (1210, 1, 8, 2104, []),
  (1211, 1, 8, 2104, []),
  (1300, 0, 3, 2110, [(0, 1301, 0), (0, 1302, 0), (0, 1303, 0), (0, 1304, 0)]),
  (1330, 0, 3, 2111, [(0, 1331, 0), (0, 1332, 0), (0, 1333, 0), (0, 1334, 0)]),
  (1360, 0, 3, 2112, [(0, 1361, 0), (0, 1362, 0), (0, 1363, 0), (0, 1364, 0)]),
  (1400, 0, 4, 1, [(2, 1401, 0), (1, 1402, 0), (1, 1403, 0), (1, 1404, 0), (0, 1405, 0), (0, 1406, 0), (0, 1407, 0), (0, 1408, 0)]),
  (1402, 1, 30, 1, []),
  (1403, 1, 9, 1, []),
  (1404, 1, 160, 1, []),
  (1500, 0, 5, 1, [(1, 1501, 0), (1, 1502, 0), (1, 1503, 0), (1, 1504, 0), (0, 1505, 0), (3, 1506, 2000), (0, 1507, 0), (0, 1508, 0)]),
  (1501, 1, 512, 1, []),
  (1502, 1, 512, 1, []),
  (1503, 1, 512, 1, []),
  (1504, 1, 9, 1, []),
  (1600, 0, 6, 2106, [(0, 1601, 0), (0, 1602, 0), (0, 1603, 0), (0, 1604, 0), (0, 1605, 0), (1, 1606, 0), (0, 1607, 0), (0, 1608, 0)]),
  (1606, 1, 20, 2106, []),
  (1700, 0, 7, 1401, [(0, 1701, 0), (0, 1702, 0), (0, 1703, 0), (0, 1704, 0), (1, 1705, 0), (1, 1706, 0), (1, 1707, 0), (1, 1708, 0), (1, 1709, 0)]),
  (1705, 1, 1001704, 1401, []),
  (1706, 1, 1001704, 1401, []),
  (1707, 1, 1001704, 1401, []),
  (1708, 1, 1001704, 1401, []),
  (1709, 1, 1001790, 1401, []),
  (1800, 0, 8, 2108, [(0, 1801, 0), (0, 1802, 0)]),
  (1900, 0, 9, 1, [(1, 1901, 0), (1, 1902, 0), (1, 1903, 0), (1, 1904, 0), (1, 1905, 0), (0, 1906, 0), (0, 1907, 0), (3, 1908, 2113), (0, 1909, 0), (0, 1910, 0), (0, 1911, 0)]),
  (1901, 1, 12, 1, []),
  (1902, 1, 12, 1, []),
  (1903, 1, 12, 1, []),
  (1904, 1, 12, 1, []),
  (1905, 1, 160, 1, []),
  (2000, 0, 10, 2105, [(0, 2001, 0), (0, 2002, 0), (3, 2003, 1000), (0, 2004, 0), (0, 2005, 0), (1, 2006, 0), (1, 2007, 0), (1, 2008, 0), (0, 2009, 0), (0, 2010, 0)]),
  (2006, 1, 2, 2105, []),
  (2007, 1, 1002090, 2105, []),
  (2008, 1, 1002090, 2105, []),
  (2100, 0, 11, 1, [(0, 2101, 0), (0, 2102, 0), (2, 2103, 0), (2, 2104, 0), (2, 2105, 0), (2, 2106, 0), (1, 2107, 0), (2, 2108, 0), (2, 2109, 0), (2, 2110, 0), (2, 2111, 0), (2, 2112, 0), (1, 2113, 0), (0, 2114, 0), (2, 1900, 0), (2, 1400, 0), (2, 1500, 0)]),
  (2107, 1, 12, 1, []),
  (2113, 2, 1002190, 2, []),
  (2200, 0, 12, 1, [(0, 2201, 0), (0, 2202, 0), (0, 2203, 0), (0, 2204, 0), (1, 2205, 0), (1, 2206, 0), (1, 2207, 0), (1, 2208, 0), (1, 2209, 0), (1, 2210, 0), (1, 2211, 0), (1, 2212, 0), (1, 2213, 0), (1, 2214, 0), (1, 2215, 0), (1, 2216, 0), (1, 2217, 0), (1, 2218, 0), (1, 2219, 0), (1, 2220, 0), (1, 2221, 0), (1, 2222, 0), (1, 2223, 0), (1, 2224, 0), (1, 2225, 0), (1, 2226, 0), (1, 2227, 0), (1, 2228, 0), (1, 2229, 0), (1, 2230, 0), (1, 2231, 0), (0, 2232, 0), (1, 2233, 0), (1, 2234, 0), (1, 2235, 0), (1, 2236, 0), (1, 2237, 0), (1, 2238, 0), (1, 2239, 0), (1, 2240, 0), (1, 2241, 0), (0, 2242, 0), (0, 2243, 0), (0, 2244, 0), (0, 2245, 0), (0, 2246, 0), (0, 2247, 0), (0, 2248, 0), (0, 2249, 0), (0, 2250, 0), (1, 2251, 0), (1, 2252, 0), (1, 2253, 0), (1, 2254, 0), (1, 2255, 0), (1, 2256, 0), (1, 2257, 0), (0, 2258, 0), (0, 2259, 0), (1, 2260, 0), (1, 2261, 0), (1, 2262, 0), (1, 2263, 0), (1, 2264, 0), (1, 2265, 0), (1, 2266, 0), (1, 2267, 0), (1, 2268, 0), (1, 2269, 0), (1, 2270, 0), (1, 2271, 0), (1, 2272, 0), (0, 2273, 0), (0, 2274, 0), (1, 2275, 0), (1, 2276, 0), (0, 2277, 0), (1, 2278, 0), (1, 2279, 0), (0, 2280, 0), (1, 2281, 0), (1, 2282, 0), (1, 2283, 0), (1, 2284, 0), (1, 2285, 0), (0, 2286, 0), (0, 2287, 0), (0, 2288, 0), (1, 2289, 0), (1, 2290, 0), (1, 2291, 0), (1, 2292, 0), (1, 2293, 0), (1, 2294, 0), (1, 2295, 0)]),
  (2205, 1, 20, 1, []),
  (2206, 1, 20, 1, []),
  (2207, 1, 20, 1, []),
  (2208, 1, 22, 1, []),
  (2209, 1, 22, 1, []),
  (2210, 1, 22, 1, []),
  (2211, 1, 176, 1, []),
  (2212, 1, 176, 1, []),
  (2213, 1, 176, 1, []),
  (2214, 1, 176, 1, []),
  (2215, 1, 176, 1, []),
  (2216, 1, 30, 1, []),
  (2217, 1, 30, 1, []),
  (2218, 1, 30, 1, []),
  (2219, 1, 30, 1, []),
  (2220, 1, 30, 1, []),
  (2221, 1, 30, 1, []),
  (2222, 1, 30, 1, []),
  (2223, 1, 30, 1, []),
  (2224, 1, 270, 1, []),
  (2225, 1, 270, 1, []),
  (2226, 1, 8, 1, []),
  (2227, 1, 8, 1, []),
  (2228, 1, 8, 1, []),
  (2229, 1, 8, 1, []),
  (2230, 1, 9, 1, []),
  (2231, 1, 9, 1, []),
  (2233, 1, 12, 1, []),
  (2234, 1, 12, 1, []),
  (2235, 1, 12, 1, []),
  (2236, 1, 12, 1, []),
  (2237, 1, 12, 1, []),
  (2238, 1, 240, 1, []),
  (2239, 1, 12, 1, []),
  (2240, 3, 12, 1, []),
  (2241, 2, 400, 1, []),
  (2251, 1, 180, 1, []),
  (2252, 1, 180, 1, []),
  (2253, 1, 12, 1, []),
  (2254, 1, 12, 1, []),
  (2255, 1, 12, 1, []),
  (2256, 1, 12, 1, []),
  (2257, 1, 12, 1, []),
  (2260, 1, 5400, 1, []),
  (2261, 1, 30, 1, []),
  (2262, 1, 30, 1, []),
  (2263, 1, 30, 1, []),
  (2264, 1, 30, 1, []),
  (2265, 1, 360, 1, []),
  (2266, 1, 360, 1, []),
  (2267, 1, 360, 1, []),
  (2268, 1, 360, 1, []),
  (2269, 1, 360, 1, []),
  (2270, 3, 360, 1, []),
  (2271, 1, 180, 1, []),
  (2272, 1, 9, 1, []),
  (2275, 1, 180000, 1, []),
  (2276, 1, 15000, 1, []),
  (2278, 1, 40, 1, []),
  (2279, 1, 40, 1, []),
  (2281, 1, 60, 1, []),
  (2282, 1, 60, 1, []),
  (2283, 1, 60, 1, []),
  (2284, 1, 60, 1, []),
  (2285, 3, 60, 1, []),
  (2289, 1, 100, 1, []),
  (2290, 1, 100, 1, []),
  (2291, 1, 100, 1, []),
  (2292, 1, 100, 1, []),
  (2293, 1, 100, 1, []),
  (2294, 1, 100, 1, []),
  (2295, 3, 100, 1, [])]
def listL : List (Nat × Nat) := [(2103, 1000), (2104, 1200), (2105, 2000), (2106, 1600), (2108, 1800), (2109, 1100), (2110, 1300), (2111, 1330), (2112, 1360), (1401, 1700)]
abbrev TB : Type := Nat × Nat × Nat × List (Nat × Nat × Nat)
def ctab (c : Nat) : Option TB := (tabL.find? (fun r => r.1 == c)).map (fun r => r.2)
def fv (ad : AD) (V : St) (i : Nat) (d : Nat × Nat × Nat) : Value := if d.1 = 0 then .int (V d.2.1 i 0) else if d.1 = 1 then .ref (ad d.2.1 i) else if d.1 = 2 then .ref (ad d.2.1 0) else if V d.2.1 i 0 < 0 then .null else .ref (ad d.2.2 (V d.2.1 i 0).toNatClampNeg)
def cellOf (E : EN) (ad : AD) (V : St) (c i : Nat) (t : TB) : va_E := if t.1 = 0 then .inr (t.2.1, t.2.2.2.map (fv ad V i)) else if t.1 = 1 then .inl (eI E, lenV V t.2.1 i, .inl (V c i)) else if t.1 = 2 then .inl (eB3 E, lenV V t.2.1 i, .inl (V c i)) else .inl (eZ E, lenV V t.2.1 i, .inl (V c i))
def dom (V : St) (c i : Nat) : Prop := (∃ t : TB, ctab c = some t ∧ i < cntV V t.2.2.1) ∨ ((∃ g, (c, g) ∈ listL) ∧ (i = 0 ∨ (i = 1 ∧ ¬ V c 0 0 = 0)))
def lrep (E : EN) (ad : AD) (V : St) (M : MH) (Li g : Nat) : Prop := ¬ V Li 0 0 < 0 ∧ ∃ (mc : Int32) (d : Nat), M (ad Li 0) = some (.inr (13, [.int mc, .ref d, .int (V Li 0 0)])) ∧ ((d = eT E 2 ∧ V Li 0 0 = 0) ∨ (¬ V Li 0 0 = 0 ∧ d = ad Li 1 ∧ ∃ (cap : Nat) (f : Nat → Option Nat), M d = some (.inl (eO E, cap, .inr (.inr (.inr (.inr f))))) ∧ (V Li 0 0).toNatClampNeg ≤ cap ∧ cap ≤ 2000 ∧ ∀ j, j < (V Li 0 0).toNatClampNeg → f j = some (ad g j)))
def Rep (E : EN) (ad : AD) (V : St) (M : MH) : Prop := (∀ (c : Nat) (t : TB) (i : Nat), ctab c = some t → i < cntV V t.2.2.1 → M (ad c i) = some (cellOf E ad V c i t)) ∧ (∀ c c' i i' : Nat, dom V c i → dom V c' i' → ad c i = ad c' i' → c = c' ∧ i = i') ∧ ∀ Li g : Nat, (Li, g) ∈ listL → lrep E ad V M Li g
/-- v is a field's variable and nothing else: neither an array's, nor a count's, nor a length's, nor another field's -/
def okS (v c k : Nat) : Bool := tabL.all (fun r => !(r.1 == v && !(r.2.1 == 0)) && !(r.2.2.2.1 == v) && !(r.2.2.1 == 1000000 + v) && ((List.range r.2.2.2.2.length).all (fun j => let d := r.2.2.2.2.getD j (1, 0, 0); !((d.1 == 0 || d.1 == 3) && d.2.1 == v) || (r.1 == c && j == k)))) && listL.all (fun q => !(q.1 == v))
/-- c is an array's variable and nothing else -/
def okA (c : Nat) : Bool := tabL.all (fun r => !(r.2.2.2.1 == c) && !(r.2.2.1 == 1000000 + c) && (r.2.2.2.2.all (fun d => !((d.1 == 0 || d.1 == 3) && d.2.1 == c)))) && listL.all (fun q => !(q.1 == c))
theorem ctab_mem {c : Nat} {t : TB} (h : ctab c = some t) : (c, t) ∈ tabL := by
  unfold ctab at h
  cases hf : tabL.find? (fun r => r.1 == c) with
  | none => rw [hf] at h; cases h
  | some r =>
    rw [hf] at h
    have h1 := List.mem_of_find?_eq_some hf
    have h2 := List.find?_some hf
    have h3 : r.2 = t := Option.some.inj h
    have h4 : r.1 = c := by simpa using h2
    rw [← h3, ← h4]
    exact h1
theorem okS_of {v c k : Nat} (h : okS v c k = true) {c' : Nat} {t : TB} (hc : ctab c' = some t) : (c' = v → t.1 = 0) ∧ t.2.2.1 ≠ v ∧ t.2.1 ≠ 1000000 + v ∧ ∀ (j : Nat) (d : Nat × Nat × Nat), t.2.2.2[j]? = some d → (d.1 = 0 ∨ d.1 = 3) → d.2.1 = v → c' = c ∧ j = k := by
  unfold okS at h
  rw [Bool.and_eq_true] at h
  have h1 := List.all_eq_true.mp h.1 (c', t) (ctab_mem hc)
  simp only [Bool.and_eq_true, Bool.not_eq_true', Bool.and_eq_false_iff, beq_eq_false_iff_ne, ne_eq, Bool.not_eq_false', beq_iff_eq] at h1
  obtain ⟨⟨⟨q1, q2⟩, q3⟩, q4⟩ := h1
  refine ⟨fun e => ?_, q2, q3, fun j d hj ht hv => ?_⟩
  · rcases q1 with z | z
    · exact absurd e z
    · exact z
  · have hlt := (List.getElem?_eq_some_iff.mp hj).1
    have h2 := List.all_eq_true.mp q4 j (List.mem_range.mpr hlt)
    have hd : t.2.2.2.getD j (1, 0, 0) = d := by rw [List.getD_eq_getElem?_getD, hj]; rfl
    simp only [hd, Bool.or_eq_true, Bool.not_eq_true', Bool.and_eq_false_iff, Bool.or_eq_false_iff, beq_eq_false_iff_ne, ne_eq, Bool.and_eq_true, beq_iff_eq] at h2
    rcases h2 with (⟨z1, z2⟩ | z) | z
    · rcases ht with e | e
      · exact absurd e z1
      · exact absurd e z2
    · exact absurd hv z
    · exact z
theorem okS_list {v c k : Nat} (h : okS v c k = true) {Li g : Nat} (hL : (Li, g) ∈ listL) : Li ≠ v := by
  unfold okS at h
  rw [Bool.and_eq_true] at h
  have h1 := List.all_eq_true.mp h.2 (Li, g) hL
  simpa using h1
theorem okA_of {c : Nat} (h : okA c = true) {c' : Nat} {t : TB} (hc : ctab c' = some t) : t.2.2.1 ≠ c ∧ t.2.1 ≠ 1000000 + c ∧ ∀ d : Nat × Nat × Nat, d ∈ t.2.2.2 → (d.1 = 0 ∨ d.1 = 3) → d.2.1 ≠ c := by
  unfold okA at h
  rw [Bool.and_eq_true] at h
  have h1 := List.all_eq_true.mp h.1 (c', t) (ctab_mem hc)
  simp only [Bool.and_eq_true, Bool.not_eq_true', beq_eq_false_iff_ne, ne_eq] at h1
  obtain ⟨⟨q2, q3⟩, q4⟩ := h1
  refine ⟨q2, q3, fun d hd ht hv => ?_⟩
  have h2 := List.all_eq_true.mp q4 d hd
  simp only [Bool.not_eq_true', Bool.and_eq_false_iff, Bool.or_eq_false_iff, beq_eq_false_iff_ne, ne_eq] at h2
  rcases h2 with ⟨z1, z2⟩ | z
  · rcases ht with e | e
    · exact z1 e
    · exact z2 e
  · exact z hv
theorem okA_list {c : Nat} (h : okA c = true) {Li g : Nat} (hL : (Li, g) ∈ listL) : Li ≠ c := by
  unfold okA at h
  rw [Bool.and_eq_true] at h
  have h1 := List.all_eq_true.mp h.2 (Li, g) hL
  simpa using h1
theorem cntV_set {V : St} {v i j b : Nat} {x : Int32} (h : b ≠ v) : cntV (setV V v i j x) b = cntV V b := by
  unfold cntV
  rw [setV_v V h]
theorem lenV_set {V : St} {v i j a i' : Nat} {x : Int32} (h : a ≠ 1000000 + v) : lenV (setV V v i j x) a i' = lenV V a i' := by
  unfold lenV
  by_cases ha : a < 1000000
  · rw [if_pos ha, if_pos ha]
  · rw [if_neg ha, if_neg ha, setV_v V (by omega)]
theorem fv_set {ad : AD} {V : St} {v i j i' : Nat} {x : Int32} {d : Nat × Nat × Nat} (h : (d.1 = 0 ∨ d.1 = 3) → d.2.1 = v → i' ≠ i) (h2 : d.1 ≤ 3) : fv ad (setV V v i j x) i' d = fv ad V i' d := by
  unfold fv
  by_cases h0 : d.1 = 0
  · rw [if_pos h0, if_pos h0]
    by_cases hv : d.2.1 = v
    · rw [setV_i V (h (Or.inl h0) hv)]
    · rw [setV_v V hv]
  · rw [if_neg h0, if_neg h0]
    by_cases h1 : d.1 = 1
    · rw [if_pos h1, if_pos h1]
    · rw [if_neg h1, if_neg h1]
      by_cases h3 : d.1 = 2
      · rw [if_pos h3, if_pos h3]
      · rw [if_neg h3, if_neg h3]
        have e : setV V v i j x d.2.1 i' 0 = V d.2.1 i' 0 := by
          by_cases hv : d.2.1 = v
          · rw [setV_i V (h (Or.inr (by omega)) hv)]
          · rw [setV_v V hv]
        rw [e]
def tagOK : Bool := tabL.all (fun r => r.2.2.2.2.all (fun d => d.1 ≤ 3))
theorem tag_ok : tagOK = true := by decide +kernel
theorem tag_le {c : Nat} {t : TB} (hc : ctab c = some t) {d : Nat × Nat × Nat} (hd : d ∈ t.2.2.2) : d.1 ≤ 3 := by
  have h1 := List.all_eq_true.mp tag_ok (c, t) (ctab_mem hc)
  have h2 := List.all_eq_true.mp h1 d hd
  simpa using h2
theorem dom_set {V : St} {v i j : Nat} {x : Int32} (h1 : ∀ (c : Nat) (t : TB), ctab c = some t → t.2.2.1 ≠ v) (h2 : ∀ Li g : Nat, (Li, g) ∈ listL → Li ≠ v) {c a : Nat} : dom (setV V v i j x) c a ↔ dom V c a := by
  unfold dom
  constructor
  · rintro (⟨t, ht, hi⟩ | ⟨⟨g, hg⟩, hi⟩)
    · exact Or.inl ⟨t, ht, by rwa [cntV_set (h1 c t ht)] at hi⟩
    · exact Or.inr ⟨⟨g, hg⟩, by rwa [setV_v V (h2 c g hg)] at hi⟩
  · rintro (⟨t, ht, hi⟩ | ⟨⟨g, hg⟩, hi⟩)
    · exact Or.inl ⟨t, ht, by rwa [cntV_set (h1 c t ht)]⟩
    · exact Or.inr ⟨⟨g, hg⟩, by rwa [setV_v V (h2 c g hg)]⟩
theorem list_notab : ∀ q ∈ listL, ctab q.1 = none := by decide +kernel
theorem lrep_set {E : EN} {ad : AD} {V : St} {M : MH} {Li g v i j a : Nat} {x : Int32} {e : va_E} (h : lrep E ad V M Li g) (hv : Li ≠ v) (ha : ad Li 0 ≠ a) (ha1 : ¬ V Li 0 0 = 0 → ad Li 1 ≠ a) : lrep E ad (setV V v i j x) (mset M a e) Li g := by
  obtain ⟨h0, mc, d, h1, h2⟩ := h
  have e0 : setV V v i j x Li 0 0 = V Li 0 0 := setV_v V hv
  unfold lrep
  rw [e0]
  refine ⟨h0, mc, d, by rw [mset_ne M e ha]; exact h1, ?_⟩
  rcases h2 with h2 | ⟨h2, rfl, cap, f, h3, h4⟩
  · exact Or.inl h2
  · exact Or.inr ⟨h2, rfl, cap, f, by rw [mset_ne M e (ha1 h2)]; exact h3, h4⟩
theorem Rep.setS {E : EN} {ad : AD} {V : St} {M : MH} {c v i k ci b : Nat} {ds : List (Nat × Nat × Nat)} {x : Int32} {e : va_E} (hR : Rep E ad V M) (ho : okS v c k = true) (ht : ctab c = some (0, ci, b, ds)) (hi : i < cntV V b) (he : e = .inr (ci, ds.map (fv ad (setV V v i 0 x) i))) : Rep E ad (setV V v i 0 x) (mset M (ad c i) e) := by
  have hdom : ∀ {c' a : Nat}, dom (setV V v i 0 x) c' a ↔ dom V c' a := fun {c' a} => dom_set (fun c t h => (okS_of ho h).2.1) (fun Li g h => okS_list ho h)
  have hme : dom V c i := Or.inl ⟨_, ht, hi⟩
  refine ⟨fun c' t i' hc' hi' => ?_, fun c1 c2 i1 i2 d1 d2 => hR.2.1 c1 c2 i1 i2 (hdom.mp d1) (hdom.mp d2), fun Li g hL => ?_⟩
  · obtain ⟨o1, o2, o3, o4⟩ := okS_of ho hc'
    rw [cntV_set o2] at hi'
    by_cases hsame : c' = c ∧ i' = i
    · obtain ⟨rfl, rfl⟩ := hsame
      rw [hc'] at ht
      cases ht
      rw [mset_self, he]
      rfl
    · have hne : ad c' i' ≠ ad c i := fun q => hsame (hR.2.1 c' c i' i (Or.inl ⟨t, hc', hi'⟩) hme q)
      rw [mset_ne M e hne, hR.1 c' t i' hc' hi']
      unfold cellOf
      by_cases h0 : t.1 = 0
      · rw [if_pos h0, if_pos h0]
        refine congrArg some (congrArg Sum.inr (congrArg (Prod.mk t.2.1) (List.map_congr_left fun d hd => ?_)))
        refine (fv_set (fun h1 h2 => ?_) (tag_le hc' hd)).symm
        obtain ⟨j, hj⟩ := List.getElem?_of_mem hd
        obtain ⟨e1, -⟩ := o4 j d hj h1 h2
        exact fun e2 => hsame ⟨e1, e2⟩
      · have hcv : c' ≠ v := fun q => h0 (o1 q)
        have ec : setV V v i 0 x c' i' = V c' i' := funext fun j => setV_v V hcv
        rw [if_neg h0, if_neg h0, lenV_set o3, ec]
  · have hn : ∀ a, dom V Li a → ad Li a ≠ ad c i := by
      intro a hda q
      have := (hR.2.1 Li c a i hda hme q).1
      have hl := list_notab (Li, g) hL
      rw [show (Li, g).1 = Li from rfl, this, ht] at hl
      cases hl
    exact lrep_set (hR.2.2 Li g hL) (okS_list ho hL) (hn 0 (Or.inr ⟨⟨g, hL⟩, Or.inl rfl⟩)) (fun h => hn 1 (Or.inr ⟨⟨g, hL⟩, Or.inr ⟨rfl, h⟩⟩))
theorem Rep.setA {E : EN} {ad : AD} {V : St} {M : MH} {c i j : Nat} {t : TB} {x : Int32} {e : va_E} (hR : Rep E ad V M) (ho : okA c = true) (ht : ctab c = some t) (h0 : t.1 ≠ 0) (hi : i < cntV V t.2.2.1) (he : e = cellOf E ad (setV V c i j x) c i t) : Rep E ad (setV V c i j x) (mset M (ad c i) e) := by
  have hdom : ∀ {c' a : Nat}, dom (setV V c i j x) c' a ↔ dom V c' a := fun {c' a} => dom_set (fun c t h => (okA_of ho h).1) (fun Li g h => okA_list ho h)
  have hme : dom V c i := Or.inl ⟨_, ht, hi⟩
  refine ⟨fun c' t' i' hc' hi' => ?_, fun c1 c2 i1 i2 d1 d2 => hR.2.1 c1 c2 i1 i2 (hdom.mp d1) (hdom.mp d2), fun Li g hL => ?_⟩
  · obtain ⟨o2, o3, o4⟩ := okA_of ho hc'
    rw [cntV_set o2] at hi'
    by_cases hsame : c' = c ∧ i' = i
    · obtain ⟨rfl, rfl⟩ := hsame
      rw [hc'] at ht
      cases ht
      rw [mset_self, he]
    · have hne : ad c' i' ≠ ad c i := fun q => hsame (hR.2.1 c' c i' i (Or.inl ⟨t', hc', hi'⟩) hme q)
      rw [mset_ne M e hne, hR.1 c' t' i' hc' hi']
      unfold cellOf
      by_cases h0 : t'.1 = 0
      · rw [if_pos h0, if_pos h0]
        refine congrArg some (congrArg Sum.inr (congrArg (Prod.mk t'.2.1) (List.map_congr_left fun d hd => ?_)))
        exact (fv_set (fun h1 h2 => absurd h2 (o4 d hd h1)) (tag_le hc' hd)).symm
      · have ec : setV V c i j x c' i' = V c' i' := by
          funext j'
          by_cases hcv : c' = c
          · subst hcv
            exact setV_i V (fun q => hsame ⟨rfl, q⟩)
          · exact setV_v V hcv
        rw [if_neg h0, if_neg h0, lenV_set o3, ec]
  · have hn : ∀ a, dom V Li a → ad Li a ≠ ad c i := by
      intro a hda q
      have := (hR.2.1 Li c a i hda hme q).1
      have hl := list_notab (Li, g) hL
      rw [show (Li, g).1 = Li from rfl, this, ht] at hl
      cases hl
    exact lrep_set (hR.2.2 Li g hL) (okA_list ho hL) (hn 0 (Or.inr ⟨⟨g, hL⟩, Or.inl rfl⟩)) (fun h => hn 1 (Or.inr ⟨⟨g, hL⟩, Or.inr ⟨rfl, h⟩⟩))
theorem upd_setV (V : St) (c i j : Nat) (x : Int32) : upd (V c i) j x = setV V c i j x c i := by
  funext j'
  unfold upd setV
  by_cases h : j' = j
  · rw [if_pos h, if_pos ⟨rfl, rfl, h⟩]
  · rw [if_neg h, if_neg (fun q => h q.2.2)]
section TROWS
variable {E : EN} {X : CX} {own : String} {cc : ByteArray} {nl : Nat} {ret : Option FieldType} {ini : Bool} {rm : Room} {P : Option Value → MH → Prop} {M : MH} {L : List (Option Value)} {kc ks pc pc' tgt : Nat} {st : List Value} {ad : AD} {V : St} {idx ci k c v i b : Nat} {ds : List (Nat × Nat × Nat)}
theorem Rep.obj (hR : Rep E ad V M) (ht : ctab c = some (0, ci, b, ds)) (hi : i < cntV V b) : M (ad c i) = some (.inr (ci, ds.map (fv ad V i))) := hR.1 c _ i ht hi
theorem s_geti (hd : Dk cc pc (.getfield idx) 3 pc') (hf : FL own idx ci k) (hR : Rep E ad V M) (ht : ctab c = some (0, ci, b, ds)) (hi : i < cntV V b) (hk : ds[k]? = some (0, v, 0)) (K : G E X own cc nl ret ini rm P M L kc ks pc' (.int (V v i 0) :: st)) : G E X own cc nl ret ini rm P M L kc ks pc (.ref (ad c i) :: st) :=
  r_get hd hf (hR.obj ht hi) (by rw [List.getElem?_map, hk]; rfl) K
theorem s_geta (hd : Dk cc pc (.getfield idx) 3 pc') (hf : FL own idx ci k) (hR : Rep E ad V M) (ht : ctab c = some (0, ci, b, ds)) (hi : i < cntV V b) (hk : ds[k]? = some (1, v, 0)) (K : G E X own cc nl ret ini rm P M L kc ks pc' (.ref (ad v i) :: st)) : G E X own cc nl ret ini rm P M L kc ks pc (.ref (ad c i) :: st) :=
  r_get hd hf (hR.obj ht hi) (by rw [List.getElem?_map, hk]; rfl) K
theorem s_geto (hd : Dk cc pc (.getfield idx) 3 pc') (hf : FL own idx ci k) (hR : Rep E ad V M) (ht : ctab c = some (0, ci, b, ds)) (hi : i < cntV V b) (hk : ds[k]? = some (2, v, 0)) (K : G E X own cc nl ret ini rm P M L kc ks pc' (.ref (ad v 0) :: st)) : G E X own cc nl ret ini rm P M L kc ks pc (.ref (ad c i) :: st) :=
  r_get hd hf (hR.obj ht hi) (by rw [List.getElem?_map, hk]; rfl) K
theorem s_getq {g : Nat} (hd : Dk cc pc (.getfield idx) 3 pc') (hf : FL own idx ci k) (hR : Rep E ad V M) (ht : ctab c = some (0, ci, b, ds)) (hi : i < cntV V b) (hk : ds[k]? = some (3, v, g)) (K : G E X own cc nl ret ini rm P M L kc ks pc' ((if V v i 0 < 0 then .null else .ref (ad g (V v i 0).toNatClampNeg)) :: st)) : G E X own cc nl ret ini rm P M L kc ks pc (.ref (ad c i) :: st) :=
  r_get hd hf (hR.obj ht hi) (by rw [List.getElem?_map, hk]; rfl) K
theorem map_set_gen {α β : Type} {ds : List α} {f g : α → β} {k : Nat} {d : α} (hk : ds[k]? = some d) (h : ∀ (j : Nat) (d' : α), j ≠ k → ds[j]? = some d' → g d' = f d') : (ds.map f).set k (g d) = ds.map g := by
  apply List.ext_getElem?
  intro j
  by_cases hj : j = k
  · subst hj
    have hl : j < (ds.map f).length := by rw [List.length_map]; exact (List.getElem?_eq_some_iff.mp hk).1
    rw [List.getElem?_set_self hl, List.getElem?_map, hk, Option.map_some]
  · rw [List.getElem?_set_ne (Ne.symm hj), List.getElem?_map, List.getElem?_map]
    cases hx : ds[j]? with
    | none => rw [Option.map_none, Option.map_none]
    | some d' => rw [Option.map_some, Option.map_some, h j d' hj hx]
theorem map_set_fv {ds : List (Nat × Nat × Nat)} {ad : AD} {V V' : St} {i k : Nat} {d : Nat × Nat × Nat} (hk : ds[k]? = some d) (h : ∀ (j : Nat) (d' : Nat × Nat × Nat), j ≠ k → ds[j]? = some d' → fv ad V' i d' = fv ad V i d') : (ds.map (fv ad V i)).set k (fv ad V' i d) = ds.map (fv ad V' i) := map_set_gen hk h
theorem s_puti {ty : FieldType} {x : Int32} (hd : Dk cc pc (.putfield idx) 3 pc') (hf : FP own idx ci k ty) (hR : Rep E ad V M) (ho : okS v c k = true) (ht : ctab c = some (0, ci, b, ds)) (hi : i < cntV V b) (hk : ds[k]? = some (0, v, 0)) (hn : narrow ty (.int x) = .int x) (hfit : fits ty (.int x) = true) (K : ∀ M' : MH, Rep E ad (setV V v i 0 x) M' → G E X own cc nl ret ini rm P M' L kc ks pc' st) : G E X own cc nl ret ini rm P M L kc ks pc (.int x :: .ref (ad c i) :: st) := by
  refine r_put hd hf (hR.obj ht hi) hn hfit (by rw [List.length_map]; exact (List.getElem?_eq_some_iff.mp hk).1) (K _ (hR.setS ho ht hi ?_))
  have hx : (.int x : Value) = fv ad (setV V v i 0 x) i (0, v, 0) := by
    show _ = Value.int (setV V v i 0 x v i 0)
    rw [setV_same]
  rw [hx, map_set_fv hk]
  intro j d' hj hd'
  refine fv_set (fun h1 h2 => ?_) (tag_le ht (List.mem_of_getElem? hd'))
  exact absurd ((okS_of ho ht).2.2.2 j d' hd' h1 h2).2 hj
theorem s_putq {g n : Nat} {ty : FieldType} {x : Int32} {w : Value} (hd : Dk cc pc (.putfield idx) 3 pc') (hf : FP own idx ci k ty) (hR : Rep E ad V M) (ho : okS v c k = true) (ht : ctab c = some (0, ci, b, ds)) (hi : i < cntV V b) (hk : ds[k]? = some (3, v, g)) (hw : w = if x < 0 then .null else .ref (ad g x.toNatClampNeg)) (hn : narrow ty w = w) (hfit : fits ty w = true) (K : ∀ M' : MH, Rep E ad (setV V v i 0 x) M' → G E X own cc nl ret ini rm P M' L kc ks pc' st) : G E X own cc nl ret ini rm P M L kc ks pc (w :: .ref (ad c i) :: st) := by
  refine r_put hd hf (hR.obj ht hi) hn hfit (by rw [List.length_map]; exact (List.getElem?_eq_some_iff.mp hk).1) (K _ (hR.setS ho ht hi ?_))
  have hx : w = fv ad (setV V v i 0 x) i (3, v, g) := by
    show _ = if setV V v i 0 x v i 0 < 0 then Value.null else .ref (ad g (setV V v i 0 x v i 0).toNatClampNeg)
    rw [setV_same]
    exact hw
  rw [hx, map_set_fv hk]
  intro j d' hj hd'
  refine fv_set (fun h1 h2 => ?_) (tag_le ht (List.mem_of_getElem? hd'))
  exact absurd ((okS_of ho ht).2.2.2 j d' hd' h1 h2).2 hj
theorem s_iald {a : Nat} {x : Int32} (hd : Dk cc pc .iaload 1 pc') (hR : Rep E ad V M) (ht : ctab c = some (1, a, b, ds)) (hi : i < cntV V b) (hin : vp_in x (lenV V a i)) (K : G E X own cc nl ret ini rm P M L kc ks pc' (.int (V c i x.toNatClampNeg) :: st)) : G E X own cc nl ret ini rm P M L kc ks pc (.int x :: .ref (ad c i) :: st) :=
  r_iald hd (hR.1 c _ i ht hi) hin K
theorem s_iast {a : Nat} {x j : Int32} (hd : Dk cc pc .iastore 1 pc') (hR : Rep E ad V M) (ho : okA c = true) (ht : ctab c = some (1, a, b, ds)) (hi : i < cntV V b) (hin : vp_in j (lenV V a i)) (K : ∀ M' : MH, Rep E ad (setV V c i j.toNatClampNeg x) M' → G E X own cc nl ret ini rm P M' L kc ks pc' st) : G E X own cc nl ret ini rm P M L kc ks pc (.int x :: .int j :: .ref (ad c i) :: st) := by
  refine r_iast hd (hR.1 c _ i ht hi) hin (K _ (hR.setA ho ht (by show 1 ≠ 0; omega) hi ?_))
  show Sum.inl (eI E, lenV V a i, Sum.inl _) = Sum.inl (eI E, lenV (setV V c i j.toNatClampNeg x) a i, Sum.inl (setV V c i j.toNatClampNeg x c i))
  rw [upd_setV, lenV_set (okA_of ho ht).2.1]
theorem s_ilen {a : Nat} (hd : Dk cc pc .arraylength 1 pc') (hR : Rep E ad V M) (ht : ctab c = some (1, a, b, ds)) (hi : i < cntV V b) (K : G E X own cc nl ret ini rm P M L kc ks pc' (.int (nI (lenV V a i)) :: st)) : G E X own cc nl ret ini rm P M L kc ks pc (.ref (ad c i) :: st) :=
  r_alen (t := 0) hd (hR.1 c _ i ht hi) rfl rfl K
theorem s_bald {a : Nat} {x : Int32} (hd : Dk cc pc .baload 1 pc') (hR : Rep E ad V M) (ht : ctab c = some (2, a, b, ds)) (hi : i < cntV V b) (hin : vp_in x (lenV V a i)) (K : G E X own cc nl ret ini rm P M L kc ks pc' (.int (V c i x.toNatClampNeg) :: st)) : G E X own cc nl ret ini rm P M L kc ks pc (.int x :: .ref (ad c i) :: st) :=
  r_bald hd (hR.1 c _ i ht hi) hin K
theorem s_bast {a : Nat} {x j : Int32} (hd : Dk cc pc .bastore 1 pc') (hR : Rep E ad V M) (ho : okA c = true) (ht : ctab c = some (2, a, b, ds)) (hi : i < cntV V b) (hin : vp_in j (lenV V a i)) (K : ∀ M' : MH, Rep E ad (setV V c i j.toNatClampNeg (vp_nar .byte x)) M' → G E X own cc nl ret ini rm P M' L kc ks pc' st) : G E X own cc nl ret ini rm P M L kc ks pc (.int x :: .int j :: .ref (ad c i) :: st) := by
  refine r_bast hd (hR.1 c _ i ht hi) hin (K _ (hR.setA ho ht (by show 2 ≠ 0; omega) hi ?_))
  show Sum.inl (eB3 E, lenV V a i, Sum.inl _) = Sum.inl (eB3 E, lenV (setV V c i j.toNatClampNeg (vp_nar .byte x)) a i, Sum.inl (setV V c i j.toNatClampNeg (vp_nar .byte x) c i))
  rw [upd_setV, lenV_set (okA_of ho ht).2.1]
theorem s_blen {a : Nat} (hd : Dk cc pc .arraylength 1 pc') (hR : Rep E ad V M) (ht : ctab c = some (2, a, b, ds)) (hi : i < cntV V b) (K : G E X own cc nl ret ini rm P M L kc ks pc' (.int (nI (lenV V a i)) :: st)) : G E X own cc nl ret ini rm P M L kc ks pc (.ref (ad c i) :: st) :=
  r_alen (t := 1) hd (hR.1 c _ i ht hi) rfl rfl K
theorem s_zald {a : Nat} {x : Int32} (hd : Dk cc pc .baload 1 pc') (hR : Rep E ad V M) (ht : ctab c = some (3, a, b, ds)) (hi : i < cntV V b) (hin : vp_in x (lenV V a i)) (K : G E X own cc nl ret ini rm P M L kc ks pc' (.int (V c i x.toNatClampNeg) :: st)) : G E X own cc nl ret ini rm P M L kc ks pc (.int x :: .ref (ad c i) :: st) :=
  r_zald hd (hR.1 c _ i ht hi) hin K
theorem s_zast {a : Nat} {x j : Int32} (hd : Dk cc pc .bastore 1 pc') (hR : Rep E ad V M) (ho : okA c = true) (ht : ctab c = some (3, a, b, ds)) (hi : i < cntV V b) (hin : vp_in j (lenV V a i)) (K : ∀ M' : MH, Rep E ad (setV V c i j.toNatClampNeg (vp_nar .boolean x)) M' → G E X own cc nl ret ini rm P M' L kc ks pc' st) : G E X own cc nl ret ini rm P M L kc ks pc (.int x :: .int j :: .ref (ad c i) :: st) := by
  refine r_zast hd (hR.1 c _ i ht hi) hin (K _ (hR.setA ho ht (by show 3 ≠ 0; omega) hi ?_))
  show Sum.inl (eZ E, lenV V a i, Sum.inl _) = Sum.inl (eZ E, lenV (setV V c i j.toNatClampNeg (vp_nar .boolean x)) a i, Sum.inl (setV V c i j.toNatClampNeg (vp_nar .boolean x) c i))
  rw [upd_setV, lenV_set (okA_of ho ht).2.1]
theorem s_zlen {a : Nat} (hd : Dk cc pc .arraylength 1 pc') (hR : Rep E ad V M) (ht : ctab c = some (3, a, b, ds)) (hi : i < cntV V b) (K : G E X own cc nl ret ini rm P M L kc ks pc' (.int (nI (lenV V a i)) :: st)) : G E X own cc nl ret ini rm P M L kc ks pc (.ref (ad c i) :: st) :=
  r_alen (t := 2) hd (hR.1 c _ i ht hi) rfl rfl K
end TROWS
