/-! frames of the invariant (by program) -/
theorem Fr.all {ws vs : List Nat} {V V' : St} (h : Fr ws V V') (hd : vs.all (fun v => !ws.contains v) = true) : ∀ v, v ∈ vs → V' v = V v := fun v hv => h v (fun q => by
  have := List.all_eq_true.mp hd v hv
  rw [Bool.not_eq_true'] at this
  rw [List.contains_iff_mem.mpr q] at this
  cases this)
def vI_misc : List Nat := [2101, 2102, 2201, 2259, 2288]
theorem I_misc.fr {ws : List Nat} {V V' : St} (h : I_misc V ) (hF : Fr ws V V') (hd : vI_misc.all (fun v => !ws.contains v) = true) : I_misc V'  := by
  have e := hF.all hd
  have e2101 : V' 2101 = V 2101 := e 2101 (by decide)
  have e2102 : V' 2102 = V 2102 := e 2102 (by decide)
  have e2201 : V' 2201 = V 2201 := e 2201 (by decide)
  have e2259 : V' 2259 = V 2259 := e 2259 (by decide)
  have e2288 : V' 2288 = V 2288 := e 2288 (by decide)
  simp only [I_misc] at h ⊢
  simp only [e2101, e2102, e2201, e2259, e2288]
  exact h
def vI_tape : List Nat := [1908, 2113, 2114, 2190, 2241, 2242]
theorem I_tape.fr {ws : List Nat} {V V' : St} (h : I_tape V ) (hF : Fr ws V V') (hd : vI_tape.all (fun v => !ws.contains v) = true) : I_tape V'  := by
  have e := hF.all hd
  have e1908 : V' 1908 = V 1908 := e 1908 (by decide)
  have e2113 : V' 2113 = V 2113 := e 2113 (by decide)
  have e2114 : V' 2114 = V 2114 := e 2114 (by decide)
  have e2190 : V' 2190 = V 2190 := e 2190 (by decide)
  have e2241 : V' 2241 = V 2241 := e 2241 (by decide)
  have e2242 : V' 2242 = V 2242 := e 2242 (by decide)
  simp only [I_tape] at h ⊢
  simp only [e1908, e2113, e2114, e2190, e2241, e2242]
  exact h
def vI_cloth : List Nat := [1001, 1002, 1003, 2103, 2202, 2205, 2206, 2207]
theorem I_cloth.fr {ws : List Nat} {V V' : St} {n : Nat} (h : I_cloth V n) (hF : Fr ws V V') (hd : vI_cloth.all (fun v => !ws.contains v) = true) : I_cloth V' n := by
  have e := hF.all hd
  have e1001 : V' 1001 = V 1001 := e 1001 (by decide)
  have e1002 : V' 1002 = V 1002 := e 1002 (by decide)
  have e1003 : V' 1003 = V 1003 := e 1003 (by decide)
  have e2103 : V' 2103 = V 2103 := e 2103 (by decide)
  have e2202 : V' 2202 = V 2202 := e 2202 (by decide)
  have e2205 : V' 2205 = V 2205 := e 2205 (by decide)
  have e2206 : V' 2206 = V 2206 := e 2206 (by decide)
  have e2207 : V' 2207 = V 2207 := e 2207 (by decide)
  simp only [I_cloth] at h ⊢
  simp only [e1001, e1002, e1003, e2103, e2202, e2205, e2206, e2207]
  exact h
def vI_draw : List Nat := [1201, 1202, 1203, 1204, 1205, 1206, 1211, 1212, 1213, 1215, 1216, 2104, 2203, 2208, 2209, 2210, 2211, 2212, 2213, 2214, 2215]
theorem I_draw.fr {ws : List Nat} {V V' : St} {n : Nat} (h : I_draw V n) (hF : Fr ws V V') (hd : vI_draw.all (fun v => !ws.contains v) = true) : I_draw V' n := by
  have e := hF.all hd
  have e1201 : V' 1201 = V 1201 := e 1201 (by decide)
  have e1202 : V' 1202 = V 1202 := e 1202 (by decide)
  have e1203 : V' 1203 = V 1203 := e 1203 (by decide)
  have e1204 : V' 1204 = V 1204 := e 1204 (by decide)
  have e1205 : V' 1205 = V 1205 := e 1205 (by decide)
  have e1206 : V' 1206 = V 1206 := e 1206 (by decide)
  have e1211 : V' 1211 = V 1211 := e 1211 (by decide)
  have e1212 : V' 1212 = V 1212 := e 1212 (by decide)
  have e1213 : V' 1213 = V 1213 := e 1213 (by decide)
  have e1215 : V' 1215 = V 1215 := e 1215 (by decide)
  have e1216 : V' 1216 = V 1216 := e 1216 (by decide)
  have e2104 : V' 2104 = V 2104 := e 2104 (by decide)
  have e2203 : V' 2203 = V 2203 := e 2203 (by decide)
  have e2208 : V' 2208 = V 2208 := e 2208 (by decide)
  have e2209 : V' 2209 = V 2209 := e 2209 (by decide)
  have e2210 : V' 2210 = V 2210 := e 2210 (by decide)
  have e2211 : V' 2211 = V 2211 := e 2211 (by decide)
  have e2212 : V' 2212 = V 2212 := e 2212 (by decide)
  have e2213 : V' 2213 = V 2213 := e 2213 (by decide)
  have e2214 : V' 2214 = V 2214 := e 2214 (by decide)
  have e2215 : V' 2215 = V 2215 := e 2215 (by decide)
  simp only [I_draw, DrawV] at h ⊢
  simp only [e1201, e1202, e1203, e1204, e1205, e1206, e1211, e1212, e1213, e1215, e1216, e2104, e2203, e2208, e2209, e2210, e2211, e2212, e2213, e2214, e2215]
  exact h
def vI_thing : List Nat := [2001, 2002, 2003, 2004, 2005, 2006, 2007, 2008, 2009, 2010, 2090, 2105, 2204, 2216, 2217, 2218, 2219, 2220, 2221, 2222, 2223, 2224, 2225]
theorem I_thing.fr {ws : List Nat} {V V' : St} {c n : Nat} (h : I_thing V c n) (hF : Fr ws V V') (hd : vI_thing.all (fun v => !ws.contains v) = true) : I_thing V' c n := by
  have e := hF.all hd
  have e2001 : V' 2001 = V 2001 := e 2001 (by decide)
  have e2002 : V' 2002 = V 2002 := e 2002 (by decide)
  have e2003 : V' 2003 = V 2003 := e 2003 (by decide)
  have e2004 : V' 2004 = V 2004 := e 2004 (by decide)
  have e2005 : V' 2005 = V 2005 := e 2005 (by decide)
  have e2006 : V' 2006 = V 2006 := e 2006 (by decide)
  have e2007 : V' 2007 = V 2007 := e 2007 (by decide)
  have e2008 : V' 2008 = V 2008 := e 2008 (by decide)
  have e2009 : V' 2009 = V 2009 := e 2009 (by decide)
  have e2010 : V' 2010 = V 2010 := e 2010 (by decide)
  have e2090 : V' 2090 = V 2090 := e 2090 (by decide)
  have e2105 : V' 2105 = V 2105 := e 2105 (by decide)
  have e2204 : V' 2204 = V 2204 := e 2204 (by decide)
  have e2216 : V' 2216 = V 2216 := e 2216 (by decide)
  have e2217 : V' 2217 = V 2217 := e 2217 (by decide)
  have e2218 : V' 2218 = V 2218 := e 2218 (by decide)
  have e2219 : V' 2219 = V 2219 := e 2219 (by decide)
  have e2220 : V' 2220 = V 2220 := e 2220 (by decide)
  have e2221 : V' 2221 = V 2221 := e 2221 (by decide)
  have e2222 : V' 2222 = V 2222 := e 2222 (by decide)
  have e2223 : V' 2223 = V 2223 := e 2223 (by decide)
  have e2224 : V' 2224 = V 2224 := e 2224 (by decide)
  have e2225 : V' 2225 = V 2225 := e 2225 (by decide)
  simp only [I_thing, ThingV] at h ⊢
  simp only [e2001, e2002, e2003, e2004, e2005, e2006, e2007, e2008, e2009, e2010, e2090, e2105, e2204, e2216, e2217, e2218, e2219, e2220, e2221, e2222, e2223, e2224, e2225]
  exact h
def vI_lay : List Nat := [1504, 1505, 1506, 1507, 1508, 2007, 2008, 2009]
theorem I_lay.fr {ws : List Nat} {V V' : St} {n : Nat} (h : I_lay V n) (hF : Fr ws V V') (hd : vI_lay.all (fun v => !ws.contains v) = true) : I_lay V' n := by
  have e := hF.all hd
  have e1504 : V' 1504 = V 1504 := e 1504 (by decide)
  have e1505 : V' 1505 = V 1505 := e 1505 (by decide)
  have e1506 : V' 1506 = V 1506 := e 1506 (by decide)
  have e1507 : V' 1507 = V 1507 := e 1507 (by decide)
  have e1508 : V' 1508 = V 1508 := e 1508 (by decide)
  have e2007 : V' 2007 = V 2007 := e 2007 (by decide)
  have e2008 : V' 2008 = V 2008 := e 2008 (by decide)
  have e2009 : V' 2009 = V 2009 := e 2009 (by decide)
  simp only [I_lay] at h ⊢
  simp only [e1504, e1505, e1506, e1507, e1508, e2007, e2008, e2009]
  exact h
def vI_mak : List Nat := [1601, 1602, 1603, 1604, 1605, 1606, 1607, 1608, 2106, 2107, 2232, 2233, 2234, 2235, 2236, 2237, 2238, 2239, 2240]
theorem I_mak.fr {ws : List Nat} {V V' : St} {n : Nat} (h : I_mak V n) (hF : Fr ws V V') (hd : vI_mak.all (fun v => !ws.contains v) = true) : I_mak V' n := by
  have e := hF.all hd
  have e1601 : V' 1601 = V 1601 := e 1601 (by decide)
  have e1602 : V' 1602 = V 1602 := e 1602 (by decide)
  have e1603 : V' 1603 = V 1603 := e 1603 (by decide)
  have e1604 : V' 1604 = V 1604 := e 1604 (by decide)
  have e1605 : V' 1605 = V 1605 := e 1605 (by decide)
  have e1606 : V' 1606 = V 1606 := e 1606 (by decide)
  have e1607 : V' 1607 = V 1607 := e 1607 (by decide)
  have e1608 : V' 1608 = V 1608 := e 1608 (by decide)
  have e2106 : V' 2106 = V 2106 := e 2106 (by decide)
  have e2107 : V' 2107 = V 2107 := e 2107 (by decide)
  have e2232 : V' 2232 = V 2232 := e 2232 (by decide)
  have e2233 : V' 2233 = V 2233 := e 2233 (by decide)
  have e2234 : V' 2234 = V 2234 := e 2234 (by decide)
  have e2235 : V' 2235 = V 2235 := e 2235 (by decide)
  have e2236 : V' 2236 = V 2236 := e 2236 (by decide)
  have e2237 : V' 2237 = V 2237 := e 2237 (by decide)
  have e2238 : V' 2238 = V 2238 := e 2238 (by decide)
  have e2239 : V' 2239 = V 2239 := e 2239 (by decide)
  have e2240 : V' 2240 = V 2240 := e 2240 (by decide)
  simp only [I_mak, MakV] at h ⊢
  simp only [e1601, e1602, e1603, e1604, e1605, e1606, e1607, e1608, e2106, e2107, e2232, e2233, e2234, e2235, e2236, e2237, e2238, e2239, e2240]
  exact h
def vI_ord : List Nat := [1401, 1701, 1702, 1703, 1704, 1705, 1706, 1707, 1708, 1709, 1790, 2258, 2260, 2261, 2262, 2263, 2264, 2265, 2266, 2267, 2268, 2269]
theorem I_ord.fr {ws : List Nat} {V V' : St} {n : Nat} (h : I_ord V n) (hF : Fr ws V V') (hd : vI_ord.all (fun v => !ws.contains v) = true) : I_ord V' n := by
  have e := hF.all hd
  have e1401 : V' 1401 = V 1401 := e 1401 (by decide)
  have e1701 : V' 1701 = V 1701 := e 1701 (by decide)
  have e1702 : V' 1702 = V 1702 := e 1702 (by decide)
  have e1703 : V' 1703 = V 1703 := e 1703 (by decide)
  have e1704 : V' 1704 = V 1704 := e 1704 (by decide)
  have e1705 : V' 1705 = V 1705 := e 1705 (by decide)
  have e1706 : V' 1706 = V 1706 := e 1706 (by decide)
  have e1707 : V' 1707 = V 1707 := e 1707 (by decide)
  have e1708 : V' 1708 = V 1708 := e 1708 (by decide)
  have e1709 : V' 1709 = V 1709 := e 1709 (by decide)
  have e1790 : V' 1790 = V 1790 := e 1790 (by decide)
  have e2258 : V' 2258 = V 2258 := e 2258 (by decide)
  have e2260 : V' 2260 = V 2260 := e 2260 (by decide)
  have e2261 : V' 2261 = V 2261 := e 2261 (by decide)
  have e2262 : V' 2262 = V 2262 := e 2262 (by decide)
  have e2263 : V' 2263 = V 2263 := e 2263 (by decide)
  have e2264 : V' 2264 = V 2264 := e 2264 (by decide)
  have e2265 : V' 2265 = V 2265 := e 2265 (by decide)
  have e2266 : V' 2266 = V 2266 := e 2266 (by decide)
  have e2267 : V' 2267 = V 2267 := e 2267 (by decide)
  have e2268 : V' 2268 = V 2268 := e 2268 (by decide)
  have e2269 : V' 2269 = V 2269 := e 2269 (by decide)
  simp only [I_ord, OrdV, HoldsOK] at h ⊢
  simp only [e1401, e1701, e1702, e1703, e1704, e1705, e1706, e1707, e1708, e1709, e1790, e2258, e2260, e2261, e2262, e2263, e2264, e2265, e2266, e2267, e2268, e2269]
  exact h
def vI_pers : List Nat := [1801, 1802, 2108, 2277, 2278, 2279]
theorem I_pers.fr {ws : List Nat} {V V' : St} {n : Nat} (h : I_pers V n) (hF : Fr ws V V') (hd : vI_pers.all (fun v => !ws.contains v) = true) : I_pers V' n := by
  have e := hF.all hd
  have e1801 : V' 1801 = V 1801 := e 1801 (by decide)
  have e1802 : V' 1802 = V 1802 := e 1802 (by decide)
  have e2108 : V' 2108 = V 2108 := e 2108 (by decide)
  have e2277 : V' 2277 = V 2277 := e 2277 (by decide)
  have e2278 : V' 2278 = V 2278 := e 2278 (by decide)
  have e2279 : V' 2279 = V 2279 := e 2279 (by decide)
  simp only [I_pers] at h ⊢
  simp only [e1801, e1802, e2108, e2277, e2278, e2279]
  exact h
def vI_dock : List Nat := [1101, 1102, 1103, 1104, 1105, 2109, 2280, 2281, 2282, 2283, 2284, 2285]
theorem I_dock.fr {ws : List Nat} {V V' : St} {t n : Nat} (h : I_dock V t n) (hF : Fr ws V V') (hd : vI_dock.all (fun v => !ws.contains v) = true) : I_dock V' t n := by
  have e := hF.all hd
  have e1101 : V' 1101 = V 1101 := e 1101 (by decide)
  have e1102 : V' 1102 = V 1102 := e 1102 (by decide)
  have e1103 : V' 1103 = V 1103 := e 1103 (by decide)
  have e1104 : V' 1104 = V 1104 := e 1104 (by decide)
  have e1105 : V' 1105 = V 1105 := e 1105 (by decide)
  have e2109 : V' 2109 = V 2109 := e 2109 (by decide)
  have e2280 : V' 2280 = V 2280 := e 2280 (by decide)
  have e2281 : V' 2281 = V 2281 := e 2281 (by decide)
  have e2282 : V' 2282 = V 2282 := e 2282 (by decide)
  have e2283 : V' 2283 = V 2283 := e 2283 (by decide)
  have e2284 : V' 2284 = V 2284 := e 2284 (by decide)
  have e2285 : V' 2285 = V 2285 := e 2285 (by decide)
  simp only [I_dock] at h ⊢
  simp only [e1101, e1102, e1103, e1104, e1105, e2109, e2280, e2281, e2282, e2283, e2284, e2285]
  exact h
def vI_seen : List Nat := [1301, 1303, 1304, 2110, 2286, 2289, 2290, 2291]
theorem I_seen.fr {ws : List Nat} {V V' : St} {n : Nat} (h : I_seen V n) (hF : Fr ws V V') (hd : vI_seen.all (fun v => !ws.contains v) = true) : I_seen V' n := by
  have e := hF.all hd
  have e1301 : V' 1301 = V 1301 := e 1301 (by decide)
  have e1303 : V' 1303 = V 1303 := e 1303 (by decide)
  have e1304 : V' 1304 = V 1304 := e 1304 (by decide)
  have e2110 : V' 2110 = V 2110 := e 2110 (by decide)
  have e2286 : V' 2286 = V 2286 := e 2286 (by decide)
  have e2289 : V' 2289 = V 2289 := e 2289 (by decide)
  have e2290 : V' 2290 = V 2290 := e 2290 (by decide)
  have e2291 : V' 2291 = V 2291 := e 2291 (by decide)
  simp only [I_seen] at h ⊢
  simp only [e1301, e1303, e1304, e2110, e2286, e2289, e2290, e2291]
  exact h
def vI_rub : List Nat := [1331, 1332, 1333, 1334, 2111, 2287, 2292, 2293, 2294, 2295]
theorem I_rub.fr {ws : List Nat} {V V' : St} {n : Nat} (h : I_rub V n) (hF : Fr ws V V') (hd : vI_rub.all (fun v => !ws.contains v) = true) : I_rub V' n := by
  have e := hF.all hd
  have e1331 : V' 1331 = V 1331 := e 1331 (by decide)
  have e1332 : V' 1332 = V 1332 := e 1332 (by decide)
  have e1333 : V' 1333 = V 1333 := e 1333 (by decide)
  have e1334 : V' 1334 = V 1334 := e 1334 (by decide)
  have e2111 : V' 2111 = V 2111 := e 2111 (by decide)
  have e2287 : V' 2287 = V 2287 := e 2287 (by decide)
  have e2292 : V' 2292 = V 2292 := e 2292 (by decide)
  have e2293 : V' 2293 = V 2293 := e 2293 (by decide)
  have e2294 : V' 2294 = V 2294 := e 2294 (by decide)
  have e2295 : V' 2295 = V 2295 := e 2295 (by decide)
  simp only [I_rub] at h ⊢
  simp only [e1331, e1332, e1333, e1334, e2111, e2287, e2292, e2293, e2294, e2295]
  exact h
def vI_marks : List Nat := [1361, 1362, 1363, 1364, 2112, 2275, 2276]
theorem I_marks.fr {ws : List Nat} {V V' : St} {t m n : Nat} (h : I_marks V t m n) (hF : Fr ws V V') (hd : vI_marks.all (fun v => !ws.contains v) = true) : I_marks V' t m n := by
  have e := hF.all hd
  have e1361 : V' 1361 = V 1361 := e 1361 (by decide)
  have e1362 : V' 1362 = V 1362 := e 1362 (by decide)
  have e1363 : V' 1363 = V 1363 := e 1363 (by decide)
  have e1364 : V' 1364 = V 1364 := e 1364 (by decide)
  have e2112 : V' 2112 = V 2112 := e 2112 (by decide)
  have e2275 : V' 2275 = V 2275 := e 2275 (by decide)
  have e2276 : V' 2276 = V 2276 := e 2276 (by decide)
  simp only [I_marks] at h ⊢
  simp only [e1361, e1362, e1363, e1364, e2112, e2275, e2276]
  exact h
