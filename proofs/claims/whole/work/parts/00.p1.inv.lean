/-! THE INVARIANT between the class's variables and the reference's -/
def Fr (ws : List Nat) (V V' : St) : Prop := ∀ v, v ∉ ws → V' v = V v
theorem Fr.refl (ws : List Nat) (V : St) : Fr ws V V := fun _ _ => rfl
theorem Fr.trans {ws : List Nat} {V V' V'' : St} (h : Fr ws V V') (h' : Fr ws V' V'') : Fr ws V V'' := fun v hv => (h' v hv).trans (h v hv)
theorem Fr.weak {ws ws' : List Nat} {V V' : St} (h : Fr ws V V') (hw : ws.all (fun v => ws'.contains v) = true) : Fr ws' V V' := fun v hv => h v (fun q => hv (by
  have := List.all_eq_true.mp hw v q
  exact List.contains_iff_mem.mp this))
theorem setV_fn {V : St} {v i j : Nat} {x : Int32} {v' : Nat} (h : v' ≠ v) : setV V v i j x v' = V v' := by
  funext a b; exact if_neg (fun q => h q.1)
theorem setV_at (V : St) (v i j : Nat) (x : Int32) (i' j' : Nat) : setV V v i j x v i' j' = if i' = i ∧ j' = j then x else V v i' j' := by
  unfold setV; simp
theorem Fr.set {ws : List Nat} {V V' : St} {v i j : Nat} {x : Int32} (h : Fr ws V V') (hv : v ∈ ws) : Fr ws V (setV V' v i j x) := fun w hw => by
  rw [setV_fn (v' := w) (fun q => hw (by rw [q]; exact hv))]; exact h w hw
theorem mkV_fn {V : St} {Li n : Nat} {gv : List Nat} {F : Nat → Nat → Int32} {v' : Nat} (h : v' ≠ Li) (h2 : v' ∉ gv) : mkV V Li n gv F v' = V v' := by
  funext a b; unfold mkV; rw [if_neg (fun q => h q.1), if_neg (fun q => h2 q.1)]
theorem mkV_cnt (V : St) (Li n : Nat) (gv : List Nat) (F : Nat → Nat → Int32) : mkV V Li n gv F Li 0 0 = nI (n + 1) := if_pos ⟨rfl, rfl, rfl⟩
theorem mkV_at {V : St} {Li n : Nat} {gv : List Nat} {F : Nat → Nat → Int32} {v i j : Nat} (h : v ≠ Li) (h2 : v ∈ gv) : mkV V Li n gv F v i j = if i = n then F v j else V v i j := by
  unfold mkV; rw [if_neg (fun q => h q.1)]; simp [h2]
def rg (x : Int32) (a b : Nat) : Prop := ∃ n : Nat, a ≤ n ∧ n ≤ b ∧ x = nI n
def sm (f : Nat → Int32) : Nat → Int32
  | 0 => 0
  | n + 1 => sm f n + f n
def sN (f : Nat → Nat) : Nat → Nat
  | 0 => 0
  | n + 1 => sN f n + f n
/-! drawings: what a choice of timbers bears; the best -/
def tbo (t : Nat) : Nat := if t = 0 then 10 else if t = 1 then 25 else 60
def tus (t : Nat) : Nat := if t = 0 then 2 else if t = 1 then 4 else 9
def cut (s : Nat) (A B c : Nat → Nat) (S : Nat → Bool) : Nat := sN (fun k => if S (A k) = S (B k) then 0 else tbo (c k)) s
def Bears (s l : Nat) (A B LJ LP c : Nat → Nat) : Prop := ∀ S : Nat → Bool, S 0 = false → ∀ q, q < l → S (LJ q) = true → LP q ≤ cut s A B c S
def lexLt (n : Nat) (c c' : Nat → Nat) : Prop := ∃ k, k < n ∧ (∀ i, i < k → c i = c' i) ∧ c k < c' k
def okC (s : Nat) (c : Nat → Nat) : Prop := ∀ k, k < s → c k < 3
def inchs (s : Nat) (c : Nat → Nat) : Nat := sN (fun k => tus (c k)) s
def IsCheap (s l : Nat) (A B LJ LP : Nat → Nat) (r : Int32) (b : Nat → Int32) : Prop :=
  (r = -1 ∧ ∀ c, okC s c → ¬ Bears s l A B LJ LP c) ∨ ∃ c, okC s c ∧ Bears s l A B LJ LP c ∧ r = nI (inchs s c) ∧ (∀ k, k < s → b k = nI (c k)) ∧ ∀ c', okC s c' → Bears s l A B LJ LP c' → inchs s c ≤ inchs s c' ∧ (inchs s c' = inchs s c → ¬ lexLt s c' c)
def DrawV (V : St) (d j s l : Nat) (A B T LJ LP : Nat → Nat) : Prop :=
  2 ≤ j ∧ j ≤ 8 ∧ s ≤ 8 ∧ l ≤ 8 ∧ V 1201 d 0 = nI j ∧ V 2208 0 d = nI j ∧ V 1212 d 0 = nI s ∧ V 2209 0 d = nI s ∧ V 1213 d 0 = nI l ∧ V 2210 0 d = nI l ∧
  (∀ k, k < s → A k < j ∧ B k < j ∧ A k ≠ B k ∧ T k < 3 ∧ V 1202 d k = nI (A k) ∧ V 2211 0 (8 * d + k) = nI (A k) ∧ V 1203 d k = nI (B k) ∧ V 2212 0 (8 * d + k) = nI (B k) ∧ V 1204 d k = nI (T k) ∧ V 2213 0 (8 * d + k) = nI (T k)) ∧
  (∀ k, k < l → 1 ≤ LJ k ∧ LJ k < j ∧ 1 ≤ LP k ∧ LP k ≤ 500 ∧ V 1205 d k = nI (LJ k) ∧ V 2214 0 (8 * d + k) = nI (LJ k) ∧ V 1206 d k = nI (LP k) ∧ V 2215 0 (8 * d + k) = nI (LP k)) ∧
  (V 1216 d 0 = 0 ∨ (V 1216 d 0 = 1 ∧ IsCheap s l A B LJ LP (V 1215 d 0) (V 1211 d)))
/-! patterns: the least -/
def lenStep (W : Nat) (len wid : Nat → Nat) (p : Nat) (q : Nat × Nat × Nat) : Nat × Nat × Nat :=
  if q.2.2 < wid p then (q.1 + q.2.1, len p, W - wid p) else (q.1, max q.2.1 (len p), q.2.2 - wid p)
def lenRun (W : Nat) (len wid row : Nat → Nat) : Nat → Nat × Nat × Nat
  | 0 => (0, 0, 0)
  | n + 1 => lenStep W len wid (row n) (lenRun W len wid row n)
def lenOf (W : Nat) (len wid : Nat → Nat) (n : Nat) (row : Nat → Nat) : Nat := (lenRun W len wid row n).1 + (lenRun W len wid row n).2.1
def isPm (n : Nat) (row : Nat → Nat) : Prop := (∀ i, i < n → row i < n) ∧ ∀ i j, i < n → j < n → row i = row j → i = j
def IsLeast (n W : Nat) (len wid : Nat → Nat) (r : Int32) (b : Nat → Int32) : Prop :=
  (∀ k, k < n → len k ≤ 60 ∧ wid k ≤ 60) ∧ ∃ row, isPm n row ∧ r = nI (lenOf W len wid n row) ∧ (∀ i, i < n → b i = nI (row i)) ∧ ∀ row', isPm n row' → lenOf W len wid n row ≤ lenOf W len wid n row' ∧ (lenOf W len wid n row' = lenOf W len wid n row → ¬ lexLt n row' row)
def I_misc (V : St) : Prop := V 2101 0 0 = V 2201 0 0 ∧ 0 ≤ V 2201 0 0 ∧ V 2201 0 0 ≤ 499 ∧ V 2102 0 0 = V 2288 0 0 ∧ V 2259 0 0 = -1
def I_tape (V : St) : Prop := V 2113 0 = V 2241 0 ∧ V 2114 0 0 = V 2242 0 0 ∧ (∃ t, t ≤ 400 ∧ V 2242 0 0 = nI t) ∧ (∀ j, -128 ≤ V 2241 0 j ∧ V 2241 0 j ≤ 127) ∧ V 2190 0 0 = 400 ∧ V 2190 1 0 = 0 ∧ (V 1908 0 0 = 0 ∨ V 1908 0 0 = 1)
def I_cloth (V : St) (n : Nat) : Prop := n ≤ 20 ∧ V 2103 0 0 = nI n ∧ V 2202 0 0 = nI n ∧ ∀ k, k < n → V 1001 k 0 = V 2205 0 k ∧ V 1002 k 0 = V 2206 0 k ∧ V 1003 k 0 = V 2207 0 k
def I_draw (V : St) (n : Nat) : Prop := n ≤ 22 ∧ V 2104 0 0 = nI n ∧ V 2203 0 0 = nI n ∧ (∀ d, n ≤ d → V 2209 0 d = 0 ∧ V 2210 0 d = 0) ∧ ∀ d, d < n → ∃ j s l A B T LJ LP, DrawV V d j s l A B T LJ LP
def ThingV (V : St) (nC x p : Nat) (len wid : Nat → Nat) : Prop :=
  p ≤ 9 ∧ V 2001 x 0 = V 2216 0 x ∧ 0 ≤ V 2216 0 x ∧ V 2216 0 x ≤ 2 ∧ V 2002 x 0 = V 2217 0 x ∧ V 2004 x 0 = V 2218 0 x ∧ V 2005 x 0 = V 2219 0 x ∧ V 2010 x 0 = V 2220 0 x ∧ V 2006 x 0 = V 2221 0 x ∧ V 2006 x 1 = V 2222 0 x ∧
  0 ≤ V 2221 0 x ∧ V 2221 0 x ≤ 1000000 ∧ 0 ≤ V 2222 0 x ∧ V 2222 0 x ≤ 1000000 ∧ V 2009 x 0 = nI p ∧ V 2223 0 x = nI p ∧
  ((V 2216 0 x = 0 ∧ V 2090 x 0 = 9 ∧ V 2003 x 0 = V 2217 0 x ∧ ∃ c, c < nC ∧ V 2217 0 x = nI c) ∨ (¬ V 2216 0 x = 0 ∧ V 2090 x 0 = 0 ∧ V 2003 x 0 = -1 ∧ p = 0)) ∧
  ∀ k, k < p → 1 ≤ len k ∧ len k ≤ 60 ∧ 1 ≤ wid k ∧ wid k ≤ 60 ∧ V 2007 x k = nI (len k) ∧ V 2224 0 (9 * x + k) = nI (len k) ∧ V 2008 x k = nI (wid k) ∧ V 2225 0 (9 * x + k) = nI (wid k)
def I_thing (V : St) (nC n : Nat) : Prop := n ≤ 30 ∧ V 2105 0 0 = nI n ∧ V 2204 0 0 = nI n ∧ (∀ x, n ≤ x → V 2221 0 x = 0 ∧ V 2222 0 x = 0 ∧ V 2223 0 x = 0) ∧ ∀ x, x < n → ∃ p len wid, ThingV V nC x p len wid
def I_lay (V : St) (nT : Nat) : Prop := V 1506 0 0 = -1 ∨ ∃ x w p q len wid, x < nT ∧ p ≤ q ∧ q ≤ 9 ∧ V 1506 0 0 = nI x ∧ 1 ≤ w ∧ w ≤ 200 ∧ V 1507 0 0 = nI w ∧ V 1508 0 0 = nI p ∧ V 2009 x 0 = nI q ∧ (∀ k, k < p → V 2007 x k = nI (len k) ∧ V 2008 x k = nI (wid k)) ∧ IsLeast p w len wid (V 1505 0 0) (V 1504 0)
def MakV (V : St) (m : Nat) : Prop := V 1601 m 0 = V 2233 0 m ∧ V 1602 m 0 = V 2234 0 m ∧ 1 ≤ V 2234 0 m ∧ V 2234 0 m ≤ 10000 ∧ V 1603 m 0 = V 2235 0 m ∧ V 1604 m 0 = V 2236 0 m ∧ 1 ≤ V 2236 0 m ∧ V 2236 0 m ≤ 100 ∧ V 1605 m 0 = V 2237 0 m ∧
  (∀ c, c < 20 → V 1606 m c = V 2238 0 (20 * m + c)) ∧ V 1608 m 0 = V 2239 0 m ∧ V 1607 m 0 = V 2240 0 m ∧ (V 2240 0 m = 0 ∨ V 2240 0 m = 1)
def I_mak (V : St) (n : Nat) : Prop := n ≤ 12 ∧ V 2106 0 0 = nI n ∧ V 2232 0 0 = nI n ∧ (∀ m, n ≤ m → V 2239 0 m = 0 ∧ V 2240 0 m = 0) ∧ (∀ j, 20 * n ≤ j → V 2238 0 j = 0) ∧ (∀ m, m < n → MakV V m) ∧
  ∃ R : Nat → Nat, isPm n R ∧ (∀ i, i < n → V 2107 0 i = nI (R i)) ∧ ∀ i j, i < j → j < n → V 2236 0 (R j) < V 2236 0 (R i) ∨ (V 2236 0 (R j) = V 2236 0 (R i) ∧ R i < R j)
def HoldsOK (V : St) (i j : Nat) : Prop := ∃ g : (Nat → Int32) → Bool, (∀ f f' : Nat → Int32, (∀ k, k < 9 → f k = f' k) → g f = g f') ∧
  (∀ (fu : Nat) (V' : St), 1000 ≤ fu → i < cntV V' 1401 → V' 1704 i = V 1704 i → V' 1708 i = V 1708 i → V' 1709 i = V 1709 i → V' 1790 i = V 1790 i → ∃ V1 : St, f_X4_holds fu V' (nI i) (nI j) = some (if g (V' 1403 0) = true then 1 else 0, V1) ∧ Fr [1404, 1405, 1406, 1407, 1408] V' V1) ∧
  (∀ (fu : Nat) (V' : St), 1000 ≤ fu → (∀ q, 180 * i ≤ q → q < 180 * i + 180 → V' 2260 0 q = V 2260 0 q) → V' 2266 0 (12 * i + j) = V 2266 0 (12 * i + j) → V' 2267 0 (12 * i + j) = V 2267 0 (12 * i + j) → ∃ V2 : St, f_X12_holds fu V' (nI (12 * i + j)) = some (if g (V' 2272 0) = true then 1 else 0, V2) ∧ Fr [2271] V' V2)
def OrdV (V : St) (i c : Nat) : Prop := c ≤ 12 ∧ V 1701 i 0 = V 2261 0 i ∧ V 1702 i 0 = V 2262 0 i ∧ V 1703 i 0 = V 2263 0 i ∧ V 1704 i 0 = nI c ∧ V 2264 0 i = nI c ∧
  ∀ j, j < c → V 1705 i j = V 2265 0 (12 * i + j) ∧ V 1706 i j = V 2268 0 (12 * i + j) ∧ 0 ≤ V 2268 0 (12 * i + j) ∧
    (V 2265 0 (12 * i + j) = 120 → ∃ a b, a < 30 ∧ b < 12 ∧ V 2268 0 (12 * i + j) = nI a ∧ V 1707 i j = nI b ∧ V 2269 0 (12 * i + j) = nI b) ∧ (¬ V 2265 0 (12 * i + j) = 120 → HoldsOK V i j)
def I_ord (V : St) (n : Nat) : Prop := n ≤ 30 ∧ V 1401 0 0 = nI n ∧ V 2258 0 0 = nI n ∧ ∀ i, i < n → ∃ c, OrdV V i c
def I_pers (V : St) (n : Nat) : Prop := n ≤ 40 ∧ V 2108 0 0 = nI n ∧ V 2277 0 0 = nI n ∧ (∀ o, n ≤ o → V 2278 0 o = 0) ∧ ∀ o, o < n → V 1801 o 0 = V 2278 0 o ∧ V 1802 o 0 = V 2279 0 o
def I_dock (V : St) (nT n : Nat) : Prop := n ≤ 60 ∧ V 2109 0 0 = nI n ∧ V 2280 0 0 = nI n ∧ ∀ k, k < n → V 1101 k 0 = V 2281 0 k ∧ V 1102 k 0 = V 2282 0 k ∧ (∃ x, x < nT ∧ V 2282 0 k = nI x) ∧ V 1103 k 0 = V 2283 0 k ∧ V 1104 k 0 = V 2284 0 k ∧ V 1105 k 0 = V 2285 0 k ∧ (V 2285 0 k = 0 ∨ V 2285 0 k = 1)
def I_seen (V : St) (n : Nat) : Prop := n ≤ 100 ∧ V 2110 0 0 = nI n ∧ V 2286 0 0 = nI n ∧ ∀ k, k < n → V 1301 k 0 = V 2289 0 k ∧ V 1303 k 0 = V 2290 0 k ∧ V 1304 k 0 = V 2291 0 k ∧ 0 ≤ V 2290 0 k ∧ V 2290 0 k ≤ 499
def I_rub (V : St) (n : Nat) : Prop := n ≤ 100 ∧ V 2111 0 0 = nI n ∧ V 2287 0 0 = nI n ∧ ∀ k, k < n → V 1331 k 0 = V 2292 0 k ∧ V 1332 k 0 = V 2295 0 k ∧ V 1333 k 0 = V 2294 0 k ∧ V 1334 k 0 = V 2293 0 k ∧ (V 2295 0 k = 0 ∨ V 2295 0 k = 1)
def I_marks (V : St) (nT nM n : Nat) : Prop := V 2112 0 0 = nI n ∧ (∀ e, e < n → ∃ x w, x < nT ∧ w < 500 ∧ V 1361 e 0 = nI x ∧ V 1363 e 0 = nI w ∧ (V 1362 e 0 = -1 ∨ ∃ m, m < nM ∧ V 1362 e 0 = nI m)) ∧
  (∀ m x w, m < 12 → x < 30 → w < 500 → V 2275 0 (15000 * m + 500 * x + w) = sm (fun e => if V 1361 e 0 = nI x ∧ V 1362 e 0 = nI m ∧ V 1363 e 0 = nI w then V 1364 e 0 else 0) n) ∧
  ∀ x w, x < 30 → w < 500 → V 2276 0 (500 * x + w) = sm (fun e => if V 1361 e 0 = nI x ∧ V 1362 e 0 = -1 ∧ V 1363 e 0 = nI w then V 1364 e 0 else 0) n
def Inv (k : Nat) (V : St) : Prop := ∃ nC nD nT nM nP nK nS nR nL nO, nL ≤ k ∧ I_misc V ∧ I_tape V ∧ I_cloth V nC ∧ I_draw V nD ∧ I_thing V nC nT ∧ I_lay V nT ∧ I_mak V nM ∧ I_ord V nO ∧ I_pers V nP ∧ I_dock V nT nK ∧ I_seen V nS ∧ I_rub V nR ∧ I_marks V nT nM nL
def Step (k : Nat) (m1 : St → RR) (m2 : St → RR) (V : St) : Prop := ∃ (r : Int32) (V1 V2 : St), m1 V = some (r, V1) ∧ m2 V1 = some (r, V2) ∧ Inv (k + 1) V2
