/-! the reference's texts -/
def rowsR (U : St) : Nat → Nat → List Cls → Nat → Prop
  | _, s, [], eF => s = eF
  | k, s, cl :: L, eF => ∃ e, rowR U k s e cl ∧ e ≤ eF ∧ rowsR U (k + 1) e L eF
theorem rowsR_nn {U : St} : ∀ L k s eF, rowsR U k s L eF → nnR U s eF := by
  intro L
  induction L with
  | nil => intro k s eF h; have : s = eF := h
           subst this; exact fun q k1 k2 => by omega
  | cons cl L ih =>
    intro k s eF h
    obtain ⟨e, h1, h2, h3⟩ := h
    exact nnR.app h1.2.2.2.2.2.2.1 (ih _ _ _ h3)
def RTx (fu N : Nat) (U : St) (x1 x2 : Int32) : RR := bd (f_X12_readsClause fu U) fun r V => if r = 0 then Lp_X12_order_74 (F_X12_order_116 fu) fu N V x1 x2 0 else Lp_X12_order_74 (F_X12_order_116 fu) fu N V x1 x2 1
theorem text_R {fu n : Nat} {T : Nat → Int32} {x1 x2 : Int32} (hfu : 1000 ≤ fu) : ∀ (j N p k c : Nat) (U : St), n - p < N → RT U T n p c k → k ≤ 12 → c ≤ p → p ≤ n → (∀ f, txL (hN T n) n j p k = .inl f → n - p < j → ∃ U', RTx fu (N + 1) U x1 x2 = F_X12_order_116 fu U' x1 x2 0 ∧ Fr rcw U U' ∧ U' 2245 0 0 = f) ∧ (∀ L, txL (hN T n) n j p k = .inr L → ∃ U' e, RTx fu (N + 1) U x1 x2 = F_X12_order_116 fu U' x1 x2 1 ∧ Fr rcw U U' ∧ U' 2250 0 0 = nI (k + L.length) ∧ U' 2248 0 0 = nI e ∧ k + L.length ≤ 12 ∧ c ≤ e ∧ e ≤ n ∧ agRR U U' k ∧ agS U U' 0 c ∧ rowsR U' k c L e) := by
  intro j
  induction j with
  | zero =>
    intro N p k c U _ _ _ _ _
    exact ⟨fun f _ h => by omega, fun L h => (by rw [txL] at h; cases h)⟩
  | succ j ih =>
    intro N p k c U hN' hR hk hc hp
    have hn := hR.1.1.1
    obtain ⟨r1, r2⟩ := clause_R (fu := fu) hfu hR hk hc hp
    have h0 : ∀ M V, Lp_X12_order_74 (F_X12_order_116 fu) fu (M + 1) V x1 x2 0 = F_X12_order_116 fu V x1 x2 0 := fun M V => by rw [Lp_X12_order_74, F_X12_order_74, if_pos rfl]
    rw [txL]
    cases hr : spCl (hN T n) p k with
    | inl f0 =>
      obtain ⟨U', q1, q2, q3⟩ := r1 f0 hr
      refine ⟨fun f hf _ => ⟨U', ?_, q2, by rw [q3]; exact Sum.inl.inj hf⟩, fun L hf => (by cases hf)⟩
      rw [RTx, q1, bd_some, if_pos rfl, h0]
    | inr w =>
      obtain ⟨a, cl⟩ := w
      obtain ⟨U1, e, q1, q2, q3, q4, q5, q6, q7, q8⟩ := r2 a cl hr
      obtain ⟨s1, s2⟩ := spCl_adv hR.1.1 hp hr
      obtain ⟨g1, g2, g3, g4⟩ := q3
      have hce : c ≤ e := q8.2.2.2.2.2.1
      have hun : RTx fu (N + 1) U x1 x2 = if nI n ≤ nI a then F_X12_order_116 fu U1 x1 x2 1 else (bd (f_X12_takes fu U1 (nI 59)) fun r3 V4 => if r3 = 0 then (F_X12_order_110 (Lp_X12_order_74 (F_X12_order_116 fu) fu N) (F_X12_order_116 fu) fu V4 x1 x2) else (bd (f_X12_readsClause fu V4) fun r7 V8 => if r7 = 0 then (F_X12_order_110 (Lp_X12_order_74 (F_X12_order_116 fu) fu N) (F_X12_order_116 fu) fu V8 x1 x2) else (F_X12_order_111 (Lp_X12_order_74 (F_X12_order_116 fu) fu N) (F_X12_order_116 fu) fu V8 x1 x2 (1)))) := by
        rw [RTx, q1, bd_some, if_neg (by decide), Lp_X12_order_74, F_X12_order_74, if_neg (by decide), g1.2.1, g2]
        rfl
      rw [hun]
      simp only []
      by_cases ha : a < n
      · rw [if_pos ha, if_neg (nI_ge ha (by omega))]
        have htk := takes_R (fu := fu) (c := 59) g1 s2 (by omega) g2
        obtain ⟨N, rfl⟩ : ∃ N2, N = N2 + 1 := ⟨N - 1, by omega⟩
        rw [htk]
        by_cases hcc : hN T n a = 59
        · rw [if_pos hcc, if_pos hcc, bd_some, if_neg (by decide)]
          have hF2 : Fr rcw U (setV U1 2243 0 0 (nI (a + 1))) := q2.set (by decide)
          have hR2 : RT (setV U1 2243 0 0 (nI (a + 1))) T n (a + 1) e (k + 1) := ⟨hR.1.fr hF2 (by decide), by rw [setV_at, if_pos ⟨rfl, rfl⟩], by rw [setV_fn (by decide)]; exact g3, by rw [setV_fn (by decide)]; exact g4⟩
          obtain ⟨i1, i2⟩ := ih N (a + 1) (k + 1) e (setV U1 2243 0 0 (nI (a + 1))) (by omega) hR2 (by omega) (by omega) (by omega)
          have hun2 : (bd (f_X12_readsClause fu (setV U1 2243 0 0 (nI (a + 1)))) fun r7 V8 => if r7 = 0 then (F_X12_order_110 (Lp_X12_order_74 (F_X12_order_116 fu) fu (N + 1)) (F_X12_order_116 fu) fu V8 x1 x2) else (F_X12_order_111 (Lp_X12_order_74 (F_X12_order_116 fu) fu (N + 1)) (F_X12_order_116 fu) fu V8 x1 x2 (1))) = RTx fu (N + 1) (setV U1 2243 0 0 (nI (a + 1))) x1 x2 := rfl
          rw [hun2]
          cases hr2 : txL (hN T n) n j (a + 1) (k + 1) with
          | inl f0 =>
            refine ⟨fun f hf hj => ?_, fun L hf => (by cases hf)⟩
            obtain ⟨U', z1, z2, z3⟩ := i1 f0 hr2 (by omega)
            exact ⟨U', z1, hF2.trans z2, by rw [z3]; exact Sum.inl.inj hf⟩
          | inr L0 =>
            obtain ⟨U', e', z1, z2, z3, z4, z5, z6, z7, z8, z9, z10⟩ := i2 L0 hr2
            refine ⟨fun f hf _ => (by cases hf), fun L hf => ?_⟩
            have hL : cl :: L0 = L := Sum.inr.inj hf
            subst hL
            refine ⟨U', e', z1, hF2.trans z2, by rw [z3, List.length_cons]; congr 1; omega, z4, by rw [List.length_cons]; omega, by omega, z7, fun i hi => ?_, fun q k1 k2 => ?_, e, q8.cg ?_ (fun q k1 k2 => ?_), z6, z10⟩
            · obtain ⟨y1, y2, y3, y4, y5⟩ := z8 i (by omega)
              obtain ⟨x1', x2', x3', x4', x5'⟩ := q6 i hi
              rw [y1, y2, y3, y4, y5, setV_fn (by decide), setV_fn (by decide), setV_fn (by decide), setV_fn (by decide), setV_fn (by decide)]
              exact ⟨x1', x2', x3', x4', x5'⟩
            · rw [z9 q k1 (by omega), setV_fn (by decide)]; exact q7 q k1 k2
            · obtain ⟨y1, y2, y3, y4, y5⟩ := z8 k (by omega)
              rw [y1, y2, y3, y4, y5, setV_fn (by decide), setV_fn (by decide), setV_fn (by decide), setV_fn (by decide), setV_fn (by decide)]
              exact ⟨rfl, rfl, rfl, rfl, rfl⟩
            · rw [z9 q (by omega) k2, setV_fn (by decide)]
        · rw [if_neg hcc, if_neg hcc, bd_some, if_pos rfl, F_X12_order_110, F_X12_order_111, h0]
          exact ⟨fun f hf _ => ⟨_, rfl, q2.set (by decide), by rw [setV_at, if_pos ⟨rfl, rfl⟩]; exact Sum.inl.inj hf⟩, fun L hf => (by cases hf)⟩
      · rw [if_neg ha, if_pos (nI_le (by omega) (by omega))]
        refine ⟨fun f hf _ => (by cases hf), fun L hf => ?_⟩
        have hL : [cl] = L := Sum.inr.inj hf
        subst hL
        exact ⟨U1, e, rfl, q2, g4, g3, by show k + 1 ≤ 12; omega, hce, by omega, q6, q7, e, q8, Nat.le_refl e, rfl⟩
/-- the first reading -/
theorem text_0 {fu n p k c : Nat} {T : Nat → Int32} {U : St} {x1 x2 : Int32} (hfu : 1000 ≤ fu) (h : RT U T n p c k) (hk : k ≤ 12) (hc : c ≤ p) (hp : p ≤ n) (N : Nat) : bd (f_X12_readsClause fu U) (fun r V => Lp_X12_order_74 (F_X12_order_116 fu) fu N V x1 x2 r) = RTx fu N U x1 x2 := by
  obtain ⟨r1, r2⟩ := clause_R (fu := fu) hfu h hk hc hp
  rw [RTx]
  cases hr : spCl (hN T n) p k with
  | inl f0 => obtain ⟨U', q1, -⟩ := r1 f0 hr; rw [q1, bd_some, bd_some, if_pos rfl]
  | inr w => obtain ⟨a, cl⟩ := w; obtain ⟨U', c', q1, -⟩ := r2 a cl hr; rw [q1, bd_some, bd_some, if_neg (by decide)]
theorem rowsC_at {V : St} {eF : Nat} : ∀ (L : List Cls) (k s : Nat), rowsC V k s L eF → ∀ idx cl, L[idx]? = some cl → ∃ sj ej, rowC V (k + idx) sj ej cl ∧ clOK cl ∧ ej ≤ eF ∧ (idx = 0 → sj = s) ∧ (0 < idx → V 1904 0 (k + idx - 1) = nI sj) := by
  intro L
  induction L with
  | nil => intro k s _ idx cl h; cases h
  | cons c L ih =>
    intro k s h idx cl hi
    obtain ⟨e, h1, h2, h3, h4⟩ := h
    cases idx with
    | zero =>
      have : c = cl := Option.some.inj hi
      subst this
      exact ⟨s, e, h1, h3, h2, fun _ => rfl, fun z => by omega⟩
    | succ idx =>
      obtain ⟨sj, ej, a1, a2, a3, a4, a5⟩ := ih (k + 1) e h4 idx cl hi
      refine ⟨sj, ej, by rw [show k + (idx + 1) = k + 1 + idx by omega]; exact a1, a2, a3, fun z => by omega, fun _ => ?_⟩
      by_cases z : idx = 0
      · subst z
        rw [a4 rfl, show k + (0 + 1) - 1 = k by omega]; exact h1.2.2.2.1
      · have := a5 (by omega)
        rw [show k + (idx + 1) - 1 = k + 1 + idx - 1 by omega]; exact this
theorem rowsR_at {U : St} {eF : Nat} : ∀ (L : List Cls) (k s : Nat), rowsR U k s L eF → ∀ idx cl, L[idx]? = some cl → ∃ sj ej, rowR U (k + idx) sj ej cl ∧ ej ≤ eF := by
  intro L
  induction L with
  | nil => intro k s _ idx cl h; cases h
  | cons c L ih =>
    intro k s h idx cl hi
    obtain ⟨e, h1, h2, h4⟩ := h
    cases idx with
    | zero =>
      have : c = cl := Option.some.inj hi
      subst this
      exact ⟨s, e, h1, h2⟩
    | succ idx =>
      obtain ⟨sj, ej, a1, a2⟩ := ih (k + 1) e h4 idx cl hi
      exact ⟨sj, ej, by rw [show k + (idx + 1) = k + 1 + idx by omega]; exact a1, a2⟩
/-! copying -/
theorem copy_codes {fu m e : Nat} {U : St} {kx : St → RR} (hm : m < 30) (he : e ≤ 180) : ∀ (r N q : Nat) (W : St), q + r = e → r < N → Fr [2260] U W → W 2258 0 0 = nI m → W 2248 0 0 = nI e → (∀ x, W 2260 0 x = if 180 * m ≤ x ∧ x < 180 * m + q then U 2251 0 (x - 180 * m) else U 2260 0 x) → ∃ W', Lp_X12_order_180 kx fu N W (nI q) = kx W' ∧ Fr [2260] U W' ∧ (∀ x, W' 2260 0 x = if 180 * m ≤ x ∧ x < 180 * m + e then U 2251 0 (x - 180 * m) else U 2260 0 x) := by
  intro r
  induction r with
  | zero =>
    intro N q W hq hN' hF h5 h4 hx
    obtain ⟨N, rfl⟩ : ∃ N', N = N' + 1 := ⟨N - 1, by omega⟩
    have : q = e := by omega
    subst this
    refine ⟨W, ?_, hF, hx⟩
    rw [Lp_X12_order_180, F_X12_order_180, h4, if_pos (nI_le (Nat.le_refl _) (by omega))]
  | succ r ih =>
    intro N q W hq hN' hF h5 h4 hx
    obtain ⟨N, rfl⟩ : ∃ N', N = N' + 1 := ⟨N - 1, by omega⟩
    have g1 : ¬ (nI q < 0 ∨ 180 ≤ q) := fun w => w.elim (nI_pos (by omega)) (fun w => by omega)
    have g2 : ¬ (nI (180 * m + q) < 0 ∨ 5400 ≤ 180 * m + q) := fun w => w.elim (nI_pos (by omega)) (fun w => by omega)
    have e51 : W 2251 0 q = U 2251 0 q := by rw [hF 2251 (by decide)]
    obtain ⟨W', a1, a2, a3⟩ := ih N (q + 1) (setV W 2260 0 (180 * m + q) (U 2251 0 q)) (by omega) (by omega) (hF.set (by decide)) (by rw [setV_fn (by decide)]; exact h5) (by rw [setV_fn (by decide)]; exact h4) (fun x => by
      rw [setV_at]
      by_cases z : x = 180 * m + q
      · rw [if_pos ⟨rfl, z⟩, if_pos (by omega), z]; congr 1; omega
      · rw [if_neg (fun y => z y.2), hx x]
        by_cases y : 180 * m ≤ x ∧ x < 180 * m + q
        · rw [if_pos y, if_pos (by omega)]
        · rw [if_neg y, if_neg (by omega)])
    refine ⟨W', ?_, a2, a3⟩
    rw [← a1, Lp_X12_order_180, F_X12_order_180, h4, if_neg (nI_ge (by omega) (by omega)), nI_clamp (show q < 2 ^ 31 by omega), gd_t g1, h5, ix180, nI_clamp (show 180 * m + q < 2 ^ 31 by omega), gd_t g2, e51, bv_eq, nI_1]
def rwI (m x q : Nat) (g : Nat → Int32) (h : Nat → Int32) : Int32 := if 12 * m ≤ x ∧ x < 12 * m + q then g (x - 12 * m) else h x
theorem rwI_st {m x q : Nat} {g h : Nat → Int32} : rwI m x (q + 1) g h = if x = 12 * m + q then g q else rwI m x q g h := by
  unfold rwI
  by_cases z : x = 12 * m + q
  · rw [if_pos (by omega), if_pos z, z]; congr 1; omega
  · rw [if_neg z]
    by_cases y : 12 * m ≤ x ∧ x < 12 * m + q
    · rw [if_pos y, if_pos (by omega)]
    · rw [if_neg y, if_neg (by omega)]
def cpw : List Nat := [2265, 2266, 2267, 2268, 2269]
def cpI (U W : St) (m q : Nat) : Prop := ∀ x, W 2265 0 x = rwI m x q (U 2253 0) (U 2265 0) ∧ W 2268 0 x = rwI m x q (U 2256 0) (U 2268 0) ∧ W 2269 0 x = rwI m x q (U 2257 0) (U 2269 0) ∧ W 2266 0 x = rwI m x q (fun i => nI (180 * m) + U 2254 0 i) (U 2266 0) ∧ W 2267 0 x = rwI m x q (fun i => nI (180 * m) + U 2255 0 i) (U 2267 0)
theorem copy_rows {fu m K : Nat} {U : St} {kx : St → RR} (hm : m < 30) (hK : K ≤ 12) : ∀ (r N q : Nat) (W : St), q + r = K → r < N → Fr cpw U W → W 2258 0 0 = nI m → W 2250 0 0 = nI K → cpI U W m q → ∃ W', Lp_X12_order_221 kx fu N W (nI q) = kx W' ∧ Fr cpw U W' ∧ cpI U W' m K := by
  intro r
  induction r with
  | zero =>
    intro N q W hq hN' hF h5 h4 hx
    obtain ⟨N, rfl⟩ : ∃ N', N = N' + 1 := ⟨N - 1, by omega⟩
    have : q = K := by omega
    subst this
    refine ⟨W, ?_, hF, hx⟩
    rw [Lp_X12_order_221, F_X12_order_221, h4, if_pos (nI_le (Nat.le_refl _) (by omega))]
  | succ r ih =>
    intro N q W hq hN' hF h5 h4 hx
    obtain ⟨N, rfl⟩ : ∃ N', N = N' + 1 := ⟨N - 1, by omega⟩
    have g1 : ¬ (nI q < 0 ∨ 12 ≤ q) := fun w => w.elim (nI_pos (by omega)) (fun w => by omega)
    have g2 : ¬ (nI (12 * m + q) < 0 ∨ 360 ≤ 12 * m + q) := fun w => w.elim (nI_pos (by omega)) (fun w => by omega)
    have e180 : (180 : Int32) * nI m = nI (180 * m) := by rw [show (180 : Int32) = nI 180 from rfl, pk_mul]
    have hW : ∀ v, v ∉ cpw → W v = U v := hF
    have hun : Lp_X12_order_221 kx fu (N + 1) W (nI q) = Lp_X12_order_221 kx fu N (setV (setV (setV (setV (setV W 2265 0 (12 * m + q) (U 2253 0 q)) 2268 0 (12 * m + q) (U 2256 0 q)) 2269 0 (12 * m + q) (U 2257 0 q)) 2266 0 (12 * m + q) (nI (180 * m) + U 2254 0 q)) 2267 0 (12 * m + q) (nI (180 * m) + U 2255 0 q)) (nI (q + 1)) := by
      rw [Lp_X12_order_221, F_X12_order_221, h4, if_neg (nI_ge (by omega) (by omega)), nI_clamp (show q < 2 ^ 31 by omega), h5, ix12, nI_clamp (show 12 * m + q < 2 ^ 31 by omega)]
      simp only [gd_t g1, gd_t g2, bv_eq]
      rw [setV_fn (show 2256 ≠ 2265 by decide), setV_fn (show 2257 ≠ 2268 by decide), setV_fn (show 2257 ≠ 2265 by decide), setV_fn (show 2258 ≠ 2269 by decide), setV_fn (show 2258 ≠ 2268 by decide), setV_fn (show 2258 ≠ 2265 by decide), setV_fn (show 2254 ≠ 2269 by decide), setV_fn (show 2254 ≠ 2268 by decide), setV_fn (show 2254 ≠ 2265 by decide), setV_fn (show 2258 ≠ 2266 by decide), setV_fn (show 2258 ≠ 2269 by decide), setV_fn (show 2258 ≠ 2268 by decide), setV_fn (show 2258 ≠ 2265 by decide), setV_fn (show 2255 ≠ 2266 by decide), setV_fn (show 2255 ≠ 2269 by decide), setV_fn (show 2255 ≠ 2268 by decide), setV_fn (show 2255 ≠ 2265 by decide), h5, e180, hW 2253 (by decide), hW 2256 (by decide), hW 2257 (by decide), hW 2254 (by decide), hW 2255 (by decide), nI_1]
    rw [hun]
    refine ih N (q + 1) _ (by omega) (by omega) (((((hF.set (by decide)).set (by decide)).set (by decide)).set (by decide)).set (by decide)) ?_ ?_ (fun x => ?_)
    · rw [setV_fn (by decide), setV_fn (by decide), setV_fn (by decide), setV_fn (by decide), setV_fn (by decide)]; exact h5
    · rw [setV_fn (by decide), setV_fn (by decide), setV_fn (by decide), setV_fn (by decide), setV_fn (by decide)]; exact h4
    · obtain ⟨x1, x2, x3, x4, x5⟩ := hx x
      have hz : (0 = 0 ∧ x = 12 * m + q) = (x = 12 * m + q) := by simp
      refine ⟨?_, ?_, ?_, ?_, ?_⟩
      · rw [setV_fn (by decide), setV_fn (by decide), setV_fn (by decide), setV_fn (by decide), setV_at, rwI_st, x1]; simp only [true_and]
      · rw [setV_fn (by decide), setV_fn (by decide), setV_fn (by decide), setV_at, setV_fn (by decide), rwI_st, x2]; simp only [true_and]
      · rw [setV_fn (by decide), setV_fn (by decide), setV_at, setV_fn (by decide), setV_fn (by decide), rwI_st, x3]; simp only [true_and]
      · rw [setV_fn (by decide), setV_at, setV_fn (by decide), setV_fn (by decide), setV_fn (by decide), rwI_st, x4]; simp only [true_and]
      · rw [setV_at, setV_fn (by decide), setV_fn (by decide), setV_fn (by decide), setV_fn (by decide), rwI_st, x5]; simp only [true_and]
