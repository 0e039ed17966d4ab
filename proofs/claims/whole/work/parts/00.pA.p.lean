/-! the class's clauses and texts -/
def clw : List Nat := [1901, 1902, 1903, 1904, 1905, 1906, 1907, 1910, 1911]
def agR (V V' : St) (k : Nat) : Prop := ∀ i, i < k → V' 1901 0 i = V 1901 0 i ∧ V' 1902 0 i = V 1902 0 i ∧ V' 1903 0 i = V 1903 0 i ∧ V' 1904 0 i = V 1904 0 i
def rowC (V : St) (k s e : Nat) (cl : Cls) : Prop := V 1901 0 k = nI cl.1 ∧ V 1902 0 k = nI cl.2.1 ∧ V 1903 0 k = nI cl.2.2.1 ∧ V 1904 0 k = nI e ∧ s ≤ e ∧ (∀ d, cl.2.2.2 = some d → CG V s e d) ∧ (cl.2.2.2 = none → e = s)
def clOK (cl : Cls) : Prop := isLt cl.1 ∧ cl.2.1 ≤ 99999 ∧ cl.2.2.1 ≤ 99999 ∧ (cl.1 = 120 → cl.2.1 ≤ 29 ∧ cl.2.2.1 ≤ 11) ∧ (cl.1 ≠ 120 → ∃ d, cl.2.2.2 = some d)
theorem rowC.cg {V V' : St} {k s e : Nat} {cl : Cls} (h : rowC V k s e cl) (h1 : V' 1901 0 k = V 1901 0 k ∧ V' 1902 0 k = V 1902 0 k ∧ V' 1903 0 k = V 1903 0 k ∧ V' 1904 0 k = V 1904 0 k) (h2 : agV V V' s e) : rowC V' k s e cl := by
  obtain ⟨a1, a2, a3, a4, a5, a6, a7⟩ := h
  exact ⟨by rw [h1.1]; exact a1, by rw [h1.2.1]; exact a2, by rw [h1.2.2.1]; exact a3, by rw [h1.2.2.2]; exact a4, a5, fun d hd => (a6 d hd).cg h2, a7⟩
theorem spCl_ok {T : Nat → Int32} {n p k a : Nat} {cl : Cls} (ht : isTx T n) (hp : p ≤ n) (h : spCl (hN T n) p k = .inr (a, cl)) : clOK cl := by
  unfold spCl at h
  split at h
  · rename_i hl
    have hpn : p < n := (hN_lt ht).mp (by omega)
    split at h
    · cases h
    · split at h
      · cases hr : spNum (hN T n) 29 (p + 1) with
        | inl g => rw [hr] at h; cases h
        | inr w =>
          obtain ⟨a', v⟩ := w
          have ha := spNum_adv ht hr
          rw [hr] at h
          simp only [] at h
          split at h
          · cases hr2 : spNum (hN T n) 11 (a' + 1) with
            | inl g => rw [hr2] at h; cases h
            | inr w =>
              obtain ⟨b, v2⟩ := w
              have hb := spNum_adv ht hr2
              rw [hr2] at h
              have := Sum.inr.inj h
              simp only [Prod.mk.injEq] at this
              rw [← this.2]
              exact ⟨by unfold isLt; omega, by show v ≤ 99999; omega, by show v2 ≤ 99999; omega, fun _ => ⟨by show v ≤ 29; omega, by show v2 ≤ 11; omega⟩, fun z => absurd rfl z⟩
          · cases h
      · rename_i hx
        cases hr : spNo (hN T n) p with
        | inl g => rw [hr] at h; cases h
        | inr w =>
          obtain ⟨a', v⟩ := w
          have ha := spNo_adv ht hpn hr
          rw [hr] at h
          simp only [] at h
          cases hr2 : spCd (hN T n) a' with
          | inl g => rw [hr2] at h; cases h
          | inr w =>
            obtain ⟨b, d⟩ := w
            rw [hr2] at h
            have := Sum.inr.inj h
            simp only [Prod.mk.injEq] at this
            rw [← this.2]
            exact ⟨hl, ha.2.2, by show 0 ≤ 99999; omega, fun z => absurd z hx, fun _ => ⟨d, rfl⟩⟩
  · cases h
/-- the row of a clause, laid -/
theorem fin_C {fu k s : Nat} {V : St} {x1 x2 x3 : Int32} (hk : k < 12) (h6 : V 1906 0 0 = nI k) (h7 : V 1907 0 0 = nI s) : ∃ V', F_X9_readClause_179 fu V x1 x2 x3 1 = some (1, V') ∧ Fr [1901, 1902, 1903, 1904, 1906] V V' ∧ V' 1906 0 0 = nI (k + 1) ∧ V' 1901 0 k = x1 ∧ V' 1902 0 k = x2 ∧ V' 1903 0 k = x3 ∧ V' 1904 0 k = nI s ∧ agR V V' k := by
  have g : ¬ (nI k < 0 ∨ 12 ≤ k) := fun w => w.elim (nI_pos (by omega)) (fun w => by omega)
  refine ⟨setV (setV (setV (setV (setV V 1901 0 k x1) 1902 0 k x2) 1903 0 k x3) 1904 0 k (nI s)) 1906 0 0 (nI (k + 1)), ?_, (((((Fr.refl _ V).set (by decide)).set (by decide)).set (by decide)).set (by decide)).set (by decide), ?_, ?_, ?_, ?_, ?_, fun i hi => ?_⟩
  · rw [F_X9_readClause_179, if_neg (by decide), h6, nI_clamp (show k < 2 ^ 31 by omega), gd_t g, bv_eq, setV_fn (show 1906 ≠ 1901 by decide), h6, nI_clamp (show k < 2 ^ 31 by omega), gd_t g, bv_eq, setV_fn (show 1906 ≠ 1902 by decide), setV_fn (show 1906 ≠ 1901 by decide), h6, nI_clamp (show k < 2 ^ 31 by omega), gd_t g, bv_eq, setV_fn (show 1906 ≠ 1903 by decide), setV_fn (show 1906 ≠ 1902 by decide), setV_fn (show 1906 ≠ 1901 by decide), h6, nI_clamp (show k < 2 ^ 31 by omega), gd_t g, setV_fn (show 1907 ≠ 1903 by decide), setV_fn (show 1907 ≠ 1902 by decide), setV_fn (show 1907 ≠ 1901 by decide), h7, bv_eq, setV_fn (show 1906 ≠ 1904 by decide), setV_fn (show 1906 ≠ 1903 by decide), setV_fn (show 1906 ≠ 1902 by decide), setV_fn (show 1906 ≠ 1901 by decide), h6, nI_1, bv_eq, F_X9_readClause_237, gd_t (.inr rfl)]
  · rw [setV_at, if_pos ⟨rfl, rfl⟩]
  · rw [setV_fn (by decide), setV_fn (by decide), setV_fn (by decide), setV_fn (by decide), setV_at, if_pos ⟨rfl, rfl⟩]
  · rw [setV_fn (by decide), setV_fn (by decide), setV_fn (by decide), setV_at, if_pos ⟨rfl, rfl⟩]
  · rw [setV_fn (by decide), setV_fn (by decide), setV_at, if_pos ⟨rfl, rfl⟩]
  · rw [setV_fn (by decide), setV_at, if_pos ⟨rfl, rfl⟩]
  · have hne : ¬ (0 = 0 ∧ i = k) := fun z => by omega
    refine ⟨?_, ?_, ?_, ?_⟩
    · rw [setV_fn (by decide), setV_fn (by decide), setV_fn (by decide), setV_fn (by decide), setV_at, if_neg hne]
    · rw [setV_fn (by decide), setV_fn (by decide), setV_fn (by decide), setV_at, if_neg hne, setV_fn (by decide)]
    · rw [setV_fn (by decide), setV_fn (by decide), setV_at, if_neg hne, setV_fn (by decide), setV_fn (by decide)]
    · rw [setV_fn (by decide), setV_at, if_neg hne, setV_fn (by decide), setV_fn (by decide), setV_fn (by decide)]
theorem agR.fr {V V' : St} {k : Nat} {ws : List Nat} (hF : Fr ws V V') (hd : [1901, 1902, 1903, 1904].all (fun v => !ws.contains v) = true) : agR V V' k := fun i _ => by
  have e := hF.all hd
  rw [e 1901 (by decide), e 1902 (by decide), e 1903 (by decide), e 1904 (by decide)]; exact ⟨rfl, rfl, rfl, rfl⟩
theorem agR.trans {V V' V'' : St} {k : Nat} (h : agR V V' k) (h' : agR V' V'' k) : agR V V'' k := fun i hi => by
  obtain ⟨a1, a2, a3, a4⟩ := h i hi
  obtain ⟨b1, b2, b3, b4⟩ := h' i hi
  exact ⟨b1.trans a1, b2.trans a2, b3.trans a3, b4.trans a4⟩
/-- behind the number: a condition -/
theorem cond_C {fu n a k s : Nat} {V : St} {T : Nat → Int32} {x1 x3 : Int32} {v : Nat} (hfu : 1000 ≤ fu) (hv : v ≤ 99999) (ht : TxC V T n) (e1 : V 1910 0 0 = nI a) (e7 : V 1907 0 0 = nI s) (e6 : V 1906 0 0 = nI k) (hk : k < 12) (hs : s ≤ a) (ha : a ≤ n) : (∀ f, spCd (hN T n) a = .inl f → ∃ V', F_X9_readClause_141 fu V x1 (nI v) x3 = some (0, V') ∧ Fr clw V V' ∧ V' 1911 0 0 = f) ∧ (∀ b d, spCd (hN T n) a = .inr (b, d) → ∃ V' e, F_X9_readClause_141 fu V x1 (nI v) x3 = some (1, V') ∧ Fr clw V V' ∧ V' 1910 0 0 = nI b ∧ V' 1906 0 0 = nI (k + 1) ∧ V' 1907 0 0 = nI e ∧ s < e ∧ e + a ≤ s + b ∧ agR V V' k ∧ agV V V' 0 s ∧ V' 1901 0 k = x1 ∧ V' 1902 0 k = nI v ∧ V' 1903 0 k = x3 ∧ V' 1904 0 k = nI e ∧ CG V' s e d) := by
  have hn := ht.1.1
  have hvn : ¬ nI v = -1 := fun z => by
    have q := nI_pos (n := v) (by omega)
    rw [z] at q; exact q (by decide)
  have no : ∀ U x2, F_X9_readClause_176 fu U x1 x2 x3 = some (0, U) := fun U x2 => by
    rw [F_X9_readClause_176, F_X9_readClause_177, F_X9_readClause_179, if_pos rfl, F_X9_readClause_237, gd_t (.inl rfl)]
  have htk := take_C (fu := fu) (c := 40) ht ha (by omega) e1
  unfold spCd
  by_cases hA : hN T n a = 40
  · rw [if_pos hA] at htk ⊢
    have han : a < n := (hN_lt ht.1).mp (by omega)
    have hF1 : Fr rdw V (setV V 1910 0 0 (nI (a + 1))) := (Fr.refl _ V).set (by decide)
    obtain ⟨r1, r2⟩ := rd_C (fu := fu) (n := n) (T := T) hfu 30 0 1 (by omega) (by omega) (by omega) (by decide) (setV V 1910 0 0 (nI (a + 1))) (a + 1) s (ht.fr hF1 (by decide)) (by rw [setV_at, if_pos ⟨rfl, rfl⟩]) (by rw [setV_fn (by decide)]; exact e7) (by omega) (by omega)
    simp only [] at r1 r2
    have hun : F_X9_readClause_141 fu V x1 (nI v) x3 = bd (g_rd fu 30 0 (setV V 1910 0 0 (nI (a + 1))) (nI 1)) fun r6 V7 => if r6 = 0 then (F_X9_readClause_176 fu V7 x1 (nI v) x3) else (bd (f_X9_take fu V7 (nI 41)) fun r10 V11 => if r10 = 0 then (F_X9_readClause_176 fu V11 x1 (nI v) x3) else (F_X9_readClause_177 fu V11 x1 (nI v) x3 (1))) := by
      rw [F_X9_readClause_141, if_neg hvn, show f_X9_take fu V 40 = _ from htk, bd_some, if_neg (by decide)]
      rfl
    rw [hun]
    cases hr : sp (hN T n) 30 0 (a + 1) 1 with
    | inl f0 =>
      obtain ⟨V', q1, q2, q3⟩ := r1 f0 hr
      refine ⟨fun f hf => ⟨V', ?_, Fr.weak (hF1.trans q2) (by decide), by rw [q3]; exact Sum.inl.inj hf⟩, fun a d hf => (by cases hf)⟩
      rw [q1, bd_some, if_pos rfl, no]
    | inr w =>
      obtain ⟨b, d⟩ := w
      obtain ⟨V1, e, q1, q2, q3, q4, q5, q6, q7, q8, q9, q10⟩ := r2 b d hr
      have q10 : CG V1 s e d := q10
      have hF2 : Fr rdw V V1 := hF1.trans q2
      have htk2 := take_C (fu := fu) (c := 41) (ht.fr hF2 (by decide)) q6 (by omega) q3
      rw [q1, bd_some, if_neg (by decide), htk2]
      simp only [thn]
      by_cases hc : hN T n b = 41
      · rw [if_pos hc, if_pos hc, bd_some, if_neg (by decide), F_X9_readClause_177]
        have hF3 : Fr rdw V (setV V1 1910 0 0 (nI (b + 1))) := hF2.set (by decide)
        obtain ⟨V', t1, t2, t3, t4, t5, t6, t7, t8⟩ := fin_C (fu := fu) (k := k) (s := e) (V := setV V1 1910 0 0 (nI (b + 1))) (x1 := x1) (x2 := nI v) (x3 := x3) hk (by rw [setV_fn (by decide), hF2 1906 (by decide)]; exact e6) (by rw [setV_fn (by decide)]; exact q4)
        refine ⟨fun f hf => (by cases hf), fun b' d' hf => ?_⟩
        obtain ⟨rfl, rfl⟩ := inr2 hf
        refine ⟨V', e, t1, (Fr.weak hF3 (by decide)).trans (Fr.weak t2 (by decide)), by rw [t2 1910 (by decide), setV_at, if_pos ⟨rfl, rfl⟩], t3, by rw [t2 1907 (by decide), setV_fn (by decide)]; exact q4, q7, by omega, agR.trans (agR.fr hF3 (by decide)) t8, fun k' k1 k2 => ?_, t4, t5, t6, t7, q10.cg (fun k' _ _ => by rw [t2 1905 (by decide), setV_fn (by decide)])⟩
        rw [t2 1905 (by decide), setV_fn (by decide), q9 k' k1 k2, setV_fn (by decide)]
      · rw [if_neg hc, if_neg hc, bd_some, if_pos rfl, no]
        exact ⟨fun f hf => ⟨_, rfl, (Fr.weak hF2 (by decide)).set (by decide), by rw [setV_at, if_pos ⟨rfl, rfl⟩]; exact Sum.inl.inj hf⟩, fun a d hf => (by cases hf)⟩
  · rw [if_neg hA] at htk ⊢
    refine ⟨fun f hf => ⟨setV V 1911 0 0 (flt 1 a), ?_, (Fr.refl _ V).set (by decide), by rw [setV_at, if_pos ⟨rfl, rfl⟩]; exact Sum.inl.inj hf⟩, fun a d hf => (by cases hf)⟩
    rw [F_X9_readClause_141, if_neg hvn, show f_X9_take fu V 40 = _ from htk, bd_some, if_pos rfl, no]
theorem clause_C {fu n p k s : Nat} {V : St} {T : Nat → Int32} (hfu : 1000 ≤ fu) (ht : TxC V T n) (e1 : V 1910 0 0 = nI p) (e7 : V 1907 0 0 = nI s) (e6 : V 1906 0 0 = nI k) (hk : k ≤ 12) (hs : s ≤ p) (hp : p ≤ n) : (∀ f, spCl (hN T n) p k = .inl f → ∃ V', f_X9_readClause fu V = some (0, V') ∧ Fr clw V V' ∧ V' 1911 0 0 = f) ∧ (∀ a cl, spCl (hN T n) p k = .inr (a, cl) → ∃ V' e, f_X9_readClause fu V = some (1, V') ∧ Fr clw V V' ∧ V' 1910 0 0 = nI a ∧ V' 1906 0 0 = nI (k + 1) ∧ V' 1907 0 0 = nI e ∧ k < 12 ∧ e ≤ a ∧ agR V V' k ∧ agV V V' 0 s ∧ rowC V' k s e cl) := by
  have hn := ht.1.1
  have hle := hN_le (p := p) ht.1
  have hh := here_C (fu := fu) ht (by omega) e1
  have hio := io_eq (fu := fu) (V := V) (k := 0) (by decide) (ioA (hN T n p) (by omega))
  have hun : f_X9_readClause fu V = if (if hN T n p = 98 ∨ hN T n p = 109 ∨ hN T n p = 112 ∨ hN T n p = 99 ∨ hN T n p = 103 ∨ hN T n p = 100 ∨ hN T n p = 120 then (1 : Int32) else 0) = 0 then (bd (f_X9_fail fu V (nI 1)) fun r8 V9 => gd (r8 = 0 ∨ r8 = 1) <| some (r8, V9)) else (if nI k < nI 12 then (bv (setV V 1910 0 0 (nI (p + 1))) fun V9 => if hI (hN T n p) = 120 then (bd (f_X9_readNumber fu V9 (nI 29)) fun r15 V16 => if r15 = (-1) then (F_X9_readClause_80 fu V16 (hI (hN T n p)) (r15)) else (bd (f_X9_take fu V16 (nI 46)) fun r19 V20 => if r19 = 0 then (F_X9_readClause_80 fu V20 (hI (hN T n p)) (r15)) else (F_X9_readClause_81 fu V20 (hI (hN T n p)) (r15) (1)))) else (bd (f_X9_isOneOf fu V9 (1) (hI (hN T n p))) fun r12 V13 => if r12 = 0 then (F_X9_readClause_141 fu V13 (hI (hN T n p)) (nI 0) (nI 0)) else (if hI (hN T n p) = 100 then (F_X9_readClause_137 fu V13 (hI (hN T n p)) (nI 0) (nI 100)) else (F_X9_readClause_137 fu V13 (hI (hN T n p)) (nI 0) (nI 99999))))) else (bd (f_X9_fail fu V (nI 4)) fun r11 V12 => gd (r11 = 0 ∨ r11 = 1) <| some (r11, V12))) := by
    rw [f_X9_readClause, hh, bd_some, hio, bd_some, e6, e1, nI_1]
    rfl
  rw [hun]
  unfold spCl
  by_cases hL : hN T n p = 98 ∨ hN T n p = 109 ∨ hN T n p = 112 ∨ hN T n p = 99 ∨ hN T n p = 103 ∨ hN T n p = 100 ∨ hN T n p = 120
  · rw [if_neg (show ¬ (if hN T n p = 98 ∨ hN T n p = 109 ∨ hN T n p = 112 ∨ hN T n p = 99 ∨ hN T n p = 103 ∨ hN T n p = 100 ∨ hN T n p = 120 then (1 : Int32) else 0) = 0 by rw [if_pos hL]; decide), if_pos hL]
    have hpn : p < n := (hN_lt ht.1).mp (by omega)
    by_cases hk12 : k = 12
    · rw [if_pos hk12, if_neg (show ¬ nI k < nI 12 from nI_nlt (by omega) (by omega)), fail_C e1, bd_some, gd_t (.inl rfl)]
      exact ⟨fun f hf => ⟨_, rfl, (Fr.refl _ V).set (by decide), by rw [setV_at, if_pos ⟨rfl, rfl⟩]; exact Sum.inl.inj hf⟩, fun a d hf => (by cases hf)⟩
    · rw [if_neg hk12, if_pos (show nI k < nI 12 from nI_lt (by omega) (by omega)), bv_eq]
      have hk' : k < 12 := by omega
      have hF1 : Fr clw V (setV V 1910 0 0 (nI (p + 1))) := (Fr.refl _ V).set (by decide)
      have ht1 := ht.fr hF1 (by decide)
      have e11 : setV V 1910 0 0 (nI (p + 1)) 1910 0 0 = nI (p + 1) := by rw [setV_at, if_pos ⟨rfl, rfl⟩]
      have e71 : setV V 1910 0 0 (nI (p + 1)) 1907 0 0 = nI s := by rw [setV_fn (by decide)]; exact e7
      have e61 : setV V 1910 0 0 (nI (p + 1)) 1906 0 0 = nI k := by rw [setV_fn (by decide)]; exact e6
      have ag1 : agV V (setV V 1910 0 0 (nI (p + 1))) 0 s := fun k _ _ => by rw [setV_fn (by decide)]
      have hhi : hI (hN T n p) = nI (hN T n p) := by unfold hI; rw [if_pos (by omega)]
      by_cases hX : hN T n p = 120
      · rw [if_pos hX, if_pos (show hI (hN T n p) = 120 by rw [hI_120 hle]; exact hX)]
        have no80 : ∀ U x, F_X9_readClause_80 fu U (hI (hN T n p)) x = some (0, U) := fun U x => by
          rw [F_X9_readClause_80, F_X9_readClause_81, if_pos rfl, F_X9_readClause_98, if_pos rfl, F_X9_readClause_109, F_X9_readClause_179, if_pos rfl, F_X9_readClause_237, gd_t (.inl rfl)]
        obtain ⟨r1, r2⟩ := num_C (fu := fu) (most := 29) hfu (by omega) ht1 (by omega) e11
        cases hr : spNum (hN T n) 29 (p + 1) with
        | inl f0 =>
          obtain ⟨V', q1, q2, q3⟩ := r1 f0 hr
          refine ⟨fun f hf => ⟨V', ?_, hF1.trans (Fr.weak q2 (by decide)), by rw [q3]; exact Sum.inl.inj hf⟩, fun a d hf => (by cases hf)⟩
          rw [q1, bd_some, if_pos rfl, no80]
        | inr w =>
          obtain ⟨a, v⟩ := w
          obtain ⟨V1, q1, q2, q3⟩ := r2 a v hr
          obtain ⟨s1, s2, s3, s4, s5⟩ := spNum_adv ht.1 hr
          have hvn : ¬ nI v = -1 := fun z => by
            have q := nI_pos (n := v) (by omega)
            rw [z] at q; exact q (by decide)
          have hF2 : Fr clw V V1 := hF1.trans (Fr.weak q2 (by decide))
          have htk := take_C (fu := fu) (c := 46) (ht.fr hF2 (by decide)) s2 (by omega) q3
          rw [q1, bd_some, if_neg hvn, htk]
          simp only []
          by_cases hc : hN T n a = 46
          · rw [if_pos hc, if_pos hc, bd_some, if_neg (by decide), F_X9_readClause_81, if_neg (by decide)]
            have han : a < n := (hN_lt ht.1).mp (by omega)
            have hF3 : Fr clw V (setV V1 1910 0 0 (nI (a + 1))) := hF2.set (by decide)
            obtain ⟨t1, t2⟩ := num_C (fu := fu) (most := 11) (p := a + 1) hfu (by omega) (ht.fr hF3 (by decide)) (by omega) (by rw [setV_at, if_pos ⟨rfl, rfl⟩])
            cases hr2 : spNum (hN T n) 11 (a + 1) with
            | inl f0 =>
              obtain ⟨V', z1, z2, z3⟩ := t1 f0 hr2
              refine ⟨fun f hf => ⟨V', ?_, hF3.trans (Fr.weak z2 (by decide)), by rw [z3]; exact Sum.inl.inj hf⟩, fun a d hf => (by cases hf)⟩
              rw [show f_X9_readNumber fu (setV V1 1910 0 0 (nI (a + 1))) 11 = _ from z1, bd_some, F_X9_readClause_98, if_pos rfl, F_X9_readClause_109, F_X9_readClause_179, if_pos rfl, F_X9_readClause_237, gd_t (.inl rfl)]
            | inr w =>
              obtain ⟨b, v2⟩ := w
              obtain ⟨V2, z1, z2, z3⟩ := t2 b v2 hr2
              obtain ⟨u1, u2, u3, u4, u5⟩ := spNum_adv ht.1 hr2
              have hvn2 : ¬ nI v2 = -1 := fun z => by
                have q := nI_pos (n := v2) (by omega)
                rw [z] at q; exact q (by decide)
              have hF4 : Fr clw V V2 := hF3.trans (Fr.weak z2 (by decide))
              have hpre : ∀ v', v' ∈ [1901, 1902, 1903, 1904, 1905, 1906, 1907] → V2 v' = V v' := fun v' hv' => by
                rw [z2 v' (by revert v'; decide), setV_fn (by rintro rfl; revert hv'; decide), q2 v' (by revert v'; decide), setV_fn (by rintro rfl; revert hv'; decide)]
              obtain ⟨V', y1, y2, y3, y4, y5, y6, y7, y8⟩ := fin_C (fu := fu) (k := k) (s := s) (V := V2) (x1 := hI (hN T n p)) (x2 := nI v) (x3 := nI v2) hk' (by rw [hpre 1906 (by decide)]; exact e6) (by rw [hpre 1907 (by decide)]; exact e7)
              refine ⟨fun f hf => (by cases hf), fun a' cl hf => ?_⟩
              have := Sum.inr.inj hf
              simp only [Prod.mk.injEq] at this
              obtain ⟨rfl, rfl⟩ := this
              refine ⟨V', s, ?_, hF4.trans (Fr.weak y2 (by decide)), by rw [y2 1910 (by decide)]; exact z3, y3, by rw [y2 1907 (by decide), hpre 1907 (by decide)]; exact e7, hk', by omega, agR.trans (fun i _ => by rw [hpre 1901 (by decide), hpre 1902 (by decide), hpre 1903 (by decide), hpre 1904 (by decide)]; exact ⟨rfl, rfl, rfl, rfl⟩) y8, fun k' _ _ => by rw [y2 1905 (by decide), hpre 1905 (by decide)], ⟨by rw [y4, hhi, hX], y5, y6, y7, Nat.le_refl s, fun d hd => (by cases hd), fun _ => rfl⟩⟩
              rw [show f_X9_readNumber fu (setV V1 1910 0 0 (nI (a + 1))) 11 = _ from z1, bd_some, F_X9_readClause_98, if_neg hvn2, F_X9_readClause_109]
              exact y1
          · rw [if_neg hc, if_neg hc, bd_some, if_pos rfl, no80]
            exact ⟨fun f hf => ⟨_, rfl, hF2.set (by decide), by rw [setV_at, if_pos ⟨rfl, rfl⟩]; exact Sum.inl.inj hf⟩, fun a d hf => (by cases hf)⟩
      · rw [if_neg hX, if_neg (show ¬ hI (hN T n p) = 120 by rw [hI_120 hle]; exact hX)]
        have hio2 := io_eq (fu := fu) (V := setV V 1910 0 0 (nI (p + 1))) (k := 1) (by decide) (ioB (hN T n p) (by omega))
        rw [hio2, bd_some]
        -- what follows a number
        have rest : ∀ (a v : Nat) (V1 : St), v ≤ 99999 → p < a → a ≤ n → V1 1910 0 0 = nI a → Fr [1910] (setV V 1910 0 0 (nI (p + 1))) V1 → (∀ f, (match spCd (hN T n) a with
            | .inl f => .inl f
            | .inr (b, d) => .inr (b, (hN T n p, v, 0, some d)) : Sum Int32 (Nat × Cls)) = .inl f → ∃ V', F_X9_readClause_141 fu V1 (hI (hN T n p)) (nI v) (nI 0) = some (0, V') ∧ Fr clw V V' ∧ V' 1911 0 0 = f) ∧ (∀ a' cl, (match spCd (hN T n) a with
            | .inl f => .inl f
            | .inr (b, d) => .inr (b, (hN T n p, v, 0, some d)) : Sum Int32 (Nat × Cls)) = .inr (a', cl) → ∃ V' e, F_X9_readClause_141 fu V1 (hI (hN T n p)) (nI v) (nI 0) = some (1, V') ∧ Fr clw V V' ∧ V' 1910 0 0 = nI a' ∧ V' 1906 0 0 = nI (k + 1) ∧ V' 1907 0 0 = nI e ∧ k < 12 ∧ e ≤ a' ∧ agR V V' k ∧ agV V V' 0 s ∧ rowC V' k s e cl) := fun a v V1 hv h1 h2 h3 hF => by
          have hF2 : Fr clw V V1 := hF1.trans (Fr.weak hF (by decide))
          obtain ⟨i1, i2⟩ := cond_C (fu := fu) (x1 := hI (hN T n p)) (x3 := nI 0) (v := v) hfu hv (ht.fr hF2 (by decide)) h3 (by rw [hF 1907 (by decide)]; exact e71) (by rw [hF 1906 (by decide)]; exact e61) hk' (by omega) h2
          have hpre : ∀ v', v' ∈ [1901, 1902, 1903, 1904, 1905] → V1 v' = V v' := fun v' hv' => by
            rw [hF v' (by revert v'; decide), setV_fn (by rintro rfl; revert hv'; decide)]
          cases hr : spCd (hN T n) a with
          | inl f0 =>
            obtain ⟨V', q1, q2, q3⟩ := i1 f0 hr
            exact ⟨fun f hf => ⟨V', q1, hF2.trans q2, by rw [q3]; exact Sum.inl.inj hf⟩, fun a d hf => (by cases hf)⟩
          | inr w =>
            obtain ⟨b, d⟩ := w
            obtain ⟨V', e, q1, q2, q3, q4, q5, q6, q7, q8, q9, q10, q11, q12, q13, q14⟩ := i2 b d hr
            refine ⟨fun f hf => (by cases hf), fun a' cl hf => ?_⟩
            have := Sum.inr.inj hf
            simp only [Prod.mk.injEq] at this
            obtain ⟨rfl, rfl⟩ := this
            exact ⟨V', e, q1, hF2.trans q2, q3, q4, q5, hk', by omega, agR.trans (fun i _ => by rw [hpre 1901 (by decide), hpre 1902 (by decide), hpre 1903 (by decide), hpre 1904 (by decide)]; exact ⟨rfl, rfl, rfl, rfl⟩) q8, fun k' k1 k2 => by rw [q9 k' k1 k2, hpre 1905 (by decide)], ⟨by rw [q10, hhi], q11, q12, q13, by omega, fun d' hd => by rw [← Option.some.inj hd]; exact q14, fun hd => (by cases hd)⟩⟩
        by_cases hB : hN T n p = 98 ∨ hN T n p = 109
        · rw [if_pos (show (if hN T n p = 112 ∨ hN T n p = 99 ∨ hN T n p = 103 ∨ hN T n p = 100 then (1 : Int32) else 0) = 0 by rw [if_neg (by omega)])]
          have hno : spNo (hN T n) p = .inr (p + 1, 0) := by unfold spNo; rw [if_pos hB]
          rw [hno]
          exact rest (p + 1) 0 _ (by omega) (by omega) (by omega) e11 (Fr.refl _ _)
        · rw [if_neg (show ¬ (if hN T n p = 112 ∨ hN T n p = 99 ∨ hN T n p = 103 ∨ hN T n p = 100 then (1 : Int32) else 0) = 0 by rw [if_pos (by omega)]; decide)]
          have hno : spNo (hN T n) p = spNum (hN T n) (if hN T n p = 100 then 100 else 99999) (p + 1) := by unfold spNo; rw [if_neg hB]
          have h137 : (if hI (hN T n p) = 100 then (F_X9_readClause_137 fu (setV V 1910 0 0 (nI (p + 1))) (hI (hN T n p)) (nI 0) (nI 100)) else (F_X9_readClause_137 fu (setV V 1910 0 0 (nI (p + 1))) (hI (hN T n p)) (nI 0) (nI 99999))) = bd (f_X9_readNumber fu (setV V 1910 0 0 (nI (p + 1))) (nI (if hN T n p = 100 then 100 else 99999))) fun r1 V2 => F_X9_readClause_141 fu V2 (hI (hN T n p)) r1 (nI 0) := by
            by_cases z : hN T n p = 100
            · rw [if_pos (show hI (hN T n p) = 100 by rw [hI_100 hle]; exact z), if_pos z, F_X9_readClause_137]
            · rw [if_neg (show ¬ hI (hN T n p) = 100 by rw [hI_100 hle]; exact z), if_neg z, F_X9_readClause_137]
          rw [h137, hno]
          obtain ⟨r1, r2⟩ := num_C (fu := fu) (most := if hN T n p = 100 then 100 else 99999) hfu (by split <;> omega) ht1 (by omega) e11
          cases hr : spNum (hN T n) (if hN T n p = 100 then 100 else 99999) (p + 1) with
          | inl f0 =>
            obtain ⟨V', q1, q2, q3⟩ := r1 f0 hr
            refine ⟨fun f hf => ⟨V', ?_, hF1.trans (Fr.weak q2 (by decide)), by rw [q3]; exact Sum.inl.inj hf⟩, fun a d hf => (by cases hf)⟩
            rw [q1, bd_some, F_X9_readClause_141, if_pos rfl, F_X9_readClause_176, F_X9_readClause_177, F_X9_readClause_179, if_pos rfl, F_X9_readClause_237, gd_t (.inl rfl)]
          | inr w =>
            obtain ⟨a, v⟩ := w
            obtain ⟨V1, q1, q2, q3⟩ := r2 a v hr
            obtain ⟨s1, s2, s3, s4, s5⟩ := spNum_adv ht.1 hr
            rw [q1, bd_some]
            exact rest a v V1 s3 (by omega) s2 q3 q2
  · rw [if_pos (show (if hN T n p = 98 ∨ hN T n p = 109 ∨ hN T n p = 112 ∨ hN T n p = 99 ∨ hN T n p = 103 ∨ hN T n p = 100 ∨ hN T n p = 120 then (1 : Int32) else 0) = 0 by rw [if_neg hL]), if_neg hL, fail_C e1, bd_some, gd_t (.inl rfl)]
    exact ⟨fun f hf => ⟨_, rfl, (Fr.refl _ V).set (by decide), by rw [setV_at, if_pos ⟨rfl, rfl⟩]; exact Sum.inl.inj hf⟩, fun a d hf => (by cases hf)⟩
/-! texts -/
def rowsC (V : St) : Nat → Nat → List Cls → Nat → Prop
  | _, s, [], eF => s = eF
  | k, s, cl :: L, eF => ∃ e, rowC V k s e cl ∧ e ≤ eF ∧ clOK cl ∧ rowsC V (k + 1) e L eF
theorem text_C {fu n : Nat} {T : Nat → Int32} (hfu : 1000 ≤ fu) : ∀ (j N p k s : Nat) (V : St), n - p < N → TxC V T n → V 1910 0 0 = nI p → V 1907 0 0 = nI s → V 1906 0 0 = nI k → k ≤ 12 → s ≤ p → p ≤ n → (∀ f, txL (hN T n) n j p k = .inl f → n - p < j → ∃ V', Lp_X9_read_37 (F_X9_read_50 fu) (F_X9_read_66 fu) (F_X9_read_77 fu) (F_X9_read_88 fu) fu N V (nI k) = some (f, V') ∧ Fr clw V V') ∧ (∀ L, txL (hN T n) n j p k = .inr L → ∃ V' e, Lp_X9_read_37 (F_X9_read_50 fu) (F_X9_read_66 fu) (F_X9_read_77 fu) (F_X9_read_88 fu) fu N V (nI k) = some (0, V') ∧ Fr clw V V' ∧ V' 1906 0 0 = nI (k + L.length) ∧ V' 1907 0 0 = nI e ∧ k + L.length ≤ 12 ∧ s ≤ e ∧ e ≤ n ∧ agR V V' k ∧ agV V V' 0 s ∧ rowsC V' k s L e) := by
  intro j
  induction j with
  | zero =>
    intro N p k s V _ _ _ _ _ _ _ _
    exact ⟨fun f _ h => by omega, fun L h => (by rw [txL] at h; cases h)⟩
  | succ j ih =>
    intro N p k s V hN' ht e1 e7 e6 hk hs hp
    have hn := ht.1.1
    obtain ⟨N, rfl⟩ : ∃ N2, N = N2 + 1 := ⟨N - 1, by omega⟩
    obtain ⟨r1, r2⟩ := clause_C (fu := fu) hfu ht e1 e7 e6 hk hs hp
    have h12 : ¬ (12 : Int32) < nI k := nI_nlt (b := k) (a := 12) hk (by omega)
    rw [txL]
    cases hr : spCl (hN T n) p k with
    | inl f0 =>
      obtain ⟨V', q1, q2, q3⟩ := r1 f0 hr
      refine ⟨fun f hf _ => ⟨V', ?_, q2⟩, fun L hf => (by cases hf)⟩
      rw [Lp_X9_read_37, F_X9_read_37, if_neg h12, q1, bd_some, if_pos rfl, F_X9_read_50, q3, Sum.inl.inj hf]
    | inr w =>
      obtain ⟨a, cl⟩ := w
      obtain ⟨V1, e, q1, q2, q3, q4, q5, q6, q7, q8, q9, q10⟩ := r2 a cl hr
      obtain ⟨s1, s2⟩ := spCl_adv ht.1 hp hr
      have hok := spCl_ok ht.1 hp hr
      have ht1 := ht.fr q2 (by decide)
      have hun : Lp_X9_read_37 (F_X9_read_50 fu) (F_X9_read_66 fu) (F_X9_read_77 fu) (F_X9_read_88 fu) fu (N + 1) V (nI k) = if nI a < nI n then (bd (f_X9_take fu V1 (nI 59)) fun r7 V8 => if r7 = 0 then (F_X9_read_77 fu V8) else (Lp_X9_read_37 (F_X9_read_50 fu) (F_X9_read_66 fu) (F_X9_read_77 fu) (F_X9_read_88 fu) fu N V8 (nI (k + 1)))) else (F_X9_read_66 fu V1) := by
        rw [Lp_X9_read_37, F_X9_read_37, if_neg h12, q1, bd_some, if_neg (by decide), q3, ht1.2.2.1, nI_1]
        rfl
      rw [hun]
      simp only []
      by_cases ha : a < n
      · rw [if_pos ha, if_pos (nI_lt ha (by omega))]
        have htk := take_C (fu := fu) (c := 59) ht1 s2 (by omega) q3
        rw [htk]
        by_cases hc : hN T n a = 59
        · rw [if_pos hc, if_pos hc, bd_some, if_neg (by decide)]
          have hF2 : Fr clw V (setV V1 1910 0 0 (nI (a + 1))) := q2.set (by decide)
          obtain ⟨i1, i2⟩ := ih N (a + 1) (k + 1) e (setV V1 1910 0 0 (nI (a + 1))) (by omega) (ht.fr hF2 (by decide)) (by rw [setV_at, if_pos ⟨rfl, rfl⟩]) (by rw [setV_fn (by decide)]; exact q5) (by rw [setV_fn (by decide)]; exact q4) (by omega) (by omega) (by omega)
          cases hr2 : txL (hN T n) n j (a + 1) (k + 1) with
          | inl f0 =>
            refine ⟨fun f hf hj => ?_, fun L hf => (by cases hf)⟩
            obtain ⟨V', z1, z2⟩ := i1 f0 hr2 (by omega)
            exact ⟨V', by rw [z1, Sum.inl.inj hf], hF2.trans z2⟩
          | inr L0 =>
            obtain ⟨V', e', z1, z2, z3, z4, z5, z6, z7, z8, z9, z10⟩ := i2 L0 hr2
            refine ⟨fun f hf _ => (by cases hf), fun L hf => ?_⟩
            have hL : cl :: L0 = L := Sum.inr.inj hf
            subst hL
            refine ⟨V', e', z1, hF2.trans z2, by rw [z3, List.length_cons]; congr 1; omega, z4, by rw [List.length_cons]; omega, by have := q10.2.2.2.2.1; omega, z7, fun i hi => ?_, fun k' k1 k2 => ?_, e, q10.cg ?_ (fun k' k1 k2 => ?_), z6, hok, z10⟩
            · obtain ⟨y1, y2, y3, y4⟩ := z8 i (by omega)
              obtain ⟨x1, x2, x3, x4⟩ := q8 i hi
              rw [y1, y2, y3, y4, setV_fn (by decide), setV_fn (by decide), setV_fn (by decide), setV_fn (by decide)]
              exact ⟨x1, x2, x3, x4⟩
            · have := q10.2.2.2.2.1
              rw [z9 k' k1 (by omega), setV_fn (by decide)]; exact q9 k' k1 k2
            · obtain ⟨y1, y2, y3, y4⟩ := z8 k (by omega)
              rw [y1, y2, y3, y4, setV_fn (by decide), setV_fn (by decide), setV_fn (by decide), setV_fn (by decide)]
              exact ⟨rfl, rfl, rfl, rfl⟩
            · rw [z9 k' (by omega) k2, setV_fn (by decide)]
        · rw [if_neg hc, if_neg hc, bd_some, if_pos rfl, F_X9_read_77, setV_at, if_pos ⟨rfl, rfl⟩]
          exact ⟨fun f hf _ => ⟨_, by rw [Sum.inl.inj hf], q2.set (by decide)⟩, fun L hf => (by cases hf)⟩
      · rw [if_neg ha, if_neg (nI_nlt (by omega) (by omega)), F_X9_read_66]
        refine ⟨fun f hf _ => (by cases hf), fun L hf => ?_⟩
        have hL : [cl] = L := Sum.inr.inj hf
        subst hL
        exact ⟨V1, e, rfl, q2, q4, q5, by show k + 1 ≤ 12; omega, q10.2.2.2.2.1, by omega, q8, q9, e, q10, Nat.le_refl e, hok, rfl⟩
