/-! the reference's search, whole, and its way back -/
theorem sN_pos {f : Nat → Nat} {v : Nat} (h : 1 ≤ f v) : ∀ n, v < n → 1 ≤ sN f n := by
  intro n
  induction n with
  | zero => intro z; omega
  | succ n ih =>
    intro z
    unfold sN
    by_cases y : v = n
    · subst y; omega
    · have := ih (by omega); omega
theorem cnt8_pos {cm : Nat → Int32} {v : Nat} (hv : v < 8) (h : ¬ cm v = -1) : 1 ≤ cnt8 cm :=
  sN_pos (v := v) (by show 1 ≤ (if cm v = -1 then 0 else 1); rw [if_neg h]; exact Nat.le_refl 1) 8 hv
theorem sN_lt2 {f g : Nat → Nat} {u : Nat} (h : ∀ q, f q ≤ g q) (hu : f u < g u) : ∀ n, sN f n ≤ sN g n ∧ (u < n → sN f n < sN g n) := by
  intro n
  induction n with
  | zero => exact ⟨Nat.le_refl _, fun z => by omega⟩
  | succ n ih =>
    have := h n
    refine ⟨by unfold sN; omega, fun z => ?_⟩
    unfold sN
    by_cases y : u = n
    · subst y; omega
    · have := ih.2 (by omega); omega
theorem rank_norm (rk : Nat → Nat) : ∃ rk' : Nat → Nat, (∀ v, rk' v ≤ 8) ∧ ∀ u v, u < 8 → rk u < rk v → rk' u < rk' v := by
  refine ⟨fun v => sN (fun u => if rk u < rk v then 1 else 0) 8, fun v => ?_, fun u v hu hr => ?_⟩
  · have : ∀ n, sN (fun u => if rk u < rk v then 1 else 0) n ≤ n := by
      intro n
      induction n with
      | zero => exact Nat.le_refl 0
      | succ n ih => unfold sN; split <;> omega
    exact this 8
  · refine (sN_lt2 (u := u) (fun q => ?_) ?_ 8).2 hu
    · show (if rk q < rk u then 1 else 0) ≤ (if rk q < rk v then 1 else 0)
      by_cases z : rk q < rk u
      · rw [if_pos z, if_pos (by omega)]; exact Nat.le_refl _
      · rw [if_neg z]; exact Nat.zero_le _
    · show (if rk u < rk u then 1 else 0) < (if rk u < rk v then 1 else 0)
      rw [if_neg (by omega), if_pos hr]; omega
theorem lq_search {fu d j s src : Nat} {V : St} {A B c : Nat → Nat} {fl : Nat → Int} (hfu : 1000 ≤ fu) (hsrc : src < 8) (h : RfD V d j s A B c fl) : ∃ W cm, f_X12_moreFlow fu V (nI d) (nI src) = F_X12_moreFlow_211 fu W (nI d) (nI src) ∧ Fr [2229] V W ∧ W 2229 0 = cm ∧ SIv s A B (fun k => tbo (c k)) fl src cm ∧ (¬ cm 0 = -1 ∨ Clo s A B (fun k => tbo (c k)) fl cm) := by
  obtain ⟨W1, a1, a2, a3⟩ := lq_clear (fu := fu) (x1 := nI d) (x2 := nI src) (kx := F_X12_moreFlow_21 fu) 8 fu 0 V (by omega) (by omega)
  have hF : Fr [2229] V (setV W1 2229 0 src 8) := a2.set (by decide)
  have e2 : setV W1 2229 0 src 8 2229 0 src = 8 := by rw [setV_at]; simp
  have hI : SIv s A B (fun k => tbo (c k)) fl src (setV W1 2229 0 src 8 2229 0) := by
    refine ⟨e2, fun _ => 0, fun v hv hvs hne => absurd ?_ hne⟩
    rw [setV_at, if_neg (by simp [hvs]), a3 v hv, if_pos (by omega)]
  obtain ⟨W, cm, b1, b2⟩ := lq_rounds (xs := nI src) hfu h 8 fu 0 _ _ (by omega) (by omega) hF rfl hI (.inl (cnt8_pos hsrc (by rw [e2]; decide)))
  refine ⟨W, cm, ?_, b2⟩
  rw [← b1]
  rw [nI_0] at a1 ⊢
  rw [f_X12_moreFlow, a1]
  simp (disch := omega) only [F_X12_moreFlow_21, bd_some, n10, n00, bv_eq, within_eq, in_eq, gd_T, gd_t, i00, i10, c_0, c_1, c_m1, ite10, ite01, setV_fn, setV_at, cntS, nI_pos, nI_clamp, nI_leI, nI_ltI, nI_eq, nI_1, if_true, if_false, not_true, not_false, and_self, and_true, true_and, false_and, and_false, or_false, false_or, or_true, true_or, not_false_eq_true, ite_self, ite_true, ite_false, reduceIte, Nat.reduceEqDiff, Nat.reduceMul, Nat.reduceAdd, Nat.reduceLT, Nat.reducePow, ne_eq]
/-- a way back from a joint, with room for m on every stick -/
def Way (s : Nat) (A B : Nat → Nat) (cap fl : Nat → Int) (src : Nat) (cm : Nat → Int32) (rk : Nat → Nat) (m : Int) : Nat → Nat → Prop
  | 0, v => v = src
  | n + 1, v => v = src ∨ (v ≠ src ∧ ∃ k, k < s ∧ cm v = nI k ∧ ((B k = v ∧ rk (A k) < rk v ∧ m ≤ cap k - fl k ∧ Way s A B cap fl src cm rk m n (A k)) ∨ (A k = v ∧ rk (B k) < rk v ∧ m ≤ cap k + fl k ∧ Way s A B cap fl src cm rk m n (B k))))
theorem Way.mono {s : Nat} {A B : Nat → Nat} {cap fl : Nat → Int} {src : Nat} {cm : Nat → Int32} {rk : Nat → Nat} {m m' : Int} (hm : m' ≤ m) : ∀ n v, Way s A B cap fl src cm rk m n v → Way s A B cap fl src cm rk m' n v := by
  intro n
  induction n with
  | zero => intro v h; exact h
  | succ n ih =>
    intro v h
    rcases h with h | ⟨h0, k, h1, h2, ⟨h3, h4, h5, h6⟩ | ⟨h3, h4, h5, h6⟩⟩
    · exact .inl h
    · exact .inr ⟨h0, k, h1, h2, .inl ⟨h3, h4, by omega, ih _ h6⟩⟩
    · exact .inr ⟨h0, k, h1, h2, .inr ⟨h3, h4, by omega, ih _ h6⟩⟩
/-- a stick behind is not on the rest of the way -/
theorem Way.upd {s : Nat} {A B : Nat → Nat} {cap fl fl' : Nat → Int} {src k v : Nat} {cm : Nat → Int32} {rk : Nat → Nat} {m : Int} (hs : s ≤ 8) (hk : k < s) (hcv : cm v = nI k) (hv : (B k = v ∧ rk (A k) < rk v) ∨ (A k = v ∧ rk (B k) < rk v)) (he : ∀ e, e < s → e ≠ k → fl' e = fl e) : ∀ n w, rk w < rk v → Way s A B cap fl src cm rk m n w → Way s A B cap fl' src cm rk m n w := by
  intro n
  induction n with
  | zero => intro w _ h; exact h
  | succ n ih =>
    intro w hr h
    rcases h with h | ⟨h0, q, h1, h2, h3⟩
    · exact .inl h
    · have hq : q ≠ k := by
        intro z; subst z
        rcases h3 with ⟨h3, h4, -⟩ | ⟨h3, h4, -⟩ <;> rcases hv with ⟨g1, g2⟩ | ⟨g1, g2⟩
        · rw [← h3, g1] at hr; omega
        · rw [g1] at h4; omega
        · rw [g1] at h4; omega
        · rw [← h3, g1] at hr; omega
      have e := he q h1 hq
      rcases h3 with ⟨h3, h4, h5, h6⟩ | ⟨h3, h4, h5, h6⟩
      · exact .inr ⟨h0, q, h1, h2, .inl ⟨h3, h4, by rw [e]; exact h5, ih _ (by omega) h6⟩⟩
      · exact .inr ⟨h0, q, h1, h2, .inr ⟨h3, h4, by rw [e]; exact h5, ih _ (by omega) h6⟩⟩
