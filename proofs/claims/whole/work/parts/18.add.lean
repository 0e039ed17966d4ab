/-! ArrayList.add -/
/-- what an add of q as the k-th gives -/
def Added (E : EN) (M : MH) (a : Nat) (mc : Int32) (d k : Nat) (f : Nat → Option Nat) (q : Nat) (M' : MH) : Prop := ∃ (row cap : Nat) (f' : Nat → Option Nat), M' a = some (lo mc row (nI (k + 1))) ∧ M' row = some (oarr E cap f') ∧ k + 1 ≤ cap ∧ cap ≤ 2000 ∧ (∀ j, j < k → f' j = f j) ∧ f' k = some q ∧ row ≠ a ∧ ((row = d ∧ 1 ≤ k) ∨ M row = none) ∧ ∀ x, x ≠ a → x ≠ row → M' x = M x
theorem nI_sc (k : Nat) : nI k + 1 = nI (k + 1) := by
  rw [show (1 : Int32) = nI 1 by decide, nI_add]
theorem C_gro {E : EN} {M : MH} {a : Nat} {mc : Int32} {d k cap : Nat} {f : Nat → Option Nat} (l : Launch) (hM : M a = some (lo mc d (nI k))) (h : (d = eT E 2 ∧ k = 0) ∨ (M d = some (oarr E cap f) ∧ k = cap ∧ 1 ≤ k ∧ Elem M k f)) (hk : k ≤ 1000) : Ct E l yJx4a65c_grow_d5877 cJx4a65c_grow_d5877 1 (some (.array (.object "java/lang/Object"))) (rmA 5 1 2000) [.ref a] M (fun v M' => ∃ q N, v = some (.ref q) ∧ M q = none ∧ M' a = some (lo mc q (nI k)) ∧ k + 1 ≤ N ∧ N ≤ 2000 ∧ (∃ f', M' q = some (oarr E N f') ∧ ∀ j, j < k → f' j = f j) ∧ ∀ x, x ≠ q → x ≠ a → M' x = M x) :=
  Ct.of (own := RJx4a65c) (ini := false) (L := [some (.ref a)]) rfl rfl (fun h => by cases h) rfl (Nat.le_of_ble_eq_true rfl) rfl (fun X _ => by
    refine r_aload_n DJx4a65c_grow_d5877_0 rfl ?_
    refine r_aload_n DJx4a65c_grow_d5877_1 rfl ?_
    refine r_get DJx4a65c_grow_d5877_2 fl_Jx4a65c_48 hM rfl ?_
    refine r_iconst (v := 1) DJx4a65c_grow_d5877_5 ki_1 ?_
    refine r_iadd DJx4a65c_grow_d5877_6 ?_
    rw [nI_sc]
    rcases h with ⟨rfl, rfl⟩ | ⟨h1, rfl, h3, h4⟩
    · refine r_callV (As := [.int (nI (0 + 1))]) (rest := []) DJx4a65c_grow_d5877_7 cv_Jx4a65c_69 hM rfl (C_growF (cxL X) hM) rfl (fitA (by decide) (by decide) (by decide) (by decide)) rfl (Nat.le_of_ble_eq_true rfl) ?_
      rintro v M' ⟨q, rfl, q1, q2, q3, ⟨f', q4⟩, q5⟩
      exact r_aret (v := .ref q) DJx4a65c_grow_d5877_10 rfl (Or.inr ⟨_, rfl⟩) (Or.inr ⟨_, rfl⟩) ⟨Nat.le_refl 1, Nat.le_refl 2000⟩ ⟨q, 10, rfl, q1, q3, by omega, by omega, ⟨f', q4, fun j hj => absurd hj (Nat.not_lt_zero j)⟩, q5⟩
    · refine r_callV (As := [.int (nI (k + 1))]) (rest := []) DJx4a65c_grow_d5877_7 cv_Jx4a65c_69 hM rfl (C_growN (cxL X) hM h1 h3 hk h4) rfl (fitA (by decide) (by decide) (by decide) (by decide)) rfl (Nat.le_of_ble_eq_true rfl) ?_
      rintro v M' ⟨q, N, rfl, q1, q2, q3, q4, q5, q6, q7⟩
      exact r_aret (v := .ref q) DJx4a65c_grow_d5877_10 rfl (Or.inr ⟨_, rfl⟩) (Or.inr ⟨_, rfl⟩) ⟨Nat.le_refl 1, Nat.le_refl 2000⟩ ⟨q, N, rfl, q1, q3, q4, q5, q6, q7⟩)
theorem G_addT {E : EN} {X : CX} {P : Option Value → MH → Prop} {M : MH} {a q row cap k kc ks ci : Nat} {mc n : Int32} {f : Nat → Option Nat} {fs : List Value} {r : vw_C} (hM : M a = some (lo mc row n)) (hr : M row = some (oarr E cap f)) (hq : M q = some (.inr (ci, fs))) (hc : classes[ci]? = some r) (hk : k < cap) (hcap : cap ≤ 2000) (hkc : kc ≤ 1 ∧ ks ≤ 2000)
    (hP : ∀ M' : MH, M' a = some (lo mc row (nI (k + 1))) → M' row = some (oarr E cap (va_up f k (some q))) → (∀ x, x ≠ a → x ≠ row → M' x = M x) → P none M') : G E X RJx4a65c cJx4a65c_add_72be8 4 none false (rmA 6 1 2000) P M [some (.ref a), some (.ref q), some (.ref row), some (.int (nI k))] kc ks 11 [] := by
  have hra : row ≠ a := fun e => by rw [e, hM] at hr; cases hr
  have hz : (nI k).toNatClampNeg = k := nI_clamp (by omega)
  refine r_aload_n DJx4a65c_add_72be8_11 rfl ?_
  refine r_iload_n DJx4a65c_add_72be8_12 rfl ?_
  refine r_aload_n DJx4a65c_add_72be8_13 rfl ?_
  refine r_aast DJx4a65c_add_72be8_14 hr hq hc (fun z => ?_) ?_
  · rcases z with z | z
    · exact nI_pos (by omega) z
    · rw [hz] at z; omega
  · rw [hz]
    refine r_aload_n DJx4a65c_add_72be8_15 rfl ?_
    refine r_iload_n DJx4a65c_add_72be8_16 rfl ?_
    refine r_iconst (v := 1) DJx4a65c_add_72be8_17 ki_1 ?_
    refine r_iadd DJx4a65c_add_72be8_18 ?_
    rw [nI_sc]
    refine r_put DJx4a65c_add_72be8_19 fp_Jx4a65c_48 (fs := [.int mc, .ref row, .int n]) (by rw [mset_ne _ _ (Ne.symm hra)]; exact hM) rfl rfl (Nat.le_of_ble_eq_true rfl) ?_
    exact r_vret DJx4a65c_add_72be8_22 rfl hkc (hP _ (mset_self _ _ _) (by rw [mset_ne _ _ hra]; exact mset_self _ _ _) (fun x h1 h2 => by rw [mset_ne _ _ h1, mset_ne _ _ h2]))
theorem up_self {f : Nat → Option Nat} {k : Nat} {v : Option Nat} : va_up f k v k = v := by simp [va_up]
theorem up_ne {f : Nat → Option Nat} {k j : Nat} {v : Option Nat} (h : j ≠ k) : va_up f k v j = f j := by simp [va_up, h]
theorem C_add3 {E : EN} {M : MH} {a q : Nat} {mc : Int32} {d k cap ci : Nat} {f : Nat → Option Nat} {fs : List Value} {r : vw_C} (l : Launch) (hM : M a = some (lo mc d (nI k))) (h : (d = eT E 2 ∧ k = 0) ∨ (M d = some (oarr E cap f) ∧ k ≤ cap ∧ cap ≤ 2000 ∧ 1 ≤ k ∧ Elem M k f)) (hk : k ≤ 1000) (hq : M q = some (.inr (ci, fs))) (hc : classes[ci]? = some r) : Ct E l yJx4a65c_add_72be8 cJx4a65c_add_72be8 4 none (rmA 6 1 2000) [.ref a, .ref q, .ref d, .int (nI k)] M (fun v M' => v = none ∧ Added E M a mc d k f q M') :=
  Ct.of (own := RJx4a65c) (ini := false) (L := [some (.ref a), some (.ref q), some (.ref d), some (.int (nI k))]) rfl rfl (fun h => by cases h) rfl (Nat.le_of_ble_eq_true rfl) rfl (fun X _ => by
    have grow : (k : Nat) → True := fun _ => trivial
    refine r_iload_n DJx4a65c_add_72be8_0 rfl ?_
    refine r_aload_n DJx4a65c_add_72be8_1 rfl ?_
    have go : ((d = eT E 2 ∧ k = 0) ∨ (M d = some (oarr E cap f) ∧ k = cap ∧ 1 ≤ k ∧ Elem M k f)) → G E X RJx4a65c cJx4a65c_add_72be8 4 none false (rmA 6 1 2000) (fun v M' => v = none ∧ Added E M a mc d k f q M') M [some (.ref a), some (.ref q), some (.ref d), some (.int (nI k))] 0 0 6 [] := by
      intro hg
      refine r_aload_n DJx4a65c_add_72be8_6 rfl ?_
      refine r_callV (As := []) (rest := []) DJx4a65c_add_72be8_7 cv_Jx4a65c_129 hM rfl (C_gro (cxL X) hM hg hk) rfl (fitA (by decide) (by decide) (by decide) (by decide)) rfl (Nat.le_of_ble_eq_true rfl) ?_
      rintro v M' ⟨row, N, rfl, q1, q2, q3, q4, ⟨f', q5, q6⟩, q7⟩
      have hqr : q ≠ row := fun e => by rw [e, q1] at hq; cases hq
      have hqa : q ≠ a ∨ q = a := (Nat.decEq q a).byCases Or.inr Or.inl
      have hra : row ≠ a := fun e => by rw [← e, q1] at hM; cases hM
      refine t_astore_n (w := .ref row) (L' := [some (.ref a), some (.ref q), some (.ref row), some (.int (nI k))]) (st := []) (Or.inr ⟨_, rfl⟩) DJx4a65c_add_72be8_10 (by decide) rfl ?_
      have hq2 : ∃ (ci' : Nat) (fs' : List Value) (r' : vw_C), M' q = some (.inr (ci', fs')) ∧ classes[ci']? = some r' := by
        rcases hqa with e | e
        · exact ⟨ci, fs, r, by rw [q7 q hqr e]; exact hq, hc⟩
        · rw [e, q2]; exact ⟨13, _, _, rfl, rfl⟩
      obtain ⟨ci', fs', r', hq2, hc2⟩ := hq2
      refine G_addT q2 q5 hq2 hc2 (by omega) q4 ⟨Nat.le_refl 1, Nat.le_refl 2000⟩ (fun M2 z1 z2 z3 => ⟨rfl, row, N, _, z1, z2, q3, q4, fun j hj => ?_, up_self, hra, Or.inr q1, fun x x1 x2 => ?_⟩)
      · rw [up_ne (by omega)]; exact q6 j hj
      · rw [z3 x x1 x2]; exact q7 x x2 x1
    rcases h with ⟨h1, h2⟩ | ⟨h1, h2, h3, h4, h5⟩
    · have e := h1
      subst h1
      refine r_dlen DJx4a65c_add_72be8_2 ?_
      refine r_icmp_ne DJx4a65c_add_72be8_3 (fun c => absurd (by rw [h2]; decide) c) (fun _ => ?_)
      exact go (Or.inl ⟨rfl, h2⟩)
    · refine r_alen (t := 3) (v := nI cap) DJx4a65c_add_72be8_2 h1 rfl rfl ?_
      refine r_icmp_ne DJx4a65c_add_72be8_3 (fun c => ?_) (fun c => ?_)
      · have hlt : k < cap := by
          rcases Nat.lt_or_ge k cap with z | z
          · exact z
          · exact absurd (by rw [Nat.le_antisymm h2 z]) c
        have hra : d ≠ a := fun e => by rw [e, hM] at h1; cases h1
        refine G_addT hM h1 hq hc hlt h3 ⟨Nat.zero_le _, Nat.zero_le _⟩ (fun M2 z1 z2 z3 => ⟨rfl, d, cap, _, z1, z2, hlt, h3, fun j hj => up_ne (by omega), up_self, hra, Or.inl ⟨rfl, h4⟩, z3⟩)
      · have hkc : k = cap := by
          have := congrArg Int32.toNatClampNeg c
          rwa [nI_clamp (by omega), nI_clamp (by omega)] at this
        exact go (Or.inr ⟨h1, hkc, h4, h5⟩))
theorem C_add {E : EN} {M : MH} {a q : Nat} {mc : Int32} {d k cap ci : Nat} {f : Nat → Option Nat} {fs : List Value} {r : vw_C} (l : Launch) (hM : M a = some (lo mc d (nI k))) (h : (d = eT E 2 ∧ k = 0) ∨ (M d = some (oarr E cap f) ∧ k ≤ cap ∧ cap ≤ 2000 ∧ 1 ≤ k ∧ Elem M k f)) (hk : k ≤ 1000) (hq : M q = some (.inr (ci, fs))) (hc : classes[ci]? = some r) : Ct E l yJx4a65c_add_9ea2d cJx4a65c_add_9ea2d 2 (some .boolean) (rmA 7 1 2000) [.ref a, .ref q] M (fun v M' => v = some (.int 1) ∧ Added E M a (mc + 1) d k f q M') :=
  Ct.of (own := RJx4a65c) (ini := false) (L := [some (.ref a), some (.ref q)]) rfl rfl (fun h => by cases h) rfl (Nat.le_of_ble_eq_true rfl) rfl (fun X _ => by
    refine r_aload_n DJx4a65c_add_9ea2d_0 rfl ?_
    refine r_dup DJx4a65c_add_9ea2d_1 rfl ?_
    refine r_get DJx4a65c_add_9ea2d_2 fl_Jx4a65c_63 hM rfl ?_
    refine r_iconst (v := 1) DJx4a65c_add_9ea2d_5 ki_1 ?_
    refine r_iadd DJx4a65c_add_9ea2d_6 ?_
    refine r_put DJx4a65c_add_9ea2d_7 fp_Jx4a65c_63 hM rfl rfl (Nat.le_of_ble_eq_true rfl) ?_
    have hM1 : mset M a (.inr (13, [.int (mc + 1), .ref d, .int (nI k)])) a = some (lo (mc + 1) d (nI k)) := mset_self _ _ _
    refine r_aload_n DJx4a65c_add_9ea2d_10 rfl ?_
    refine r_aload_n DJx4a65c_add_9ea2d_11 rfl ?_
    refine r_aload_n DJx4a65c_add_9ea2d_12 rfl ?_
    refine r_get DJx4a65c_add_9ea2d_13 fl_Jx4a65c_9 hM1 rfl ?_
    refine r_aload_n DJx4a65c_add_9ea2d_16 rfl ?_
    refine r_get DJx4a65c_add_9ea2d_17 fl_Jx4a65c_48 hM1 rfl ?_
    have hob : ∀ y : Nat, (∃ (ci : Nat) (fs : List Value) (r : vw_C), M y = some (.inr (ci, fs)) ∧ classes[ci]? = some r) → ∃ (ci : Nat) (fs : List Value) (r : vw_C), mset M a (.inr (13, [.int (mc + 1), .ref d, .int (nI k)])) y = some (.inr (ci, fs)) ∧ classes[ci]? = some r := by
      rintro y ⟨ci, fs, r, z1, z2⟩
      by_cases e : y = a
      · rw [e]; exact ⟨13, _, _, mset_self _ _ _, rfl⟩
      · exact ⟨ci, fs, r, by rw [mset_ne _ _ e]; exact z1, z2⟩
    obtain ⟨ci', fs', r', hq', hc'⟩ := hob q ⟨ci, fs, r, hq, hc⟩
    have h' : (d = eT E 2 ∧ k = 0) ∨ (mset M a (.inr (13, [.int (mc + 1), .ref d, .int (nI k)])) d = some (oarr E cap f) ∧ k ≤ cap ∧ cap ≤ 2000 ∧ 1 ≤ k ∧ Elem (mset M a (.inr (13, [.int (mc + 1), .ref d, .int (nI k)]))) k f) := by
      rcases h with h | ⟨h1, h2, h3, h4, h5⟩
      · exact Or.inl h
      · have hda : d ≠ a := fun e => by rw [e, hM] at h1; cases h1
        exact Or.inr ⟨by rw [mset_ne _ _ hda]; exact h1, h2, h3, h4, fun i hi y hy => hob y (h5 i hi y hy)⟩
    refine r_callV (As := [.ref q, .ref d, .int (nI k)]) (rest := []) DJx4a65c_add_9ea2d_20 cv_Jx4a65c_131 hM1 rfl (C_add3 (cxL X) hM1 h' hk hq' hc') rfl (fitA (by decide) (by decide) (by decide) (by decide)) rfl (Nat.le_of_ble_eq_true rfl) ?_
    rintro v M' ⟨rfl, row, cap', f', z1, z2, z3, z4, z5, z6, z7, z8, z9⟩
    refine r_iconst (v := 1) (st := []) DJx4a65c_add_9ea2d_23 ki_1 ?_
    refine r_zret DJx4a65c_add_9ea2d_24 rfl rfl ⟨Nat.le_refl 1, Nat.le_refl 2000⟩ ⟨rfl, row, cap', f', z1, z2, z3, z4, z5, z6, z7, ?_, fun x x1 x2 => ?_⟩
    · rcases z8 with z | z
      · exact Or.inl z
      · exact Or.inr (by rw [mset_ne _ _ z7] at z; exact z)
    · rw [z9 x x1 x2, mset_ne _ _ x1])
