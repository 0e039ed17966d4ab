/-! ArrayList.<init>, add -/
abbrev lo (mc : Int32) (d : Nat) (n : Int32) : va_E := .inr (13, [.int mc, .ref d, .int n])
theorem C_acol {E : EN} {M : MH} {a : Nat} (l : Launch) : Ct E l yJxa1e45_init_da8c8 cJxa1e45_init_da8c8 1 none (rmD 1) [.ref a] M (fun v M' => v = none ∧ M' = M) :=
  Ct.of (own := RJxa1e45) (ini := false) (L := [some (.ref a)]) rfl rfl (fun h => by cases h) rfl (Nat.le_of_ble_eq_true rfl) rfl (fun X _ => by
    refine r_aload_n DJxa1e45_init_da8c8_0 rfl ?_
    refine r_obji DJxa1e45_init_da8c8_1 wd_145 (Nat.le_refl 1) (Nat.le_of_ble_eq_true rfl) ?_
    exact r_vret DJxa1e45_init_da8c8_4 rfl ⟨Nat.le_refl 0, Nat.le_refl 0⟩ ⟨rfl, rfl⟩)
theorem C_alst {E : EN} {M : MH} {a : Nat} {x0 x1 x2 : Value} (l : Launch) (hM : M a = some (.inr (13, [x0, x1, x2]))) : Ct E l yJxc12de_init_da8c8 cJxc12de_init_da8c8 1 none (rmD 2) [.ref a] M (fun v M' => v = none ∧ M' = mset M a (.inr (13, [.int 0, x1, x2]))) :=
  Ct.of (own := RJxc12de) (ini := false) (L := [some (.ref a)]) rfl rfl (fun h => by cases h) rfl (Nat.le_of_ble_eq_true rfl) rfl (fun X _ => by
    refine r_aload_n DJxc12de_init_da8c8_0 rfl ?_
    refine r_callI (As := []) (rest := []) DJxc12de_init_da8c8_1 ci_Jxc12de_1 (C_acol (cxL X)) rfl (fitD (by decide) (by decide)) rfl (Nat.le_of_ble_eq_true rfl) ?_
    rintro v M' ⟨rfl, rfl⟩
    refine r_aload_n (st := []) DJxc12de_init_da8c8_4 rfl ?_
    refine r_iconst (v := 0) DJxc12de_init_da8c8_5 ki_0 ?_
    refine r_put DJxc12de_init_da8c8_6 fp_Jxc12de_7 hM rfl rfl (Nat.le_of_ble_eq_true rfl) ?_
    exact r_vret DJxc12de_init_da8c8_9 rfl ⟨Nat.le_refl 0, Nat.le_refl 0⟩ ⟨rfl, rfl⟩)
theorem C_linit {E : EN} {M : MH} {a : Nat} {x0 x1 : Value} (l : Launch) (hM : M a = some (.inr (13, [x0, x1, .int 0]))) : Ct E l yJx4a65c_init_da8c8 cJx4a65c_init_da8c8 1 none (rmD 3) [.ref a] M (fun v M' => v = none ∧ M' a = some (lo 0 (eT E 2) 0) ∧ ∀ x, x ≠ a → M' x = M x) :=
  Ct.of (own := RJx4a65c) (ini := false) (L := [some (.ref a)]) rfl rfl (fun h => by cases h) rfl (Nat.le_of_ble_eq_true rfl) rfl (fun X _ => by
    refine r_aload_n DJx4a65c_init_da8c8_0 rfl ?_
    refine r_callI (As := []) (rest := []) DJx4a65c_init_da8c8_1 ci_Jx4a65c_1 (C_alst (cxL X) hM) rfl (fitD (by decide) (by decide)) rfl (Nat.le_of_ble_eq_true rfl) ?_
    rintro v M' ⟨rfl, rfl⟩
    refine r_aload_n (st := []) DJx4a65c_init_da8c8_4 rfl ?_
    refine r_getD DJx4a65c_init_da8c8_5 wd_146 ?_
    refine r_put DJx4a65c_init_da8c8_8 fp_Jx4a65c_9 (mset_self _ _ _) rfl rfl (Nat.le_of_ble_eq_true rfl) ?_
    refine r_vret DJx4a65c_init_da8c8_11 rfl ⟨Nat.le_refl 0, Nat.le_refl 0⟩ ⟨rfl, mset_self _ _ _, fun x hx => ?_⟩
    rw [mset_ne _ _ hx, mset_ne _ _ hx])
theorem C_newl {E : EN} {M : MH} {x y z : Int32} (l : Launch) (h1 : ¬ x + (if y < z then z else y) ≤ 0) (h2 : ¬ (2147483639 : Int32) < x + (if y < z then z else y)) : Ct E l yJ8_newLength_cabcc cJ8_newLength_cabcc 4 (some .int) (rmD 2) [.int x, .int y, .int z] M (fun v M' => v = some (.int (x + (if y < z then z else y))) ∧ M' = M) :=
  Ct.of (own := RJ8) (ini := false) (L := [some (.int x), some (.int y), some (.int z), none]) rfl rfl (fun h => by cases h) rfl (Nat.le_of_ble_eq_true rfl) rfl (fun X _ => by
    refine r_iload_n DJ8_newLength_cabcc_0 rfl ?_
    refine r_iload_n DJ8_newLength_cabcc_1 rfl ?_
    refine r_iload_n DJ8_newLength_cabcc_2 rfl ?_
    refine r_mmax DJ8_newLength_cabcc_3 wd_457 (by decide) (Nat.le_of_ble_eq_true rfl) ?_
    refine r_iadd DJ8_newLength_cabcc_6 ?_
    refine t_istore_n (L' := [some (.int x), some (.int y), some (.int z), some (.int (x + (if y < z then z else y)))]) DJ8_newLength_cabcc_7 (by decide) rfl ?_
    refine r_iconst (v := 0) DJ8_newLength_cabcc_8 ki_0 ?_
    refine r_iload_n DJ8_newLength_cabcc_9 rfl ?_
    refine r_icmp_ge DJ8_newLength_cabcc_10 (fun c => absurd c h1) (fun _ => ?_)
    refine r_iload_n DJ8_newLength_cabcc_13 rfl ?_
    refine r_ldc (v := 2147483639) DJ8_newLength_cabcc_14 ck_J8_200 ?_
    refine r_icmp_gt DJ8_newLength_cabcc_16 (fun c => absurd c h2) (fun _ => ?_)
    refine r_iload_n DJ8_newLength_cabcc_19 rfl ?_
    exact r_iret DJ8_newLength_cabcc_20 rfl ⟨Nat.le_refl 0, Nat.le_refl 0⟩ ⟨rfl, rfl⟩)
/-- what a growing gives: a new row q of N places that begins as the old one -/
def Grown (E : EN) (M : MH) (N k : Nat) (f : Nat → Option Nat) (q : Nat) (M' : MH) : Prop := M q = none ∧ E.1 ≤ q ∧ (∃ f' : Nat → Option Nat, M' q = some (oarr E N f') ∧ ∀ j, j < k → f' j = f j) ∧ ∀ x, x ≠ q → M' x = M x
def Elem (M : MH) (k : Nat) (f : Nat → Option Nat) : Prop := ∀ i : Nat, i < k → ∀ y : Nat, f i = some y → ∃ (ci : Nat) (fs : List Value) (r : vw_C), M y = some (.inr (ci, fs)) ∧ classes[ci]? = some r
theorem C_cp3 {E : EN} {M : MH} {d cap N : Nat} {f : Nat → Option Nat} (l : Launch) (hd : M d = some (oarr E cap f)) (hcN : cap ≤ N) (hN : N ≤ 2000) (hel : Elem M cap f) : Ct E l yJ7_copyOf_6403c cJ7_copyOf_6403c 4 (some (.array (.object "java/lang/Object"))) (rmA 2 1 2000) [.ref d, .int (nI N), .ref (eT E 3)] M (fun v M' => ∃ q, v = some (.ref q) ∧ Grown E M N cap f q M') :=
  Ct.of (own := RJ7) (ini := false) (L := [some (.ref d), some (.int (nI N)), some (.ref (eT E 3)), none]) rfl rfl (fun h => by cases h) rfl (Nat.le_of_ble_eq_true rfl) rfl (fun X _ => by
    refine r_aload_n DJ7_copyOf_6403c_0 rfl ?_
    refine r_ldcM DJ7_copyOf_6403c_1 wd_486 ?_
    refine r_acmp_ne (x := some (eT E 3)) (y := some (eT E 3)) (st := []) DJ7_copyOf_6403c_3 (fun c => absurd rfl c) (fun _ => ?_)
    refine r_iload_n DJ7_copyOf_6403c_6 rfl ?_
    refine r_anew (N := N) DJ7_copyOf_6403c_7 wd_488 (nI_pos (by omega)) (nI_clamp (by omega)) (by omega) ⟨Nat.le_refl 1, by show 0 + N ≤ 2000; omega⟩ (fun q hq hb => ?_)
    have hdq : d ≠ q := fun e => by rw [e, hq] at hd; cases hd
    have hd2 : mset M q (oarr E N (fun _ => none)) d = some (oarr E cap f) := by rw [mset_ne _ _ hdq]; exact hd
    refine r_goto DJ7_copyOf_6403c_10 ?_
    refine t_astore_n (L' := [some (.ref d), some (.int (nI N)), some (.ref (eT E 3)), some (.ref q)]) (Or.inr ⟨_, rfl⟩) DJ7_copyOf_6403c_24 (by decide) rfl ?_
    refine r_aload_n DJ7_copyOf_6403c_25 rfl ?_
    refine r_iconst (v := 0) DJ7_copyOf_6403c_26 ki_0 ?_
    refine r_aload_n DJ7_copyOf_6403c_27 rfl ?_
    refine r_iconst (v := 0) DJ7_copyOf_6403c_28 ki_0 ?_
    refine r_aload_n DJ7_copyOf_6403c_29 rfl ?_
    refine r_alen (t := 3) (v := nI cap) DJ7_copyOf_6403c_30 hd2 rfl rfl ?_
    refine r_iload_n DJ7_copyOf_6403c_31 rfl ?_
    refine r_mminA DJ7_copyOf_6403c_32 wd_489 (by decide) (Nat.le_of_ble_eq_true rfl) ⟨Nat.le_refl 1, by show 0 + N ≤ 2000; omega⟩ ?_
    rw [if_neg (nI_nlt hcN (by omega))]
    have hz : (nI cap).toNatClampNeg = cap := nI_clamp (by omega)
    refine r_copyq DJ7_copyOf_6403c_35 wd_490 hd2 (mset_self _ _ _) (by decide) (by decide) (nI_pos (by omega)) (by rw [hz]; show 0 + cap ≤ cap; omega) (by rw [hz]; show 0 + cap ≤ N; omega) (fun i hi y hy => ?_) (by show 1 ≤ 2; omega) (by show 0 + 111 ≤ 60 * 2; omega) ?_
    · rw [hz] at hi
      have hy2 : f i = some y := by rw [← hy]; show f i = f (0 + i); rw [Nat.zero_add]
      obtain ⟨ci, fs, r, q1, q2⟩ := hel i hi y hy2
      refine ⟨ci, fs, r, ?_, q2⟩
      rw [mset_ne _ _ (fun e => by rw [e, hq] at q1; cases q1)]
      exact q1
    · refine r_aload_n DJ7_copyOf_6403c_38 rfl ?_
      refine r_aret DJ7_copyOf_6403c_39 rfl (Or.inr ⟨_, rfl⟩) (Or.inr ⟨_, rfl⟩) ⟨Nat.le_refl 1, by show 0 + N ≤ 2000; omega⟩ ⟨q, rfl, hq, hb, ⟨_, mset_self _ _ _, fun j hj => ?_⟩, fun x hx => by rw [mset_ne _ _ hx, mset_ne _ _ hx]⟩
      rw [hz]
      show va_cpy f (fun _ => none) 0 0 cap j = f j
      rw [pk_cpy_in (Nat.zero_le j) (by omega), Nat.zero_add, Nat.sub_zero])
theorem C_cp2 {E : EN} {M : MH} {d cap N : Nat} {f : Nat → Option Nat} (l : Launch) (hd : M d = some (oarr E cap f)) (hcN : cap ≤ N) (hN : N ≤ 2000) (hel : Elem M cap f) : Ct E l yJ7_copyOf_1904c cJ7_copyOf_1904c 2 (some (.array (.object "java/lang/Object"))) (rmA 3 1 2000) [.ref d, .int (nI N)] M (fun v M' => ∃ q, v = some (.ref q) ∧ Grown E M N cap f q M') :=
  Ct.of (own := RJ7) (ini := false) (L := [some (.ref d), some (.int (nI N))]) rfl rfl (fun h => by cases h) rfl (Nat.le_of_ble_eq_true rfl) rfl (fun X _ => by
    refine r_aload_n DJ7_copyOf_1904c_0 rfl ?_
    refine r_iload_n DJ7_copyOf_1904c_1 rfl ?_
    refine r_aload_n DJ7_copyOf_1904c_2 rfl ?_
    refine r_getC DJ7_copyOf_1904c_3 wd_465 hd (by show 1 ≤ 3; omega) (by show 2 + 14 ≤ 60 * 3; omega) ?_
    refine r_callS (As := [.ref d, .int (nI N), .ref (eT E 3)]) (rest := []) DJ7_copyOf_1904c_6 cs_J7_300 (C_cp3 (cxL X) hd hcN hN hel) rfl (fitA (by decide) (by decide) (by decide) (by decide)) rfl (Nat.le_of_ble_eq_true rfl) ?_
    rintro v M' ⟨q, rfl, hg⟩
    exact r_aret (v := .ref q) DJ7_copyOf_1904c_9 rfl (Or.inr ⟨_, rfl⟩) (Or.inr ⟨_, rfl⟩) ⟨Nat.le_refl 1, Nat.le_refl 2000⟩ ⟨q, rfl, hg⟩)
theorem growN {cap : Nat} (h1 : 1 ≤ cap) (h2 : cap ≤ 1000) : ∃ N : Nat, cap + 1 ≤ N ∧ N ≤ 2000 ∧ nI cap + (if nI (cap + 1) - nI cap < nI cap >>> ((1 : Int32) &&& 31) then nI cap >>> ((1 : Int32) &&& 31) else nI (cap + 1) - nI cap) = nI N := by
  have e1 : nI (cap + 1) - nI cap = nI 1 := by rw [pk_sub (by omega)]; congr 1; omega
  have e2 : nI cap >>> ((1 : Int32) &&& 31) = nI (cap / 2) := by
    rw [show ((1 : Int32) &&& 31) = 1 by decide]
    have := pk_shrN (n := cap) (by omega) (1 : Int32) 1 (by decide)
    simpa using this
  rw [e1, e2]
  by_cases h : nI 1 < nI (cap / 2)
  · rw [if_pos h, nI_add]
    have h' := (nI_ltI (by omega) (by omega)).mp h
    exact ⟨cap + cap / 2, by omega, by omega, rfl⟩
  · rw [if_neg h, nI_add]
    exact ⟨cap + 1, by omega, by omega, rfl⟩
/-- grow(int), the row being full: k places, the first of all: ten -/
theorem C_growF {E : EN} {M : MH} {a : Nat} {mc : Int32} (l : Launch) (hM : M a = some (lo mc (eT E 2) 0)) : Ct E l yJx4a65c_grow_92f84 cJx4a65c_grow_92f84 4 (some (.array (.object "java/lang/Object"))) (rmA 4 1 2000) [.ref a, .int 1] M (fun v M' => ∃ q, v = some (.ref q) ∧ M q = none ∧ E.1 ≤ q ∧ M' a = some (lo mc q 0) ∧ (∃ f', M' q = some (oarr E 10 f')) ∧ ∀ x, x ≠ q → x ≠ a → M' x = M x) :=
  Ct.of (own := RJx4a65c) (ini := false) (L := [some (.ref a), some (.int 1), none, none]) rfl rfl (fun h => by cases h) rfl (Nat.le_of_ble_eq_true rfl) rfl (fun X _ => by
    refine r_aload_n DJx4a65c_grow_92f84_0 rfl ?_
    refine r_get DJx4a65c_grow_92f84_1 fl_Jx4a65c_9 hM rfl ?_
    refine r_dlen DJx4a65c_grow_92f84_4 ?_
    refine t_istore_n (L' := [some (.ref a), some (.int 1), some (.int 0), none]) DJx4a65c_grow_92f84_5 (by decide) rfl ?_
    refine r_iload_n DJx4a65c_grow_92f84_6 rfl ?_
    refine r_if_gt DJx4a65c_grow_92f84_7 (fun c => absurd c (by decide)) (fun _ => ?_)
    refine r_aload_n DJx4a65c_grow_92f84_10 rfl ?_
    refine r_get DJx4a65c_grow_92f84_11 fl_Jx4a65c_9 hM rfl ?_
    refine r_getD DJx4a65c_grow_92f84_14 wd_146 ?_
    refine r_acmp_eq (x := some (eT E 2)) (y := some (eT E 2)) (st := []) DJx4a65c_grow_92f84_17 (fun _ => ?_) (fun c => absurd rfl c)
    refine r_aload_n DJx4a65c_grow_92f84_45 rfl ?_
    refine r_bipush (v := 10) DJx4a65c_grow_92f84_46 (by decide) ?_
    refine r_iload_n DJx4a65c_grow_92f84_48 rfl ?_
    refine r_mmaxA DJx4a65c_grow_92f84_49 wd_493 (by decide) (Nat.le_of_ble_eq_true rfl) ⟨by decide, by decide⟩ ?_
    rw [show (if (10 : Int32) < 1 then (1 : Int32) else 10) = 10 by decide]
    refine r_anew (N := 10) DJx4a65c_grow_92f84_52 wd_494 (by decide) (by decide) (by decide) ⟨Nat.le_refl 1, by show 0 + 10 ≤ 2000; omega⟩ (fun q hq hb => ?_)
    have haq : a ≠ q := fun e => by rw [e, hq] at hM; cases hM
    refine r_dup_x1 DJx4a65c_grow_92f84_55 rfl rfl ?_
    refine r_put DJx4a65c_grow_92f84_56 fp_Jx4a65c_9 (fs := [.int mc, .ref (eT E 2), .int 0]) (by rw [mset_ne _ _ haq]; exact hM) rfl rfl (Nat.le_of_ble_eq_true rfl) ?_
    exact r_aret DJx4a65c_grow_92f84_59 rfl (Or.inr ⟨_, rfl⟩) (Or.inr ⟨_, rfl⟩) ⟨Nat.le_refl 1, by show 0 + 10 ≤ 2000; omega⟩ ⟨q, rfl, hq, hb, mset_self _ _ _, ⟨_, by rw [mset_ne _ _ (Ne.symm haq)]; exact mset_self _ _ _⟩, fun x h1 h2 => by rw [mset_ne _ _ h2, mset_ne _ _ h1]⟩)
theorem C_growN {E : EN} {M : MH} {a d cap : Nat} {mc n : Int32} {f : Nat → Option Nat} (l : Launch) (hM : M a = some (lo mc d n)) (hd : M d = some (oarr E cap f)) (h1 : 1 ≤ cap) (h2 : cap ≤ 1000) (hel : Elem M cap f) : Ct E l yJx4a65c_grow_92f84 cJx4a65c_grow_92f84 4 (some (.array (.object "java/lang/Object"))) (rmA 4 1 2000) [.ref a, .int (nI (cap + 1))] M (fun v M' => ∃ q N, v = some (.ref q) ∧ M q = none ∧ E.1 ≤ q ∧ M' a = some (lo mc q n) ∧ cap + 1 ≤ N ∧ N ≤ 2000 ∧ (∃ f', M' q = some (oarr E N f') ∧ ∀ j, j < cap → f' j = f j) ∧ ∀ x, x ≠ q → x ≠ a → M' x = M x) :=
  Ct.of (own := RJx4a65c) (ini := false) (L := [some (.ref a), some (.int (nI (cap + 1))), none, none]) rfl rfl (fun h => by cases h) rfl (Nat.le_of_ble_eq_true rfl) rfl (fun X _ => by
    obtain ⟨N, g1, g2, g3⟩ := growN h1 h2
    refine r_aload_n DJx4a65c_grow_92f84_0 rfl ?_
    refine r_get DJx4a65c_grow_92f84_1 fl_Jx4a65c_9 hM rfl ?_
    refine r_alen (t := 3) (v := nI cap) DJx4a65c_grow_92f84_4 hd rfl rfl ?_
    refine t_istore_n (L' := [some (.ref a), some (.int (nI (cap + 1))), some (.int (nI cap)), none]) DJx4a65c_grow_92f84_5 (by decide) rfl ?_
    refine r_iload_n DJx4a65c_grow_92f84_6 rfl ?_
    refine r_if_gt DJx4a65c_grow_92f84_7 (fun _ => ?_) (fun c => absurd (show (0 : Int32) < nI cap from nI_0 ▸ nI_lt (by omega) (by omega)) c)
    refine r_iload_n DJx4a65c_grow_92f84_20 rfl ?_
    refine r_iload_n DJx4a65c_grow_92f84_21 rfl ?_
    refine r_iload_n DJx4a65c_grow_92f84_22 rfl ?_
    refine r_isub DJx4a65c_grow_92f84_23 ?_
    refine r_iload_n DJx4a65c_grow_92f84_24 rfl ?_
    refine r_iconst (v := 1) DJx4a65c_grow_92f84_25 ki_1 ?_
    refine r_ishr DJx4a65c_grow_92f84_26 ?_
    refine r_callS (As := [.int (nI cap), .int (nI (cap + 1) - nI cap), .int (nI cap >>> ((1 : Int32) &&& 31))]) (rest := []) DJx4a65c_grow_92f84_27 cs_Jx4a65c_73 (C_newl (cxL X) (by rw [g3]; exact nI_nle (by omega) (by omega)) (by rw [g3]; exact (fun c => absurd c (show ¬ (2147483639 : Int32) < nI N from (by rw [show (2147483639 : Int32) = nI 2147483639 by decide]; exact nI_nlt (by omega) (by omega)))))) rfl (fitDA (by decide) (by decide) (by decide) (by decide)) rfl (Nat.le_of_ble_eq_true rfl) ?_
    rintro v M' ⟨rfl, rfl⟩
    rw [g3]
    refine t_istore_n (v := nI N) (st := []) (L' := [some (.ref a), some (.int (nI (cap + 1))), some (.int (nI cap)), some (.int (nI N))]) DJx4a65c_grow_92f84_30 (by decide) rfl ?_
    refine r_aload_n DJx4a65c_grow_92f84_31 rfl ?_
    refine r_aload_n DJx4a65c_grow_92f84_32 rfl ?_
    refine r_get DJx4a65c_grow_92f84_33 fl_Jx4a65c_9 hM rfl ?_
    refine r_iload_n DJx4a65c_grow_92f84_36 rfl ?_
    refine r_callS (As := [.ref d, .int (nI N)]) (rest := [.ref a]) DJx4a65c_grow_92f84_37 cs_Jx4a65c_66 (C_cp2 (cxL X) hd (by omega) g2 hel) rfl (fitA (by decide) (by decide) (by decide) (by decide)) rfl (Nat.le_of_ble_eq_true rfl) ?_
    rintro v M' ⟨q, rfl, hq, hb, ⟨f', hf1, hf2⟩, hfr⟩
    have haq : a ≠ q := fun e => by rw [e, hq] at hM; cases hM
    refine r_dup_x1 (v := .ref q) (w := .ref a) (st := []) DJx4a65c_grow_92f84_40 rfl rfl ?_
    refine r_put DJx4a65c_grow_92f84_41 fp_Jx4a65c_9 (fs := [.int mc, .ref d, .int n]) (by rw [hfr a haq]; exact hM) rfl rfl (Nat.le_of_ble_eq_true rfl) ?_
    exact r_aret DJx4a65c_grow_92f84_44 rfl (Or.inr ⟨_, rfl⟩) (Or.inr ⟨_, rfl⟩) ⟨Nat.le_refl 1, Nat.le_refl 2000⟩ ⟨q, N, rfl, hq, hb, mset_self _ _ _, g1, g2, ⟨f', by rw [mset_ne _ _ (Ne.symm haq)]; exact hf1, hf2⟩, fun x x1 x2 => by rw [mset_ne _ _ x2]; exact hfr x x1⟩)
