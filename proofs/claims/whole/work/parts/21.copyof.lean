/-! Arrays.copyOf of ints -/
section CP
variable {E : EN} {X : CX} {own : String} {cc : ByteArray} {nl : Nat} {ret : Option FieldType} {ini : Bool} {rm : Room} {P : Option Value → MH → Prop} {M : MH} {L : List (Option Value)} {kc ks pc pc' : Nat} {st : List Value} {idx a n : Nat} {f : Nat → Int32}
theorem Cok.fI {own : String} {cc : ByteArray} {nl : Nat} {ret : Option FieldType} {ini : Bool} (C : Cok E X own cc nl ret ini) : (cxS X).vm.findClass "[I" = some (eI E) := (C.kk.1.2 0 (eI E, .int) rfl).2
theorem r_clone (hd : Dk cc pc (.invokevirtual idx) 3 pc') (hw : Cond.methodLink own idx ⟨"[I", "clone", "()Ljava/lang/Object;"⟩ ∈ lw_ok) (hM : M a = some (.inl (eI E, n, .inl f))) (hF : 1 ≤ rm.frames) (hl0 : (st.map fun v => v.category).sum + 14 ≤ rm.locals) (hr : kc + 1 ≤ rm.cells ∧ ks + n ≤ rm.slots) (K : ∀ q : Nat, M q = none → E.1 ≤ q → G E X own cc nl ret ini rm P (mset M q (.inl (eI E, n, .inl f))) L (kc + 1) (ks + n) pc' (.ref q :: st)) : G E X own cc nl ret ini rm P M L kc ks pc (.ref a :: st) := by
  intro C H locs ls ws hP hD hV hS hl
  obtain ⟨hd, rfl⟩ := hd
  obtain ⟨j, hj⟩ := hV a _ hM
  refine va_clone C.1 C.2.1 (C.2.2.1.trans hl.1.symm) C.2.2.2.1 (C.2.2.2.2.1 _ hw) (C.2.2.2.2.1 _ wd_984) (C.2.2.2.2.1 _ wd_985) (C.2.2.2.2.1 _ wd_986) (C.2.2.2.2.1 _ wd_987) C.kk.2.2.2.2.2 C.kk.1 hP hD hS C.hA j 0 hj rfl C.fI (va_fit (fun _ _ => rfl)) hF hl0 hr.1 hr.2 hd (fun q H1 hK1 hP1 hD1 hS1 => ?_)
  exact K q (hV.fresh hD1) (hD1.2 ws.length (q, .inl (eI E, n, .inl f)) (by simp)) C H1 locs ls _ hP1 hD1 hV.push hS1 hl
theorem r_castI (hd : Dk cc pc (.checkcast idx) 3 pc') (hw : Cond.classLink own idx "[I" ∈ lw_ok) (hM : M a = some (.inl (eI E, n, .inl f))) (K : G E X own cc nl ret ini rm P M L kc ks pc' (.ref a :: st)) : G E X own cc nl ret ini rm P M L kc ks pc (.ref a :: st) := by
  intro C H locs ls ws hP hD hV hS hl
  obtain ⟨hd, rfl⟩ := hd
  obtain ⟨j, hj⟩ := hV a _ hM
  exact va_castA C.1 C.2.1 C.2.2.2.1 (C.2.2.2.2.1 _ hw) hP j hj C.fI hd (K C H locs ls ws hP hD hV hS hl)
end CP
abbrev iarr (E : EN) (n : Nat) (f : Nat → Int32) : va_E := .inl (eI E, n, .inl f)
theorem cpR_at {f : Nat → Int32} {n k j : Nat} (h : j < k) : cpR f n k j = f j := by
  unfold cpR
  by_cases e : k = n
  · rw [if_pos e]
  · rw [if_neg e]
    unfold va_cpy
    rw [if_pos ⟨Nat.zero_le j, by omega⟩, Nat.zero_add, Nat.sub_zero]
theorem C_cpI {E : EN} {M : MH} {a n k : Nat} {x : Int32} {f : Nat → Int32} (l : Launch) (hM : M a = some (iarr E n f)) (hx : ¬ x < 0) (hk : x.toNatClampNeg = k) (hkn : k ≤ n) (hn : n ≤ 200) : Ct E l yJ7_copyOf_59c91 cJ7_copyOf_59c91 3 (some (.array .int)) (rmA 2 1 200) [.ref a, .int x] M (fun v M' => ∃ q, v = some (.ref q) ∧ M q = none ∧ M' = mset M q (iarr E k (cpR f n k))) :=
  Ct.of (own := RJ7) (ini := false) (L := [some (.ref a), some (.int x), none]) rfl rfl (fun h => by cases h) rfl (Nat.le_of_ble_eq_true rfl) rfl (fun X _ => by
    have ex : x = nI k := by
      apply Int32.toInt_inj.mp
      rw [nn_toInt hx, nn_toInt (nI_pos (by omega)), hk, nI_clamp (by omega)]
    refine r_iload_n DJ7_copyOf_59c91_0 rfl ?_
    refine r_aload_n DJ7_copyOf_59c91_1 rfl ?_
    refine r_alen (t := 0) (v := nI n) DJ7_copyOf_59c91_2 hM rfl rfl ?_
    refine r_icmp_ne DJ7_copyOf_59c91_3 (fun c => ?_) (fun c => ?_)
    · have hne : k ≠ n := fun e => c (by rw [ex, e])
      refine r_iload_n DJ7_copyOf_59c91_14 rfl ?_
      refine r_newaI (N := k) DJ7_copyOf_59c91_15 hx hk (by omega) ⟨Nat.le_refl 1, by show 0 + k ≤ 200; omega⟩ (fun q hq hb => ?_)
      have haq : a ≠ q := fun e => by rw [e, hq] at hM; cases hM
      have hM2 : mset M q (.inl (eI E, k, .inl (fun _ => 0))) a = some (iarr E n f) := by rw [mset_ne _ _ haq]; exact hM
      refine t_astore_n (L' := [some (.ref a), some (.int x), some (.ref q)]) (Or.inr ⟨_, rfl⟩) DJ7_copyOf_59c91_17 (by decide) rfl ?_
      refine r_aload_n DJ7_copyOf_59c91_18 rfl ?_
      refine r_iconst (v := 0) DJ7_copyOf_59c91_19 ki_0 ?_
      refine r_aload_n DJ7_copyOf_59c91_20 rfl ?_
      refine r_iconst (v := 0) DJ7_copyOf_59c91_21 ki_0 ?_
      refine r_aload_n DJ7_copyOf_59c91_22 rfl ?_
      refine r_alen (t := 0) (v := nI n) DJ7_copyOf_59c91_23 hM2 rfl rfl ?_
      refine r_iload_n DJ7_copyOf_59c91_24 rfl ?_
      refine r_mminA DJ7_copyOf_59c91_25 wd_489 (by decide) (Nat.le_of_ble_eq_true rfl) ⟨Nat.le_refl 1, by show 0 + k ≤ 200; omega⟩ ?_
      rw [ex, if_pos (nI_lt (by omega) (by omega))]
      have hz : (nI k).toNatClampNeg = k := nI_clamp (by omega)
      refine r_copyi DJ7_copyOf_59c91_28 wd_490 hM2 (mset_self _ _ _) (by decide) (by decide) (nI_pos (by omega)) (by rw [hz]; show 0 + k ≤ n; omega) (by rw [hz]; show 0 + k ≤ k; omega) (by show 1 ≤ 2; omega) (by show 0 + 111 ≤ 60 * 2; omega) ?_
      refine r_aload_n DJ7_copyOf_59c91_31 rfl ?_
      refine r_aret DJ7_copyOf_59c91_32 rfl (Or.inr ⟨_, rfl⟩) (Or.inr ⟨_, rfl⟩) ⟨Nat.le_refl 1, by show 0 + k ≤ 200; omega⟩ ⟨q, rfl, hq, ?_⟩
      funext y
      by_cases e : y = q
      · rw [e, mset_self, mset_self, hz]
        unfold cpR
        rw [if_neg hne]
        rfl
      · rw [mset_ne _ _ e, mset_ne _ _ e, mset_ne _ _ e]
    · have hkn2 : k = n := by
        have := congrArg Int32.toNatClampNeg c
        rwa [hk, nI_clamp (by omega)] at this
      refine r_aload_n DJ7_copyOf_59c91_6 rfl ?_
      refine r_clone DJ7_copyOf_59c91_7 wd_983 hM (by show 1 ≤ 2; omega) (by show 0 + 14 ≤ 60 * 2; omega) ⟨Nat.le_refl 1, by show 0 + n ≤ 200; omega⟩ (fun q hq hb => ?_)
      refine r_castI DJ7_copyOf_59c91_10 wd_989 (mset_self _ _ _) ?_
      refine r_aret DJ7_copyOf_59c91_13 rfl (Or.inr ⟨_, rfl⟩) (Or.inr ⟨_, rfl⟩) ⟨Nat.le_refl 1, by show 0 + n ≤ 200; omega⟩ ⟨q, rfl, hq, ?_⟩
      unfold cpR
      rw [if_pos hkn2, hkn2])
