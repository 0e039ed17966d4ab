theorem sB_len : ∀ i, i < 7 → (sB i).length = strLen.getD i 0 := by decide +kernel
theorem sB_byte : ∀ i, i < 7 → (sB i).all (fun b => decide (b.toNatClampNeg < 128 ∧ b = nI b.toNatClampNeg)) = true := by decide +kernel
section STR
variable {E : EN} {X : CX} {own : String} {cc : ByteArray} {nl : Nat} {ret : Option FieldType} {ini : Bool} {rm : Room} {P : Option Value → MH → Prop} {M : MH} {L : List (Option Value)} {kc ks pc pc' d d' : Nat} {st : List Value} {idx i : Nat}
theorem r_ldcS {tx : String} (hd : Dk cc pc (.ldc idx) 2 pc') (hs : strRef[i]? = some (own, idx, tx)) (K : G E X own cc nl ret ini rm P M L kc ks pc' (.ref (eK E i) :: st)) : G E X own cc nl ret ini rm P M L kc ks pc st := by
  intro C H locs ls ws hP hD hV hS hl
  obtain ⟨hd, rfl⟩ := hd
  exact va_ldcS C.1 C.2.1 C.2.2.2.1 (C.2.2.2.2.2.2.2.2.2.2.2.2.2.2.2.2.2.2.1 i _ hs) hd (K C H locs ls ws hP hD hV hS hl)
theorem r_sval (hi : i < 7) (hd : Dk cc pc (.getfield idx) 3 pc') (hw : Cond.fieldLink own idx "java/lang/String" "value" "[B" ∈ lw_ok) (K : G E X own cc nl ret ini rm P M L kc ks pc' (.ref (eV E i) :: st)) : G E X own cc nl ret ini rm P M L kc ks pc (.ref (eK E i) :: st) := by
  intro C H locs ls ws hP hD hV hS hl
  obtain ⟨hd, rfl⟩ := hd
  exact vk_getf C.1 C.2.1 (C.2.2.2.2.2.2.2.2.2.2.2.2.2.2.2.2.2.1.1 i hi).2.2.1 hS C.2.2.2.1 (C.2.2.2.2.1 _ hw) (fun _ h => h) hd (K C H locs ls ws hP hD hV hS hl)
theorem r_scod (hi : i < 7) (hd : Dk cc pc (.getfield idx) 3 pc') (hw : Cond.fieldLink own idx "java/lang/String" "coder" "B" ∈ lw_ok) (K : G E X own cc nl ret ini rm P M L kc ks pc' (.int 0 :: st)) : G E X own cc nl ret ini rm P M L kc ks pc (.ref (eK E i) :: st) := by
  intro C H locs ls ws hP hD hV hS hl
  obtain ⟨hd, rfl⟩ := hd
  exact vk_getf C.1 C.2.1 (C.2.2.2.2.2.2.2.2.2.2.2.2.2.2.2.2.2.1.1 i hi).2.1 hS C.2.2.2.1 (C.2.2.2.2.1 _ hw) (fun _ h => h) hd (K C H locs ls ws hP hD hV hS hl)
theorem r_slen (hi : i < 7) (hd : Dk cc pc .arraylength 1 pc') (K : G E X own cc nl ret ini rm P M L kc ks pc' (.int (nI (strLen.getD i 0)) :: st)) : G E X own cc nl ret ini rm P M L kc ks pc (.ref (eV E i) :: st) := by
  intro C H locs ls ws hP hD hV hS hl
  obtain ⟨hd, rfl⟩ := hd
  exact va_tlen C.1 C.2.1 (C.2.2.2.2.2.2.2.2.2.2.2.2.2.2.2.2.2.1.1 i hi).2.2.2 hS rfl hd (K C H locs ls ws hP hD hV hS hl)
theorem r_sbald {x : Int32} (hi : i < 7) (hd : Dk cc pc .baload 1 pc') (hin : vp_in x (strLen.getD i 0)) (K : G E X own cc nl ret ini rm P M L kc ks pc' (.int (sAt i x) :: st)) : G E X own cc nl ret ini rm P M L kc ks pc (.int x :: .ref (eV E i) :: st) := by
  intro C H locs ls ws hP hD hV hS hl
  obtain ⟨hd, rfl⟩ := hd
  exact va_tb C.1 C.2.1 (C.2.2.2.2.2.2.2.2.2.2.2.2.2.2.2.2.2.1.1 i hi).2.2.2 hS hin rfl hd (K C H locs ls ws hP hD hV hS hl)
theorem r_comp (hd : Dk cc pc (.getstatic idx) 3 pc') (hw : Cond.fieldLink own idx "java/lang/String" "COMPACT_STRINGS" "Z" ∈ lw_ok) (K : G E X own cc nl ret ini rm P M L kc ks pc' (.int 1 :: st)) : G E X own cc nl ret ini rm P M L kc ks pc st := r_gets hd hw (fun g => g.2.2.2.2.2.2.1) K
theorem r_sioo (hd : Dk cc pc (.getstatic idx) 3 pc') (hw : Cond.fieldLink own idx "jdk/internal/util/Preconditions" "SIOOBE_FORMATTER" "Ljava/util/function/BiFunction;" ∈ lw_ok) (K : ∀ v : Value, (v = .null ∨ ∃ a, v = .ref a) → G E X own cc nl ret ini rm P M L kc ks pc' (v :: st)) : G E X own cc nl ret ini rm P M L kc ks pc st := by
  intro C
  rcases C.2.2.2.2.2.2.2.2.2.2.2.2.2.2.2.2.2.2.2.2 with h | ⟨t, h⟩
  · exact r_gets hd hw (fun _ => h) (K _ (Or.inl rfl)) C
  · exact r_gets hd hw (fun _ => h) (K _ (Or.inr ⟨t, rfl⟩)) C
variable {n : Nat} {y : MethodName} {cc' : ByteArray} {nl' : Nat} {ret' : Option FieldType} {rm' : Room} {P' : Option Value → MH → Prop} {As rest : List Value}
theorem r_callStr (hi : i < 7) (hd : Dk cc pc (.invokevirtual idx) 3 pc') (hw : CVW own idx "java/lang/String" y cc' nl' ret' n) (hC : Ct E (cxL X) y cc' nl' ret' rm' (.ref (eK E i) :: As) M P') (hn : As.length = n) (hR : fitR rm' nl' rm kc ks) (hs : st = As.reverse ++ .ref (eK E i) :: rest) (hr : (rest.map fun v => v.category).sum ≤ 8)
    (K : ∀ (v : Option Value) (M' : MH), P' v M' → G E X own cc nl ret ini rm P M' L (kc + rm'.cells) (ks + rm'.slots) pc' (v.toList ++ rest)) : G E X own cc nl ret ini rm P M L kc ks pc st := by
  intro C H locs ls ws hP hD hV hS hl
  obtain ⟨hd, rfl⟩ := hd
  obtain ⟨w1, w2, w3, w4, w5, w6, w7⟩ := hw
  have hts := C.2.2.2.2.1
  have cw : CallW rm (cxS X) X.2.2.2.2.2.1 own "java/lang/String" idx y cc' nl' ret' (.code y cc' nl' ret' :: lw_ok) rm' rm'.cells rm'.slots n :=
    ⟨⟨rfl, rfl, hR.1, hR.2.1, ok_words hts w5, List.mem_cons_self, hts _ w5, hts _ w4, w6, par_len w7, hts _ w1⟩, hts _ w2, hts _ w3⟩
  subst hs
  refine call_go (va_runV (As := As) (rest := rest) (g := F0 X.2.2.2.2.1 pc ls (As.reverse ++ .ref (eK E i) :: rest)) ⟨C.1, C.2.1, C.2.2.1, C.2.2.2.1, hts⟩ hC cw ⟨Wd.blind, vk_recv C.2.2.2.2.2.2.2.2.2.2.2.2.2.2.2.2.2.1 hi hS, fun U hU hW => ⟨rfl, Wd.at C hP hD hV hS hU hW⟩⟩ rfl hn hl.1 rfl (lv_room (m := X.2.2.2.2.1) (pc := pc) (ls := ls) (rest := []) hr) hd ⟨hR.2.2.1, hR.2.2.2⟩) hS ?_
  intro v M' H1 locs1 ws1 hp hP1 hD1 hV1 hS1
  exact K v M' hp C H1 locs1 ls ws1 hP1 hD1 hV1 hS1 hl
end STR
theorem C_cane {E : EN} {M : MH} {x : Int32} (l : Launch) : Ct E l yJ1_canEncode_9a6ad cJ1_canEncode_9a6ad 1 (some .boolean) (rmD 1) [.int x] M (fun v M' => v = some (.int (if 0 ≤ x ∧ x ≤ 255 then 1 else 0)) ∧ M' = M) :=
  Ct.of (own := RJ1) (ini := false) (L := [some (.int x)]) rfl rfl (fun h => by cases h) rfl (Nat.le_of_ble_eq_true rfl) rfl (fun X _ => by
    have key : ∀ (b : Int32) (hb : b = 0 ∨ b = 1), b = (if 0 ≤ x ∧ x ≤ 255 then 1 else 0) → G E X RJ1 cJ1_canEncode_9a6ad 1 (some .boolean) false (rmD 1) (fun v M' => v = some (.int (if 0 ≤ x ∧ x ≤ 255 then 1 else 0)) ∧ M' = M) M [some (.int x)] 0 0 16 [.int b] := fun b hb e => r_zret DJ1_canEncode_9a6ad_16 rfl (nz_nar hb) ⟨Nat.le_refl 0, Nat.le_refl 0⟩ ⟨by rw [← e], rfl⟩
    refine r_iload_n DJ1_canEncode_9a6ad_0 rfl ?_
    refine r_if_lt DJ1_canEncode_9a6ad_1 (fun c => ?_) (fun c => ?_)
    · refine r_iconst (v := 0) DJ1_canEncode_9a6ad_15 ki_0 ?_
      refine key 0 (Or.inl rfl) ?_
      rw [if_neg]
      intro z
      exact absurd c (Int32.not_lt.mpr z.1)
    · refine r_iload_n DJ1_canEncode_9a6ad_4 rfl ?_
      refine r_sipush (v := 255) DJ1_canEncode_9a6ad_5 (by decide) ?_
      refine r_icmp_gt DJ1_canEncode_9a6ad_8 (fun c2 => ?_) (fun c2 => ?_)
      · refine r_iconst (v := 0) DJ1_canEncode_9a6ad_15 ki_0 ?_
        refine key 0 (Or.inl rfl) ?_
        rw [if_neg]
        intro z
        exact absurd c2 (Int32.not_lt.mpr z.2)
      · refine r_iconst (v := 1) DJ1_canEncode_9a6ad_11 ki_1 ?_
        refine r_goto DJ1_canEncode_9a6ad_12 ?_
        refine key 1 (Or.inr rfl) ?_
        rw [if_pos ⟨Int32.not_lt.mp c, Int32.not_lt.mp c2⟩])
theorem C_islat {E : EN} {M : MH} {i : Nat} (l : Launch) (hi : i < 7) : Ct E l yJ0_isLatin1_aae02 cJ0_isLatin1_aae02 1 (some .boolean) (rmD 1) [.ref (eK E i)] M (fun v M' => v = some (.int 1) ∧ M' = M) :=
  Ct.of (own := RJ0) (ini := false) (L := [some (.ref (eK E i))]) rfl rfl (fun h => by cases h) rfl (Nat.le_of_ble_eq_true rfl) rfl (fun X _ => by
    refine r_comp DJ0_isLatin1_aae02_0 wd_862 ?_
    refine r_if_eq DJ0_isLatin1_aae02_3 (fun c => absurd c (by decide)) (fun _ => ?_)
    refine r_aload_n DJ0_isLatin1_aae02_6 rfl ?_
    refine r_scod hi DJ0_isLatin1_aae02_7 wd_1959 ?_
    refine r_if_ne DJ0_isLatin1_aae02_10 (fun c => absurd rfl c) (fun _ => ?_)
    refine r_iconst (v := 1) DJ0_isLatin1_aae02_13 ki_1 ?_
    refine r_goto DJ0_isLatin1_aae02_14 ?_
    exact r_zret DJ0_isLatin1_aae02_18 rfl rfl ⟨Nat.le_refl 0, Nat.le_refl 0⟩ ⟨rfl, rfl⟩)
theorem C_coder {E : EN} {M : MH} {i : Nat} (l : Launch) (hi : i < 7) : Ct E l yJ0_coder_7d493 cJ0_coder_7d493 1 (some .byte) (rmD 1) [.ref (eK E i)] M (fun v M' => v = some (.int 0) ∧ M' = M) :=
  Ct.of (own := RJ0) (ini := false) (L := [some (.ref (eK E i))]) rfl rfl (fun h => by cases h) rfl (Nat.le_of_ble_eq_true rfl) rfl (fun X _ => by
    refine r_comp DJ0_coder_7d493_0 wd_862 ?_
    refine r_if_eq DJ0_coder_7d493_3 (fun c => absurd c (by decide)) (fun _ => ?_)
    refine r_aload_n DJ0_coder_7d493_6 rfl ?_
    refine r_scod hi DJ0_coder_7d493_7 wd_1959 ?_
    refine r_goto DJ0_coder_7d493_10 ?_
    exact r_zret DJ0_coder_7d493_14 rfl rfl ⟨Nat.le_refl 0, Nat.le_refl 0⟩ ⟨rfl, rfl⟩)
theorem str_sh : ∀ i, i < 7 → nI (strLen.getD i 0) >>> ((0 : Int32) &&& 31) = nI (strLen.getD i 0) := by decide +kernel
theorem C_slen {E : EN} {M : MH} {i : Nat} (l : Launch) (hi : i < 7) : Ct E l yJ0_length_8abf5 cJ0_length_8abf5 1 (some .int) (rmD 2) [.ref (eK E i)] M (fun v M' => v = some (.int (nI (strLen.getD i 0))) ∧ M' = M) :=
  Ct.of (own := RJ0) (ini := false) (L := [some (.ref (eK E i))]) rfl rfl (fun h => by cases h) rfl (Nat.le_of_ble_eq_true rfl) rfl (fun X _ => by
    refine r_aload_n DJ0_length_8abf5_0 rfl ?_
    refine r_sval hi DJ0_length_8abf5_1 wd_1960 ?_
    refine r_slen hi DJ0_length_8abf5_4 ?_
    refine r_aload_n DJ0_length_8abf5_5 rfl ?_
    refine r_callStr (As := []) (rest := [.int (nI (strLen.getD i 0))]) hi DJ0_length_8abf5_6 cv_J0_335 (C_coder (cxL X) hi) rfl (fitD (by decide) (by decide)) rfl (Nat.le_of_ble_eq_true rfl) ?_
    rintro v M' ⟨rfl, rfl⟩
    refine r_ishr (x := nI (strLen.getD i 0)) (y := 0) (st := []) DJ0_length_8abf5_9 ?_
    rw [str_sh i hi]
    exact r_iret DJ0_length_8abf5_10 rfl ⟨Nat.le_refl 0, Nat.le_refl 0⟩ ⟨rfl, rfl⟩)
theorem str_small : ∀ i, i < 7 → 0 < strLen.getD i 0 ∧ strLen.getD i 0 < 10 := by decide +kernel
theorem C_ioc {E : EN} {M : MH} {i : Nat} {x : Int32} (l : Launch) (hi : i < 7) : Ct E l yJ1_indexOfChar_4cfef cJ1_indexOfChar_4cfef 6 (some .int) (rmD 1) [.ref (eV E i), .int x, .int 0, .int (nI (strLen.getD i 0))] M (fun v M' => v = some (.int (sIdxL (sB i) x.toInt8.toInt32 0)) ∧ M' = M) :=
  Ct.of (own := RJ1) (ini := false) (L := [some (.ref (eV E i)), some (.int x), some (.int 0), some (.int (nI (strLen.getD i 0))), none, none]) rfl rfl (fun h => by cases h) rfl (Nat.le_of_ble_eq_true rfl) rfl (fun X _ => by
    have hsm := str_small i hi
    have loop : ∀ (m k : Nat), k + m = strLen.getD i 0 → sIdxL ((sB i).drop k) x.toInt8.toInt32 k = sIdxL (sB i) x.toInt8.toInt32 0 → G E X RJ1 cJ1_indexOfChar_4cfef 6 (some .int) false (rmD 1) (fun v M' => v = some (.int (sIdxL (sB i) x.toInt8.toInt32 0)) ∧ M' = M) M [some (.ref (eV E i)), some (.int x), some (.int 0), some (.int (nI (strLen.getD i 0))), some (.int x.toInt8.toInt32), some (.int (nI k))] 0 0 7 [] := by
      intro m
      induction m with
      | zero =>
        intro k hk he
        refine r_iload DJ1_indexOfChar_4cfef_7 rfl ?_
        refine r_iload_n DJ1_indexOfChar_4cfef_9 rfl ?_
        refine r_icmp_ge DJ1_indexOfChar_4cfef_10 (fun _ => ?_) (fun c => absurd (nI_le (by omega) (by omega)) c)
        refine r_iconst (v := -1) DJ1_indexOfChar_4cfef_31 ki_m1 ?_
        refine r_iret DJ1_indexOfChar_4cfef_32 rfl ⟨Nat.le_refl 0, Nat.le_refl 0⟩ ⟨?_, rfl⟩
        rw [← he, List.drop_of_length_le (by rw [sB_len i hi]; omega)]
        rfl
      | succ m ih =>
        intro k hk he
        have hlt : k < (sB i).length := by rw [sB_len i hi]; omega
        have hat : sAt i (nI k) = (sB i)[k] := by
          unfold sAt
          rw [nI_clamp (by omega), List.getD_eq_getElem?_getD, List.getElem?_eq_getElem hlt]
          rfl
        rw [List.drop_eq_getElem_cons hlt] at he
        refine r_iload DJ1_indexOfChar_4cfef_7 rfl ?_
        refine r_iload_n DJ1_indexOfChar_4cfef_9 rfl ?_
        refine r_icmp_ge DJ1_indexOfChar_4cfef_10 (fun c => absurd c (nI_ge (by omega) (by omega))) (fun _ => ?_)
        refine r_aload_n DJ1_indexOfChar_4cfef_13 rfl ?_
        refine r_iload DJ1_indexOfChar_4cfef_14 rfl ?_
        refine r_sbald hi DJ1_indexOfChar_4cfef_16 (vp_in_nI (by omega) (by omega)) ?_
        rw [hat]
        refine r_iload DJ1_indexOfChar_4cfef_17 rfl ?_
        refine r_icmp_ne DJ1_indexOfChar_4cfef_19 (fun c => ?_) (fun c => ?_)
        · refine t_iinc (v := 1) (L' := [some (.ref (eV E i)), some (.int x), some (.int 0), some (.int (nI (strLen.getD i 0))), some (.int x.toInt8.toInt32), some (.int (nI (k + 1)))]) DJ1_indexOfChar_4cfef_25 rfl ki_1 (by decide) (by rw [← nI_1]; rfl) ?_
          refine r_goto DJ1_indexOfChar_4cfef_28 ?_
          refine ih (k + 1) (by omega) ?_
          rw [← he, sIdxL, if_neg c]
        · refine r_iload DJ1_indexOfChar_4cfef_22 rfl ?_
          refine r_iret DJ1_indexOfChar_4cfef_24 rfl ⟨Nat.le_refl 0, Nat.le_refl 0⟩ ⟨?_, rfl⟩
          rw [← he, sIdxL, if_pos c]
    refine r_iload_n DJ1_indexOfChar_4cfef_0 rfl ?_
    refine r_i2b DJ1_indexOfChar_4cfef_1 ?_
    refine t_istore (L' := [some (.ref (eV E i)), some (.int x), some (.int 0), some (.int (nI (strLen.getD i 0))), some (.int x.toInt8.toInt32), none]) DJ1_indexOfChar_4cfef_2 (by decide) rfl ?_
    refine r_iload_n DJ1_indexOfChar_4cfef_4 rfl ?_
    refine t_istore (L' := [some (.ref (eV E i)), some (.int x), some (.int 0), some (.int (nI (strLen.getD i 0))), some (.int x.toInt8.toInt32), some (.int (nI 0))]) DJ1_indexOfChar_4cfef_5 (by decide) rfl ?_
    exact loop (strLen.getD i 0) 0 (by omega) rfl)
theorem str_min : ∀ i, i < 7 → (if nI (strLen.getD i 0) < nI (strLen.getD i 0) then nI (strLen.getD i 0) else nI (strLen.getD i 0)) = nI (strLen.getD i 0) := by decide +kernel
theorem C_l1i {E : EN} {M : MH} {i : Nat} {x : Int32} (l : Launch) (hi : i < 7) : Ct E l yJ1_indexOf_4cfef cJ1_indexOf_4cfef 4 (some .int) (rmD 2) [.ref (eV E i), .int x, .int 0, .int (nI (strLen.getD i 0))] M (fun v M' => v = some (.int (sIdx i x)) ∧ M' = M) :=
  Ct.of (own := RJ1) (ini := false) (L := [some (.ref (eV E i)), some (.int x), some (.int 0), some (.int (nI (strLen.getD i 0)))]) rfl rfl (fun h => by cases h) rfl (Nat.le_of_ble_eq_true rfl) rfl (fun X _ => by
    have hsm := str_small i hi
    refine r_iload_n DJ1_indexOf_4cfef_0 rfl ?_
    refine r_callS (As := [.int x]) (rest := []) DJ1_indexOf_4cfef_1 cs_J1_88 (C_cane (cxL X)) rfl (fitD (by decide) (by decide)) rfl (Nat.le_of_ble_eq_true rfl) ?_
    rintro v M' ⟨rfl, rfl⟩
    refine r_if_ne (x := if 0 ≤ x ∧ x ≤ 255 then 1 else 0) (st := []) DJ1_indexOf_4cfef_4 (fun c => ?_) (fun c => ?_)
    · have hx : 0 ≤ x ∧ x ≤ 255 := by
        by_cases hh : 0 ≤ x ∧ x ≤ 255
        · exact hh
        · rw [if_neg hh] at c; exact absurd rfl c
      refine r_iload_n DJ1_indexOf_4cfef_9 rfl ?_
      refine r_iconst (v := 0) DJ1_indexOf_4cfef_10 ki_0 ?_
      refine r_mmax (d := 2) (st := []) DJ1_indexOf_4cfef_11 wd_878 (by decide) (Nat.le_of_ble_eq_true rfl) ?_
      refine t_istore_n (L' := [some (.ref (eV E i)), some (.int x), some (.int 0), some (.int (nI (strLen.getD i 0)))]) DJ1_indexOf_4cfef_14 (by decide) rfl ?_
      refine r_iload_n DJ1_indexOf_4cfef_15 rfl ?_
      refine r_aload_n DJ1_indexOf_4cfef_16 rfl ?_
      refine r_slen hi DJ1_indexOf_4cfef_17 ?_
      refine r_mmin (d := 2) (st := []) DJ1_indexOf_4cfef_18 wd_879 (by decide) (Nat.le_of_ble_eq_true rfl) ?_
      rw [str_min i hi]
      refine t_istore_n (L' := [some (.ref (eV E i)), some (.int x), some (.int 0), some (.int (nI (strLen.getD i 0)))]) DJ1_indexOf_4cfef_21 (by decide) rfl ?_
      refine r_iload_n DJ1_indexOf_4cfef_22 rfl ?_
      refine r_iload_n DJ1_indexOf_4cfef_23 rfl ?_
      refine r_icmp_lt DJ1_indexOf_4cfef_24 (fun _ => ?_) (fun c2 => absurd (show (0 : Int32) < _ from nI_0 ▸ nI_lt hsm.1 (by omega)) c2)
      refine r_aload_n DJ1_indexOf_4cfef_29 rfl ?_
      refine r_iload_n DJ1_indexOf_4cfef_30 rfl ?_
      refine r_iload_n DJ1_indexOf_4cfef_31 rfl ?_
      refine r_iload_n DJ1_indexOf_4cfef_32 rfl ?_
      refine r_callS (As := [.ref (eV E i), .int x, .int 0, .int (nI (strLen.getD i 0))]) (rest := []) DJ1_indexOf_4cfef_33 cs_J1_95 (C_ioc (cxL X) hi) rfl (fitD (by decide) (by decide)) rfl (Nat.le_of_ble_eq_true rfl) ?_
      rintro v M' ⟨rfl, rfl⟩
      exact r_iret DJ1_indexOf_4cfef_36 rfl ⟨Nat.le_refl 0, Nat.le_refl 0⟩ ⟨by unfold sIdx; rw [if_pos hx], rfl⟩
    · have hx : ¬ (0 ≤ x ∧ x ≤ 255) := by
        intro hh
        rw [if_pos hh] at c
        exact absurd c (by decide)
      refine r_iconst (v := -1) DJ1_indexOf_4cfef_7 ki_m1 ?_
      exact r_iret DJ1_indexOf_4cfef_8 rfl ⟨Nat.le_refl 0, Nat.le_refl 0⟩ ⟨by unfold sIdx; rw [if_neg hx], rfl⟩)
theorem C_idx2 {E : EN} {M : MH} {i : Nat} {x : Int32} (l : Launch) (hi : i < 7) : Ct E l yJ0_indexOf_7cf53 cJ0_indexOf_7cf53 3 (some .int) (rmD 3) [.ref (eK E i), .int x, .int 0] M (fun v M' => v = some (.int (sIdx i x)) ∧ M' = M) :=
  Ct.of (own := RJ0) (ini := false) (L := [some (.ref (eK E i)), some (.int x), some (.int 0)]) rfl rfl (fun h => by cases h) rfl (Nat.le_of_ble_eq_true rfl) rfl (fun X _ => by
    refine r_aload_n DJ0_indexOf_7cf53_0 rfl ?_
    refine r_callStr (As := []) (rest := []) hi DJ0_indexOf_7cf53_1 cv_J0_492 (C_islat (cxL X) hi) rfl (fitD (by decide) (by decide)) rfl (Nat.le_of_ble_eq_true rfl) ?_
    rintro v M' ⟨rfl, rfl⟩
    refine r_if_eq (x := 1) (st := []) DJ0_indexOf_7cf53_4 (fun c => absurd c (by decide)) (fun _ => ?_)
    refine r_aload_n DJ0_indexOf_7cf53_7 rfl ?_
    refine r_sval hi DJ0_indexOf_7cf53_8 wd_1960 ?_
    refine r_iload_n DJ0_indexOf_7cf53_11 rfl ?_
    refine r_iload_n DJ0_indexOf_7cf53_12 rfl ?_
    refine r_aload_n DJ0_indexOf_7cf53_13 rfl ?_
    refine r_callStr (As := []) (rest := [.int 0, .int x, .ref (eV E i)]) hi DJ0_indexOf_7cf53_14 cv_J0_505 (C_slen (cxL X) hi) rfl (fitD (by decide) (by decide)) rfl (Nat.le_of_ble_eq_true rfl) ?_
    rintro v M' ⟨rfl, rfl⟩
    refine r_callS (As := [.ref (eV E i), .int x, .int 0, .int (nI (strLen.getD i 0))]) (rest := []) DJ0_indexOf_7cf53_17 cs_J0_637 (C_l1i (cxL X) hi) rfl (fitD (by decide) (by decide)) rfl (Nat.le_of_ble_eq_true rfl) ?_
    rintro v M' ⟨rfl, rfl⟩
    refine r_goto DJ0_indexOf_7cf53_20 ?_
    exact r_iret DJ0_indexOf_7cf53_36 rfl ⟨Nat.le_refl 0, Nat.le_refl 0⟩ ⟨rfl, rfl⟩)
theorem C_idx1 {E : EN} {M : MH} {i : Nat} {x : Int32} (l : Launch) (hi : i < 7) : Ct E l yJ0_indexOf_0f7a4 cJ0_indexOf_0f7a4 2 (some .int) (rmD 4) [.ref (eK E i), .int x] M (fun v M' => v = some (.int (sIdx i x)) ∧ M' = M) :=
  Ct.of (own := RJ0) (ini := false) (L := [some (.ref (eK E i)), some (.int x)]) rfl rfl (fun h => by cases h) rfl (Nat.le_of_ble_eq_true rfl) rfl (fun X _ => by
    refine r_aload_n DJ0_indexOf_0f7a4_0 rfl ?_
    refine r_iload_n DJ0_indexOf_0f7a4_1 rfl ?_
    refine r_iconst (v := 0) DJ0_indexOf_0f7a4_2 ki_0 ?_
    refine r_callStr (As := [.int x, .int 0]) (rest := []) hi DJ0_indexOf_0f7a4_3 cv_J0_633 (C_idx2 (cxL X) hi) rfl (fitD (by decide) (by decide)) rfl (Nat.le_of_ble_eq_true rfl) ?_
    rintro v M' ⟨rfl, rfl⟩
    exact r_iret DJ0_indexOf_0f7a4_6 rfl ⟨Nat.le_refl 0, Nat.le_refl 0⟩ ⟨rfl, rfl⟩)
theorem C_X9_isOneOf {E : EN} {ad : AD} {fu : Nat} {out : Int32 × St} {V : St} {M : MH} {i : Nat} {x : Int32} (l : Launch) (hR : Rep E ad V M) (h : f_X9_isOneOf fu V i x = some out) : Ct E l yX9_isOneOf cX9_isOneOf 2 (some .boolean) (rmD 5) [.ref (eK E i), .int x] M (fun v M => v = (some (.int out.1)) ∧ Rep E ad out.2 M) := by
  have hi : i < 7 := by
    by_cases hh : i < 7
    · exact hh
    · unfold f_X9_isOneOf at h; rw [if_neg hh] at h; cases h
  unfold f_X9_isOneOf at h
  rw [if_pos hi] at h
  have h := Option.some.inj h
  subst h
  refine Ct.of (own := RX9) (ini := false) (L := [some (.ref (eK E i)), some (.int x)]) rfl rfl (fun h => by cases h) rfl (Nat.le_of_ble_eq_true rfl) rfl (fun X _ => ?_)
  have key : ∀ (b : Int32) (hb : b = 0 ∨ b = 1), b = (if ¬ x < 0 ∧ ¬ sIdx i (x.toUInt32 % 65536).toInt32 < 0 then 1 else 0) → G E X RX9 cX9_isOneOf 2 (some .boolean) false (rmD 5) (fun v M => v = (some (.int (if ¬ x < 0 ∧ ¬ sIdx i (x.toUInt32 % 65536).toInt32 < 0 then 1 else 0))) ∧ Rep E ad V M) M [some (.ref (eK E i)), some (.int x)] 0 0 18 [.int b] := fun b hb e => r_zret DX9_isOneOf_18 rfl (nz_nar hb) ⟨Nat.le_refl 0, Nat.le_refl 0⟩ ⟨by rw [← e], hR⟩
  refine r_iload_n DX9_isOneOf_0 rfl ?_
  refine r_if_lt DX9_isOneOf_1 (fun c => ?_) (fun c => ?_)
  · refine r_iconst (v := 0) DX9_isOneOf_17 ki_0 ?_
    refine key 0 (Or.inl rfl) ?_
    rw [if_neg (fun z => z.1 c)]
  · refine r_aload_n DX9_isOneOf_4 rfl ?_
    refine r_iload_n DX9_isOneOf_5 rfl ?_
    refine r_i2c DX9_isOneOf_6 ?_
    refine r_callStr (As := [.int (x.toUInt32 % 65536).toInt32]) (rest := []) hi DX9_isOneOf_7 cv_X9_110 (C_idx1 (cxL X) hi) rfl (fitD (by decide) (by decide)) rfl (Nat.le_of_ble_eq_true rfl) ?_
    rintro v M' ⟨rfl, rfl⟩
    refine r_if_lt (x := sIdx i (x.toUInt32 % 65536).toInt32) (st := []) DX9_isOneOf_10 (fun c2 => ?_) (fun c2 => ?_)
    · refine r_iconst (v := 0) DX9_isOneOf_17 ki_0 ?_
      refine key 0 (Or.inl rfl) ?_
      rw [if_neg (fun z => z.2 c2)]
    · refine r_iconst (v := 1) DX9_isOneOf_13 ki_1 ?_
      refine r_goto DX9_isOneOf_14 ?_
      refine key 1 (Or.inr rfl) ?_
      rw [if_pos ⟨c, c2⟩]
theorem k_indexOf {E : EN} {X : CX} {own : String} {cc : ByteArray} {nl : Nat} {ret : Option FieldType} {ini : Bool} {P : Option Value → MH → Prop} {M : MH} {L : List (Option Value)} {pc pc' d idx i : Nat} {st : List Value} {ad : AD} {V : St} {x : Int32} (hd : Dk cc pc (.invokevirtual idx) 3 pc') (hw : CVW own idx "java/lang/String" yJ0_indexOf_0f7a4 cJ0_indexOf_0f7a4 2 (some .int) 1) (hR : Rep E ad V M) (hi : i < 7) (hF : 5 ≤ d) (hr : (st.map fun v => v.category).sum ≤ 8) (K : ∀ M : MH, Rep E ad V M → G E X own cc nl ret ini (rmD d) P M L 0 0 pc' (.int (sIdx i x) :: st)) : G E X own cc nl ret ini (rmD d) P M L 0 0 pc (.int x :: .ref (eK E i) :: st) := by
  refine r_callStr (As := [.int x]) (rest := st) hi hd hw (C_idx1 (cxL X) hi) rfl (fitD hF (by decide)) rfl hr ?_
  rintro v M' ⟨rfl, rfl⟩
  exact K _ hR
theorem C_pciW {E : EN} {M : MH} {i n : Int32} {w : Value} (l : Launch) (hw : w.category = 1) (h0 : ¬ i < 0) (h1 : i < n) : Ct E l yJ3_checkIndex_8e157 cJ3_checkIndex_8e157 3 (some .int) (rmD 1) [.int i, .int n, w] M (fun v M' => v = some (.int i) ∧ M' = M) :=
  Ct.of (own := RJ3) (ini := false) (L := [some (.int i), some (.int n), some w]) rfl rfl (fun h => by cases h) (by simp only [List.all_cons, List.all_nil, hw]; rfl) (Nat.le_of_ble_eq_true rfl) rfl (fun X _ => by
    refine r_iload_n DJ3_checkIndex_8e157_0 rfl ?_
    refine r_if_lt DJ3_checkIndex_8e157_1 (fun c => absurd c h0) (fun _ => ?_)
    refine r_iload_n DJ3_checkIndex_8e157_4 rfl ?_
    refine r_iload_n DJ3_checkIndex_8e157_5 rfl ?_
    refine r_icmp_lt DJ3_checkIndex_8e157_6 (fun _ => ?_) (fun c => absurd h1 c)
    refine r_iload_n DJ3_checkIndex_8e157_16 rfl ?_
    exact r_iret DJ3_checkIndex_8e157_17 rfl ⟨Nat.le_refl 0, Nat.le_refl 0⟩ ⟨rfl, rfl⟩)
theorem C_schk {E : EN} {M : MH} {i n : Int32} (l : Launch) (h0 : ¬ i < 0) (h1 : i < n) : Ct E l yJ0_checkIndex_df160 cJ0_checkIndex_df160 2 none (rmD 2) [.int i, .int n] M (fun v M' => v = none ∧ M' = M) :=
  Ct.of (own := RJ0) (ini := false) (L := [some (.int i), some (.int n)]) rfl rfl (fun h => by cases h) rfl (Nat.le_of_ble_eq_true rfl) rfl (fun X _ => by
    refine r_iload_n DJ0_checkIndex_df160_0 rfl ?_
    refine r_iload_n DJ0_checkIndex_df160_1 rfl ?_
    refine r_sioo DJ0_checkIndex_df160_2 wd_901 (fun w hw => ?_)
    have hcat : w.category = 1 := by rcases hw with rfl | ⟨a, rfl⟩ <;> rfl
    refine r_callS (As := [.int i, .int n, w]) (rest := []) DJ0_checkIndex_df160_5 cs_J0_1059 (C_pciW (cxL X) hcat h0 h1) rfl (fitD (by decide) (by decide)) rfl (Nat.le_of_ble_eq_true rfl) ?_
    rintro v M' ⟨rfl, rfl⟩
    refine r_pop (v := .int i) (st := []) DJ0_checkIndex_df160_8 rfl ?_
    exact r_vret DJ0_checkIndex_df160_9 rfl ⟨Nat.le_refl 0, Nat.le_refl 0⟩ ⟨rfl, rfl⟩)
theorem byte_c : ∀ n, n < 128 → ((nI n &&& 255).toUInt32 % 65536).toInt32 = nI n ∧ narrow .char (.int (nI n)) = .int (nI n) := by decide +kernel
theorem sAt_byte {i : Nat} {x : Int32} (hi : i < 7) (hx : vp_in x (strLen.getD i 0)) : ∃ n, n < 128 ∧ sAt i x = nI n := by
  have hlt : x.toNatClampNeg < (sB i).length := by
    rw [sB_len i hi]
    exact Nat.not_le.mp fun z => hx (Or.inr z)
  have h1 := List.all_eq_true.mp (sB_byte i hi) ((sB i)[x.toNatClampNeg]) (List.getElem_mem hlt)
  have h2 := decide_eq_true_iff.mp h1
  unfold sAt
  rw [List.getD_eq_getElem?_getD, List.getElem?_eq_getElem hlt]
  exact ⟨_, h2.1, h2.2⟩
theorem C_l1c {E : EN} {M : MH} {i : Nat} {x : Int32} (l : Launch) (hi : i < 7) (hx : vp_in x (strLen.getD i 0)) : Ct E l yJ1_charAt_3b067 cJ1_charAt_3b067 2 (some .char) (rmD 3) [.ref (eV E i), .int x] M (fun v M' => v = some (.int (sAt i x)) ∧ M' = M) :=
  Ct.of (own := RJ1) (ini := false) (L := [some (.ref (eV E i)), some (.int x)]) rfl rfl (fun h => by cases h) rfl (Nat.le_of_ble_eq_true rfl) rfl (fun X _ => by
    have hsm := str_small i hi
    obtain ⟨n, hn, hb⟩ := sAt_byte hi hx
    have h0 : ¬ x < 0 := fun z => hx (Or.inl z)
    have h1 : x < nI (strLen.getD i 0) := by
      refine clamp_lt h0 (nI_pos (by omega)) ?_
      rw [nI_clamp (by omega)]
      exact Nat.not_le.mp fun z => hx (Or.inr z)
    refine r_iload_n DJ1_charAt_3b067_0 rfl ?_
    refine r_aload_n DJ1_charAt_3b067_1 rfl ?_
    refine r_slen hi DJ1_charAt_3b067_2 ?_
    refine r_callS (As := [.int x, .int (nI (strLen.getD i 0))]) (rest := []) DJ1_charAt_3b067_3 cs_J1_9 (C_schk (cxL X) h0 h1) rfl (fitD (by decide) (by decide)) rfl (Nat.le_of_ble_eq_true rfl) ?_
    rintro v M' ⟨rfl, rfl⟩
    refine r_aload_n (st := []) DJ1_charAt_3b067_6 rfl ?_
    refine r_iload_n DJ1_charAt_3b067_7 rfl ?_
    refine r_sbald hi DJ1_charAt_3b067_8 hx ?_
    rw [hb]
    refine r_sipush (v := 255) DJ1_charAt_3b067_9 (by decide) ?_
    refine r_iand DJ1_charAt_3b067_12 ?_
    refine r_i2c DJ1_charAt_3b067_13 ?_
    rw [(byte_c n hn).1]
    exact r_zret DJ1_charAt_3b067_14 rfl (byte_c n hn).2 ⟨Nat.le_refl 0, Nat.le_refl 0⟩ ⟨rfl, rfl⟩)
theorem C_chat {E : EN} {M : MH} {i : Nat} {x : Int32} (l : Launch) (hi : i < 7) (hx : vp_in x (strLen.getD i 0)) : Ct E l yJ0_charAt_5068e cJ0_charAt_5068e 2 (some .char) (rmD 4) [.ref (eK E i), .int x] M (fun v M' => v = some (.int (sAt i x)) ∧ M' = M) :=
  Ct.of (own := RJ0) (ini := false) (L := [some (.ref (eK E i)), some (.int x)]) rfl rfl (fun h => by cases h) rfl (Nat.le_of_ble_eq_true rfl) rfl (fun X _ => by
    obtain ⟨n, hn, hb⟩ := sAt_byte hi hx
    refine r_aload_n DJ0_charAt_5068e_0 rfl ?_
    refine r_callStr (As := []) (rest := []) hi DJ0_charAt_5068e_1 cv_J0_492 (C_islat (cxL X) hi) rfl (fitD (by decide) (by decide)) rfl (Nat.le_of_ble_eq_true rfl) ?_
    rintro v M' ⟨rfl, rfl⟩
    refine r_if_eq (x := 1) (st := []) DJ0_charAt_5068e_4 (fun c => absurd c (by decide)) (fun _ => ?_)
    refine r_aload_n DJ0_charAt_5068e_7 rfl ?_
    refine r_sval hi DJ0_charAt_5068e_8 wd_1960 ?_
    refine r_iload_n DJ0_charAt_5068e_11 rfl ?_
    refine r_callS (As := [.ref (eV E i), .int x]) (rest := []) DJ0_charAt_5068e_12 cs_J0_495 (C_l1c (cxL X) hi hx) rfl (fitD (by decide) (by decide)) rfl (Nat.le_of_ble_eq_true rfl) ?_
    rintro v M' ⟨rfl, rfl⟩
    exact r_zret DJ0_charAt_5068e_15 rfl (by rw [hb]; exact (byte_c n hn).2) ⟨Nat.le_refl 0, Nat.le_refl 0⟩ ⟨rfl, rfl⟩)
theorem k_charAt {E : EN} {X : CX} {own : String} {cc : ByteArray} {nl : Nat} {ret : Option FieldType} {ini : Bool} {P : Option Value → MH → Prop} {M : MH} {L : List (Option Value)} {pc pc' d idx i : Nat} {st : List Value} {ad : AD} {V : St} {x : Int32} (hd : Dk cc pc (.invokevirtual idx) 3 pc') (hw : CVW own idx "java/lang/String" yJ0_charAt_5068e cJ0_charAt_5068e 2 (some .char) 1) (hR : Rep E ad V M) (hi : i < 7) (hx : vp_in x (strLen.getD i 0)) (hF : 5 ≤ d) (hr : (st.map fun v => v.category).sum ≤ 8) (K : ∀ M : MH, Rep E ad V M → G E X own cc nl ret ini (rmD d) P M L 0 0 pc' (.int (sAt i x) :: st)) : G E X own cc nl ret ini (rmD d) P M L 0 0 pc (.int x :: .ref (eK E i) :: st) := by
  refine r_callStr (As := [.int x]) (rest := st) hi hd hw (C_chat (cxL X) hi hx) rfl (fitD hF (by decide)) rfl hr ?_
  rintro v M' ⟨rfl, rfl⟩
  exact K _ hR
