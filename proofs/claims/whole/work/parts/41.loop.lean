/-! the law's loop -/
theorem lw_gt {k Ls : Nat} (hL : Ls ≤ 3072) (hk : 6 * k ≤ Ls) (h : ¬ nI Ls - 6 < nI (6 * k)) : 6 * k + 6 ≤ Ls := by
  by_cases h6 : Ls < 6
  · exfalso
    apply h
    have hz : ∀ n, n < 6 → nI n - 6 < 0 := by decide
    have h0 : (0 : Int32) ≤ nI (6 * k) := nI_pos' (by omega)
    exact Int32.lt_of_lt_of_le (hz Ls h6) h0
  · obtain ⟨m, rfl⟩ : ∃ m, Ls = m + 6 := ⟨Ls - 6, by omega⟩
    rw [show nI (m + 6) - 6 = nI m from by rw [← nI_add m 6]; exact Int32.add_sub_cancel (a := nI m) (b := nI 6)] at h
    rw [nI_ltI (by omega) (by omega)] at h
    omega
theorem Inv.up {k : Nat} {V : St} (h : Inv k V) : Inv (k + 1) V := by
  obtain ⟨nC, nD, nT, nM, nP, nK, nS, nR, nL, nO, h0, h1⟩ := h
  exact ⟨nC, nD, nT, nM, nP, nK, nS, nR, nL, nO, Nat.le_succ_of_le h0, h1⟩
theorem lw_loop {E : EN} {X : CX} {P : Option Value → MH → Prop} {fu b b1 b2 Ls : Nat} {xs : Nat → Int32} (hfu : 1000000000 ≤ fu) (hX : Scr E X b Ls xs) (hL : Ls ≤ 3072) (hP : ∀ M, P (some (.int 1)) M) :
    ∀ (n k : Nat) (ad : AD) (V : St) (M : MH), 6 * k ≤ Ls → Ls < 6 * (k + n) → ad 2100 0 = b1 ∧ ad 2200 0 = b2 → Rep E ad V M → Inv k V → GL E X P M b b1 b2 k (200 + 12 * k) (220000 + 3009 * k) 18 [] := by
  intro n
  induction n with
  | zero => intro k ad V M h1 h2; omega
  | succ n ih =>
    intro k ad V M hk0 hn hb hR hI
    refine r_iload_n DL_law_18 rfl ?_
    refine r_aload_n DL_law_19 rfl ?_
    refine r_sclen hX DL_law_20 ?_
    refine r_bipush (v := 6) DL_law_21 (by decide) ?_
    refine r_isub DL_law_23 ?_
    refine r_icmp_gt DL_law_24 (fun _ => ?_) (fun hgt => ?_)
    · refine r_iconst (v := 1) DL_law_1751 (by decide) ?_
      exact r_zret (ty := .boolean) DL_law_1752 rfl (by decide) ⟨by show 200 + 12 * k ≤ 600000; omega, by show 220000 + 3009 * k ≤ 7302250; omega⟩ (hP _)
    · have hk := lw_gt hL hk0 hgt
      have go : ∀ (ad' : AD) (V' : St) (M' : MH), ad' 2100 0 = b1 ∧ ad' 2200 0 = b2 → Rep E ad' V' M' → Inv (k + 1) V' → GL E X P M' b b1 b2 k (200 + 12 * k + 12) (220000 + 3009 * k + 3009) 1745 [] := by
        intro ad' V' M' hb' hR' hI'
        refine r_iinc (x := nI (6 * k)) (v := 6) DL_law_1745 rfl (by decide) (by decide) ?_
        refine r_goto DL_law_1748 ?_
        have this : G E X "UtilityBoardLaw" code 4 ret false room_1 P M' [some (.ref b), some (.ref b1), some (.ref b2), some (.int (nI (6 * (k + 1))))] (200 + 12 * (k + 1)) (220000 + 3009 * (k + 1)) 18 [] := ih (k + 1) ad' V' M' (by omega) (by omega) hb' hR' hI'
        rw [show 6 * (k + 1) = 6 * k + 6 by omega, ← nI_add (6 * k) 6, show 200 + 12 * (k + 1) = 200 + 12 * k + 12 by omega, show 220000 + 3009 * (k + 1) = 220000 + 3009 * k + 3009 by omega] at this
        exact this
      have hc : 200 + 12 * k + 12 ≤ 600000 ∧ 220000 + 3009 * k + 3009 ≤ 7302250 := ⟨by omega, by omega⟩
      obtain ⟨a1, a2, a3⟩ := lw_at (j := 0) hk hL (by decide)
      refine r_aload_n DL_law_27 rfl ?_
      refine r_iload_n DL_law_28 rfl ?_
      refine r_sld hX DL_law_29 a2 ?_
      refine r_bipush (v := 63) DL_law_30 (by decide) ?_
      refine r_iand DL_law_32 ?_
      generalize xs (nI (6 * k)).toNatClampNeg &&& 63 = z
      by_cases hz : z.toInt < 0 ∨ 38 < z.toInt
      · refine r_table (tgt := 1745) DL_law_33 (Or.inl ⟨hz, rfl⟩) (by decide) ?_
        exact r_widen (by omega) (by omega) (go ad V M hb hR hI.up)
      · have hz1 : ¬ z.toInt < 0 := fun q => hz (Or.inl q)
        have hz2 : ¬ 38 < z.toInt := fun q => hz (Or.inr q)
        obtain ⟨j, hj⟩ : ∃ j : Nat, z.toInt = (j : Int) := ⟨z.toInt.toNat, (Int.toNat_of_nonneg (by omega)).symm⟩
        have hj39 : j < 39 := by omega
        have hT : ∀ (tgt : Nat) (off : Int), (#[171, 184, 227, 250, 303, 346, 369, 402, 455, 498, 541, 584, 647, 696, 739, 802, 845, 908, 951, 1020, 1043, 1076, 1135, 1168, 1221, 1254, 1287, 1310, 1353, 1376, 1435, 1458, 1491, 1534, 1577, 1610, 1633, 1656, 1689] : Array Int)[j]? = some off → (33 : Int) + off = (tgt : Int) → GL E X P M b b1 b2 k (200 + 12 * k) (220000 + 3009 * k) tgt [] → GL E X P M b b1 b2 k (200 + 12 * k) (220000 + 3009 * k) 33 [.int z] := by
          intro tgt off h1 h2 h3
          refine r_table (tgt := tgt) (off := off) DL_law_33 (Or.inr ⟨hz1, hz2, ?_⟩) h2 h3
          rw [hj, Int.sub_zero, Int.toNat_natCast]
          exact h1
        match j, hj39, hT with
        | 0, _, hT => exact hT 204 171 rfl (by decide) (LC_0 hfu hX hk hL hb hR hI hc go)
        | 1, _, hT => exact hT 217 184 rfl (by decide) (LC_1 hfu hX hk hL hb hR hI hc go)
        | 2, _, hT => exact hT 260 227 rfl (by decide) (LC_2 hfu hX hk hL hb hR hI hc go)
        | 3, _, hT => exact hT 283 250 rfl (by decide) (LC_3 hfu hX hk hL hb hR hI hc go)
        | 4, _, hT => exact hT 336 303 rfl (by decide) (LC_4 hfu hX hk hL hb hR hI hc go)
        | 5, _, hT => exact hT 379 346 rfl (by decide) (LC_5 hfu hX hk hL hb hR hI hc go)
        | 6, _, hT => exact hT 402 369 rfl (by decide) (LC_6 hfu hX hk hL hb hR hI hc go)
        | 7, _, hT => exact hT 435 402 rfl (by decide) (LC_7 hfu hX hk hL hb hR hI hc go)
        | 8, _, hT => exact hT 488 455 rfl (by decide) (LC_8 hfu hX hk hL hb hR hI hc go)
        | 9, _, hT => exact hT 531 498 rfl (by decide) (LC_9 hfu hX hk hL hb hR hI hc go)
        | 10, _, hT => exact hT 574 541 rfl (by decide) (LC_10 hfu hX hk hL hb hR hI hc go)
        | 11, _, hT => exact hT 617 584 rfl (by decide) (LC_11 hfu hX hk hL hb hR hI hc go)
        | 12, _, hT => exact hT 680 647 rfl (by decide) (LC_12 hfu hX hk hL hb hR hI hc go)
        | 13, _, hT => exact hT 729 696 rfl (by decide) (LC_13 hfu hX hk hL hb hR hI hc go)
        | 14, _, hT => exact hT 772 739 rfl (by decide) (LC_14 hfu hX hk hL hb hR hI hc go)
        | 15, _, hT => exact hT 835 802 rfl (by decide) (LC_15 hfu hX hk hL hb hR hI hc go)
        | 16, _, hT => exact hT 878 845 rfl (by decide) (LC_16 hfu hX hk hL hb hR hI hc go)
        | 17, _, hT => exact hT 941 908 rfl (by decide) (LC_17 hfu hX hk hL hb hR hI hc go)
        | 18, _, hT => exact hT 984 951 rfl (by decide) (LC_18 hfu hX hk hL hb hR hI hc go)
        | 19, _, hT => exact hT 1053 1020 rfl (by decide) (LC_19 hfu hX hk hL hb hR hI hc go)
        | 20, _, hT => exact hT 1076 1043 rfl (by decide) (LC_20 hfu hX hk hL hb hR hI hc go)
        | 21, _, hT => exact hT 1109 1076 rfl (by decide) (LC_21 hfu hX hk hL hb hR hI hc go)
        | 22, _, hT => exact hT 1168 1135 rfl (by decide) (LC_22 hfu hX hk hL hb hR hI hc go)
        | 23, _, hT => exact hT 1201 1168 rfl (by decide) (LC_23 hfu hX hk hL hb hR hI hc go)
        | 24, _, hT => exact hT 1254 1221 rfl (by decide) (LC_24 hfu hX hk hL hb hR hI hc go)
        | 25, _, hT => exact hT 1287 1254 rfl (by decide) (LC_25 hfu hX hk hL hb hR hI hc go)
        | 26, _, hT => exact hT 1320 1287 rfl (by decide) (LC_26 hfu hX hk hL hb hR hI hc go)
        | 27, _, hT => exact hT 1343 1310 rfl (by decide) (LC_27 hfu hX hk hL hb hR hI hc go)
        | 28, _, hT => exact hT 1386 1353 rfl (by decide) (LC_28 hfu hX hk hL hb hR hI hc go)
        | 29, _, hT => exact hT 1409 1376 rfl (by decide) (LC_29 hfu hX hk hL hb hR hI hc go)
        | 30, _, hT => exact hT 1468 1435 rfl (by decide) (LC_30 hfu hX hk hL hb hR hI hc go)
        | 31, _, hT => exact hT 1491 1458 rfl (by decide) (LC_31 hfu hX hk hL hb hR hI hc go)
        | 32, _, hT => exact hT 1524 1491 rfl (by decide) (LC_32 hfu hX hk hL hb hR hI hc go)
        | 33, _, hT => exact hT 1567 1534 rfl (by decide) (LC_33 hfu hX hk hL hb hR hI hc go)
        | 34, _, hT => exact hT 1610 1577 rfl (by decide) (LC_34 hfu hX hk hL hb hR hI hc go)
        | 35, _, hT => exact hT 1643 1610 rfl (by decide) (LC_35 hfu hX hk hL hb hR hI hc go)
        | 36, _, hT => exact hT 1666 1633 rfl (by decide) (LC_36 hfu hX hk hL hb hR hI hc go)
        | 37, _, hT => exact hT 1689 1656 rfl (by decide) (LC_37 hfu hX hk hL hb hR hI hc go)
        | 38, _, hT => exact hT 1722 1689 rfl (by decide) (LC_38 hfu hX hk hL hb hR hI hc go)
        | j + 39, h, _ => exact absurd h (by omega)
