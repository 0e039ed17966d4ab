theorem S_X12_fewest_137 {E : EN} {X : CX} {P : Option Value → MH → Prop} {ad : AD} {fu : Nat} {out : Int32 × St} (hp : ∀ M, Rep E ad out.2 M → P (some (.int out.1)) M) {V : St} {M : MH} {x4 : Int32} {d0 : Option Value} {d1 : Option Value} {d2 : Option Value} {d3 : Option Value} {d5 : Option Value} {d6 : Option Value} {d7 : Option Value} (hR : Rep E ad V M) (h : F_X12_fewest_137 fu V x4 = some out) : G E X RX12 cX12_fewest 8 (some .int) false (rmD 3) P M [d0, d1, d2, d3, some (.int (x4)), d5, d6, d7] 0 0 137 [] := by
  unfold F_X12_fewest_137 at h
  refine r_iload DX12_fewest_137 rfl ?_
  cases h
  exact r_iret DX12_fewest_139 rfl ⟨Nat.le_refl 0, Nat.le_refl 0⟩ (hp M hR)
theorem S_X12_fewest_131 {E : EN} {X : CX} {P : Option Value → MH → Prop} {ad : AD} {fu : Nat} {out : Int32 × St} {kh : St → Int32 → Int32 → Int32 → Int32 → Int32 → Int32 → RR} {kx137 : St → Int32 → RR} (hkh : ∀ {V : St} {M : MH} {x1 : Int32} {x2 : Int32} {x3 : Int32} {x4 : Int32} {x5 : Int32} {x6 : Int32} {d7 : Option Value}, Rep E ad V M → kh V x1 x2 x3 x4 x5 x6 = some out → G E X RX12 cX12_fewest 8 (some .int) false (rmD 3) P M [some (.ref (ad 2200 0)), some (.int (x1)), some (.int (x2)), some (.int (x3)), some (.int (x4)), some (.int (x5)), some (.int (x6)), d7] 0 0 40 []) (hkx137 : ∀ {V : St} {M : MH} {x4 : Int32} {d0 : Option Value} {d1 : Option Value} {d2 : Option Value} {d3 : Option Value} {d5 : Option Value} {d6 : Option Value} {d7 : Option Value}, Rep E ad V M → kx137 V x4 = some out → G E X RX12 cX12_fewest 8 (some .int) false (rmD 3) P M [d0, d1, d2, d3, some (.int (x4)), d5, d6, d7] 0 0 137 []) (hp : ∀ M, Rep E ad out.2 M → P (some (.int out.1)) M) {V : St} {M : MH} {x1 : Int32} {x2 : Int32} {x3 : Int32} {x4 : Int32} {x5 : Int32} {x6 : Int32} {d7 : Option Value} (hR : Rep E ad V M) (h : F_X12_fewest_131 kh kx137 fu V x1 x2 x3 x4 x5 x6 = some out) : G E X RX12 cX12_fewest 8 (some .int) false (rmD 3) P M [some (.ref (ad 2200 0)), some (.int (x1)), some (.int (x2)), some (.int (x3)), some (.int (x4)), some (.int (x5)), some (.int (x6)), d7] 0 0 131 [] := by
  unfold F_X12_fewest_131 at h
  refine t_iinc (v := 1) (L' := [some (.ref (ad 2200 0)), some (.int (x1)), some (.int (x2)), some (.int (x3)), some (.int (x4)), some (.int (x5)), some (.int (x6 + 1)), d7]) DX12_fewest_131 rfl ki_1 (by decide) rfl ?_
  refine r_goto DX12_fewest_134 ?_
  exact hkh hR h
theorem S_X12_fewest_123 {E : EN} {X : CX} {P : Option Value → MH → Prop} {ad : AD} {fu : Nat} {out : Int32 × St} {kh : St → Int32 → Int32 → Int32 → Int32 → Int32 → Int32 → RR} {kx137 : St → Int32 → RR} (hkh : ∀ {V : St} {M : MH} {x1 : Int32} {x2 : Int32} {x3 : Int32} {x4 : Int32} {x5 : Int32} {x6 : Int32} {d7 : Option Value}, Rep E ad V M → kh V x1 x2 x3 x4 x5 x6 = some out → G E X RX12 cX12_fewest 8 (some .int) false (rmD 3) P M [some (.ref (ad 2200 0)), some (.int (x1)), some (.int (x2)), some (.int (x3)), some (.int (x4)), some (.int (x5)), some (.int (x6)), d7] 0 0 40 []) (hkx137 : ∀ {V : St} {M : MH} {x4 : Int32} {d0 : Option Value} {d1 : Option Value} {d2 : Option Value} {d3 : Option Value} {d5 : Option Value} {d6 : Option Value} {d7 : Option Value}, Rep E ad V M → kx137 V x4 = some out → G E X RX12 cX12_fewest 8 (some .int) false (rmD 3) P M [d0, d1, d2, d3, some (.int (x4)), d5, d6, d7] 0 0 137 []) (hp : ∀ M, Rep E ad out.2 M → P (some (.int out.1)) M) {V : St} {M : MH} {x1 : Int32} {x2 : Int32} {x3 : Int32} {x6 : Int32} {x7 : Int32} {d4 : Option Value} {d5 : Option Value} (hR : Rep E ad V M) (h : F_X12_fewest_123 kh kx137 fu V x1 x2 x3 x6 x7 = some out) : G E X RX12 cX12_fewest 8 (some .int) false (rmD 3) P M [some (.ref (ad 2200 0)), some (.int (x1)), some (.int (x2)), some (.int (x3)), d4, d5, some (.int (x6)), some (.int (x7))] 0 0 123 [] := by
  unfold F_X12_fewest_123 at h
  refine r_iload DX12_fewest_123 rfl ?_
  refine t_istore (L' := [some (.ref (ad 2200 0)), some (.int (x1)), some (.int (x2)), some (.int (x3)), some (.int (x6)), d5, some (.int (x6)), some (.int (x7))]) DX12_fewest_125 (by decide) rfl ?_
  refine r_iload DX12_fewest_127 rfl ?_
  refine t_istore (L' := [some (.ref (ad 2200 0)), some (.int (x1)), some (.int (x2)), some (.int (x3)), some (.int (x6)), some (.int (x7)), some (.int (x6)), some (.int (x7))]) DX12_fewest_129 (by decide) rfl ?_
  exact S_X12_fewest_131 (fun hR h => hkh hR h) (fun hR h => hkx137 hR h) hp hR h
theorem S_X12_fewest_40 {E : EN} {X : CX} {P : Option Value → MH → Prop} {ad : AD} {fu : Nat} {out : Int32 × St} {kh : St → Int32 → Int32 → Int32 → Int32 → Int32 → Int32 → RR} {kx137 : St → Int32 → RR} (hkh : ∀ {V : St} {M : MH} {x1 : Int32} {x2 : Int32} {x3 : Int32} {x4 : Int32} {x5 : Int32} {x6 : Int32} {d7 : Option Value}, Rep E ad V M → kh V x1 x2 x3 x4 x5 x6 = some out → G E X RX12 cX12_fewest 8 (some .int) false (rmD 3) P M [some (.ref (ad 2200 0)), some (.int (x1)), some (.int (x2)), some (.int (x3)), some (.int (x4)), some (.int (x5)), some (.int (x6)), d7] 0 0 40 []) (hkx137 : ∀ {V : St} {M : MH} {x4 : Int32} {d0 : Option Value} {d1 : Option Value} {d2 : Option Value} {d3 : Option Value} {d5 : Option Value} {d6 : Option Value} {d7 : Option Value}, Rep E ad V M → kx137 V x4 = some out → G E X RX12 cX12_fewest 8 (some .int) false (rmD 3) P M [d0, d1, d2, d3, some (.int (x4)), d5, d6, d7] 0 0 137 []) (hp : ∀ M, Rep E ad out.2 M → P (some (.int out.1)) M) {V : St} {M : MH} {x1 : Int32} {x2 : Int32} {x3 : Int32} {x4 : Int32} {x5 : Int32} {x6 : Int32} {d7 : Option Value} (hR : Rep E ad V M) (h : F_X12_fewest_40 kh kx137 fu V x1 x2 x3 x4 x5 x6 = some out) : G E X RX12 cX12_fewest 8 (some .int) false (rmD 3) P M [some (.ref (ad 2200 0)), some (.int (x1)), some (.int (x2)), some (.int (x3)), some (.int (x4)), some (.int (x5)), some (.int (x6)), d7] 0 0 40 [] := by
  unfold F_X12_fewest_40 at h
  refine r_iload DX12_fewest_40 rfl ?_
  refine r_iload_n DX12_fewest_42 rfl ?_
  refine r_icmp_gt DX12_fewest_43 (fun c1 => ?_) (fun c1 => ?_)
  · have h := if_t c1 h
    exact hkx137 hR h
  · have h := if_f c1 h
    refine r_iload DX12_fewest_46 rfl ?_
    refine r_iload_n DX12_fewest_48 rfl ?_
    refine r_iconst (v := -1) DX12_fewest_49 ki_m1 ?_
    refine r_ixor DX12_fewest_50 ?_
    refine r_iand DX12_fewest_51 ?_
    refine r_if_ne DX12_fewest_52 (fun c2 => ?_) (fun c2 => ?_)
    · have h := if_f c2 h
      exact S_X12_fewest_131 (fun hR h => hkh hR h) (fun hR h => hkx137 hR h) hp hR h
    · have h := if_t c2 h
      refine r_aload_n DX12_fewest_55 rfl ?_
      refine r_iload DX12_fewest_56 rfl ?_
      refine r_iload_n DX12_fewest_58 rfl ?_
      obtain ⟨r3, V4, hc5, h⟩ := bd_inv h
      refine k_callV (As := [.int (x6), .int (x3)]) (rest := []) (st1 := [.int (r3)]) (w := some (.int r3)) DX12_fewest_59 cv_X12_473 hR ct_2200 (one_cnt _) rfl (C_X12_hasTown (out := (r3, V4)) (cxL X) hR hc5) rfl (by decide) (by decide) rfl (Nat.le_of_ble_eq_true rfl) rfl (fun M hR => ?_)
      refine r_if_ne DX12_fewest_62 (fun c6 => ?_) (fun c6 => ?_)
      · have h := if_f c6 h
        refine r_aload_n DX12_fewest_68 rfl ?_
        refine r_iload_n DX12_fewest_69 rfl ?_
        refine r_iload DX12_fewest_70 rfl ?_
        refine r_iload_n DX12_fewest_72 rfl ?_
        obtain ⟨r7, V8, hc9, h⟩ := bd_inv h
        refine k_callV (As := [.int (x1), .int (x6), .int (x2)]) (rest := []) (st1 := [.int (r7)]) (w := some (.int r7)) DX12_fewest_73 cv_X12_470 hR ct_2200 (one_cnt _) rfl (C_X12_neededBy (out := (r7, V8)) (cxL X) hR hc9) rfl (by decide) (by decide) rfl (Nat.le_of_ble_eq_true rfl) rfl (fun M hR => ?_)
        refine t_istore (L' := [some (.ref (ad 2200 0)), some (.int (x1)), some (.int (x2)), some (.int (x3)), some (.int (x4)), some (.int (x5)), some (.int (x6)), some (.int (r7))]) DX12_fewest_76 (by decide) rfl ?_
        refine r_iload DX12_fewest_78 rfl ?_
        refine r_iconst (v := -1) DX12_fewest_80 ki_m1 ?_
        refine r_icmp_ne DX12_fewest_81 (fun c10 => ?_) (fun c10 => ?_)
        · have h := if_f c10 h
          refine r_iload DX12_fewest_87 rfl ?_
          refine r_iconst (v := -1) DX12_fewest_89 ki_m1 ?_
          refine r_icmp_eq DX12_fewest_90 (fun c11 => ?_) (fun c11 => ?_)
          · have h := if_t c11 h
            exact S_X12_fewest_123 (fun hR h => hkh hR h) (fun hR h => hkx137 hR h) hp hR h
          · have h := if_f c11 h
            refine r_iload DX12_fewest_93 rfl ?_
            refine r_iload DX12_fewest_95 rfl ?_
            refine r_icmp_gt DX12_fewest_97 (fun c12 => ?_) (fun c12 => ?_)
            · have h := if_t c12 h
              exact S_X12_fewest_131 (fun hR h => hkh hR h) (fun hR h => hkx137 hR h) hp hR h
            · have h := if_f c12 h
              refine r_iload DX12_fewest_100 rfl ?_
              refine r_iload DX12_fewest_102 rfl ?_
              refine r_icmp_ne DX12_fewest_104 (fun c13 => ?_) (fun c13 => ?_)
              · have h := if_f c13 h
                exact S_X12_fewest_123 (fun hR h => hkh hR h) (fun hR h => hkx137 hR h) hp hR h
              · have h := if_t c13 h
                refine r_iload DX12_fewest_107 rfl ?_
                obtain ⟨r14, V15, hc16, h⟩ := bd_inv h
                refine k_callS (As := [.int (x6)]) (rest := []) (st1 := [.int (r14)]) (w := some (.int r14)) DX12_fewest_109 cs_X12_464 (C_X12_bits (out := (r14, V15)) (cxL X) hR hc16) rfl (by decide) (by decide) rfl (Nat.le_of_ble_eq_true rfl) rfl (fun M hR => ?_)
                refine r_iload DX12_fewest_112 rfl ?_
                obtain ⟨r17, V18, hc19, h⟩ := bd_inv h
                refine k_callS (As := [.int (x4)]) (rest := [.int (r14)]) (st1 := [.int (r17), .int (r14)]) (w := some (.int r17)) DX12_fewest_114 cs_X12_464 (C_X12_bits (out := (r17, V18)) (cxL X) hR hc19) rfl (by decide) (by decide) rfl (Nat.le_of_ble_eq_true rfl) rfl (fun M hR => ?_)
                refine r_icmp_lt DX12_fewest_117 (fun c20 => ?_) (fun c20 => ?_)
                · have h := if_t c20 h
                  exact S_X12_fewest_123 (fun hR h => hkh hR h) (fun hR h => hkx137 hR h) hp hR h
                · have h := if_f c20 h
                  refine r_goto DX12_fewest_120 ?_
                  exact S_X12_fewest_131 (fun hR h => hkh hR h) (fun hR h => hkx137 hR h) hp hR h
        · have h := if_t c10 h
          refine r_goto DX12_fewest_84 ?_
          exact S_X12_fewest_131 (fun hR h => hkh hR h) (fun hR h => hkx137 hR h) hp hR h
      · have h := if_t c6 h
        refine r_goto DX12_fewest_65 ?_
        exact S_X12_fewest_131 (fun hR h => hkh hR h) (fun hR h => hkx137 hR h) hp hR h
theorem SL_X12_fewest_40 {E : EN} {X : CX} {P : Option Value → MH → Prop} {ad : AD} {fu : Nat} {out : Int32 × St} {kx137 : St → Int32 → RR} (hkx137 : ∀ {V : St} {M : MH} {x4 : Int32} {d0 : Option Value} {d1 : Option Value} {d2 : Option Value} {d3 : Option Value} {d5 : Option Value} {d6 : Option Value} {d7 : Option Value}, Rep E ad V M → kx137 V x4 = some out → G E X RX12 cX12_fewest 8 (some .int) false (rmD 3) P M [d0, d1, d2, d3, some (.int (x4)), d5, d6, d7] 0 0 137 []) (hp : ∀ M, Rep E ad out.2 M → P (some (.int out.1)) M) : ∀ (n : Nat) {V : St} {M : MH} {x1 : Int32} {x2 : Int32} {x3 : Int32} {x4 : Int32} {x5 : Int32} {x6 : Int32} {d7 : Option Value}, Rep E ad V M → Lp_X12_fewest_40 kx137 fu n V x1 x2 x3 x4 x5 x6 = some out → G E X RX12 cX12_fewest 8 (some .int) false (rmD 3) P M [some (.ref (ad 2200 0)), some (.int (x1)), some (.int (x2)), some (.int (x3)), some (.int (x4)), some (.int (x5)), some (.int (x6)), d7] 0 0 40 [] := by
  intro n
  induction n with
  | zero => intros; rename_i h; cases h
  | succ n ih => exact fun hR h => S_X12_fewest_40 (fun hR h => ih hR h) (fun hR h => hkx137 hR h) hp hR h
theorem S_X12_fewest_29 {E : EN} {X : CX} {P : Option Value → MH → Prop} {ad : AD} {fu : Nat} {out : Int32 × St} (hp : ∀ M, Rep E ad out.2 M → P (some (.int out.1)) M) {V : St} {M : MH} {d0 : Option Value} {d1 : Option Value} {d2 : Option Value} {d3 : Option Value} {d4 : Option Value} {d5 : Option Value} {d6 : Option Value} {d7 : Option Value} (hR : Rep E ad V M) (h : F_X12_fewest_29 fu V = some out) : G E X RX12 cX12_fewest 8 (some .int) false (rmD 3) P M [d0, d1, d2, d3, d4, d5, d6, d7] 0 0 29 [] := by
  unfold F_X12_fewest_29 at h
  refine r_iconst (v := -1) DX12_fewest_29 ki_m1 ?_
  cases h
  exact r_iret DX12_fewest_30 rfl ⟨Nat.le_refl 0, Nat.le_refl 0⟩ (hp M hR)
theorem S_X12_fewest_0 {E : EN} {X : CX} {P : Option Value → MH → Prop} {ad : AD} {fu : Nat} {out : Int32 × St} (hp : ∀ M, Rep E ad out.2 M → P (some (.int out.1)) M) {V : St} {M : MH} {x1 : Int32} {x2 : Int32} {x3 : Int32} (hR : Rep E ad V M) (h : f_X12_fewest fu V x1 x2 x3 = some out) : G E X RX12 cX12_fewest 8 (some .int) false (rmD 3) P M [some (.ref (ad 2200 0)), some (.int (x1)), some (.int (x2)), some (.int (x3)), none, none, none, none] 0 0 0 [] := by
  unfold f_X12_fewest at h
  refine r_aload_n DX12_fewest_0 rfl ?_
  refine r_iload_n DX12_fewest_1 rfl ?_
  obtain ⟨r1, V2, hc3, h⟩ := bd_inv h
  refine k_callV (As := [.int (x1)]) (rest := []) (st1 := [.int (r1)]) (w := some (.int r1)) DX12_fewest_2 cv_X12_467 hR ct_2200 (one_cnt _) rfl (C_X12_areTold (out := (r1, V2)) (cxL X) hR hc3) rfl (by decide) (by decide) rfl (Nat.le_of_ble_eq_true rfl) rfl (fun M hR => ?_)
  refine r_if_eq DX12_fewest_5 (fun c4 => ?_) (fun c4 => ?_)
  · have h := if_t c4 h
    exact S_X12_fewest_29 hp hR h
  · have h := if_f c4 h
    refine r_iload_n DX12_fewest_8 rfl ?_
    refine r_iconst (v := 1) DX12_fewest_9 ki_1 ?_
    refine r_ldcw (v := 100000) DX12_fewest_10 ck_X12_257 ?_
    obtain ⟨r5, V6, hc7, h⟩ := bd_inv h
    refine k_callS (As := [.int (x2), .int ((1 : Int32)), .int ((100000 : Int32))]) (rest := []) (st1 := [.int (r5)]) (w := some (.int r5)) DX12_fewest_13 cs_X12_245 (C_X12_in (out := (r5, V6)) (cxL X) hR hc7) rfl (by decide) (by decide) rfl (Nat.le_of_ble_eq_true rfl) rfl (fun M hR => ?_)
    refine r_if_eq DX12_fewest_16 (fun c8 => ?_) (fun c8 => ?_)
    · have h := if_t c8 h
      exact S_X12_fewest_29 hp hR h
    · have h := if_f c8 h
      refine r_iload_n DX12_fewest_19 rfl ?_
      refine r_iconst (v := -1) DX12_fewest_20 ki_m1 ?_
      refine r_bipush (v := 7) DX12_fewest_21 kb_7 ?_
      obtain ⟨r9, V10, hc11, h⟩ := bd_inv h
      refine k_callS (As := [.int (x3), .int ((-1 : Int32)), .int ((7 : Int32))]) (rest := []) (st1 := [.int (r9)]) (w := some (.int r9)) DX12_fewest_23 cs_X12_245 (C_X12_in (out := (r9, V10)) (cxL X) hR hc11) rfl (by decide) (by decide) rfl (Nat.le_of_ble_eq_true rfl) rfl (fun M hR => ?_)
      refine r_if_ne DX12_fewest_26 (fun c12 => ?_) (fun c12 => ?_)
      · have h := if_f c12 h
        refine r_iconst (v := -1) DX12_fewest_31 ki_m1 ?_
        refine t_istore (L' := [some (.ref (ad 2200 0)), some (.int (x1)), some (.int (x2)), some (.int (x3)), some (.int ((-1 : Int32))), none, none, none]) DX12_fewest_32 (by decide) rfl ?_
        refine r_iconst (v := 0) DX12_fewest_34 ki_0 ?_
        refine t_istore (L' := [some (.ref (ad 2200 0)), some (.int (x1)), some (.int (x2)), some (.int (x3)), some (.int ((-1 : Int32))), some (.int ((0 : Int32))), none, none]) DX12_fewest_35 (by decide) rfl ?_
        refine r_iconst (v := 1) DX12_fewest_37 ki_1 ?_
        refine t_istore (L' := [some (.ref (ad 2200 0)), some (.int (x1)), some (.int (x2)), some (.int (x3)), some (.int ((-1 : Int32))), some (.int ((0 : Int32))), some (.int ((1 : Int32))), none]) DX12_fewest_38 (by decide) rfl ?_
        exact SL_X12_fewest_40 (fun hR h => S_X12_fewest_137 hp hR h) hp fu hR h
      · have h := if_t c12 h
        exact S_X12_fewest_29 hp hR h
theorem C_X12_fewest {E : EN} {ad : AD} {fu : Nat} {out : Int32 × St} {V : St} {M : MH} {x1 : Int32} {x2 : Int32} {x3 : Int32} (l : Launch) (hR : Rep E ad V M) (h : f_X12_fewest fu V x1 x2 x3 = some out) : Ct E l yX12_fewest cX12_fewest 8 (some .int) (rmD 3) [.ref (ad 2200 0), .int (x1), .int (x2), .int (x3)] M (fun v M => v = (some (.int out.1)) ∧ Rep E ad out.2 M) :=
  Ct.of (own := RX12) (ini := false) (L := [some (.ref (ad 2200 0)), some (.int (x1)), some (.int (x2)), some (.int (x3)), none, none, none, none]) rfl rfl (fun h => by cases h) rfl (Nat.le_of_ble_eq_true rfl) rfl (fun X _ => S_X12_fewest_0 (fun M hR => ⟨rfl, hR⟩) hR h)
theorem S_X12_first_60 {E : EN} {X : CX} {P : Option Value → MH → Prop} {ad : AD} {fu : Nat} {out : Int32 × St} (hp : ∀ M, Rep E ad out.2 M → P (some (.int out.1)) M) {V : St} {M : MH} {d0 : Option Value} {d1 : Option Value} {d2 : Option Value} {d3 : Option Value} (hR : Rep E ad V M) (h : F_X12_first_60 fu V = some out) : G E X RX12 cX12_first 4 (some .int) false (rmD 3) P M [d0, d1, d2, d3] 0 0 60 [] := by
  unfold F_X12_first_60 at h
  refine r_iconst (v := -1) DX12_first_60 ki_m1 ?_
  cases h
  exact r_iret DX12_first_61 rfl ⟨Nat.le_refl 0, Nat.le_refl 0⟩ (hp M hR)
theorem S_X12_first_54 {E : EN} {X : CX} {P : Option Value → MH → Prop} {ad : AD} {fu : Nat} {out : Int32 × St} {kh : St → Int32 → Int32 → Int32 → RR} {kx52 : St → Int32 → RR} {kx60 : St → RR} (hkh : ∀ {V : St} {M : MH} {x1 : Int32} {x2 : Int32} {x3 : Int32}, Rep E ad V M → kh V x1 x2 x3 = some out → G E X RX12 cX12_first 4 (some .int) false (rmD 3) P M [some (.ref (ad 2200 0)), some (.int (x1)), some (.int (x2)), some (.int (x3))] 0 0 16 []) (hkx52 : ∀ {V : St} {M : MH} {x3 : Int32} {d0 : Option Value} {d1 : Option Value} {d2 : Option Value}, Rep E ad V M → kx52 V x3 = some out → G E X RX12 cX12_first 4 (some .int) false (rmD 3) P M [d0, d1, d2, some (.int (x3))] 0 0 52 []) (hkx60 : ∀ {V : St} {M : MH} {d0 : Option Value} {d1 : Option Value} {d2 : Option Value} {d3 : Option Value}, Rep E ad V M → kx60 V  = some out → G E X RX12 cX12_first 4 (some .int) false (rmD 3) P M [d0, d1, d2, d3] 0 0 60 []) (hp : ∀ M, Rep E ad out.2 M → P (some (.int out.1)) M) {V : St} {M : MH} {x1 : Int32} {x2 : Int32} {x3 : Int32} (hR : Rep E ad V M) (h : F_X12_first_54 kh kx52 kx60 fu V x1 x2 x3 = some out) : G E X RX12 cX12_first 4 (some .int) false (rmD 3) P M [some (.ref (ad 2200 0)), some (.int (x1)), some (.int (x2)), some (.int (x3))] 0 0 54 [] := by
  unfold F_X12_first_54 at h
  refine t_iinc (v := 1) (L' := [some (.ref (ad 2200 0)), some (.int (x1)), some (.int (x2)), some (.int (x3 + 1))]) DX12_first_54 rfl ki_1 (by decide) rfl ?_
  refine r_goto DX12_first_57 ?_
  exact hkh hR h
theorem S_X12_first_52 {E : EN} {X : CX} {P : Option Value → MH → Prop} {ad : AD} {fu : Nat} {out : Int32 × St} (hp : ∀ M, Rep E ad out.2 M → P (some (.int out.1)) M) {V : St} {M : MH} {x3 : Int32} {d0 : Option Value} {d1 : Option Value} {d2 : Option Value} (hR : Rep E ad V M) (h : F_X12_first_52 fu V x3 = some out) : G E X RX12 cX12_first 4 (some .int) false (rmD 3) P M [d0, d1, d2, some (.int (x3))] 0 0 52 [] := by
  unfold F_X12_first_52 at h
  refine r_iload_n DX12_first_52 rfl ?_
  cases h
  exact r_iret DX12_first_53 rfl ⟨Nat.le_refl 0, Nat.le_refl 0⟩ (hp M hR)
theorem S_X12_first_16 {E : EN} {X : CX} {P : Option Value → MH → Prop} {ad : AD} {fu : Nat} {out : Int32 × St} {kh : St → Int32 → Int32 → Int32 → RR} {kx52 : St → Int32 → RR} {kx60 : St → RR} (hkh : ∀ {V : St} {M : MH} {x1 : Int32} {x2 : Int32} {x3 : Int32}, Rep E ad V M → kh V x1 x2 x3 = some out → G E X RX12 cX12_first 4 (some .int) false (rmD 3) P M [some (.ref (ad 2200 0)), some (.int (x1)), some (.int (x2)), some (.int (x3))] 0 0 16 []) (hkx52 : ∀ {V : St} {M : MH} {x3 : Int32} {d0 : Option Value} {d1 : Option Value} {d2 : Option Value}, Rep E ad V M → kx52 V x3 = some out → G E X RX12 cX12_first 4 (some .int) false (rmD 3) P M [d0, d1, d2, some (.int (x3))] 0 0 52 []) (hkx60 : ∀ {V : St} {M : MH} {d0 : Option Value} {d1 : Option Value} {d2 : Option Value} {d3 : Option Value}, Rep E ad V M → kx60 V  = some out → G E X RX12 cX12_first 4 (some .int) false (rmD 3) P M [d0, d1, d2, d3] 0 0 60 []) (hp : ∀ M, Rep E ad out.2 M → P (some (.int out.1)) M) {V : St} {M : MH} {x1 : Int32} {x2 : Int32} {x3 : Int32} (hR : Rep E ad V M) (h : F_X12_first_16 kh kx52 kx60 fu V x1 x2 x3 = some out) : G E X RX12 cX12_first 4 (some .int) false (rmD 3) P M [some (.ref (ad 2200 0)), some (.int (x1)), some (.int (x2)), some (.int (x3))] 0 0 16 [] := by
  unfold F_X12_first_16 at h
  refine r_iload_n DX12_first_16 rfl ?_
  refine r_aload_n DX12_first_17 rfl ?_
  refine s_geti DX12_first_18 fl_X12_449 hR ct_2200 (one_cnt _) rfl ?_
  refine r_icmp_ge DX12_first_21 (fun c1 => ?_) (fun c1 => ?_)
  · have h := if_t c1 h
    exact hkx60 hR h
  · have h := if_f c1 h
    refine r_aload_n DX12_first_24 rfl ?_
    refine s_geta DX12_first_25 fl_X12_209 hR ct_2200 (one_cnt _) rfl ?_
    refine r_iload_n DX12_first_28 rfl ?_
    obtain ⟨hg2, h⟩ := gd_inv h
    refine s_zald DX12_first_29 hR ct_2285 (one_cnt _) hg2 ?_
    refine r_if_eq DX12_first_30 (fun c3 => ?_) (fun c3 => ?_)
    · have h := if_t c3 h
      exact S_X12_first_54 (fun hR h => hkh hR h) (fun hR h => hkx52 hR h) (fun hR h => hkx60 hR h) hp hR h
    · have h := if_f c3 h
      refine r_aload_n DX12_first_33 rfl ?_
      refine s_geta DX12_first_34 fl_X12_200 hR ct_2200 (one_cnt _) rfl ?_
      refine r_iload_n DX12_first_37 rfl ?_
      obtain ⟨hg4, h⟩ := gd_inv h
      refine s_iald DX12_first_38 hR ct_2282 (one_cnt _) hg4 ?_
      refine r_iload_n DX12_first_39 rfl ?_
      refine r_icmp_ne DX12_first_40 (fun c5 => ?_) (fun c5 => ?_)
      · have h := if_f c5 h
        exact S_X12_first_54 (fun hR h => hkh hR h) (fun hR h => hkx52 hR h) (fun hR h => hkx60 hR h) hp hR h
      · have h := if_t c5 h
        refine r_aload_n DX12_first_43 rfl ?_
        refine r_iload_n DX12_first_44 rfl ?_
        obtain ⟨r6, V7, hc8, h⟩ := bd_inv h
        refine k_callV (As := [.int (x3)]) (rest := []) (st1 := [.int (r6)]) (w := some (.int r6)) DX12_first_45 cv_X12_455 hR ct_2200 (one_cnt _) rfl (C_X12_aheadOf (out := (r6, V7)) (cxL X) hR hc8) rfl (by decide) (by decide) rfl (Nat.le_of_ble_eq_true rfl) rfl (fun M hR => ?_)
        refine r_iload_n DX12_first_48 rfl ?_
        refine r_icmp_ne DX12_first_49 (fun c9 => ?_) (fun c9 => ?_)
        · have h := if_f c9 h
          exact S_X12_first_54 (fun hR h => hkh hR h) (fun hR h => hkx52 hR h) (fun hR h => hkx60 hR h) hp hR h
        · have h := if_t c9 h
          exact hkx52 hR h
theorem SL_X12_first_16 {E : EN} {X : CX} {P : Option Value → MH → Prop} {ad : AD} {fu : Nat} {out : Int32 × St} {kx52 : St → Int32 → RR} {kx60 : St → RR} (hkx52 : ∀ {V : St} {M : MH} {x3 : Int32} {d0 : Option Value} {d1 : Option Value} {d2 : Option Value}, Rep E ad V M → kx52 V x3 = some out → G E X RX12 cX12_first 4 (some .int) false (rmD 3) P M [d0, d1, d2, some (.int (x3))] 0 0 52 []) (hkx60 : ∀ {V : St} {M : MH} {d0 : Option Value} {d1 : Option Value} {d2 : Option Value} {d3 : Option Value}, Rep E ad V M → kx60 V  = some out → G E X RX12 cX12_first 4 (some .int) false (rmD 3) P M [d0, d1, d2, d3] 0 0 60 []) (hp : ∀ M, Rep E ad out.2 M → P (some (.int out.1)) M) : ∀ (n : Nat) {V : St} {M : MH} {x1 : Int32} {x2 : Int32} {x3 : Int32}, Rep E ad V M → Lp_X12_first_16 kx52 kx60 fu n V x1 x2 x3 = some out → G E X RX12 cX12_first 4 (some .int) false (rmD 3) P M [some (.ref (ad 2200 0)), some (.int (x1)), some (.int (x2)), some (.int (x3))] 0 0 16 [] := by
  intro n
  induction n with
  | zero => intros; rename_i h; cases h
  | succ n ih => exact fun hR h => S_X12_first_16 (fun hR h => ih hR h) (fun hR h => hkx52 hR h) (fun hR h => hkx60 hR h) hp hR h
theorem S_X12_first_12 {E : EN} {X : CX} {P : Option Value → MH → Prop} {ad : AD} {fu : Nat} {out : Int32 × St} (hp : ∀ M, Rep E ad out.2 M → P (some (.int out.1)) M) {V : St} {M : MH} {d0 : Option Value} {d1 : Option Value} {d2 : Option Value} {d3 : Option Value} (hR : Rep E ad V M) (h : F_X12_first_12 fu V = some out) : G E X RX12 cX12_first 4 (some .int) false (rmD 3) P M [d0, d1, d2, d3] 0 0 12 [] := by
  unfold F_X12_first_12 at h
  refine r_iconst (v := -1) DX12_first_12 ki_m1 ?_
  cases h
  exact r_iret DX12_first_13 rfl ⟨Nat.le_refl 0, Nat.le_refl 0⟩ (hp M hR)
theorem S_X12_first_0 {E : EN} {X : CX} {P : Option Value → MH → Prop} {ad : AD} {fu : Nat} {out : Int32 × St} (hp : ∀ M, Rep E ad out.2 M → P (some (.int out.1)) M) {V : St} {M : MH} {x1 : Int32} {x2 : Int32} (hR : Rep E ad V M) (h : f_X12_first fu V x1 x2 = some out) : G E X RX12 cX12_first 4 (some .int) false (rmD 3) P M [some (.ref (ad 2200 0)), some (.int (x1)), some (.int (x2)), none] 0 0 0 [] := by
  unfold f_X12_first at h
  refine r_aload_n DX12_first_0 rfl ?_
  refine r_iload_n DX12_first_1 rfl ?_
  obtain ⟨r1, V2, hc3, h⟩ := bd_inv h
  refine k_callV (As := [.int (x1)]) (rest := []) (st1 := [.int (r1)]) (w := some (.int r1)) DX12_first_2 cv_X12_271 hR ct_2200 (one_cnt _) rfl (C_X12_isThing (out := (r1, V2)) (cxL X) hR hc3) rfl (by decide) (by decide) rfl (Nat.le_of_ble_eq_true rfl) rfl (fun M hR => ?_)
  refine r_if_eq DX12_first_5 (fun c4 => ?_) (fun c4 => ?_)
  · have h := if_t c4 h
    exact S_X12_first_12 hp hR h
  · have h := if_f c4 h
    refine r_iload_n DX12_first_8 rfl ?_
    refine r_if_ge DX12_first_9 (fun c5 => ?_) (fun c5 => ?_)
    · have h := if_t c5 h
      refine r_iconst (v := 0) DX12_first_14 ki_0 ?_
      refine t_istore_n (L' := [some (.ref (ad 2200 0)), some (.int (x1)), some (.int (x2)), some (.int ((0 : Int32)))]) DX12_first_15 (by decide) rfl ?_
      exact SL_X12_first_16 (fun hR h => S_X12_first_52 hp hR h) (fun hR h => S_X12_first_60 hp hR h) hp fu hR h
    · have h := if_f c5 h
      exact S_X12_first_12 hp hR h
theorem C_X12_first {E : EN} {ad : AD} {fu : Nat} {out : Int32 × St} {V : St} {M : MH} {x1 : Int32} {x2 : Int32} (l : Launch) (hR : Rep E ad V M) (h : f_X12_first fu V x1 x2 = some out) : Ct E l yX12_first cX12_first 4 (some .int) (rmD 3) [.ref (ad 2200 0), .int (x1), .int (x2)] M (fun v M => v = (some (.int out.1)) ∧ Rep E ad out.2 M) :=
  Ct.of (own := RX12) (ini := false) (L := [some (.ref (ad 2200 0)), some (.int (x1)), some (.int (x2)), none]) rfl rfl (fun h => by cases h) rfl (Nat.le_of_ble_eq_true rfl) rfl (fun X _ => S_X12_first_0 (fun M hR => ⟨rfl, hR⟩) hR h)
theorem S_X12_goes_112 {E : EN} {X : CX} {P : Option Value → MH → Prop} {ad : AD} {fu : Nat} {out : Int32 × St} (hp : ∀ M, Rep E ad out.2 M → P (some (.int out.1)) M) {V : St} {M : MH} {d1 : Option Value} {d2 : Option Value} (hR : Rep E ad V M) (h : F_X12_goes_112 fu V = some out) : G E X RX12 cX12_goes 3 (some .int) false (rmD 6) P M [some (.ref (ad 2200 0)), d1, d2] 0 0 112 [] := by
  unfold F_X12_goes_112 at h
  refine r_aload_n DX12_goes_112 rfl ?_
  refine s_geti DX12_goes_113 fl_X12_400 hR ct_2200 (one_cnt _) rfl ?_
  cases h
  exact r_iret DX12_goes_116 rfl ⟨Nat.le_refl 0, Nat.le_refl 0⟩ (hp M hR)
theorem S_X12_goes_105 {E : EN} {X : CX} {P : Option Value → MH → Prop} {ad : AD} {fu : Nat} {out : Int32 × St} {kh : St → Int32 → Int32 → RR} {kx112 : St → RR} (hkh : ∀ {V : St} {M : MH} {x1 : Int32} {x2 : Int32}, Rep E ad V M → kh V x1 x2 = some out → G E X RX12 cX12_goes 3 (some .int) false (rmD 6) P M [some (.ref (ad 2200 0)), some (.int (x1)), some (.int (x2))] 0 0 64 []) (hkx112 : ∀ {V : St} {M : MH} {d1 : Option Value} {d2 : Option Value}, Rep E ad V M → kx112 V  = some out → G E X RX12 cX12_goes 3 (some .int) false (rmD 6) P M [some (.ref (ad 2200 0)), d1, d2] 0 0 112 []) (hp : ∀ M, Rep E ad out.2 M → P (some (.int out.1)) M) {V : St} {M : MH} {x1 : Int32} {x2 : Int32} {s0 : Int32} {s1 : Int32} (hR : Rep E ad V M) (h : F_X12_goes_105 kh kx112 fu V x1 x2 s0 s1 = some out) : G E X RX12 cX12_goes 3 (some .int) false (rmD 6) P M [some (.ref (ad 2200 0)), some (.int (x1)), some (.int (x2))] 0 0 105 [.int (s0), .int (s1), .ref (ad 2278 (0))] := by
  unfold F_X12_goes_105 at h
  obtain ⟨hg1, h⟩ := gd_inv h
  obtain ⟨V2, hv3, h⟩ := bv_inv h
  refine s_iast DX12_goes_105 hR oka_2278 ct_2278 (one_cnt _) hg1 (fun M hR => ?_)
  have hR := hR.cg hv3
  refine t_iinc (v := 1) (L' := [some (.ref (ad 2200 0)), some (.int (x1)), some (.int (x2 + 1))]) DX12_goes_106 rfl ki_1 (by decide) rfl ?_
  refine r_goto DX12_goes_109 ?_
  exact hkh hR h
theorem S_X12_goes_64 {E : EN} {X : CX} {P : Option Value → MH → Prop} {ad : AD} {fu : Nat} {out : Int32 × St} {kh : St → Int32 → Int32 → RR} {kx112 : St → RR} (hkh : ∀ {V : St} {M : MH} {x1 : Int32} {x2 : Int32}, Rep E ad V M → kh V x1 x2 = some out → G E X RX12 cX12_goes 3 (some .int) false (rmD 6) P M [some (.ref (ad 2200 0)), some (.int (x1)), some (.int (x2))] 0 0 64 []) (hkx112 : ∀ {V : St} {M : MH} {d1 : Option Value} {d2 : Option Value}, Rep E ad V M → kx112 V  = some out → G E X RX12 cX12_goes 3 (some .int) false (rmD 6) P M [some (.ref (ad 2200 0)), d1, d2] 0 0 112 []) (hp : ∀ M, Rep E ad out.2 M → P (some (.int out.1)) M) {V : St} {M : MH} {x1 : Int32} {x2 : Int32} (hR : Rep E ad V M) (h : F_X12_goes_64 kh kx112 fu V x1 x2 = some out) : G E X RX12 cX12_goes 3 (some .int) false (rmD 6) P M [some (.ref (ad 2200 0)), some (.int (x1)), some (.int (x2))] 0 0 64 [] := by
  unfold F_X12_goes_64 at h
  refine r_iload_n DX12_goes_64 rfl ?_
  refine r_aload_n DX12_goes_65 rfl ?_
  refine s_geti DX12_goes_66 fl_X12_440 hR ct_2200 (one_cnt _) rfl ?_
  refine r_icmp_ge DX12_goes_69 (fun c1 => ?_) (fun c1 => ?_)
  · have h := if_t c1 h
    exact hkx112 hR h
  · have h := if_f c1 h
    refine r_aload_n DX12_goes_72 rfl ?_
    refine s_geta DX12_goes_73 fl_X12_191 hR ct_2200 (one_cnt _) rfl ?_
    refine r_iload_n DX12_goes_76 rfl ?_
    refine r_aload_n DX12_goes_77 rfl ?_
    refine s_geta DX12_goes_78 fl_X12_191 hR ct_2200 (one_cnt _) rfl ?_
    refine r_iload_n DX12_goes_81 rfl ?_
    obtain ⟨hg2, h⟩ := gd_inv h
    refine s_iald DX12_goes_82 hR ct_2278 (one_cnt _) hg2 ?_
    refine r_iload_n DX12_goes_83 rfl ?_
    refine r_iadd DX12_goes_84 ?_
    refine r_ldcw (v := 1000000) DX12_goes_85 ck_X12_297 ?_
    refine r_icmp_le DX12_goes_88 (fun c3 => ?_) (fun c3 => ?_)
    · have h := if_t c3 h
      refine r_aload_n DX12_goes_97 rfl ?_
      refine s_geta DX12_goes_98 fl_X12_191 hR ct_2200 (one_cnt _) rfl ?_
      refine r_iload_n DX12_goes_101 rfl ?_
      obtain ⟨hg4, h⟩ := gd_inv h
      refine s_iald DX12_goes_102 hR ct_2278 (one_cnt _) hg4 ?_
      refine r_iload_n DX12_goes_103 rfl ?_
      refine r_iadd DX12_goes_104 ?_
      exact S_X12_goes_105 (fun hR h => hkh hR h) (fun hR h => hkx112 hR h) hp hR h
    · have h := if_f c3 h
      refine r_ldcw (v := 1000000) DX12_goes_91 ck_X12_297 ?_
      refine r_goto DX12_goes_94 ?_
      exact S_X12_goes_105 (fun hR h => hkh hR h) (fun hR h => hkx112 hR h) hp hR h
theorem SL_X12_goes_64 {E : EN} {X : CX} {P : Option Value → MH → Prop} {ad : AD} {fu : Nat} {out : Int32 × St} {kx112 : St → RR} (hkx112 : ∀ {V : St} {M : MH} {d1 : Option Value} {d2 : Option Value}, Rep E ad V M → kx112 V  = some out → G E X RX12 cX12_goes 3 (some .int) false (rmD 6) P M [some (.ref (ad 2200 0)), d1, d2] 0 0 112 []) (hp : ∀ M, Rep E ad out.2 M → P (some (.int out.1)) M) : ∀ (n : Nat) {V : St} {M : MH} {x1 : Int32} {x2 : Int32}, Rep E ad V M → Lp_X12_goes_64 kx112 fu n V x1 x2 = some out → G E X RX12 cX12_goes 3 (some .int) false (rmD 6) P M [some (.ref (ad 2200 0)), some (.int (x1)), some (.int (x2))] 0 0 64 [] := by
  intro n
  induction n with
  | zero => intros; rename_i h; cases h
  | succ n ih => exact fun hR h => S_X12_goes_64 (fun hR h => ih hR h) (fun hR h => hkx112 hR h) hp hR h
theorem S_X12_goes_45 {E : EN} {X : CX} {P : Option Value → MH → Prop} {ad : AD} {fu : Nat} {out : Int32 × St} (hp : ∀ M, Rep E ad out.2 M → P (some (.int out.1)) M) {V : St} {M : MH} {d1 : Option Value} {d2 : Option Value} (hR : Rep E ad V M) (h : F_X12_goes_45 fu V = some out) : G E X RX12 cX12_goes 3 (some .int) false (rmD 6) P M [some (.ref (ad 2200 0)), d1, d2] 0 0 45 [] := by
  unfold F_X12_goes_45 at h
  refine r_aload_n DX12_goes_45 rfl ?_
  refine r_bipush (v := 103) DX12_goes_46 kb_103 ?_
  refine r_iconst (v := -1) DX12_goes_48 ki_m1 ?_
  refine r_iconst (v := -1) DX12_goes_49 ki_m1 ?_
  refine r_aload_n DX12_goes_50 rfl ?_
  refine s_geti DX12_goes_51 fl_X12_400 hR ct_2200 (one_cnt _) rfl ?_
  refine r_aload_n DX12_goes_54 rfl ?_
  refine s_geti DX12_goes_55 fl_X12_400 hR ct_2200 (one_cnt _) rfl ?_
  obtain ⟨r1, V2, hc3, h⟩ := bd_inv h
  refine k_callV (As := [.int ((103 : Int32)), .int ((-1 : Int32)), .int ((-1 : Int32)), .int ((V 2201 0 0)), .int ((V 2201 0 0))]) (rest := []) (st1 := [.int (r1)]) (w := some (.int r1)) DX12_goes_58 cv_X12_430 hR ct_2200 (one_cnt _) rfl (C_X12_orNothing (out := (r1, V2)) (cxL X) hR hc3) rfl (by decide) (by decide) rfl (Nat.le_of_ble_eq_true rfl) rfl (fun M hR => ?_)
  refine t_istore_n (L' := [some (.ref (ad 2200 0)), some (.int (r1)), d2]) DX12_goes_61 (by decide) rfl ?_
  refine r_iconst (v := 0) DX12_goes_62 ki_0 ?_
  refine t_istore_n (L' := [some (.ref (ad 2200 0)), some (.int (r1)), some (.int ((0 : Int32)))]) DX12_goes_63 (by decide) rfl ?_
  exact SL_X12_goes_64 (fun hR h => S_X12_goes_112 hp hR h) hp fu hR h
theorem S_X12_goes_24 {E : EN} {X : CX} {P : Option Value → MH → Prop} {ad : AD} {fu : Nat} {out : Int32 × St} {kh : St → Int32 → RR} {kx45 : St → RR} (hkh : ∀ {V : St} {M : MH} {x1 : Int32} {d2 : Option Value}, Rep E ad V M → kh V x1 = some out → G E X RX12 cX12_goes 3 (some .int) false (rmD 6) P M [some (.ref (ad 2200 0)), some (.int (x1)), d2] 0 0 24 []) (hkx45 : ∀ {V : St} {M : MH} {d1 : Option Value} {d2 : Option Value}, Rep E ad V M → kx45 V  = some out → G E X RX12 cX12_goes 3 (some .int) false (rmD 6) P M [some (.ref (ad 2200 0)), d1, d2] 0 0 45 []) (hp : ∀ M, Rep E ad out.2 M → P (some (.int out.1)) M) {V : St} {M : MH} {x1 : Int32} {d2 : Option Value} (hR : Rep E ad V M) (h : F_X12_goes_24 kh kx45 fu V x1 = some out) : G E X RX12 cX12_goes 3 (some .int) false (rmD 6) P M [some (.ref (ad 2200 0)), some (.int (x1)), d2] 0 0 24 [] := by
  unfold F_X12_goes_24 at h
  refine r_iload_n DX12_goes_24 rfl ?_
  refine r_aload_n DX12_goes_25 rfl ?_
  refine s_geti DX12_goes_26 fl_X12_291 hR ct_2200 (one_cnt _) rfl ?_
  refine r_icmp_ge DX12_goes_29 (fun c1 => ?_) (fun c1 => ?_)
  · have h := if_t c1 h
    exact hkx45 hR h
  · have h := if_f c1 h
    refine r_aload_n DX12_goes_32 rfl ?_
    refine s_geta DX12_goes_33 fl_X12_109 hR ct_2200 (one_cnt _) rfl ?_
    refine r_iload_n DX12_goes_36 rfl ?_
    refine r_iconst (v := 0) DX12_goes_37 ki_0 ?_
    obtain ⟨hg2, h⟩ := gd_inv h
    obtain ⟨V3, hv4, h⟩ := bv_inv h
    refine s_iast DX12_goes_38 hR oka_2239 ct_2239 (one_cnt _) hg2 (fun M hR => ?_)
    have hR := hR.cg hv4
    refine t_iinc (v := 1) (L' := [some (.ref (ad 2200 0)), some (.int (x1 + 1)), d2]) DX12_goes_39 rfl ki_1 (by decide) rfl ?_
    refine r_goto DX12_goes_42 ?_
    exact hkh hR h
theorem SL_X12_goes_24 {E : EN} {X : CX} {P : Option Value → MH → Prop} {ad : AD} {fu : Nat} {out : Int32 × St} {kx45 : St → RR} (hkx45 : ∀ {V : St} {M : MH} {d1 : Option Value} {d2 : Option Value}, Rep E ad V M → kx45 V  = some out → G E X RX12 cX12_goes 3 (some .int) false (rmD 6) P M [some (.ref (ad 2200 0)), d1, d2] 0 0 45 []) (hp : ∀ M, Rep E ad out.2 M → P (some (.int out.1)) M) : ∀ (n : Nat) {V : St} {M : MH} {x1 : Int32} {d2 : Option Value}, Rep E ad V M → Lp_X12_goes_24 kx45 fu n V x1 = some out → G E X RX12 cX12_goes 3 (some .int) false (rmD 6) P M [some (.ref (ad 2200 0)), some (.int (x1)), d2] 0 0 24 [] := by
  intro n
  induction n with
  | zero => intros; rename_i h; cases h
  | succ n ih => exact fun hR h => S_X12_goes_24 (fun hR h => ih hR h) (fun hR h => hkx45 hR h) hp hR h
theorem S_X12_goes_0 {E : EN} {X : CX} {P : Option Value → MH → Prop} {ad : AD} {fu : Nat} {out : Int32 × St} (hp : ∀ M, Rep E ad out.2 M → P (some (.int out.1)) M) {V : St} {M : MH} (hR : Rep E ad V M) (h : f_X12_goes fu V = some out) : G E X RX12 cX12_goes 3 (some .int) false (rmD 6) P M [some (.ref (ad 2200 0)), none, none] 0 0 0 [] := by
  unfold f_X12_goes at h
  refine r_aload_n DX12_goes_0 rfl ?_
  refine s_geti DX12_goes_1 fl_X12_400 hR ct_2200 (one_cnt _) rfl ?_
  refine r_sipush (v := 499) DX12_goes_4 ks_499 ?_
  refine r_icmp_ne DX12_goes_7 (fun c1 => ?_) (fun c1 => ?_)
  · have h := if_f c1 h
    refine r_aload_n DX12_goes_12 rfl ?_
    refine r_aload_n DX12_goes_13 rfl ?_
    refine s_geti DX12_goes_14 fl_X12_400 hR ct_2200 (one_cnt _) rfl ?_
    refine r_iconst (v := 1) DX12_goes_17 ki_1 ?_
    refine r_iadd DX12_goes_18 ?_
    obtain ⟨V2, hv3, h⟩ := bv_inv h
    refine s_puti DX12_goes_19 fp_X12_400 hR oks_2201 ct_2200 (one_cnt _) rfl rfl rfl (fun M hR => ?_)
    have hR := hR.cg hv3
    refine r_iconst (v := 0) DX12_goes_22 ki_0 ?_
    refine t_istore_n (L' := [some (.ref (ad 2200 0)), some (.int ((0 : Int32))), none]) DX12_goes_23 (by decide) rfl ?_
    exact SL_X12_goes_24 (fun hR h => S_X12_goes_45 hp hR h) hp fu hR h
  · have h := if_t c1 h
    refine r_iconst (v := -1) DX12_goes_10 ki_m1 ?_
    cases h
    exact r_iret DX12_goes_11 rfl ⟨Nat.le_refl 0, Nat.le_refl 0⟩ (hp M hR)
theorem C_X12_goes {E : EN} {ad : AD} {fu : Nat} {out : Int32 × St} {V : St} {M : MH} (l : Launch) (hR : Rep E ad V M) (h : f_X12_goes fu V = some out) : Ct E l yX12_goes cX12_goes 3 (some .int) (rmD 6) [.ref (ad 2200 0)] M (fun v M => v = (some (.int out.1)) ∧ Rep E ad out.2 M) :=
  Ct.of (own := RX12) (ini := false) (L := [some (.ref (ad 2200 0)), none, none]) rfl rfl (fun h => by cases h) rfl (Nat.le_of_ble_eq_true rfl) rfl (fun X _ => S_X12_goes_0 (fun M hR => ⟨rfl, hR⟩) hR h)
theorem S_X12_gone_35 {E : EN} {X : CX} {P : Option Value → MH → Prop} {ad : AD} {fu : Nat} {out : Int32 × St} (hp : ∀ M, Rep E ad out.2 M → P (some (.int out.1)) M) {V : St} {M : MH} {d0 : Option Value} {d1 : Option Value} {d2 : Option Value} (hR : Rep E ad V M) (h : F_X12_gone_35 fu V = some out) : G E X RX12 cX12_gone 3 (some .int) false (rmD 2) P M [d0, d1, d2] 0 0 35 [] := by
  unfold F_X12_gone_35 at h
  refine r_iconst (v := -1) DX12_gone_35 ki_m1 ?_
  cases h
  exact r_iret DX12_gone_36 rfl ⟨Nat.le_refl 0, Nat.le_refl 0⟩ (hp M hR)
theorem S_X12_gone_0 {E : EN} {X : CX} {P : Option Value → MH → Prop} {ad : AD} {fu : Nat} {out : Int32 × St} (hp : ∀ M, Rep E ad out.2 M → P (some (.int out.1)) M) {V : St} {M : MH} {x1 : Int32} {x2 : Int32} (hR : Rep E ad V M) (h : f_X12_gone fu V x1 x2 = some out) : G E X RX12 cX12_gone 3 (some .int) false (rmD 2) P M [some (.ref (ad 2200 0)), some (.int (x1)), some (.int (x2))] 0 0 0 [] := by
  unfold f_X12_gone at h
  refine r_aload_n DX12_gone_0 rfl ?_
  refine r_iload_n DX12_gone_1 rfl ?_
  obtain ⟨r1, V2, hc3, h⟩ := bd_inv h
  refine k_callV (As := [.int (x1)]) (rest := []) (st1 := [.int (r1)]) (w := some (.int r1)) DX12_gone_2 cv_X12_271 hR ct_2200 (one_cnt _) rfl (C_X12_isThing (out := (r1, V2)) (cxL X) hR hc3) rfl (by decide) (by decide) rfl (Nat.le_of_ble_eq_true rfl) rfl (fun M hR => ?_)
  refine r_if_eq DX12_gone_5 (fun c4 => ?_) (fun c4 => ?_)
  · have h := if_t c4 h
    exact S_X12_gone_35 hp hR h
  · have h := if_f c4 h
    refine r_iload_n DX12_gone_8 rfl ?_
    refine r_iconst (v := 1) DX12_gone_9 ki_1 ?_
    refine r_ldcw (v := 100000) DX12_gone_10 ck_X12_257 ?_
    obtain ⟨r5, V6, hc7, h⟩ := bd_inv h
    refine k_callS (As := [.int (x2), .int ((1 : Int32)), .int ((100000 : Int32))]) (rest := []) (st1 := [.int (r5)]) (w := some (.int r5)) DX12_gone_13 cs_X12_245 (C_X12_in (out := (r5, V6)) (cxL X) hR hc7) rfl (by decide) (by decide) rfl (Nat.le_of_ble_eq_true rfl) rfl (fun M hR => ?_)
    refine r_if_eq DX12_gone_16 (fun c8 => ?_) (fun c8 => ?_)
    · have h := if_t c8 h
      exact S_X12_gone_35 hp hR h
    · have h := if_f c8 h
      refine r_aload_n DX12_gone_19 rfl ?_
      refine s_geta DX12_gone_20 fl_X12_61 hR ct_2200 (one_cnt _) rfl ?_
      refine r_iload_n DX12_gone_23 rfl ?_
      obtain ⟨hg9, h⟩ := gd_inv h
      refine s_iald DX12_gone_24 hR ct_2222 (one_cnt _) hg9 ?_
      refine r_aload_n DX12_gone_25 rfl ?_
      refine s_geta DX12_gone_26 fl_X12_58 hR ct_2200 (one_cnt _) rfl ?_
      refine r_iload_n DX12_gone_29 rfl ?_
      obtain ⟨hg10, h⟩ := gd_inv h
      refine s_iald DX12_gone_30 hR ct_2221 (one_cnt _) hg10 ?_
      refine r_iadd DX12_gone_31 ?_
      refine r_if_ne DX12_gone_32 (fun c11 => ?_) (fun c11 => ?_)
      · have h := if_f c11 h
        refine r_aload_n DX12_gone_37 rfl ?_
        refine s_geti DX12_gone_38 fl_X12_400 hR ct_2200 (one_cnt _) rfl ?_
        refine r_aload_n DX12_gone_41 rfl ?_
        refine s_geta DX12_gone_42 fl_X12_61 hR ct_2200 (one_cnt _) rfl ?_
        refine r_iload_n DX12_gone_45 rfl ?_
        obtain ⟨hg12, h⟩ := gd_inv h
        refine s_iald DX12_gone_46 hR ct_2222 (one_cnt _) hg12 ?_
        refine r_aload_n DX12_gone_47 rfl ?_
        refine s_geta DX12_gone_48 fl_X12_58 hR ct_2200 (one_cnt _) rfl ?_
        refine r_iload_n DX12_gone_51 rfl ?_
        obtain ⟨hg13, h⟩ := gd_inv h
        refine s_iald DX12_gone_52 hR ct_2221 (one_cnt _) hg13 ?_
        refine r_iadd DX12_gone_53 ?_
        refine r_iload_n DX12_gone_54 rfl ?_
        obtain ⟨r14, V15, hc16, h⟩ := bd_inv h
        refine k_callS (As := [.int ((V6 2222 (0) (x1).toNatClampNeg) + (V6 2221 (0) (x1).toNatClampNeg)), .int (x2)]) (rest := [.int ((V6 2201 0 0))]) (st1 := [.int (r14), .int ((V6 2201 0 0))]) (w := some (.int r14)) DX12_gone_55 cs_X12_437 (C_X12_up (out := (r14, V15)) (cxL X) hR hc16) rfl (by decide) (by decide) rfl (Nat.le_of_ble_eq_true rfl) rfl (fun M hR => ?_)
        refine r_iadd DX12_gone_58 ?_
        refine r_iconst (v := 1) DX12_gone_59 ki_1 ?_
        refine r_isub DX12_gone_60 ?_
        cases h
        exact r_iret DX12_gone_61 rfl ⟨Nat.le_refl 0, Nat.le_refl 0⟩ (hp M hR)
      · have h := if_t c11 h
        exact S_X12_gone_35 hp hR h
theorem C_X12_gone {E : EN} {ad : AD} {fu : Nat} {out : Int32 × St} {V : St} {M : MH} {x1 : Int32} {x2 : Int32} (l : Launch) (hR : Rep E ad V M) (h : f_X12_gone fu V x1 x2 = some out) : Ct E l yX12_gone cX12_gone 3 (some .int) (rmD 2) [.ref (ad 2200 0), .int (x1), .int (x2)] M (fun v M => v = (some (.int out.1)) ∧ Rep E ad out.2 M) :=
  Ct.of (own := RX12) (ini := false) (L := [some (.ref (ad 2200 0)), some (.int (x1)), some (.int (x2))]) rfl rfl (fun h => by cases h) rfl (Nat.le_of_ble_eq_true rfl) rfl (fun X _ => S_X12_gone_0 (fun M hR => ⟨rfl, hR⟩) hR h)
theorem S_X12_hasOpenSum_33 {E : EN} {X : CX} {P : Option Value → MH → Prop} {ad : AD} {fu : Nat} {out : Int32 × St} (hp : ∀ M, Rep E ad out.2 M → P (some (.int out.1)) M) {V : St} {M : MH} {d0 : Option Value} {d1 : Option Value} {d2 : Option Value} (hR : Rep E ad V M) (h : F_X12_hasOpenSum_33 fu V = some out) : G E X RX12 cX12_hasOpenSum 3 (some .boolean) false (rmD 1) P M [d0, d1, d2] 0 0 33 [] := by
  unfold F_X12_hasOpenSum_33 at h
  refine r_iconst (v := 0) DX12_hasOpenSum_33 ki_0 ?_
  cases h
  exact r_zret DX12_hasOpenSum_34 rfl rfl ⟨Nat.le_refl 0, Nat.le_refl 0⟩ (hp M hR)
theorem S_X12_hasOpenSum_25 {E : EN} {X : CX} {P : Option Value → MH → Prop} {ad : AD} {fu : Nat} {out : Int32 × St} (hp : ∀ M, Rep E ad out.2 M → P (some (.int out.1)) M) {V : St} {M : MH} {d0 : Option Value} {d1 : Option Value} {d2 : Option Value} (hR : Rep E ad V M) (h : F_X12_hasOpenSum_25 fu V = some out) : G E X RX12 cX12_hasOpenSum 3 (some .boolean) false (rmD 1) P M [d0, d1, d2] 0 0 25 [] := by
  unfold F_X12_hasOpenSum_25 at h
  refine r_iconst (v := 1) DX12_hasOpenSum_25 ki_1 ?_
  cases h
  exact r_zret DX12_hasOpenSum_26 rfl rfl ⟨Nat.le_refl 0, Nat.le_refl 0⟩ (hp M hR)
theorem S_X12_hasOpenSum_2 {E : EN} {X : CX} {P : Option Value → MH → Prop} {ad : AD} {fu : Nat} {out : Int32 × St} {kh : St → Int32 → RR} {kx25 : St → RR} {kx33 : St → RR} (hkh : ∀ {V : St} {M : MH} {x2 : Int32} {d1 : Option Value}, Rep E ad V M → kh V x2 = some out → G E X RX12 cX12_hasOpenSum 3 (some .boolean) false (rmD 1) P M [some (.ref (ad 2200 0)), d1, some (.int (x2))] 0 0 2 []) (hkx25 : ∀ {V : St} {M : MH} {d0 : Option Value} {d1 : Option Value} {d2 : Option Value}, Rep E ad V M → kx25 V  = some out → G E X RX12 cX12_hasOpenSum 3 (some .boolean) false (rmD 1) P M [d0, d1, d2] 0 0 25 []) (hkx33 : ∀ {V : St} {M : MH} {d0 : Option Value} {d1 : Option Value} {d2 : Option Value}, Rep E ad V M → kx33 V  = some out → G E X RX12 cX12_hasOpenSum 3 (some .boolean) false (rmD 1) P M [d0, d1, d2] 0 0 33 []) (hp : ∀ M, Rep E ad out.2 M → P (some (.int out.1)) M) {V : St} {M : MH} {x2 : Int32} {d1 : Option Value} (hR : Rep E ad V M) (h : F_X12_hasOpenSum_2 kh kx25 kx33 fu V x2 = some out) : G E X RX12 cX12_hasOpenSum 3 (some .boolean) false (rmD 1) P M [some (.ref (ad 2200 0)), d1, some (.int (x2))] 0 0 2 [] := by
  unfold F_X12_hasOpenSum_2 at h
  refine r_iload_n DX12_hasOpenSum_2 rfl ?_
  refine r_aload_n DX12_hasOpenSum_3 rfl ?_
  refine s_geti DX12_hasOpenSum_4 fl_X12_332 hR ct_2200 (one_cnt _) rfl ?_
  refine r_icmp_ge DX12_hasOpenSum_7 (fun c1 => ?_) (fun c1 => ?_)
  · have h := if_t c1 h
    exact hkx33 hR h
  · have h := if_f c1 h
    refine r_aload_n DX12_hasOpenSum_10 rfl ?_
    refine s_geta DX12_hasOpenSum_11 fl_X12_123 hR ct_2200 (one_cnt _) rfl ?_
    refine r_iload_n DX12_hasOpenSum_14 rfl ?_
    obtain ⟨hg2, h⟩ := gd_inv h
    refine s_iald DX12_hasOpenSum_15 hR ct_2252 (one_cnt _) hg2 ?_
    refine r_ldcw (v := 1048576) DX12_hasOpenSum_16 ck_X12_328 ?_
    refine r_idiv DX12_hasOpenSum_19 (by decide) ?_
    refine r_bipush (v := 14) DX12_hasOpenSum_20 kb_14 ?_
    refine r_icmp_ne DX12_hasOpenSum_22 (fun c3 => ?_) (fun c3 => ?_)
    · have h := if_f c3 h
      refine t_iinc (v := 1) (L' := [some (.ref (ad 2200 0)), d1, some (.int (x2 + 1))]) DX12_hasOpenSum_27 rfl ki_1 (by decide) rfl ?_
      refine r_goto DX12_hasOpenSum_30 ?_
      exact hkh hR h
    · have h := if_t c3 h
      exact hkx25 hR h
theorem SL_X12_hasOpenSum_2 {E : EN} {X : CX} {P : Option Value → MH → Prop} {ad : AD} {fu : Nat} {out : Int32 × St} {kx25 : St → RR} {kx33 : St → RR} (hkx25 : ∀ {V : St} {M : MH} {d0 : Option Value} {d1 : Option Value} {d2 : Option Value}, Rep E ad V M → kx25 V  = some out → G E X RX12 cX12_hasOpenSum 3 (some .boolean) false (rmD 1) P M [d0, d1, d2] 0 0 25 []) (hkx33 : ∀ {V : St} {M : MH} {d0 : Option Value} {d1 : Option Value} {d2 : Option Value}, Rep E ad V M → kx33 V  = some out → G E X RX12 cX12_hasOpenSum 3 (some .boolean) false (rmD 1) P M [d0, d1, d2] 0 0 33 []) (hp : ∀ M, Rep E ad out.2 M → P (some (.int out.1)) M) : ∀ (n : Nat) {V : St} {M : MH} {x2 : Int32} {d1 : Option Value}, Rep E ad V M → Lp_X12_hasOpenSum_2 kx25 kx33 fu n V x2 = some out → G E X RX12 cX12_hasOpenSum 3 (some .boolean) false (rmD 1) P M [some (.ref (ad 2200 0)), d1, some (.int (x2))] 0 0 2 [] := by
  intro n
  induction n with
  | zero => intros; rename_i h; cases h
  | succ n ih => exact fun hR h => S_X12_hasOpenSum_2 (fun hR h => ih hR h) (fun hR h => hkx25 hR h) (fun hR h => hkx33 hR h) hp hR h
theorem S_X12_hasOpenSum_0 {E : EN} {X : CX} {P : Option Value → MH → Prop} {ad : AD} {fu : Nat} {out : Int32 × St} (hp : ∀ M, Rep E ad out.2 M → P (some (.int out.1)) M) {V : St} {M : MH} {x1 : Int32} (hR : Rep E ad V M) (h : f_X12_hasOpenSum fu V x1 = some out) : G E X RX12 cX12_hasOpenSum 3 (some .boolean) false (rmD 1) P M [some (.ref (ad 2200 0)), some (.int (x1)), none] 0 0 0 [] := by
  unfold f_X12_hasOpenSum at h
  refine r_iload_n DX12_hasOpenSum_0 rfl ?_
  refine t_istore_n (L' := [some (.ref (ad 2200 0)), some (.int (x1)), some (.int (x1))]) DX12_hasOpenSum_1 (by decide) rfl ?_
  exact SL_X12_hasOpenSum_2 (fun hR h => S_X12_hasOpenSum_25 hp hR h) (fun hR h => S_X12_hasOpenSum_33 hp hR h) hp fu hR h
theorem C_X12_hasOpenSum {E : EN} {ad : AD} {fu : Nat} {out : Int32 × St} {V : St} {M : MH} {x1 : Int32} (l : Launch) (hR : Rep E ad V M) (h : f_X12_hasOpenSum fu V x1 = some out) : Ct E l yX12_hasOpenSum cX12_hasOpenSum 3 (some .boolean) (rmD 1) [.ref (ad 2200 0), .int (x1)] M (fun v M => v = (some (.int out.1)) ∧ Rep E ad out.2 M) :=
  Ct.of (own := RX12) (ini := false) (L := [some (.ref (ad 2200 0)), some (.int (x1)), none]) rfl rfl (fun h => by cases h) rfl (Nat.le_of_ble_eq_true rfl) rfl (fun X _ => S_X12_hasOpenSum_0 (fun M hR => ⟨rfl, hR⟩) hR h)
theorem S_X12_here_28 {E : EN} {X : CX} {P : Option Value → MH → Prop} {ad : AD} {fu : Nat} {out : Int32 × St} (hp : ∀ M, Rep E ad out.2 M → P (some (.int out.1)) M) {V : St} {M : MH} {s0 : Int32} {d0 : Option Value} (hR : Rep E ad V M) (h : F_X12_here_28 fu V s0 = some out) : G E X RX12 cX12_here 1 (some .int) false (rmD 1) P M [d0] 0 0 28 [.int (s0)] := by
  unfold F_X12_here_28 at h
  cases h
  exact r_iret DX12_here_28 rfl ⟨Nat.le_refl 0, Nat.le_refl 0⟩ (hp M hR)
theorem S_X12_here_0 {E : EN} {X : CX} {P : Option Value → MH → Prop} {ad : AD} {fu : Nat} {out : Int32 × St} (hp : ∀ M, Rep E ad out.2 M → P (some (.int out.1)) M) {V : St} {M : MH} (hR : Rep E ad V M) (h : f_X12_here fu V = some out) : G E X RX12 cX12_here 1 (some .int) false (rmD 1) P M [some (.ref (ad 2200 0))] 0 0 0 [] := by
  unfold f_X12_here at h
  refine r_aload_n DX12_here_0 rfl ?_
  refine s_geti DX12_here_1 fl_X12_302 hR ct_2200 (one_cnt _) rfl ?_
  refine r_aload_n DX12_here_4 rfl ?_
  refine s_geti DX12_here_5 fl_X12_305 hR ct_2200 (one_cnt _) rfl ?_
  refine r_icmp_ge DX12_here_8 (fun c1 => ?_) (fun c1 => ?_)
  · have h := if_t c1 h
    refine r_iconst (v := -1) DX12_here_27 ki_m1 ?_
    exact S_X12_here_28 hp hR h
  · have h := if_f c1 h
    refine r_aload_n DX12_here_11 rfl ?_
    refine s_geta DX12_here_12 fl_X12_116 hR ct_2200 (one_cnt _) rfl ?_
    refine r_aload_n DX12_here_15 rfl ?_
    refine s_geti DX12_here_16 fl_X12_302 hR ct_2200 (one_cnt _) rfl ?_
    obtain ⟨hg2, h⟩ := gd_inv h
    refine s_bald DX12_here_19 hR ct_2241 (one_cnt _) hg2 ?_
    refine r_sipush (v := 255) DX12_here_20 ks_255 ?_
    refine r_iand DX12_here_23 ?_
    refine r_goto DX12_here_24 ?_
    exact S_X12_here_28 hp hR h
theorem C_X12_here {E : EN} {ad : AD} {fu : Nat} {out : Int32 × St} {V : St} {M : MH} (l : Launch) (hR : Rep E ad V M) (h : f_X12_here fu V = some out) : Ct E l yX12_here cX12_here 1 (some .int) (rmD 1) [.ref (ad 2200 0)] M (fun v M => v = (some (.int out.1)) ∧ Rep E ad out.2 M) :=
  Ct.of (own := RX12) (ini := false) (L := [some (.ref (ad 2200 0))]) rfl rfl (fun h => by cases h) rfl (Nat.le_of_ble_eq_true rfl) rfl (fun X _ => S_X12_here_0 (fun M hR => ⟨rfl, hR⟩) hR h)
theorem S_X12_isCloth_17 {E : EN} {X : CX} {P : Option Value → MH → Prop} {ad : AD} {fu : Nat} {out : Int32 × St} (hp : ∀ M, Rep E ad out.2 M → P (some (.int out.1)) M) {V : St} {M : MH} {s0 : Int32} {d0 : Option Value} {d1 : Option Value} (hR : Rep E ad V M) (h : F_X12_isCloth_17 fu V s0 = some out) : G E X RX12 cX12_isCloth 2 (some .boolean) false (rmD 1) P M [d0, d1] 0 0 17 [.int (s0)] := by
  unfold F_X12_isCloth_17 at h
  obtain ⟨hz1, h⟩ := gd_inv h
  cases h
  exact r_zret DX12_isCloth_17 rfl (nz_nar hz1) ⟨Nat.le_refl 0, Nat.le_refl 0⟩ (hp M hR)
theorem S_X12_isCloth_16 {E : EN} {X : CX} {P : Option Value → MH → Prop} {ad : AD} {fu : Nat} {out : Int32 × St} (hp : ∀ M, Rep E ad out.2 M → P (some (.int out.1)) M) {V : St} {M : MH} {d0 : Option Value} {d1 : Option Value} (hR : Rep E ad V M) (h : F_X12_isCloth_16 fu V = some out) : G E X RX12 cX12_isCloth 2 (some .boolean) false (rmD 1) P M [d0, d1] 0 0 16 [] := by
  unfold F_X12_isCloth_16 at h
  refine r_iconst (v := 0) DX12_isCloth_16 ki_0 ?_
  exact S_X12_isCloth_17 hp hR h
theorem S_X12_isCloth_0 {E : EN} {X : CX} {P : Option Value → MH → Prop} {ad : AD} {fu : Nat} {out : Int32 × St} (hp : ∀ M, Rep E ad out.2 M → P (some (.int out.1)) M) {V : St} {M : MH} {x1 : Int32} (hR : Rep E ad V M) (h : f_X12_isCloth fu V x1 = some out) : G E X RX12 cX12_isCloth 2 (some .boolean) false (rmD 1) P M [some (.ref (ad 2200 0)), some (.int (x1))] 0 0 0 [] := by
  unfold f_X12_isCloth at h
  refine r_iload_n DX12_isCloth_0 rfl ?_
  refine r_if_lt DX12_isCloth_1 (fun c1 => ?_) (fun c1 => ?_)
  · have h := if_t c1 h
    exact S_X12_isCloth_16 hp hR h
  · have h := if_f c1 h
    refine r_iload_n DX12_isCloth_4 rfl ?_
    refine r_aload_n DX12_isCloth_5 rfl ?_
    refine s_geti DX12_isCloth_6 fl_X12_236 hR ct_2200 (one_cnt _) rfl ?_
    refine r_icmp_ge DX12_isCloth_9 (fun c2 => ?_) (fun c2 => ?_)
    · have h := if_t c2 h
      exact S_X12_isCloth_16 hp hR h
    · have h := if_f c2 h
      refine r_iconst (v := 1) DX12_isCloth_12 ki_1 ?_
      refine r_goto DX12_isCloth_13 ?_
      exact S_X12_isCloth_17 hp hR h
theorem C_X12_isCloth {E : EN} {ad : AD} {fu : Nat} {out : Int32 × St} {V : St} {M : MH} {x1 : Int32} (l : Launch) (hR : Rep E ad V M) (h : f_X12_isCloth fu V x1 = some out) : Ct E l yX12_isCloth cX12_isCloth 2 (some .boolean) (rmD 1) [.ref (ad 2200 0), .int (x1)] M (fun v M => v = (some (.int out.1)) ∧ Rep E ad out.2 M) :=
  Ct.of (own := RX12) (ini := false) (L := [some (.ref (ad 2200 0)), some (.int (x1))]) rfl rfl (fun h => by cases h) rfl (Nat.le_of_ble_eq_true rfl) rfl (fun X _ => S_X12_isCloth_0 (fun M hR => ⟨rfl, hR⟩) hR h)
theorem S_X12_isDigit_23 {E : EN} {X : CX} {P : Option Value → MH → Prop} {ad : AD} {fu : Nat} {out : Int32 × St} (hp : ∀ M, Rep E ad out.2 M → P (some (.int out.1)) M) {V : St} {M : MH} {s0 : Int32} {d0 : Option Value} (hR : Rep E ad V M) (h : F_X12_isDigit_23 fu V s0 = some out) : G E X RX12 cX12_isDigit 1 (some .boolean) false (rmD 2) P M [d0] 0 0 23 [.int (s0)] := by
  unfold F_X12_isDigit_23 at h
  obtain ⟨hz1, h⟩ := gd_inv h
  cases h
  exact r_zret DX12_isDigit_23 rfl (nz_nar hz1) ⟨Nat.le_refl 0, Nat.le_refl 0⟩ (hp M hR)
theorem S_X12_isDigit_22 {E : EN} {X : CX} {P : Option Value → MH → Prop} {ad : AD} {fu : Nat} {out : Int32 × St} (hp : ∀ M, Rep E ad out.2 M → P (some (.int out.1)) M) {V : St} {M : MH} {d0 : Option Value} (hR : Rep E ad V M) (h : F_X12_isDigit_22 fu V = some out) : G E X RX12 cX12_isDigit 1 (some .boolean) false (rmD 2) P M [d0] 0 0 22 [] := by
  unfold F_X12_isDigit_22 at h
  refine r_iconst (v := 0) DX12_isDigit_22 ki_0 ?_
  exact S_X12_isDigit_23 hp hR h
theorem S_X12_isDigit_0 {E : EN} {X : CX} {P : Option Value → MH → Prop} {ad : AD} {fu : Nat} {out : Int32 × St} (hp : ∀ M, Rep E ad out.2 M → P (some (.int out.1)) M) {V : St} {M : MH} (hR : Rep E ad V M) (h : f_X12_isDigit fu V = some out) : G E X RX12 cX12_isDigit 1 (some .boolean) false (rmD 2) P M [some (.ref (ad 2200 0))] 0 0 0 [] := by
  unfold f_X12_isDigit at h
  refine r_aload_n DX12_isDigit_0 rfl ?_
  obtain ⟨r1, V2, hc3, h⟩ := bd_inv h
  refine k_callV (As := []) (rest := []) (st1 := [.int (r1)]) (w := some (.int r1)) DX12_isDigit_1 cv_X12_308 hR ct_2200 (one_cnt _) rfl (C_X12_here (out := (r1, V2)) (cxL X) hR hc3) rfl (by decide) (by decide) rfl (Nat.le_of_ble_eq_true rfl) rfl (fun M hR => ?_)
  refine r_bipush (v := 48) DX12_isDigit_4 kb_48 ?_
  refine r_icmp_lt DX12_isDigit_6 (fun c4 => ?_) (fun c4 => ?_)
  · have h := if_t c4 h
    exact S_X12_isDigit_22 hp hR h
  · have h := if_f c4 h
    refine r_aload_n DX12_isDigit_9 rfl ?_
    obtain ⟨r5, V6, hc7, h⟩ := bd_inv h
    refine k_callV (As := []) (rest := []) (st1 := [.int (r5)]) (w := some (.int r5)) DX12_isDigit_10 cv_X12_308 hR ct_2200 (one_cnt _) rfl (C_X12_here (out := (r5, V6)) (cxL X) hR hc7) rfl (by decide) (by decide) rfl (Nat.le_of_ble_eq_true rfl) rfl (fun M hR => ?_)
    refine r_bipush (v := 57) DX12_isDigit_13 kb_57 ?_
    refine r_icmp_gt DX12_isDigit_15 (fun c8 => ?_) (fun c8 => ?_)
    · have h := if_t c8 h
      exact S_X12_isDigit_22 hp hR h
    · have h := if_f c8 h
      refine r_iconst (v := 1) DX12_isDigit_18 ki_1 ?_
      refine r_goto DX12_isDigit_19 ?_
      exact S_X12_isDigit_23 hp hR h
theorem C_X12_isDigit {E : EN} {ad : AD} {fu : Nat} {out : Int32 × St} {V : St} {M : MH} (l : Launch) (hR : Rep E ad V M) (h : f_X12_isDigit fu V = some out) : Ct E l yX12_isDigit cX12_isDigit 1 (some .boolean) (rmD 2) [.ref (ad 2200 0)] M (fun v M => v = (some (.int out.1)) ∧ Rep E ad out.2 M) :=
  Ct.of (own := RX12) (ini := false) (L := [some (.ref (ad 2200 0))]) rfl rfl (fun h => by cases h) rfl (Nat.le_of_ble_eq_true rfl) rfl (fun X _ => S_X12_isDigit_0 (fun M hR => ⟨rfl, hR⟩) hR h)
theorem S_X12_isLetter_47 {E : EN} {X : CX} {P : Option Value → MH → Prop} {ad : AD} {fu : Nat} {out : Int32 × St} (hp : ∀ M, Rep E ad out.2 M → P (some (.int out.1)) M) {V : St} {M : MH} {s0 : Int32} {d0 : Option Value} (hR : Rep E ad V M) (h : F_X12_isLetter_47 fu V s0 = some out) : G E X RX12 cX12_isLetter 1 (some .boolean) false (rmD 1) P M [d0] 0 0 47 [.int (s0)] := by
  unfold F_X12_isLetter_47 at h
  obtain ⟨hz1, h⟩ := gd_inv h
  cases h
  exact r_zret DX12_isLetter_47 rfl (nz_nar hz1) ⟨Nat.le_refl 0, Nat.le_refl 0⟩ (hp M hR)
theorem S_X12_isLetter_42 {E : EN} {X : CX} {P : Option Value → MH → Prop} {ad : AD} {fu : Nat} {out : Int32 × St} (hp : ∀ M, Rep E ad out.2 M → P (some (.int out.1)) M) {V : St} {M : MH} {d0 : Option Value} (hR : Rep E ad V M) (h : F_X12_isLetter_42 fu V = some out) : G E X RX12 cX12_isLetter 1 (some .boolean) false (rmD 1) P M [d0] 0 0 42 [] := by
  unfold F_X12_isLetter_42 at h
  refine r_iconst (v := 1) DX12_isLetter_42 ki_1 ?_
  refine r_goto DX12_isLetter_43 ?_
  exact S_X12_isLetter_47 hp hR h
theorem S_X12_isLetter_0 {E : EN} {X : CX} {P : Option Value → MH → Prop} {ad : AD} {fu : Nat} {out : Int32 × St} (hp : ∀ M, Rep E ad out.2 M → P (some (.int out.1)) M) {V : St} {M : MH} {x0 : Int32} (hR : Rep E ad V M) (h : f_X12_isLetter fu V x0 = some out) : G E X RX12 cX12_isLetter 1 (some .boolean) false (rmD 1) P M [some (.int (x0))] 0 0 0 [] := by
  unfold f_X12_isLetter at h
  refine r_iload_n DX12_isLetter_0 rfl ?_
  refine r_bipush (v := 98) DX12_isLetter_1 kb_98 ?_
  refine r_icmp_eq DX12_isLetter_3 (fun c1 => ?_) (fun c1 => ?_)
  · have h := if_t c1 h
    exact S_X12_isLetter_42 hp hR h
  · have h := if_f c1 h
    refine r_iload_n DX12_isLetter_6 rfl ?_
    refine r_bipush (v := 109) DX12_isLetter_7 kb_109 ?_
    refine r_icmp_eq DX12_isLetter_9 (fun c2 => ?_) (fun c2 => ?_)
    · have h := if_t c2 h
      exact S_X12_isLetter_42 hp hR h
    · have h := if_f c2 h
      refine r_iload_n DX12_isLetter_12 rfl ?_
      refine r_bipush (v := 112) DX12_isLetter_13 kb_112 ?_
      refine r_icmp_eq DX12_isLetter_15 (fun c3 => ?_) (fun c3 => ?_)
      · have h := if_t c3 h
        exact S_X12_isLetter_42 hp hR h
      · have h := if_f c3 h
        refine r_iload_n DX12_isLetter_18 rfl ?_
        refine r_bipush (v := 99) DX12_isLetter_19 kb_99 ?_
        refine r_icmp_eq DX12_isLetter_21 (fun c4 => ?_) (fun c4 => ?_)
        · have h := if_t c4 h
          exact S_X12_isLetter_42 hp hR h
        · have h := if_f c4 h
          refine r_iload_n DX12_isLetter_24 rfl ?_
          refine r_bipush (v := 103) DX12_isLetter_25 kb_103 ?_
          refine r_icmp_eq DX12_isLetter_27 (fun c5 => ?_) (fun c5 => ?_)
          · have h := if_t c5 h
            exact S_X12_isLetter_42 hp hR h
          · have h := if_f c5 h
            refine r_iload_n DX12_isLetter_30 rfl ?_
            refine r_bipush (v := 100) DX12_isLetter_31 kb_100 ?_
            refine r_icmp_eq DX12_isLetter_33 (fun c6 => ?_) (fun c6 => ?_)
            · have h := if_t c6 h
              exact S_X12_isLetter_42 hp hR h
            · have h := if_f c6 h
              refine r_iload_n DX12_isLetter_36 rfl ?_
              refine r_bipush (v := 120) DX12_isLetter_37 kb_120 ?_
              refine r_icmp_ne DX12_isLetter_39 (fun c7 => ?_) (fun c7 => ?_)
              · have h := if_f c7 h
                refine r_iconst (v := 0) DX12_isLetter_46 ki_0 ?_
                exact S_X12_isLetter_47 hp hR h
              · have h := if_t c7 h
                exact S_X12_isLetter_42 hp hR h
theorem C_X12_isLetter {E : EN} {ad : AD} {fu : Nat} {out : Int32 × St} {V : St} {M : MH} {x0 : Int32} (l : Launch) (hR : Rep E ad V M) (h : f_X12_isLetter fu V x0 = some out) : Ct E l yX12_isLetter cX12_isLetter 1 (some .boolean) (rmD 1) [.int (x0)] M (fun v M => v = (some (.int out.1)) ∧ Rep E ad out.2 M) :=
  Ct.of (own := RX12) (ini := false) (L := [some (.int (x0))]) rfl rfl (fun h => by cases h) rfl (Nat.le_of_ble_eq_true rfl) rfl (fun X _ => S_X12_isLetter_0 (fun M hR => ⟨rfl, hR⟩) hR h)
theorem S_X12_isMaker_17 {E : EN} {X : CX} {P : Option Value → MH → Prop} {ad : AD} {fu : Nat} {out : Int32 × St} (hp : ∀ M, Rep E ad out.2 M → P (some (.int out.1)) M) {V : St} {M : MH} {s0 : Int32} {d0 : Option Value} {d1 : Option Value} (hR : Rep E ad V M) (h : F_X12_isMaker_17 fu V s0 = some out) : G E X RX12 cX12_isMaker 2 (some .boolean) false (rmD 1) P M [d0, d1] 0 0 17 [.int (s0)] := by
  unfold F_X12_isMaker_17 at h
  obtain ⟨hz1, h⟩ := gd_inv h
  cases h
  exact r_zret DX12_isMaker_17 rfl (nz_nar hz1) ⟨Nat.le_refl 0, Nat.le_refl 0⟩ (hp M hR)
theorem S_X12_isMaker_16 {E : EN} {X : CX} {P : Option Value → MH → Prop} {ad : AD} {fu : Nat} {out : Int32 × St} (hp : ∀ M, Rep E ad out.2 M → P (some (.int out.1)) M) {V : St} {M : MH} {d0 : Option Value} {d1 : Option Value} (hR : Rep E ad V M) (h : F_X12_isMaker_16 fu V = some out) : G E X RX12 cX12_isMaker 2 (some .boolean) false (rmD 1) P M [d0, d1] 0 0 16 [] := by
  unfold F_X12_isMaker_16 at h
  refine r_iconst (v := 0) DX12_isMaker_16 ki_0 ?_
  exact S_X12_isMaker_17 hp hR h
theorem S_X12_isMaker_0 {E : EN} {X : CX} {P : Option Value → MH → Prop} {ad : AD} {fu : Nat} {out : Int32 × St} (hp : ∀ M, Rep E ad out.2 M → P (some (.int out.1)) M) {V : St} {M : MH} {x1 : Int32} (hR : Rep E ad V M) (h : f_X12_isMaker fu V x1 = some out) : G E X RX12 cX12_isMaker 2 (some .boolean) false (rmD 1) P M [some (.ref (ad 2200 0)), some (.int (x1))] 0 0 0 [] := by
  unfold f_X12_isMaker at h
  refine r_iload_n DX12_isMaker_0 rfl ?_
  refine r_if_lt DX12_isMaker_1 (fun c1 => ?_) (fun c1 => ?_)
  · have h := if_t c1 h
    exact S_X12_isMaker_16 hp hR h
  · have h := if_f c1 h
    refine r_iload_n DX12_isMaker_4 rfl ?_
    refine r_aload_n DX12_isMaker_5 rfl ?_
    refine s_geti DX12_isMaker_6 fl_X12_291 hR ct_2200 (one_cnt _) rfl ?_
    refine r_icmp_ge DX12_isMaker_9 (fun c2 => ?_) (fun c2 => ?_)
    · have h := if_t c2 h
      exact S_X12_isMaker_16 hp hR h
    · have h := if_f c2 h
      refine r_iconst (v := 1) DX12_isMaker_12 ki_1 ?_
      refine r_goto DX12_isMaker_13 ?_
      exact S_X12_isMaker_17 hp hR h
theorem C_X12_isMaker {E : EN} {ad : AD} {fu : Nat} {out : Int32 × St} {V : St} {M : MH} {x1 : Int32} (l : Launch) (hR : Rep E ad V M) (h : f_X12_isMaker fu V x1 = some out) : Ct E l yX12_isMaker cX12_isMaker 2 (some .boolean) (rmD 1) [.ref (ad 2200 0), .int (x1)] M (fun v M => v = (some (.int out.1)) ∧ Rep E ad out.2 M) :=
  Ct.of (own := RX12) (ini := false) (L := [some (.ref (ad 2200 0)), some (.int (x1))]) rfl rfl (fun h => by cases h) rfl (Nat.le_of_ble_eq_true rfl) rfl (fun X _ => S_X12_isMaker_0 (fun M hR => ⟨rfl, hR⟩) hR h)
theorem S_X12_isWeek_16 {E : EN} {X : CX} {P : Option Value → MH → Prop} {ad : AD} {fu : Nat} {out : Int32 × St} (hp : ∀ M, Rep E ad out.2 M → P (some (.int out.1)) M) {V : St} {M : MH} {s0 : Int32} {d0 : Option Value} (hR : Rep E ad V M) (h : F_X12_isWeek_16 fu V s0 = some out) : G E X RX12 cX12_isWeek 1 (some .boolean) false (rmD 1) P M [d0] 0 0 16 [.int (s0)] := by
  unfold F_X12_isWeek_16 at h
  obtain ⟨hz1, h⟩ := gd_inv h
  cases h
  exact r_zret DX12_isWeek_16 rfl (nz_nar hz1) ⟨Nat.le_refl 0, Nat.le_refl 0⟩ (hp M hR)
theorem S_X12_isWeek_15 {E : EN} {X : CX} {P : Option Value → MH → Prop} {ad : AD} {fu : Nat} {out : Int32 × St} (hp : ∀ M, Rep E ad out.2 M → P (some (.int out.1)) M) {V : St} {M : MH} {d0 : Option Value} (hR : Rep E ad V M) (h : F_X12_isWeek_15 fu V = some out) : G E X RX12 cX12_isWeek 1 (some .boolean) false (rmD 1) P M [d0] 0 0 15 [] := by
  unfold F_X12_isWeek_15 at h
  refine r_iconst (v := 0) DX12_isWeek_15 ki_0 ?_
  exact S_X12_isWeek_16 hp hR h
theorem S_X12_isWeek_0 {E : EN} {X : CX} {P : Option Value → MH → Prop} {ad : AD} {fu : Nat} {out : Int32 × St} (hp : ∀ M, Rep E ad out.2 M → P (some (.int out.1)) M) {V : St} {M : MH} {x0 : Int32} (hR : Rep E ad V M) (h : f_X12_isWeek fu V x0 = some out) : G E X RX12 cX12_isWeek 1 (some .boolean) false (rmD 1) P M [some (.int (x0))] 0 0 0 [] := by
  unfold f_X12_isWeek at h
  refine r_iload_n DX12_isWeek_0 rfl ?_
  refine r_if_lt DX12_isWeek_1 (fun c1 => ?_) (fun c1 => ?_)
  · have h := if_t c1 h
    exact S_X12_isWeek_15 hp hR h
  · have h := if_f c1 h
    refine r_iload_n DX12_isWeek_4 rfl ?_
    refine r_sipush (v := 499) DX12_isWeek_5 ks_499 ?_
    refine r_icmp_gt DX12_isWeek_8 (fun c2 => ?_) (fun c2 => ?_)
    · have h := if_t c2 h
      exact S_X12_isWeek_15 hp hR h
    · have h := if_f c2 h
      refine r_iconst (v := 1) DX12_isWeek_11 ki_1 ?_
      refine r_goto DX12_isWeek_12 ?_
      exact S_X12_isWeek_16 hp hR h
theorem C_X12_isWeek {E : EN} {ad : AD} {fu : Nat} {out : Int32 × St} {V : St} {M : MH} {x0 : Int32} (l : Launch) (hR : Rep E ad V M) (h : f_X12_isWeek fu V x0 = some out) : Ct E l yX12_isWeek cX12_isWeek 1 (some .boolean) (rmD 1) [.int (x0)] M (fun v M => v = (some (.int out.1)) ∧ Rep E ad out.2 M) :=
  Ct.of (own := RX12) (ini := false) (L := [some (.int (x0))]) rfl rfl (fun h => by cases h) rfl (Nat.le_of_ble_eq_true rfl) rfl (fun X _ => S_X12_isWeek_0 (fun M hR => ⟨rfl, hR⟩) hR h)
theorem S_X12_isTrue_156 {E : EN} {X : CX} {P : Option Value → MH → Prop} {ad : AD} {fu : Nat} {out : Int32 × St} (hp : ∀ M, Rep E ad out.2 M → P (some (.int out.1)) M) {V : St} {M : MH} {s0 : Int32} {d0 : Option Value} {d1 : Option Value} {d2 : Option Value} {d3 : Option Value} {d4 : Option Value} {d5 : Option Value} {d6 : Option Value} {d7 : Option Value} (hR : Rep E ad V M) (h : F_X12_isTrue_156 fu V s0 = some out) : G E X RX12 cX12_isTrue 8 (some .int) false (rmD 2) P M [d0, d1, d2, d3, d4, d5, d6, d7] 0 0 156 [.int (s0)] := by
  unfold F_X12_isTrue_156 at h
  cases h
  exact r_iret DX12_isTrue_156 rfl ⟨Nat.le_refl 0, Nat.le_refl 0⟩ (hp M hR)
theorem S_X12_isTrue_155 {E : EN} {X : CX} {P : Option Value → MH → Prop} {ad : AD} {fu : Nat} {out : Int32 × St} (hp : ∀ M, Rep E ad out.2 M → P (some (.int out.1)) M) {V : St} {M : MH} {d0 : Option Value} {d1 : Option Value} {d2 : Option Value} {d3 : Option Value} {d4 : Option Value} {d5 : Option Value} {d6 : Option Value} {d7 : Option Value} (hR : Rep E ad V M) (h : F_X12_isTrue_155 fu V = some out) : G E X RX12 cX12_isTrue 8 (some .int) false (rmD 2) P M [d0, d1, d2, d3, d4, d5, d6, d7] 0 0 155 [] := by
  unfold F_X12_isTrue_155 at h
  refine r_iconst (v := 2) DX12_isTrue_155 ki_2 ?_
  exact S_X12_isTrue_156 hp hR h
theorem S_X12_isTrue_138 {E : EN} {X : CX} {P : Option Value → MH → Prop} {ad : AD} {fu : Nat} {out : Int32 × St} (hp : ∀ M, Rep E ad out.2 M → P (some (.int out.1)) M) {V : St} {M : MH} {x5 : Int32} {x6 : Int32} {d0 : Option Value} {d1 : Option Value} {d2 : Option Value} {d3 : Option Value} {d4 : Option Value} {d7 : Option Value} (hR : Rep E ad V M) (h : F_X12_isTrue_138 fu V x5 x6 = some out) : G E X RX12 cX12_isTrue 8 (some .int) false (rmD 2) P M [d0, d1, d2, d3, d4, some (.int (x5)), some (.int (x6)), d7] 0 0 138 [] := by
  unfold F_X12_isTrue_138 at h
  refine r_iload DX12_isTrue_138 rfl ?_
  refine r_iconst (v := 2) DX12_isTrue_140 ki_2 ?_
  refine r_icmp_lt DX12_isTrue_141 (fun c1 => ?_) (fun c1 => ?_)
  · have h := if_t c1 h
    exact S_X12_isTrue_155 hp hR h
  · have h := if_f c1 h
    refine r_iload DX12_isTrue_144 rfl ?_
    refine r_iload DX12_isTrue_146 rfl ?_
    refine r_icmp_ne DX12_isTrue_148 (fun c2 => ?_) (fun c2 => ?_)
    · have h := if_f c2 h
      exact S_X12_isTrue_155 hp hR h
    · have h := if_t c2 h
      refine r_iconst (v := 1) DX12_isTrue_151 ki_1 ?_
      refine r_goto DX12_isTrue_152 ?_
      exact S_X12_isTrue_156 hp hR h
theorem S_X12_isTrue_132 {E : EN} {X : CX} {P : Option Value → MH → Prop} {ad : AD} {fu : Nat} {out : Int32 × St} {kh : St → Int32 → Int32 → Int32 → Int32 → Int32 → Int32 → RR} {kx102 : St → RR} {kx138 : St → Int32 → Int32 → RR} (hkh : ∀ {V : St} {M : MH} {x1 : Int32} {x2 : Int32} {x4 : Int32} {x5 : Int32} {x6 : Int32} {x7 : Int32} {d3 : Option Value}, Rep E ad V M → kh V x1 x2 x4 x5 x6 x7 = some out → G E X RX12 cX12_isTrue 8 (some .int) false (rmD 2) P M [some (.ref (ad 2200 0)), some (.int (x1)), some (.int (x2)), d3, some (.int (x4)), some (.int (x5)), some (.int (x6)), some (.int (x7))] 0 0 46 []) (hkx102 : ∀ {V : St} {M : MH} {d0 : Option Value} {d1 : Option Value} {d2 : Option Value} {d3 : Option Value} {d4 : Option Value} {d5 : Option Value} {d6 : Option Value} {d7 : Option Value}, Rep E ad V M → kx102 V  = some out → G E X RX12 cX12_isTrue 8 (some .int) false (rmD 2) P M [d0, d1, d2, d3, d4, d5, d6, d7] 0 0 102 []) (hkx138 : ∀ {V : St} {M : MH} {x5 : Int32} {x6 : Int32} {d0 : Option Value} {d1 : Option Value} {d2 : Option Value} {d3 : Option Value} {d4 : Option Value} {d7 : Option Value}, Rep E ad V M → kx138 V x5 x6 = some out → G E X RX12 cX12_isTrue 8 (some .int) false (rmD 2) P M [d0, d1, d2, d3, d4, some (.int (x5)), some (.int (x6)), d7] 0 0 138 []) (hp : ∀ M, Rep E ad out.2 M → P (some (.int out.1)) M) {V : St} {M : MH} {x1 : Int32} {x2 : Int32} {x4 : Int32} {x5 : Int32} {x6 : Int32} {x7 : Int32} {d3 : Option Value} (hR : Rep E ad V M) (h : F_X12_isTrue_132 kh kx102 kx138 fu V x1 x2 x4 x5 x6 x7 = some out) : G E X RX12 cX12_isTrue 8 (some .int) false (rmD 2) P M [some (.ref (ad 2200 0)), some (.int (x1)), some (.int (x2)), d3, some (.int (x4)), some (.int (x5)), some (.int (x6)), some (.int (x7))] 0 0 132 [] := by
  unfold F_X12_isTrue_132 at h
  refine t_iinc (v := 1) (L' := [some (.ref (ad 2200 0)), some (.int (x1)), some (.int (x2)), d3, some (.int (x4)), some (.int (x5)), some (.int (x6)), some (.int (x7 + 1))]) DX12_isTrue_132 rfl ki_1 (by decide) rfl ?_
  refine r_goto DX12_isTrue_135 ?_
  exact hkh hR h
theorem S_X12_isTrue_129 {E : EN} {X : CX} {P : Option Value → MH → Prop} {ad : AD} {fu : Nat} {out : Int32 × St} {kh : St → Int32 → Int32 → Int32 → Int32 → Int32 → Int32 → RR} {kx102 : St → RR} {kx138 : St → Int32 → Int32 → RR} (hkh : ∀ {V : St} {M : MH} {x1 : Int32} {x2 : Int32} {x4 : Int32} {x5 : Int32} {x6 : Int32} {x7 : Int32} {d3 : Option Value}, Rep E ad V M → kh V x1 x2 x4 x5 x6 x7 = some out → G E X RX12 cX12_isTrue 8 (some .int) false (rmD 2) P M [some (.ref (ad 2200 0)), some (.int (x1)), some (.int (x2)), d3, some (.int (x4)), some (.int (x5)), some (.int (x6)), some (.int (x7))] 0 0 46 []) (hkx102 : ∀ {V : St} {M : MH} {d0 : Option Value} {d1 : Option Value} {d2 : Option Value} {d3 : Option Value} {d4 : Option Value} {d5 : Option Value} {d6 : Option Value} {d7 : Option Value}, Rep E ad V M → kx102 V  = some out → G E X RX12 cX12_isTrue 8 (some .int) false (rmD 2) P M [d0, d1, d2, d3, d4, d5, d6, d7] 0 0 102 []) (hkx138 : ∀ {V : St} {M : MH} {x5 : Int32} {x6 : Int32} {d0 : Option Value} {d1 : Option Value} {d2 : Option Value} {d3 : Option Value} {d4 : Option Value} {d7 : Option Value}, Rep E ad V M → kx138 V x5 x6 = some out → G E X RX12 cX12_isTrue 8 (some .int) false (rmD 2) P M [d0, d1, d2, d3, d4, some (.int (x5)), some (.int (x6)), d7] 0 0 138 []) (hp : ∀ M, Rep E ad out.2 M → P (some (.int out.1)) M) {V : St} {M : MH} {x1 : Int32} {x2 : Int32} {x4 : Int32} {x5 : Int32} {x7 : Int32} {s0 : Int32} {s1 : Int32} {d3 : Option Value} {d6 : Option Value} (hR : Rep E ad V M) (h : F_X12_isTrue_129 kh kx102 kx138 fu V x1 x2 x4 x5 x7 s0 s1 = some out) : G E X RX12 cX12_isTrue 8 (some .int) false (rmD 2) P M [some (.ref (ad 2200 0)), some (.int (x1)), some (.int (x2)), d3, some (.int (x4)), some (.int (x5)), d6, some (.int (x7))] 0 0 129 [.int (s0), .int (s1)] := by
  unfold F_X12_isTrue_129 at h
  refine r_iadd DX12_isTrue_129 ?_
  refine t_istore (L' := [some (.ref (ad 2200 0)), some (.int (x1)), some (.int (x2)), d3, some (.int (x4)), some (.int (x5)), some (.int (s1 + s0)), some (.int (x7))]) DX12_isTrue_130 (by decide) rfl ?_
  exact S_X12_isTrue_132 (fun hR h => hkh hR h) (fun hR h => hkx102 hR h) (fun hR h => hkx138 hR h) hp hR h
theorem S_X12_isTrue_104 {E : EN} {X : CX} {P : Option Value → MH → Prop} {ad : AD} {fu : Nat} {out : Int32 × St} {kh : St → Int32 → Int32 → Int32 → Int32 → Int32 → Int32 → RR} {kx102 : St → RR} {kx138 : St → Int32 → Int32 → RR} (hkh : ∀ {V : St} {M : MH} {x1 : Int32} {x2 : Int32} {x4 : Int32} {x5 : Int32} {x6 : Int32} {x7 : Int32} {d3 : Option Value}, Rep E ad V M → kh V x1 x2 x4 x5 x6 x7 = some out → G E X RX12 cX12_isTrue 8 (some .int) false (rmD 2) P M [some (.ref (ad 2200 0)), some (.int (x1)), some (.int (x2)), d3, some (.int (x4)), some (.int (x5)), some (.int (x6)), some (.int (x7))] 0 0 46 []) (hkx102 : ∀ {V : St} {M : MH} {d0 : Option Value} {d1 : Option Value} {d2 : Option Value} {d3 : Option Value} {d4 : Option Value} {d5 : Option Value} {d6 : Option Value} {d7 : Option Value}, Rep E ad V M → kx102 V  = some out → G E X RX12 cX12_isTrue 8 (some .int) false (rmD 2) P M [d0, d1, d2, d3, d4, d5, d6, d7] 0 0 102 []) (hkx138 : ∀ {V : St} {M : MH} {x5 : Int32} {x6 : Int32} {d0 : Option Value} {d1 : Option Value} {d2 : Option Value} {d3 : Option Value} {d4 : Option Value} {d7 : Option Value}, Rep E ad V M → kx138 V x5 x6 = some out → G E X RX12 cX12_isTrue 8 (some .int) false (rmD 2) P M [d0, d1, d2, d3, d4, some (.int (x5)), some (.int (x6)), d7] 0 0 138 []) (hp : ∀ M, Rep E ad out.2 M → P (some (.int out.1)) M) {V : St} {M : MH} {x1 : Int32} {x2 : Int32} {x4 : Int32} {x5 : Int32} {x6 : Int32} {x7 : Int32} {d3 : Option Value} (hR : Rep E ad V M) (h : F_X12_isTrue_104 kh kx102 kx138 fu V x1 x2 x4 x5 x6 x7 = some out) : G E X RX12 cX12_isTrue 8 (some .int) false (rmD 2) P M [some (.ref (ad 2200 0)), some (.int (x1)), some (.int (x2)), d3, some (.int (x4)), some (.int (x5)), some (.int (x6)), some (.int (x7))] 0 0 104 [] := by
  unfold F_X12_isTrue_104 at h
  refine r_iload DX12_isTrue_104 rfl ?_
  refine r_iconst (v := 1) DX12_isTrue_106 ki_1 ?_
  refine r_iadd DX12_isTrue_107 ?_
  refine t_istore (L' := [some (.ref (ad 2200 0)), some (.int (x1)), some (.int (x2)), d3, some (.int (x4)), some (.int (x5 + (1 : Int32))), some (.int (x6)), some (.int (x7))]) DX12_isTrue_108 (by decide) rfl ?_
  refine r_iload DX12_isTrue_110 rfl ?_
  refine r_aload_n DX12_isTrue_112 rfl ?_
  refine s_geta DX12_isTrue_113 fl_X12_227 hR ct_2200 (one_cnt _) rfl ?_
  refine r_iload DX12_isTrue_116 rfl ?_
  obtain ⟨hg1, h⟩ := gd_inv h
  refine s_iald DX12_isTrue_118 hR ct_2293 (one_cnt _) hg1 ?_
  refine r_iload DX12_isTrue_119 rfl ?_
  refine r_icmp_lt DX12_isTrue_121 (fun c2 => ?_) (fun c2 => ?_)
  · have h := if_t c2 h
    refine r_iconst (v := 0) DX12_isTrue_128 ki_0 ?_
    exact S_X12_isTrue_129 (fun hR h => hkh hR h) (fun hR h => hkx102 hR h) (fun hR h => hkx138 hR h) hp hR h
  · have h := if_f c2 h
    refine r_iconst (v := 1) DX12_isTrue_124 ki_1 ?_
    refine r_goto DX12_isTrue_125 ?_
    exact S_X12_isTrue_129 (fun hR h => hkh hR h) (fun hR h => hkx102 hR h) (fun hR h => hkx138 hR h) hp hR h
theorem S_X12_isTrue_102 {E : EN} {X : CX} {P : Option Value → MH → Prop} {ad : AD} {fu : Nat} {out : Int32 × St} (hp : ∀ M, Rep E ad out.2 M → P (some (.int out.1)) M) {V : St} {M : MH} {d0 : Option Value} {d1 : Option Value} {d2 : Option Value} {d3 : Option Value} {d4 : Option Value} {d5 : Option Value} {d6 : Option Value} {d7 : Option Value} (hR : Rep E ad V M) (h : F_X12_isTrue_102 fu V = some out) : G E X RX12 cX12_isTrue 8 (some .int) false (rmD 2) P M [d0, d1, d2, d3, d4, d5, d6, d7] 0 0 102 [] := by
  unfold F_X12_isTrue_102 at h
  refine r_iconst (v := 0) DX12_isTrue_102 ki_0 ?_
  cases h
  exact r_iret DX12_isTrue_103 rfl ⟨Nat.le_refl 0, Nat.le_refl 0⟩ (hp M hR)
theorem S_X12_isTrue_46 {E : EN} {X : CX} {P : Option Value → MH → Prop} {ad : AD} {fu : Nat} {out : Int32 × St} {kh : St → Int32 → Int32 → Int32 → Int32 → Int32 → Int32 → RR} {kx102 : St → RR} {kx138 : St → Int32 → Int32 → RR} (hkh : ∀ {V : St} {M : MH} {x1 : Int32} {x2 : Int32} {x4 : Int32} {x5 : Int32} {x6 : Int32} {x7 : Int32} {d3 : Option Value}, Rep E ad V M → kh V x1 x2 x4 x5 x6 x7 = some out → G E X RX12 cX12_isTrue 8 (some .int) false (rmD 2) P M [some (.ref (ad 2200 0)), some (.int (x1)), some (.int (x2)), d3, some (.int (x4)), some (.int (x5)), some (.int (x6)), some (.int (x7))] 0 0 46 []) (hkx102 : ∀ {V : St} {M : MH} {d0 : Option Value} {d1 : Option Value} {d2 : Option Value} {d3 : Option Value} {d4 : Option Value} {d5 : Option Value} {d6 : Option Value} {d7 : Option Value}, Rep E ad V M → kx102 V  = some out → G E X RX12 cX12_isTrue 8 (some .int) false (rmD 2) P M [d0, d1, d2, d3, d4, d5, d6, d7] 0 0 102 []) (hkx138 : ∀ {V : St} {M : MH} {x5 : Int32} {x6 : Int32} {d0 : Option Value} {d1 : Option Value} {d2 : Option Value} {d3 : Option Value} {d4 : Option Value} {d7 : Option Value}, Rep E ad V M → kx138 V x5 x6 = some out → G E X RX12 cX12_isTrue 8 (some .int) false (rmD 2) P M [d0, d1, d2, d3, d4, some (.int (x5)), some (.int (x6)), d7] 0 0 138 []) (hp : ∀ M, Rep E ad out.2 M → P (some (.int out.1)) M) {V : St} {M : MH} {x1 : Int32} {x2 : Int32} {x4 : Int32} {x5 : Int32} {x6 : Int32} {x7 : Int32} {d3 : Option Value} (hR : Rep E ad V M) (h : F_X12_isTrue_46 kh kx102 kx138 fu V x1 x2 x4 x5 x6 x7 = some out) : G E X RX12 cX12_isTrue 8 (some .int) false (rmD 2) P M [some (.ref (ad 2200 0)), some (.int (x1)), some (.int (x2)), d3, some (.int (x4)), some (.int (x5)), some (.int (x6)), some (.int (x7))] 0 0 46 [] := by
  unfold F_X12_isTrue_46 at h
  refine r_iload DX12_isTrue_46 rfl ?_
  refine r_aload_n DX12_isTrue_48 rfl ?_
  refine s_geti DX12_isTrue_49 fl_X12_461 hR ct_2200 (one_cnt _) rfl ?_
  refine r_icmp_ge DX12_isTrue_52 (fun c1 => ?_) (fun c1 => ?_)
  · have h := if_t c1 h
    exact hkx138 hR h
  · have h := if_f c1 h
    refine r_aload_n DX12_isTrue_55 rfl ?_
    refine s_geta DX12_isTrue_56 fl_X12_224 hR ct_2200 (one_cnt _) rfl ?_
    refine r_iload DX12_isTrue_59 rfl ?_
    obtain ⟨hg2, h⟩ := gd_inv h
    refine s_iald DX12_isTrue_61 hR ct_2292 (one_cnt _) hg2 ?_
    refine r_iload_n DX12_isTrue_62 rfl ?_
    refine r_icmp_ne DX12_isTrue_63 (fun c3 => ?_) (fun c3 => ?_)
    · have h := if_f c3 h
      exact S_X12_isTrue_132 (fun hR h => hkh hR h) (fun hR h => hkx102 hR h) (fun hR h => hkx138 hR h) hp hR h
    · have h := if_t c3 h
      refine r_aload_n DX12_isTrue_66 rfl ?_
      refine s_geta DX12_isTrue_67 fl_X12_230 hR ct_2200 (one_cnt _) rfl ?_
      refine r_iload DX12_isTrue_70 rfl ?_
      obtain ⟨hg4, h⟩ := gd_inv h
      refine s_iald DX12_isTrue_72 hR ct_2294 (one_cnt _) hg4 ?_
      refine r_iload_n DX12_isTrue_73 rfl ?_
      refine r_icmp_le DX12_isTrue_74 (fun c5 => ?_) (fun c5 => ?_)
      · have h := if_t c5 h
        refine r_aload_n DX12_isTrue_80 rfl ?_
        refine s_geta DX12_isTrue_81 fl_X12_233 hR ct_2200 (one_cnt _) rfl ?_
        refine r_iload DX12_isTrue_84 rfl ?_
        obtain ⟨hg6, h⟩ := gd_inv h
        refine s_zald DX12_isTrue_86 hR ct_2295 (one_cnt _) hg6 ?_
        refine r_if_eq DX12_isTrue_87 (fun c7 => ?_) (fun c7 => ?_)
        · have h := if_t c7 h
          exact S_X12_isTrue_104 (fun hR h => hkh hR h) (fun hR h => hkx102 hR h) (fun hR h => hkx138 hR h) hp hR h
        · have h := if_f c7 h
          refine r_aload_n DX12_isTrue_90 rfl ?_
          refine s_geta DX12_isTrue_91 fl_X12_227 hR ct_2200 (one_cnt _) rfl ?_
          refine r_iload DX12_isTrue_94 rfl ?_
          obtain ⟨hg8, h⟩ := gd_inv h
          refine s_iald DX12_isTrue_96 hR ct_2293 (one_cnt _) hg8 ?_
          refine r_iload DX12_isTrue_97 rfl ?_
          refine r_icmp_ge DX12_isTrue_99 (fun c9 => ?_) (fun c9 => ?_)
          · have h := if_t c9 h
            exact S_X12_isTrue_104 (fun hR h => hkh hR h) (fun hR h => hkx102 hR h) (fun hR h => hkx138 hR h) hp hR h
          · have h := if_f c9 h
            exact hkx102 hR h
      · have h := if_f c5 h
        refine r_goto DX12_isTrue_77 ?_
        exact S_X12_isTrue_132 (fun hR h => hkh hR h) (fun hR h => hkx102 hR h) (fun hR h => hkx138 hR h) hp hR h
theorem SL_X12_isTrue_46 {E : EN} {X : CX} {P : Option Value → MH → Prop} {ad : AD} {fu : Nat} {out : Int32 × St} {kx102 : St → RR} {kx138 : St → Int32 → Int32 → RR} (hkx102 : ∀ {V : St} {M : MH} {d0 : Option Value} {d1 : Option Value} {d2 : Option Value} {d3 : Option Value} {d4 : Option Value} {d5 : Option Value} {d6 : Option Value} {d7 : Option Value}, Rep E ad V M → kx102 V  = some out → G E X RX12 cX12_isTrue 8 (some .int) false (rmD 2) P M [d0, d1, d2, d3, d4, d5, d6, d7] 0 0 102 []) (hkx138 : ∀ {V : St} {M : MH} {x5 : Int32} {x6 : Int32} {d0 : Option Value} {d1 : Option Value} {d2 : Option Value} {d3 : Option Value} {d4 : Option Value} {d7 : Option Value}, Rep E ad V M → kx138 V x5 x6 = some out → G E X RX12 cX12_isTrue 8 (some .int) false (rmD 2) P M [d0, d1, d2, d3, d4, some (.int (x5)), some (.int (x6)), d7] 0 0 138 []) (hp : ∀ M, Rep E ad out.2 M → P (some (.int out.1)) M) : ∀ (n : Nat) {V : St} {M : MH} {x1 : Int32} {x2 : Int32} {x4 : Int32} {x5 : Int32} {x6 : Int32} {x7 : Int32} {d3 : Option Value}, Rep E ad V M → Lp_X12_isTrue_46 kx102 kx138 fu n V x1 x2 x4 x5 x6 x7 = some out → G E X RX12 cX12_isTrue 8 (some .int) false (rmD 2) P M [some (.ref (ad 2200 0)), some (.int (x1)), some (.int (x2)), d3, some (.int (x4)), some (.int (x5)), some (.int (x6)), some (.int (x7))] 0 0 46 [] := by
  intro n
  induction n with
  | zero => intros; rename_i h; cases h
  | succ n ih => exact fun hR h => S_X12_isTrue_46 (fun hR h => ih hR h) (fun hR h => hkx102 hR h) (fun hR h => hkx138 hR h) hp hR h
theorem S_X12_isTrue_15 {E : EN} {X : CX} {P : Option Value → MH → Prop} {ad : AD} {fu : Nat} {out : Int32 × St} (hp : ∀ M, Rep E ad out.2 M → P (some (.int out.1)) M) {V : St} {M : MH} {d0 : Option Value} {d1 : Option Value} {d2 : Option Value} {d3 : Option Value} {d4 : Option Value} {d5 : Option Value} {d6 : Option Value} {d7 : Option Value} (hR : Rep E ad V M) (h : F_X12_isTrue_15 fu V = some out) : G E X RX12 cX12_isTrue 8 (some .int) false (rmD 2) P M [d0, d1, d2, d3, d4, d5, d6, d7] 0 0 15 [] := by
  unfold F_X12_isTrue_15 at h
  refine r_iconst (v := -1) DX12_isTrue_15 ki_m1 ?_
  cases h
  exact r_iret DX12_isTrue_16 rfl ⟨Nat.le_refl 0, Nat.le_refl 0⟩ (hp M hR)
theorem S_X12_isTrue_0 {E : EN} {X : CX} {P : Option Value → MH → Prop} {ad : AD} {fu : Nat} {out : Int32 × St} (hp : ∀ M, Rep E ad out.2 M → P (some (.int out.1)) M) {V : St} {M : MH} {x1 : Int32} {x2 : Int32} (hR : Rep E ad V M) (h : f_X12_isTrue fu V x1 x2 = some out) : G E X RX12 cX12_isTrue 8 (some .int) false (rmD 2) P M [some (.ref (ad 2200 0)), some (.int (x1)), some (.int (x2)), none, none, none, none, none] 0 0 0 [] := by
  unfold f_X12_isTrue at h
  refine r_aload_n DX12_isTrue_0 rfl ?_
  refine r_iload_n DX12_isTrue_1 rfl ?_
  obtain ⟨r1, V2, hc3, h⟩ := bd_inv h
  refine k_callV (As := [.int (x1)]) (rest := []) (st1 := [.int (r1)]) (w := some (.int r1)) DX12_isTrue_2 cv_X12_268 hR ct_2200 (one_cnt _) rfl (C_X12_isCloth (out := (r1, V2)) (cxL X) hR hc3) rfl (by decide) (by decide) rfl (Nat.le_of_ble_eq_true rfl) rfl (fun M hR => ?_)
  refine r_if_eq DX12_isTrue_5 (fun c4 => ?_) (fun c4 => ?_)
  · have h := if_t c4 h
    exact S_X12_isTrue_15 hp hR h
  · have h := if_f c4 h
    refine r_iload_n DX12_isTrue_8 rfl ?_
    obtain ⟨r5, V6, hc7, h⟩ := bd_inv h
    refine k_callS (As := [.int (x2)]) (rest := []) (st1 := [.int (r5)]) (w := some (.int r5)) DX12_isTrue_9 cs_X12_391 (C_X12_isWeek (out := (r5, V6)) (cxL X) hR hc7) rfl (by decide) (by decide) rfl (Nat.le_of_ble_eq_true rfl) rfl (fun M hR => ?_)
    refine r_if_ne DX12_isTrue_12 (fun c8 => ?_) (fun c8 => ?_)
    · have h := if_f c8 h
      refine r_aload_n DX12_isTrue_17 rfl ?_
      refine s_geta DX12_isTrue_18 fl_X12_13 hR ct_2200 (one_cnt _) rfl ?_
      refine r_iload_n DX12_isTrue_21 rfl ?_
      obtain ⟨hg9, h⟩ := gd_inv h
      refine s_iald DX12_isTrue_22 hR ct_2206 (one_cnt _) hg9 ?_
      refine r_aload_n DX12_isTrue_23 rfl ?_
      refine s_geti DX12_isTrue_24 fl_X12_212 hR ct_2200 (one_cnt _) rfl ?_
      refine r_imul DX12_isTrue_27 ?_
      refine t_istore_n (L' := [some (.ref (ad 2200 0)), some (.int (x1)), some (.int (x2)), some (.int ((V6 2206 (0) (x1).toNatClampNeg) * (V6 2288 0 0))), none, none, none, none]) DX12_isTrue_28 (by decide) rfl ?_
      refine r_iload_n DX12_isTrue_29 rfl ?_
      refine r_iload_n DX12_isTrue_30 rfl ?_
      refine r_bipush (v := 10) DX12_isTrue_31 kb_10 ?_
      refine r_idiv DX12_isTrue_33 (by decide) ?_
      refine r_isub DX12_isTrue_34 ?_
      refine t_istore (L' := [some (.ref (ad 2200 0)), some (.int (x1)), some (.int (x2)), some (.int ((V6 2206 (0) (x1).toNatClampNeg) * (V6 2288 0 0))), some (.int (((V6 2206 (0) (x1).toNatClampNeg) * (V6 2288 0 0)) - (((V6 2206 (0) (x1).toNatClampNeg) * (V6 2288 0 0)) / ((10 : Int32))))), none, none, none]) DX12_isTrue_35 (by decide) rfl ?_
      refine r_iconst (v := 0) DX12_isTrue_37 ki_0 ?_
      refine t_istore (L' := [some (.ref (ad 2200 0)), some (.int (x1)), some (.int (x2)), some (.int ((V6 2206 (0) (x1).toNatClampNeg) * (V6 2288 0 0))), some (.int (((V6 2206 (0) (x1).toNatClampNeg) * (V6 2288 0 0)) - (((V6 2206 (0) (x1).toNatClampNeg) * (V6 2288 0 0)) / ((10 : Int32))))), some (.int ((0 : Int32))), none, none]) DX12_isTrue_38 (by decide) rfl ?_
      refine r_iconst (v := 0) DX12_isTrue_40 ki_0 ?_
      refine t_istore (L' := [some (.ref (ad 2200 0)), some (.int (x1)), some (.int (x2)), some (.int ((V6 2206 (0) (x1).toNatClampNeg) * (V6 2288 0 0))), some (.int (((V6 2206 (0) (x1).toNatClampNeg) * (V6 2288 0 0)) - (((V6 2206 (0) (x1).toNatClampNeg) * (V6 2288 0 0)) / ((10 : Int32))))), some (.int ((0 : Int32))), some (.int ((0 : Int32))), none]) DX12_isTrue_41 (by decide) rfl ?_
      refine r_iconst (v := 0) DX12_isTrue_43 ki_0 ?_
      refine t_istore (L' := [some (.ref (ad 2200 0)), some (.int (x1)), some (.int (x2)), some (.int ((V6 2206 (0) (x1).toNatClampNeg) * (V6 2288 0 0))), some (.int (((V6 2206 (0) (x1).toNatClampNeg) * (V6 2288 0 0)) - (((V6 2206 (0) (x1).toNatClampNeg) * (V6 2288 0 0)) / ((10 : Int32))))), some (.int ((0 : Int32))), some (.int ((0 : Int32))), some (.int ((0 : Int32)))]) DX12_isTrue_44 (by decide) rfl ?_
      exact SL_X12_isTrue_46 (fun hR h => S_X12_isTrue_102 hp hR h) (fun hR h => S_X12_isTrue_138 hp hR h) hp fu hR h
    · have h := if_t c8 h
      exact S_X12_isTrue_15 hp hR h
theorem C_X12_isTrue {E : EN} {ad : AD} {fu : Nat} {out : Int32 × St} {V : St} {M : MH} {x1 : Int32} {x2 : Int32} (l : Launch) (hR : Rep E ad V M) (h : f_X12_isTrue fu V x1 x2 = some out) : Ct E l yX12_isTrue cX12_isTrue 8 (some .int) (rmD 2) [.ref (ad 2200 0), .int (x1), .int (x2)] M (fun v M => v = (some (.int out.1)) ∧ Rep E ad out.2 M) :=
  Ct.of (own := RX12) (ini := false) (L := [some (.ref (ad 2200 0)), some (.int (x1)), some (.int (x2)), none, none, none, none, none]) rfl rfl (fun h => by cases h) rfl (Nat.le_of_ble_eq_true rfl) rfl (fun X _ => S_X12_isTrue_0 (fun M hR => ⟨rfl, hR⟩) hR h)
theorem S_X12_isWider_35 {E : EN} {X : CX} {P : Option Value → MH → Prop} {ad : AD} {fu : Nat} {out : Int32 × St} (hp : ∀ M, Rep E ad out.2 M → P (some (.int out.1)) M) {V : St} {M : MH} {d0 : Option Value} {d1 : Option Value} {d2 : Option Value} {d3 : Option Value} (hR : Rep E ad V M) (h : F_X12_isWider_35 fu V = some out) : G E X RX12 cX12_isWider 4 (some .boolean) false (rmD 1) P M [d0, d1, d2, d3] 0 0 35 [] := by
  unfold F_X12_isWider_35 at h
  refine r_iconst (v := 0) DX12_isWider_35 ki_0 ?_
  cases h
  exact r_zret DX12_isWider_36 rfl rfl ⟨Nat.le_refl 0, Nat.le_refl 0⟩ (hp M hR)
theorem S_X12_isWider_27 {E : EN} {X : CX} {P : Option Value → MH → Prop} {ad : AD} {fu : Nat} {out : Int32 × St} (hp : ∀ M, Rep E ad out.2 M → P (some (.int out.1)) M) {V : St} {M : MH} {d0 : Option Value} {d1 : Option Value} {d2 : Option Value} {d3 : Option Value} (hR : Rep E ad V M) (h : F_X12_isWider_27 fu V = some out) : G E X RX12 cX12_isWider 4 (some .boolean) false (rmD 1) P M [d0, d1, d2, d3] 0 0 27 [] := by
  unfold F_X12_isWider_27 at h
  refine r_iconst (v := 1) DX12_isWider_27 ki_1 ?_
  cases h
  exact r_zret DX12_isWider_28 rfl rfl ⟨Nat.le_refl 0, Nat.le_refl 0⟩ (hp M hR)
theorem S_X12_isWider_2 {E : EN} {X : CX} {P : Option Value → MH → Prop} {ad : AD} {fu : Nat} {out : Int32 × St} {kh : St → Int32 → Int32 → Int32 → RR} {kx27 : St → RR} {kx35 : St → RR} (hkh : ∀ {V : St} {M : MH} {x1 : Int32} {x2 : Int32} {x3 : Int32}, Rep E ad V M → kh V x1 x2 x3 = some out → G E X RX12 cX12_isWider 4 (some .boolean) false (rmD 1) P M [some (.ref (ad 2200 0)), some (.int (x1)), some (.int (x2)), some (.int (x3))] 0 0 2 []) (hkx27 : ∀ {V : St} {M : MH} {d0 : Option Value} {d1 : Option Value} {d2 : Option Value} {d3 : Option Value}, Rep E ad V M → kx27 V  = some out → G E X RX12 cX12_isWider 4 (some .boolean) false (rmD 1) P M [d0, d1, d2, d3] 0 0 27 []) (hkx35 : ∀ {V : St} {M : MH} {d0 : Option Value} {d1 : Option Value} {d2 : Option Value} {d3 : Option Value}, Rep E ad V M → kx35 V  = some out → G E X RX12 cX12_isWider 4 (some .boolean) false (rmD 1) P M [d0, d1, d2, d3] 0 0 35 []) (hp : ∀ M, Rep E ad out.2 M → P (some (.int out.1)) M) {V : St} {M : MH} {x1 : Int32} {x2 : Int32} {x3 : Int32} (hR : Rep E ad V M) (h : F_X12_isWider_2 kh kx27 kx35 fu V x1 x2 x3 = some out) : G E X RX12 cX12_isWider 4 (some .boolean) false (rmD 1) P M [some (.ref (ad 2200 0)), some (.int (x1)), some (.int (x2)), some (.int (x3))] 0 0 2 [] := by
  unfold F_X12_isWider_2 at h
  refine r_iload_n DX12_isWider_2 rfl ?_
  refine r_aload_n DX12_isWider_3 rfl ?_
  refine s_geta DX12_isWider_4 fl_X12_64 hR ct_2200 (one_cnt _) rfl ?_
  refine r_iload_n DX12_isWider_7 rfl ?_
  obtain ⟨hg1, h⟩ := gd_inv h
  refine s_iald DX12_isWider_8 hR ct_2223 (one_cnt _) hg1 ?_
  refine r_icmp_ge DX12_isWider_9 (fun c2 => ?_) (fun c2 => ?_)
  · have h := if_t c2 h
    exact hkx35 hR h
  · have h := if_f c2 h
    refine r_aload_n DX12_isWider_12 rfl ?_
    refine s_geta DX12_isWider_13 fl_X12_70 hR ct_2200 (one_cnt _) rfl ?_
    refine r_bipush (v := 9) DX12_isWider_16 kb_9 ?_
    refine r_iload_n DX12_isWider_18 rfl ?_
    refine r_imul DX12_isWider_19 ?_
    refine r_iload_n DX12_isWider_20 rfl ?_
    refine r_iadd DX12_isWider_21 ?_
    obtain ⟨hg3, h⟩ := gd_inv h
    refine s_iald DX12_isWider_22 hR ct_2225 (one_cnt _) hg3 ?_
    refine r_iload_n DX12_isWider_23 rfl ?_
    refine r_icmp_le DX12_isWider_24 (fun c4 => ?_) (fun c4 => ?_)
    · have h := if_t c4 h
      refine t_iinc (v := 1) (L' := [some (.ref (ad 2200 0)), some (.int (x1)), some (.int (x2)), some (.int (x3 + 1))]) DX12_isWider_29 rfl ki_1 (by decide) rfl ?_
      refine r_goto DX12_isWider_32 ?_
      exact hkh hR h
    · have h := if_f c4 h
      exact hkx27 hR h
theorem SL_X12_isWider_2 {E : EN} {X : CX} {P : Option Value → MH → Prop} {ad : AD} {fu : Nat} {out : Int32 × St} {kx27 : St → RR} {kx35 : St → RR} (hkx27 : ∀ {V : St} {M : MH} {d0 : Option Value} {d1 : Option Value} {d2 : Option Value} {d3 : Option Value}, Rep E ad V M → kx27 V  = some out → G E X RX12 cX12_isWider 4 (some .boolean) false (rmD 1) P M [d0, d1, d2, d3] 0 0 27 []) (hkx35 : ∀ {V : St} {M : MH} {d0 : Option Value} {d1 : Option Value} {d2 : Option Value} {d3 : Option Value}, Rep E ad V M → kx35 V  = some out → G E X RX12 cX12_isWider 4 (some .boolean) false (rmD 1) P M [d0, d1, d2, d3] 0 0 35 []) (hp : ∀ M, Rep E ad out.2 M → P (some (.int out.1)) M) : ∀ (n : Nat) {V : St} {M : MH} {x1 : Int32} {x2 : Int32} {x3 : Int32}, Rep E ad V M → Lp_X12_isWider_2 kx27 kx35 fu n V x1 x2 x3 = some out → G E X RX12 cX12_isWider 4 (some .boolean) false (rmD 1) P M [some (.ref (ad 2200 0)), some (.int (x1)), some (.int (x2)), some (.int (x3))] 0 0 2 [] := by
  intro n
  induction n with
  | zero => intros; rename_i h; cases h
  | succ n ih => exact fun hR h => S_X12_isWider_2 (fun hR h => ih hR h) (fun hR h => hkx27 hR h) (fun hR h => hkx35 hR h) hp hR h
theorem S_X12_isWider_0 {E : EN} {X : CX} {P : Option Value → MH → Prop} {ad : AD} {fu : Nat} {out : Int32 × St} (hp : ∀ M, Rep E ad out.2 M → P (some (.int out.1)) M) {V : St} {M : MH} {x1 : Int32} {x2 : Int32} (hR : Rep E ad V M) (h : f_X12_isWider fu V x1 x2 = some out) : G E X RX12 cX12_isWider 4 (some .boolean) false (rmD 1) P M [some (.ref (ad 2200 0)), some (.int (x1)), some (.int (x2)), none] 0 0 0 [] := by
  unfold f_X12_isWider at h
  refine r_iconst (v := 0) DX12_isWider_0 ki_0 ?_
  refine t_istore_n (L' := [some (.ref (ad 2200 0)), some (.int (x1)), some (.int (x2)), some (.int ((0 : Int32)))]) DX12_isWider_1 (by decide) rfl ?_
  exact SL_X12_isWider_2 (fun hR h => S_X12_isWider_27 hp hR h) (fun hR h => S_X12_isWider_35 hp hR h) hp fu hR h
theorem C_X12_isWider {E : EN} {ad : AD} {fu : Nat} {out : Int32 × St} {V : St} {M : MH} {x1 : Int32} {x2 : Int32} (l : Launch) (hR : Rep E ad V M) (h : f_X12_isWider fu V x1 x2 = some out) : Ct E l yX12_isWider cX12_isWider 4 (some .boolean) (rmD 1) [.ref (ad 2200 0), .int (x1), .int (x2)] M (fun v M => v = (some (.int out.1)) ∧ Rep E ad out.2 M) :=
  Ct.of (own := RX12) (ini := false) (L := [some (.ref (ad 2200 0)), some (.int (x1)), some (.int (x2)), none]) rfl rfl (fun h => by cases h) rfl (Nat.le_of_ble_eq_true rfl) rfl (fun X _ => S_X12_isWider_0 (fun M hR => ⟨rfl, hR⟩) hR h)
theorem S_X12_jumps_0 {E : EN} {X : CX} {P : Option Value → MH → Prop} {ad : AD} {fu : Nat} {out : Int32 × St} (hp : ∀ M, Rep E ad out.2 M → P none M) {V : St} {M : MH} {x1 : Int32} (hR : Rep E ad V M) (h : f_X12_jumps fu V x1 = some out) : G E X RX12 cX12_jumps 2 none false (rmD 2) P M [some (.ref (ad 2200 0)), some (.int (x1))] 0 0 0 [] := by
  unfold f_X12_jumps at h
  refine r_aload_n DX12_jumps_0 rfl ?_
  refine s_geta DX12_jumps_1 fl_X12_123 hR ct_2200 (one_cnt _) rfl ?_
  refine r_aload_n DX12_jumps_4 rfl ?_
  refine s_geti DX12_jumps_5 fl_X12_332 hR ct_2200 (one_cnt _) rfl ?_
  refine r_ldcw (v := 1048576) DX12_jumps_8 ck_X12_328 ?_
  refine r_iload_n DX12_jumps_11 rfl ?_
  refine r_imul DX12_jumps_12 ?_
  refine r_aload_n DX12_jumps_13 rfl ?_
  refine s_geti DX12_jumps_14 fl_X12_325 hR ct_2200 (one_cnt _) rfl ?_
  refine r_iadd DX12_jumps_17 ?_
  obtain ⟨hg1, h⟩ := gd_inv h
  obtain ⟨V2, hv3, h⟩ := bv_inv h
  refine s_iast DX12_jumps_18 hR oka_2252 ct_2252 (one_cnt _) hg1 (fun M hR => ?_)
  have hR := hR.cg hv3
  refine r_aload_n DX12_jumps_19 rfl ?_
  refine r_aload_n DX12_jumps_20 rfl ?_
  refine s_geti DX12_jumps_21 fl_X12_332 hR ct_2200 (one_cnt _) rfl ?_
  refine r_iconst (v := 1) DX12_jumps_24 ki_1 ?_
  refine r_iadd DX12_jumps_25 ?_
  obtain ⟨V4, hv5, h⟩ := bv_inv h
  refine s_puti DX12_jumps_26 fp_X12_332 hR oks_2249 ct_2200 (one_cnt _) rfl rfl rfl (fun M hR => ?_)
  have hR := hR.cg hv5
  refine r_aload_n DX12_jumps_29 rfl ?_
  refine r_iload_n DX12_jumps_30 rfl ?_
  refine r_iconst (v := 0) DX12_jumps_31 ki_0 ?_
  obtain ⟨r6, V7, hc8, h⟩ := bd_inv h
  refine k_callV (As := [.int (x1), .int ((0 : Int32))]) (rest := []) (st1 := []) (w := none) DX12_jumps_32 cv_X12_338 hR ct_2200 (one_cnt _) rfl (C_X12_says (out := (r6, V7)) (cxL X) hR hc8) rfl (by decide) (by decide) rfl (Nat.le_of_ble_eq_true rfl) rfl (fun M hR => ?_)
  refine r_aload_n DX12_jumps_35 rfl ?_
  refine r_aload_n DX12_jumps_36 rfl ?_
  refine s_geti DX12_jumps_37 fl_X12_302 hR ct_2200 (one_cnt _) rfl ?_
  refine r_iconst (v := 1) DX12_jumps_40 ki_1 ?_
  refine r_iadd DX12_jumps_41 ?_
  obtain ⟨V9, hv10, h⟩ := bv_inv h
  refine s_puti DX12_jumps_42 fp_X12_302 hR oks_2243 ct_2200 (one_cnt _) rfl rfl rfl (fun M hR => ?_)
  have hR := hR.cg hv10
  cases h
  exact r_vret DX12_jumps_45 rfl ⟨Nat.le_refl 0, Nat.le_refl 0⟩ (hp M hR)
theorem C_X12_jumps {E : EN} {ad : AD} {fu : Nat} {out : Int32 × St} {V : St} {M : MH} {x1 : Int32} (l : Launch) (hR : Rep E ad V M) (h : f_X12_jumps fu V x1 = some out) : Ct E l yX12_jumps cX12_jumps 2 none (rmD 2) [.ref (ad 2200 0), .int (x1)] M (fun v M => v = none ∧ Rep E ad out.2 M) :=
  Ct.of (own := RX12) (ini := false) (L := [some (.ref (ad 2200 0)), some (.int (x1))]) rfl rfl (fun h => by cases h) rfl (Nat.le_of_ble_eq_true rfl) rfl (fun X _ => S_X12_jumps_0 (fun M hR => ⟨rfl, hR⟩) hR h)
