def F_X12_least_181 (fu : Nat) (V : St) (s0 : Int32) : RR :=
  some (s0, V)
theorem S_X12_least_181 {E : EN} {X : CX} {P : Option Value → MH → Prop} {ad : AD} {fu : Nat} {out : Int32 × St} (hp : ∀ M, Rep E ad out.2 M → P (some (.int out.1)) M) {V : St} {M : MH} {s0 : Int32} {d0 : Option Value} {d1 : Option Value} {d2 : Option Value} {d3 : Option Value} {d4 : Option Value} {d5 : Option Value} {d6 : Option Value} {d7 : Option Value} {d8 : Option Value} (hR : Rep E ad V M) (h : F_X12_least_181 fu V s0 = some out) : G E X RX12 cX12_least 9 (some .int) false (rmD 3) P M [d0, d1, d2, d3, d4, d5, d6, d7, d8] 0 0 181 [.int (s0)] := by
  unfold F_X12_least_181 at h
  cases h
  exact r_iret DX12_least_181 rfl ⟨Nat.le_refl 0, Nat.le_refl 0⟩ (hp M hR)
def F_X12_least_165 (fu : Nat) (V : St) (x3 : Int32) (x5 : Int32) : RR :=
  if x3 = (-1 : Int32) then
    (F_X12_least_181 fu V (x5))
    else
    (gd (¬ (x3 < 0 ∨ 9 ≤ (x3).toNatClampNeg)) <| F_X12_least_181 fu V ((V 2231 (0) (x3).toNatClampNeg)))
theorem S_X12_least_165 {E : EN} {X : CX} {P : Option Value → MH → Prop} {ad : AD} {fu : Nat} {out : Int32 × St} (hp : ∀ M, Rep E ad out.2 M → P (some (.int out.1)) M) {V : St} {M : MH} {x3 : Int32} {x5 : Int32} {d1 : Option Value} {d2 : Option Value} {d4 : Option Value} {d6 : Option Value} {d7 : Option Value} {d8 : Option Value} (hR : Rep E ad V M) (h : F_X12_least_165 fu V x3 x5 = some out) : G E X RX12 cX12_least 9 (some .int) false (rmD 3) P M [some (.ref (ad 2200 0)), d1, d2, some (.int (x3)), d4, some (.int (x5)), d6, d7, d8] 0 0 165 [] := by
  unfold F_X12_least_165 at h
  refine r_iload_n DX12_least_165 rfl ?_
  refine r_iconst (v := -1) DX12_least_166 ki_m1 ?_
  refine r_icmp_ne DX12_least_167 (fun c1 => ?_) (fun c1 => ?_)
  · have h := if_f c1 h
    refine r_aload_n DX12_least_175 rfl ?_
    refine s_geta DX12_least_176 fl_X12_88 hR ct_2200 (one_cnt _) rfl ?_
    refine r_iload_n DX12_least_179 rfl ?_
    obtain ⟨hg2, h⟩ := gd_inv h
    refine s_iald DX12_least_180 hR ct_2231 (one_cnt _) hg2 ?_
    exact S_X12_least_181 hp hR h
  · have h := if_t c1 h
    refine r_iload DX12_least_170 rfl ?_
    refine r_goto DX12_least_172 ?_
    exact S_X12_least_181 hp hR h
def F_X12_least_154 (kh : St → Int32 → Int32 → Int32 → Int32 → Int32 → Int32 → RR) (kx165 : St → Int32 → Int32 → RR) (fu : Nat) (V : St) (x1 : Int32) (x2 : Int32) (x3 : Int32) (x4 : Int32) (x5 : Int32) : RR :=
  bd (f_X12_nextRow fu V (x4)) fun r1 V2 => kh V2 (x1) (x2) (x3) (x4) (x5) (r1)
theorem S_X12_least_154 {E : EN} {X : CX} {P : Option Value → MH → Prop} {ad : AD} {fu : Nat} {out : Int32 × St} {kh : St → Int32 → Int32 → Int32 → Int32 → Int32 → Int32 → RR} {kx165 : St → Int32 → Int32 → RR} (hkh : ∀ {V : St} {M : MH} {x1 : Int32} {x2 : Int32} {x3 : Int32} {x4 : Int32} {x5 : Int32} {x6 : Int32} {d7 : Option Value} {d8 : Option Value}, Rep E ad V M → kh V x1 x2 x3 x4 x5 x6 = some out → G E X RX12 cX12_least 9 (some .int) false (rmD 3) P M [some (.ref (ad 2200 0)), some (.int (x1)), some (.int (x2)), some (.int (x3)), some (.int (x4)), some (.int (x5)), some (.int (x6)), d7, d8] 0 0 94 []) (hkx165 : ∀ {V : St} {M : MH} {x3 : Int32} {x5 : Int32} {d1 : Option Value} {d2 : Option Value} {d4 : Option Value} {d6 : Option Value} {d7 : Option Value} {d8 : Option Value}, Rep E ad V M → kx165 V x3 x5 = some out → G E X RX12 cX12_least 9 (some .int) false (rmD 3) P M [some (.ref (ad 2200 0)), d1, d2, some (.int (x3)), d4, some (.int (x5)), d6, d7, d8] 0 0 165 []) (hp : ∀ M, Rep E ad out.2 M → P (some (.int out.1)) M) {V : St} {M : MH} {x1 : Int32} {x2 : Int32} {x3 : Int32} {x4 : Int32} {x5 : Int32} {d6 : Option Value} {d7 : Option Value} {d8 : Option Value} (hR : Rep E ad V M) (h : F_X12_least_154 kh kx165 fu V x1 x2 x3 x4 x5 = some out) : G E X RX12 cX12_least 9 (some .int) false (rmD 3) P M [some (.ref (ad 2200 0)), some (.int (x1)), some (.int (x2)), some (.int (x3)), some (.int (x4)), some (.int (x5)), d6, d7, d8] 0 0 154 [] := by
  unfold F_X12_least_154 at h
  refine r_aload_n DX12_least_154 rfl ?_
  refine r_iload DX12_least_155 rfl ?_
  obtain ⟨r1, V2, hc3, h⟩ := bd_inv h
  refine k_callV (As := [.int (x4)]) (rest := []) (st1 := [.int (r1)]) (w := some (.int r1)) DX12_least_157 cv_X12_288 hR ct_2200 (one_cnt _) rfl (C_X12_nextRow (cxL X) hR hc3) rfl (by decide) (by decide) rfl (Nat.le_of_ble_eq_true rfl) rfl (fun M hR => ?_)
  refine t_istore (L' := [some (.ref (ad 2200 0)), some (.int (x1)), some (.int (x2)), some (.int (x3)), some (.int (x4)), some (.int (x5)), some (.int (r1)), d7, d8]) DX12_least_160 (by decide) rfl ?_
  refine r_goto DX12_least_162 ?_
  exact hkh hR h
def F_X12_least_127 (kh : St → Int32 → Int32 → Int32 → Int32 → Int32 → Int32 → RR) (kx154 : St → Int32 → Int32 → Int32 → Int32 → Int32 → RR) (fu : Nat) (V : St) (x1 : Int32) (x2 : Int32) (x3 : Int32) (x4 : Int32) (x5 : Int32) (x8 : Int32) : RR :=
  if x4 ≤ x8 then
    (kx154 V (x1) (x2) (x3) (x4) (x5))
    else
    (gd (¬ (x8 < 0 ∨ 9 ≤ (x8).toNatClampNeg)) <| gd (¬ (x8 < 0 ∨ 9 ≤ (x8).toNatClampNeg)) <| bv (setV V 2231 (0) (x8).toNatClampNeg ((V 2230 (0) (x8).toNatClampNeg))) fun V4 => kh V4 (x1) (x2) (x3) (x4) (x5) (x8 + 1))
theorem S_X12_least_127 {E : EN} {X : CX} {P : Option Value → MH → Prop} {ad : AD} {fu : Nat} {out : Int32 × St} {kh : St → Int32 → Int32 → Int32 → Int32 → Int32 → Int32 → RR} {kx154 : St → Int32 → Int32 → Int32 → Int32 → Int32 → RR} (hkh : ∀ {V : St} {M : MH} {x1 : Int32} {x2 : Int32} {x3 : Int32} {x4 : Int32} {x5 : Int32} {x8 : Int32} {d6 : Option Value} {d7 : Option Value}, Rep E ad V M → kh V x1 x2 x3 x4 x5 x8 = some out → G E X RX12 cX12_least 9 (some .int) false (rmD 3) P M [some (.ref (ad 2200 0)), some (.int (x1)), some (.int (x2)), some (.int (x3)), some (.int (x4)), some (.int (x5)), d6, d7, some (.int (x8))] 0 0 127 []) (hkx154 : ∀ {V : St} {M : MH} {x1 : Int32} {x2 : Int32} {x3 : Int32} {x4 : Int32} {x5 : Int32} {d6 : Option Value} {d7 : Option Value} {d8 : Option Value}, Rep E ad V M → kx154 V x1 x2 x3 x4 x5 = some out → G E X RX12 cX12_least 9 (some .int) false (rmD 3) P M [some (.ref (ad 2200 0)), some (.int (x1)), some (.int (x2)), some (.int (x3)), some (.int (x4)), some (.int (x5)), d6, d7, d8] 0 0 154 []) (hp : ∀ M, Rep E ad out.2 M → P (some (.int out.1)) M) {V : St} {M : MH} {x1 : Int32} {x2 : Int32} {x3 : Int32} {x4 : Int32} {x5 : Int32} {x8 : Int32} {d6 : Option Value} {d7 : Option Value} (hR : Rep E ad V M) (h : F_X12_least_127 kh kx154 fu V x1 x2 x3 x4 x5 x8 = some out) : G E X RX12 cX12_least 9 (some .int) false (rmD 3) P M [some (.ref (ad 2200 0)), some (.int (x1)), some (.int (x2)), some (.int (x3)), some (.int (x4)), some (.int (x5)), d6, d7, some (.int (x8))] 0 0 127 [] := by
  unfold F_X12_least_127 at h
  refine r_iload DX12_least_127 rfl ?_
  refine r_iload DX12_least_129 rfl ?_
  refine r_icmp_ge DX12_least_131 (fun c1 => ?_) (fun c1 => ?_)
  · have h := if_t c1 h
    exact hkx154 hR h
  · have h := if_f c1 h
    refine r_aload_n DX12_least_134 rfl ?_
    refine s_geta DX12_least_135 fl_X12_88 hR ct_2200 (one_cnt _) rfl ?_
    refine r_iload DX12_least_138 rfl ?_
    refine r_aload_n DX12_least_140 rfl ?_
    refine s_geta DX12_least_141 fl_X12_85 hR ct_2200 (one_cnt _) rfl ?_
    refine r_iload DX12_least_144 rfl ?_
    obtain ⟨hg2, h⟩ := gd_inv h
    refine s_iald DX12_least_146 hR ct_2230 (one_cnt _) hg2 ?_
    obtain ⟨hg3, h⟩ := gd_inv h
    obtain ⟨V4, hv5, h⟩ := bv_inv h
    refine s_iast DX12_least_147 hR oka_2231 ct_2231 (one_cnt _) hg3 (fun M hR => ?_)
    have hR := hR.cg hv5
    refine t_iinc (v := 1) (L' := [some (.ref (ad 2200 0)), some (.int (x1)), some (.int (x2)), some (.int (x3)), some (.int (x4)), some (.int (x5)), d6, d7, some (.int (x8 + 1))]) DX12_least_148 rfl ki_1 (by decide) rfl ?_
    refine r_goto DX12_least_151 ?_
    exact hkh hR h
def Lp_X12_least_127 (kx154 : St → Int32 → Int32 → Int32 → Int32 → Int32 → RR) (fu : Nat) : Nat → St → Int32 → Int32 → Int32 → Int32 → Int32 → Int32 → RR
  | 0, _, _, _, _, _, _, _ => none
  | n + 1, V, x1, x2, x3, x4, x5, x8 => F_X12_least_127 (Lp_X12_least_127 kx154 fu n) kx154 fu V x1 x2 x3 x4 x5 x8
theorem SL_X12_least_127 {E : EN} {X : CX} {P : Option Value → MH → Prop} {ad : AD} {fu : Nat} {out : Int32 × St} {kx154 : St → Int32 → Int32 → Int32 → Int32 → Int32 → RR} (hkx154 : ∀ {V : St} {M : MH} {x1 : Int32} {x2 : Int32} {x3 : Int32} {x4 : Int32} {x5 : Int32} {d6 : Option Value} {d7 : Option Value} {d8 : Option Value}, Rep E ad V M → kx154 V x1 x2 x3 x4 x5 = some out → G E X RX12 cX12_least 9 (some .int) false (rmD 3) P M [some (.ref (ad 2200 0)), some (.int (x1)), some (.int (x2)), some (.int (x3)), some (.int (x4)), some (.int (x5)), d6, d7, d8] 0 0 154 []) (hp : ∀ M, Rep E ad out.2 M → P (some (.int out.1)) M) : ∀ (n : Nat) {V : St} {M : MH} {x1 : Int32} {x2 : Int32} {x3 : Int32} {x4 : Int32} {x5 : Int32} {x8 : Int32} {d6 : Option Value} {d7 : Option Value}, Rep E ad V M → Lp_X12_least_127 kx154 fu n V x1 x2 x3 x4 x5 x8 = some out → G E X RX12 cX12_least 9 (some .int) false (rmD 3) P M [some (.ref (ad 2200 0)), some (.int (x1)), some (.int (x2)), some (.int (x3)), some (.int (x4)), some (.int (x5)), d6, d7, some (.int (x8))] 0 0 127 [] := by
  intro n
  induction n with
  | zero => intros; rename_i h; cases h
  | succ n ih => exact fun hR h => S_X12_least_127 (fun hR h => ih hR h) (fun hR h => hkx154 hR h) hp hR h
def F_X12_least_120 (kh : St → Int32 → Int32 → Int32 → Int32 → Int32 → Int32 → RR) (kx165 : St → Int32 → Int32 → RR) (fu : Nat) (V : St) (x1 : Int32) (x2 : Int32) (x3 : Int32) (x4 : Int32) (x7 : Int32) : RR :=
  Lp_X12_least_127 (F_X12_least_154 kh kx165 fu) fu fu V (x1) (x2) (x3) (x4) (x7) ((0 : Int32))
theorem S_X12_least_120 {E : EN} {X : CX} {P : Option Value → MH → Prop} {ad : AD} {fu : Nat} {out : Int32 × St} {kh : St → Int32 → Int32 → Int32 → Int32 → Int32 → Int32 → RR} {kx165 : St → Int32 → Int32 → RR} (hkh : ∀ {V : St} {M : MH} {x1 : Int32} {x2 : Int32} {x3 : Int32} {x4 : Int32} {x5 : Int32} {x6 : Int32} {d7 : Option Value} {d8 : Option Value}, Rep E ad V M → kh V x1 x2 x3 x4 x5 x6 = some out → G E X RX12 cX12_least 9 (some .int) false (rmD 3) P M [some (.ref (ad 2200 0)), some (.int (x1)), some (.int (x2)), some (.int (x3)), some (.int (x4)), some (.int (x5)), some (.int (x6)), d7, d8] 0 0 94 []) (hkx165 : ∀ {V : St} {M : MH} {x3 : Int32} {x5 : Int32} {d1 : Option Value} {d2 : Option Value} {d4 : Option Value} {d6 : Option Value} {d7 : Option Value} {d8 : Option Value}, Rep E ad V M → kx165 V x3 x5 = some out → G E X RX12 cX12_least 9 (some .int) false (rmD 3) P M [some (.ref (ad 2200 0)), d1, d2, some (.int (x3)), d4, some (.int (x5)), d6, d7, d8] 0 0 165 []) (hp : ∀ M, Rep E ad out.2 M → P (some (.int out.1)) M) {V : St} {M : MH} {x1 : Int32} {x2 : Int32} {x3 : Int32} {x4 : Int32} {x7 : Int32} {d5 : Option Value} {d6 : Option Value} {d8 : Option Value} (hR : Rep E ad V M) (h : F_X12_least_120 kh kx165 fu V x1 x2 x3 x4 x7 = some out) : G E X RX12 cX12_least 9 (some .int) false (rmD 3) P M [some (.ref (ad 2200 0)), some (.int (x1)), some (.int (x2)), some (.int (x3)), some (.int (x4)), d5, d6, some (.int (x7)), d8] 0 0 120 [] := by
  unfold F_X12_least_120 at h
  refine r_iload DX12_least_120 rfl ?_
  refine t_istore (L' := [some (.ref (ad 2200 0)), some (.int (x1)), some (.int (x2)), some (.int (x3)), some (.int (x4)), some (.int (x7)), d6, some (.int (x7)), d8]) DX12_least_122 (by decide) rfl ?_
  refine r_iconst (v := 0) DX12_least_124 ki_0 ?_
  refine t_istore (L' := [some (.ref (ad 2200 0)), some (.int (x1)), some (.int (x2)), some (.int (x3)), some (.int (x4)), some (.int (x7)), d6, some (.int (x7)), some (.int ((0 : Int32)))]) DX12_least_125 (by decide) rfl ?_
  exact SL_X12_least_127 (fun hR h => S_X12_least_154 (fun hR h => hkh hR h) (fun hR h => hkx165 hR h) hp hR h) hp fu hR h
def F_X12_least_94 (kh : St → Int32 → Int32 → Int32 → Int32 → Int32 → Int32 → RR) (kx165 : St → Int32 → Int32 → RR) (fu : Nat) (V : St) (x1 : Int32) (x2 : Int32) (x3 : Int32) (x4 : Int32) (x5 : Int32) (x6 : Int32) : RR :=
  if x6 = 0 then
    (kx165 V (x3) (x5))
    else
    (bd (f_X12_lengthOf fu V (x1) (x2)) fun r2 V3 => if x5 = (-1 : Int32) then
      (F_X12_least_120 kh kx165 fu V3 (x1) (x2) (x3) (x4) (r2))
      else
      (if x5 ≤ r2 then
        (F_X12_least_154 kh kx165 fu V3 (x1) (x2) (x3) (x4) (x5))
        else
        (F_X12_least_120 kh kx165 fu V3 (x1) (x2) (x3) (x4) (r2))))
theorem S_X12_least_94 {E : EN} {X : CX} {P : Option Value → MH → Prop} {ad : AD} {fu : Nat} {out : Int32 × St} {kh : St → Int32 → Int32 → Int32 → Int32 → Int32 → Int32 → RR} {kx165 : St → Int32 → Int32 → RR} (hkh : ∀ {V : St} {M : MH} {x1 : Int32} {x2 : Int32} {x3 : Int32} {x4 : Int32} {x5 : Int32} {x6 : Int32} {d7 : Option Value} {d8 : Option Value}, Rep E ad V M → kh V x1 x2 x3 x4 x5 x6 = some out → G E X RX12 cX12_least 9 (some .int) false (rmD 3) P M [some (.ref (ad 2200 0)), some (.int (x1)), some (.int (x2)), some (.int (x3)), some (.int (x4)), some (.int (x5)), some (.int (x6)), d7, d8] 0 0 94 []) (hkx165 : ∀ {V : St} {M : MH} {x3 : Int32} {x5 : Int32} {d1 : Option Value} {d2 : Option Value} {d4 : Option Value} {d6 : Option Value} {d7 : Option Value} {d8 : Option Value}, Rep E ad V M → kx165 V x3 x5 = some out → G E X RX12 cX12_least 9 (some .int) false (rmD 3) P M [some (.ref (ad 2200 0)), d1, d2, some (.int (x3)), d4, some (.int (x5)), d6, d7, d8] 0 0 165 []) (hp : ∀ M, Rep E ad out.2 M → P (some (.int out.1)) M) {V : St} {M : MH} {x1 : Int32} {x2 : Int32} {x3 : Int32} {x4 : Int32} {x5 : Int32} {x6 : Int32} {d7 : Option Value} {d8 : Option Value} (hR : Rep E ad V M) (h : F_X12_least_94 kh kx165 fu V x1 x2 x3 x4 x5 x6 = some out) : G E X RX12 cX12_least 9 (some .int) false (rmD 3) P M [some (.ref (ad 2200 0)), some (.int (x1)), some (.int (x2)), some (.int (x3)), some (.int (x4)), some (.int (x5)), some (.int (x6)), d7, d8] 0 0 94 [] := by
  unfold F_X12_least_94 at h
  refine r_iload DX12_least_94 rfl ?_
  refine r_if_eq DX12_least_96 (fun c1 => ?_) (fun c1 => ?_)
  · have h := if_t c1 h
    exact hkx165 hR h
  · have h := if_f c1 h
    refine r_aload_n DX12_least_99 rfl ?_
    refine r_iload_n DX12_least_100 rfl ?_
    refine r_iload_n DX12_least_101 rfl ?_
    obtain ⟨r2, V3, hc4, h⟩ := bd_inv h
    refine k_callV (As := [.int (x1), .int (x2)]) (rest := []) (st1 := [.int (r2)]) (w := some (.int r2)) DX12_least_102 cv_X12_281 hR ct_2200 (one_cnt _) rfl (C_X12_lengthOf (cxL X) hR hc4) rfl (by decide) (by decide) rfl (Nat.le_of_ble_eq_true rfl) rfl (fun M hR => ?_)
    refine t_istore (L' := [some (.ref (ad 2200 0)), some (.int (x1)), some (.int (x2)), some (.int (x3)), some (.int (x4)), some (.int (x5)), some (.int (x6)), some (.int (r2)), d8]) DX12_least_105 (by decide) rfl ?_
    refine r_iload DX12_least_107 rfl ?_
    refine r_iconst (v := -1) DX12_least_109 ki_m1 ?_
    refine r_icmp_eq DX12_least_110 (fun c5 => ?_) (fun c5 => ?_)
    · have h := if_t c5 h
      exact S_X12_least_120 (fun hR h => hkh hR h) (fun hR h => hkx165 hR h) hp hR h
    · have h := if_f c5 h
      refine r_iload DX12_least_113 rfl ?_
      refine r_iload DX12_least_115 rfl ?_
      refine r_icmp_ge DX12_least_117 (fun c6 => ?_) (fun c6 => ?_)
      · have h := if_t c6 h
        exact S_X12_least_154 (fun hR h => hkh hR h) (fun hR h => hkx165 hR h) hp hR h
      · have h := if_f c6 h
        exact S_X12_least_120 (fun hR h => hkh hR h) (fun hR h => hkx165 hR h) hp hR h
def Lp_X12_least_94 (kx165 : St → Int32 → Int32 → RR) (fu : Nat) : Nat → St → Int32 → Int32 → Int32 → Int32 → Int32 → Int32 → RR
  | 0, _, _, _, _, _, _, _ => none
  | n + 1, V, x1, x2, x3, x4, x5, x6 => F_X12_least_94 (Lp_X12_least_94 kx165 fu n) kx165 fu V x1 x2 x3 x4 x5 x6
theorem SL_X12_least_94 {E : EN} {X : CX} {P : Option Value → MH → Prop} {ad : AD} {fu : Nat} {out : Int32 × St} {kx165 : St → Int32 → Int32 → RR} (hkx165 : ∀ {V : St} {M : MH} {x3 : Int32} {x5 : Int32} {d1 : Option Value} {d2 : Option Value} {d4 : Option Value} {d6 : Option Value} {d7 : Option Value} {d8 : Option Value}, Rep E ad V M → kx165 V x3 x5 = some out → G E X RX12 cX12_least 9 (some .int) false (rmD 3) P M [some (.ref (ad 2200 0)), d1, d2, some (.int (x3)), d4, some (.int (x5)), d6, d7, d8] 0 0 165 []) (hp : ∀ M, Rep E ad out.2 M → P (some (.int out.1)) M) : ∀ (n : Nat) {V : St} {M : MH} {x1 : Int32} {x2 : Int32} {x3 : Int32} {x4 : Int32} {x5 : Int32} {x6 : Int32} {d7 : Option Value} {d8 : Option Value}, Rep E ad V M → Lp_X12_least_94 kx165 fu n V x1 x2 x3 x4 x5 x6 = some out → G E X RX12 cX12_least 9 (some .int) false (rmD 3) P M [some (.ref (ad 2200 0)), some (.int (x1)), some (.int (x2)), some (.int (x3)), some (.int (x4)), some (.int (x5)), some (.int (x6)), d7, d8] 0 0 94 [] := by
  intro n
  induction n with
  | zero => intros; rename_i h; cases h
  | succ n ih => exact fun hR h => S_X12_least_94 (fun hR h => ih hR h) (fun hR h => hkx165 hR h) hp hR h
def F_X12_least_88 (fu : Nat) (V : St) (x1 : Int32) (x2 : Int32) (x3 : Int32) (x4 : Int32) : RR :=
  Lp_X12_least_94 (F_X12_least_165 fu) fu fu V (x1) (x2) (x3) (x4) ((-1 : Int32)) ((1 : Int32))
theorem S_X12_least_88 {E : EN} {X : CX} {P : Option Value → MH → Prop} {ad : AD} {fu : Nat} {out : Int32 × St} (hp : ∀ M, Rep E ad out.2 M → P (some (.int out.1)) M) {V : St} {M : MH} {x1 : Int32} {x2 : Int32} {x3 : Int32} {x4 : Int32} {d5 : Option Value} {d6 : Option Value} {d7 : Option Value} {d8 : Option Value} (hR : Rep E ad V M) (h : F_X12_least_88 fu V x1 x2 x3 x4 = some out) : G E X RX12 cX12_least 9 (some .int) false (rmD 3) P M [some (.ref (ad 2200 0)), some (.int (x1)), some (.int (x2)), some (.int (x3)), some (.int (x4)), d5, d6, d7, d8] 0 0 88 [] := by
  unfold F_X12_least_88 at h
  refine r_iconst (v := -1) DX12_least_88 ki_m1 ?_
  refine t_istore (L' := [some (.ref (ad 2200 0)), some (.int (x1)), some (.int (x2)), some (.int (x3)), some (.int (x4)), some (.int ((-1 : Int32))), d6, d7, d8]) DX12_least_89 (by decide) rfl ?_
  refine r_iconst (v := 1) DX12_least_91 ki_1 ?_
  refine t_istore (L' := [some (.ref (ad 2200 0)), some (.int (x1)), some (.int (x2)), some (.int (x3)), some (.int (x4)), some (.int ((-1 : Int32))), some (.int ((1 : Int32))), d7, d8]) DX12_least_92 (by decide) rfl ?_
  exact SL_X12_least_94 (fun hR h => S_X12_least_165 hp hR h) hp fu hR h
def F_X12_least_66 (kh : St → Int32 → Int32 → Int32 → Int32 → Int32 → RR) (kx88 : St → Int32 → Int32 → Int32 → Int32 → RR) (fu : Nat) (V : St) (x1 : Int32) (x2 : Int32) (x3 : Int32) (x4 : Int32) (x5 : Int32) : RR :=
  if x4 ≤ x5 then
    (kx88 V (x1) (x2) (x3) (x4))
    else
    (gd (¬ (x5 < 0 ∨ 9 ≤ (x5).toNatClampNeg)) <| bv (setV V 2230 (0) (x5).toNatClampNeg (x5)) fun V3 => kh V3 (x1) (x2) (x3) (x4) (x5 + 1))
theorem S_X12_least_66 {E : EN} {X : CX} {P : Option Value → MH → Prop} {ad : AD} {fu : Nat} {out : Int32 × St} {kh : St → Int32 → Int32 → Int32 → Int32 → Int32 → RR} {kx88 : St → Int32 → Int32 → Int32 → Int32 → RR} (hkh : ∀ {V : St} {M : MH} {x1 : Int32} {x2 : Int32} {x3 : Int32} {x4 : Int32} {x5 : Int32} {d6 : Option Value} {d7 : Option Value} {d8 : Option Value}, Rep E ad V M → kh V x1 x2 x3 x4 x5 = some out → G E X RX12 cX12_least 9 (some .int) false (rmD 3) P M [some (.ref (ad 2200 0)), some (.int (x1)), some (.int (x2)), some (.int (x3)), some (.int (x4)), some (.int (x5)), d6, d7, d8] 0 0 66 []) (hkx88 : ∀ {V : St} {M : MH} {x1 : Int32} {x2 : Int32} {x3 : Int32} {x4 : Int32} {d5 : Option Value} {d6 : Option Value} {d7 : Option Value} {d8 : Option Value}, Rep E ad V M → kx88 V x1 x2 x3 x4 = some out → G E X RX12 cX12_least 9 (some .int) false (rmD 3) P M [some (.ref (ad 2200 0)), some (.int (x1)), some (.int (x2)), some (.int (x3)), some (.int (x4)), d5, d6, d7, d8] 0 0 88 []) (hp : ∀ M, Rep E ad out.2 M → P (some (.int out.1)) M) {V : St} {M : MH} {x1 : Int32} {x2 : Int32} {x3 : Int32} {x4 : Int32} {x5 : Int32} {d6 : Option Value} {d7 : Option Value} {d8 : Option Value} (hR : Rep E ad V M) (h : F_X12_least_66 kh kx88 fu V x1 x2 x3 x4 x5 = some out) : G E X RX12 cX12_least 9 (some .int) false (rmD 3) P M [some (.ref (ad 2200 0)), some (.int (x1)), some (.int (x2)), some (.int (x3)), some (.int (x4)), some (.int (x5)), d6, d7, d8] 0 0 66 [] := by
  unfold F_X12_least_66 at h
  refine r_iload DX12_least_66 rfl ?_
  refine r_iload DX12_least_68 rfl ?_
  refine r_icmp_ge DX12_least_70 (fun c1 => ?_) (fun c1 => ?_)
  · have h := if_t c1 h
    exact hkx88 hR h
  · have h := if_f c1 h
    refine r_aload_n DX12_least_73 rfl ?_
    refine s_geta DX12_least_74 fl_X12_85 hR ct_2200 (one_cnt _) rfl ?_
    refine r_iload DX12_least_77 rfl ?_
    refine r_iload DX12_least_79 rfl ?_
    obtain ⟨hg2, h⟩ := gd_inv h
    obtain ⟨V3, hv4, h⟩ := bv_inv h
    refine s_iast DX12_least_81 hR oka_2230 ct_2230 (one_cnt _) hg2 (fun M hR => ?_)
    have hR := hR.cg hv4
    refine t_iinc (v := 1) (L' := [some (.ref (ad 2200 0)), some (.int (x1)), some (.int (x2)), some (.int (x3)), some (.int (x4)), some (.int (x5 + 1)), d6, d7, d8]) DX12_least_82 rfl ki_1 (by decide) rfl ?_
    refine r_goto DX12_least_85 ?_
    exact hkh hR h
def Lp_X12_least_66 (kx88 : St → Int32 → Int32 → Int32 → Int32 → RR) (fu : Nat) : Nat → St → Int32 → Int32 → Int32 → Int32 → Int32 → RR
  | 0, _, _, _, _, _, _ => none
  | n + 1, V, x1, x2, x3, x4, x5 => F_X12_least_66 (Lp_X12_least_66 kx88 fu n) kx88 fu V x1 x2 x3 x4 x5
theorem SL_X12_least_66 {E : EN} {X : CX} {P : Option Value → MH → Prop} {ad : AD} {fu : Nat} {out : Int32 × St} {kx88 : St → Int32 → Int32 → Int32 → Int32 → RR} (hkx88 : ∀ {V : St} {M : MH} {x1 : Int32} {x2 : Int32} {x3 : Int32} {x4 : Int32} {d5 : Option Value} {d6 : Option Value} {d7 : Option Value} {d8 : Option Value}, Rep E ad V M → kx88 V x1 x2 x3 x4 = some out → G E X RX12 cX12_least 9 (some .int) false (rmD 3) P M [some (.ref (ad 2200 0)), some (.int (x1)), some (.int (x2)), some (.int (x3)), some (.int (x4)), d5, d6, d7, d8] 0 0 88 []) (hp : ∀ M, Rep E ad out.2 M → P (some (.int out.1)) M) : ∀ (n : Nat) {V : St} {M : MH} {x1 : Int32} {x2 : Int32} {x3 : Int32} {x4 : Int32} {x5 : Int32} {d6 : Option Value} {d7 : Option Value} {d8 : Option Value}, Rep E ad V M → Lp_X12_least_66 kx88 fu n V x1 x2 x3 x4 x5 = some out → G E X RX12 cX12_least 9 (some .int) false (rmD 3) P M [some (.ref (ad 2200 0)), some (.int (x1)), some (.int (x2)), some (.int (x3)), some (.int (x4)), some (.int (x5)), d6, d7, d8] 0 0 66 [] := by
  intro n
  induction n with
  | zero => intros; rename_i h; cases h
  | succ n ih => exact fun hR h => S_X12_least_66 (fun hR h => ih hR h) (fun hR h => hkx88 hR h) hp hR h
def F_X12_least_53 (fu : Nat) (V : St) : RR :=
  some ((-1 : Int32), V)
theorem S_X12_least_53 {E : EN} {X : CX} {P : Option Value → MH → Prop} {ad : AD} {fu : Nat} {out : Int32 × St} (hp : ∀ M, Rep E ad out.2 M → P (some (.int out.1)) M) {V : St} {M : MH} {d0 : Option Value} {d1 : Option Value} {d2 : Option Value} {d3 : Option Value} {d4 : Option Value} {d5 : Option Value} {d6 : Option Value} {d7 : Option Value} {d8 : Option Value} (hR : Rep E ad V M) (h : F_X12_least_53 fu V = some out) : G E X RX12 cX12_least 9 (some .int) false (rmD 3) P M [d0, d1, d2, d3, d4, d5, d6, d7, d8] 0 0 53 [] := by
  unfold F_X12_least_53 at h
  refine r_iconst (v := -1) DX12_least_53 ki_m1 ?_
  cases h
  exact r_iret DX12_least_54 rfl ⟨Nat.le_refl 0, Nat.le_refl 0⟩ (hp M hR)
def f_X12_least (fu : Nat) (V : St) (x1 : Int32) (x2 : Int32) (x3 : Int32) : RR :=
  bd (f_X12_isThing fu V (x1)) fun r1 V2 => if r1 = 0 then
    (F_X12_least_53 fu V2)
    else
    (gd (¬ (x1 < 0 ∨ 30 ≤ (x1).toNatClampNeg)) <| if (V2 2216 (0) (x1).toNatClampNeg) = 0 then
      (bd (f_X12_in fu V2 (x2) ((1 : Int32)) ((200 : Int32))) fun r7 V8 => if r7 = 0 then
        (F_X12_least_53 fu V8)
        else
        (gd (¬ (x1 < 0 ∨ 30 ≤ (x1).toNatClampNeg)) <| bd (f_X12_in fu V8 (x3) ((-1 : Int32)) ((V8 2223 (0) (x1).toNatClampNeg) - (1 : Int32))) fun r12 V13 => if r12 = 0 then
          (F_X12_least_53 fu V13)
          else
          (bd (f_X12_isWider fu V13 (x1) (x2)) fun r16 V17 => if r16 = 0 then
            (gd (¬ (x1 < 0 ∨ 30 ≤ (x1).toNatClampNeg)) <| Lp_X12_least_66 (F_X12_least_88 fu) fu fu V17 (x1) (x2) (x3) ((V17 2223 (0) (x1).toNatClampNeg)) ((0 : Int32)))
            else
            (F_X12_least_53 fu V17))))
      else
      (F_X12_least_53 fu V2))
theorem S_X12_least_0 {E : EN} {X : CX} {P : Option Value → MH → Prop} {ad : AD} {fu : Nat} {out : Int32 × St} (hp : ∀ M, Rep E ad out.2 M → P (some (.int out.1)) M) {V : St} {M : MH} {x1 : Int32} {x2 : Int32} {x3 : Int32} (hR : Rep E ad V M) (h : f_X12_least fu V x1 x2 x3 = some out) : G E X RX12 cX12_least 9 (some .int) false (rmD 3) P M [some (.ref (ad 2200 0)), some (.int (x1)), some (.int (x2)), some (.int (x3)), none, none, none, none, none] 0 0 0 [] := by
  unfold f_X12_least at h
  refine r_aload_n DX12_least_0 rfl ?_
  refine r_iload_n DX12_least_1 rfl ?_
  obtain ⟨r1, V2, hc3, h⟩ := bd_inv h
  refine k_callV (As := [.int (x1)]) (rest := []) (st1 := [.int (r1)]) (w := some (.int r1)) DX12_least_2 cv_X12_271 hR ct_2200 (one_cnt _) rfl (C_X12_isThing (cxL X) hR hc3) rfl (by decide) (by decide) rfl (Nat.le_of_ble_eq_true rfl) rfl (fun M hR => ?_)
  refine r_if_eq DX12_least_5 (fun c4 => ?_) (fun c4 => ?_)
  · have h := if_t c4 h
    exact S_X12_least_53 hp hR h
  · have h := if_f c4 h
    refine r_aload_n DX12_least_8 rfl ?_
    refine s_geta DX12_least_9 fl_X12_43 hR ct_2200 (one_cnt _) rfl ?_
    refine r_iload_n DX12_least_12 rfl ?_
    obtain ⟨hg5, h⟩ := gd_inv h
    refine s_iald DX12_least_13 hR ct_2216 (one_cnt _) hg5 ?_
    refine r_if_ne DX12_least_14 (fun c6 => ?_) (fun c6 => ?_)
    · have h := if_f c6 h
      exact S_X12_least_53 hp hR h
    · have h := if_t c6 h
      refine r_iload_n DX12_least_17 rfl ?_
      refine r_iconst (v := 1) DX12_least_18 ki_1 ?_
      refine r_sipush (v := 200) DX12_least_19 ks_200 ?_
      obtain ⟨r7, V8, hc9, h⟩ := bd_inv h
      refine k_callS (As := [.int (x2), .int ((1 : Int32)), .int ((200 : Int32))]) (rest := []) (st1 := [.int (r7)]) (w := some (.int r7)) DX12_least_22 cs_X12_245 (C_X12_in (cxL X) hR hc9) rfl (by decide) (by decide) rfl (Nat.le_of_ble_eq_true rfl) rfl (fun M hR => ?_)
      refine r_if_eq DX12_least_25 (fun c10 => ?_) (fun c10 => ?_)
      · have h := if_t c10 h
        exact S_X12_least_53 hp hR h
      · have h := if_f c10 h
        refine r_iload_n DX12_least_28 rfl ?_
        refine r_iconst (v := -1) DX12_least_29 ki_m1 ?_
        refine r_aload_n DX12_least_30 rfl ?_
        refine s_geta DX12_least_31 fl_X12_64 hR ct_2200 (one_cnt _) rfl ?_
        refine r_iload_n DX12_least_34 rfl ?_
        obtain ⟨hg11, h⟩ := gd_inv h
        refine s_iald DX12_least_35 hR ct_2223 (one_cnt _) hg11 ?_
        refine r_iconst (v := 1) DX12_least_36 ki_1 ?_
        refine r_isub DX12_least_37 ?_
        obtain ⟨r12, V13, hc14, h⟩ := bd_inv h
        refine k_callS (As := [.int (x3), .int ((-1 : Int32)), .int ((V8 2223 (0) (x1).toNatClampNeg) - (1 : Int32))]) (rest := []) (st1 := [.int (r12)]) (w := some (.int r12)) DX12_least_38 cs_X12_245 (C_X12_in (cxL X) hR hc14) rfl (by decide) (by decide) rfl (Nat.le_of_ble_eq_true rfl) rfl (fun M hR => ?_)
        refine r_if_eq DX12_least_41 (fun c15 => ?_) (fun c15 => ?_)
        · have h := if_t c15 h
          exact S_X12_least_53 hp hR h
        · have h := if_f c15 h
          refine r_aload_n DX12_least_44 rfl ?_
          refine r_iload_n DX12_least_45 rfl ?_
          refine r_iload_n DX12_least_46 rfl ?_
          obtain ⟨r16, V17, hc18, h⟩ := bd_inv h
          refine k_callV (As := [.int (x1), .int (x2)]) (rest := []) (st1 := [.int (r16)]) (w := some (.int r16)) DX12_least_47 cv_X12_277 hR ct_2200 (one_cnt _) rfl (C_X12_isWider (cxL X) hR hc18) rfl (by decide) (by decide) rfl (Nat.le_of_ble_eq_true rfl) rfl (fun M hR => ?_)
          refine r_if_eq DX12_least_50 (fun c19 => ?_) (fun c19 => ?_)
          · have h := if_t c19 h
            refine r_aload_n DX12_least_55 rfl ?_
            refine s_geta DX12_least_56 fl_X12_64 hR ct_2200 (one_cnt _) rfl ?_
            refine r_iload_n DX12_least_59 rfl ?_
            obtain ⟨hg20, h⟩ := gd_inv h
            refine s_iald DX12_least_60 hR ct_2223 (one_cnt _) hg20 ?_
            refine t_istore (L' := [some (.ref (ad 2200 0)), some (.int (x1)), some (.int (x2)), some (.int (x3)), some (.int ((V17 2223 (0) (x1).toNatClampNeg))), none, none, none, none]) DX12_least_61 (by decide) rfl ?_
            refine r_iconst (v := 0) DX12_least_63 ki_0 ?_
            refine t_istore (L' := [some (.ref (ad 2200 0)), some (.int (x1)), some (.int (x2)), some (.int (x3)), some (.int ((V17 2223 (0) (x1).toNatClampNeg))), some (.int ((0 : Int32))), none, none, none]) DX12_least_64 (by decide) rfl ?_
            exact SL_X12_least_66 (fun hR h => S_X12_least_88 hp hR h) hp fu hR h
          · have h := if_f c19 h
            exact S_X12_least_53 hp hR h
theorem C_X12_least {E : EN} {ad : AD} {fu : Nat} {out : Int32 × St} {V : St} {M : MH} {x1 : Int32} {x2 : Int32} {x3 : Int32} (l : Launch) (hR : Rep E ad V M) (h : f_X12_least fu V x1 x2 x3 = some out) : Ct E l yX12_least cX12_least 9 (some .int) (rmD 3) [.ref (ad 2200 0), .int (x1), .int (x2), .int (x3)] M (fun v M => v = (some (.int out.1)) ∧ Rep E ad out.2 M) :=
  Ct.of (own := RX12) (ini := false) (L := [some (.ref (ad 2200 0)), some (.int (x1)), some (.int (x2)), some (.int (x3)), none, none, none, none, none]) rfl rfl (fun h => by cases h) rfl (Nat.le_of_ble_eq_true rfl) rfl (fun X _ => S_X12_least_0 (fun M hR => ⟨rfl, hR⟩) hR h)
def F_X12_load_46 (fu : Nat) (V : St) : RR :=
  some ((0 : Int32), V)
theorem S_X12_load_46 {E : EN} {X : CX} {P : Option Value → MH → Prop} {ad : AD} {fu : Nat} {out : Int32 × St} (hp : ∀ M, Rep E ad out.2 M → P (some (.int out.1)) M) {V : St} {M : MH} {d0 : Option Value} {d1 : Option Value} {d2 : Option Value} {d3 : Option Value} (hR : Rep E ad V M) (h : F_X12_load_46 fu V = some out) : G E X RX12 cX12_load 4 (some .boolean) false (rmD 2) P M [d0, d1, d2, d3] 0 0 46 [] := by
  unfold F_X12_load_46 at h
  refine r_iconst (v := 0) DX12_load_46 ki_0 ?_
  cases h
  exact r_zret DX12_load_47 rfl rfl ⟨Nat.le_refl 0, Nat.le_refl 0⟩ (hp M hR)
def f_X12_load (fu : Nat) (V : St) (x1 : Int32) (x2 : Int32) (x3 : Int32) : RR :=
  bd (f_X12_isDrawing fu V (x1)) fun r1 V2 => if r1 = 0 then
    (F_X12_load_46 fu V2)
    else
    (gd (¬ (x1 < 0 ∨ 22 ≤ (x1).toNatClampNeg)) <| bd (f_X12_in fu V2 (x2) ((1 : Int32)) ((V2 2208 (0) (x1).toNatClampNeg) - (1 : Int32))) fun r6 V7 => if r6 = 0 then
      (F_X12_load_46 fu V7)
      else
      (bd (f_X12_in fu V7 (x3) ((1 : Int32)) ((500 : Int32))) fun r10 V11 => if r10 = 0 then
        (F_X12_load_46 fu V11)
        else
        (gd (¬ (x1 < 0 ∨ 22 ≤ (x1).toNatClampNeg)) <| if (V11 2210 (0) (x1).toNatClampNeg) = (8 : Int32) then
          (F_X12_load_46 fu V11)
          else
          (gd (¬ (x1 < 0 ∨ 22 ≤ (x1).toNatClampNeg)) <| gd (¬ (((8 : Int32) * x1) + (V11 2210 (0) (x1).toNatClampNeg) < 0 ∨ 176 ≤ (((8 : Int32) * x1) + (V11 2210 (0) (x1).toNatClampNeg)).toNatClampNeg)) <| bv (setV V11 2214 (0) (((8 : Int32) * x1) + (V11 2210 (0) (x1).toNatClampNeg)).toNatClampNeg (x2)) fun V18 => gd (¬ (x1 < 0 ∨ 22 ≤ (x1).toNatClampNeg)) <| gd (¬ (((8 : Int32) * x1) + (V18 2210 (0) (x1).toNatClampNeg) < 0 ∨ 176 ≤ (((8 : Int32) * x1) + (V18 2210 (0) (x1).toNatClampNeg)).toNatClampNeg)) <| bv (setV V18 2215 (0) (((8 : Int32) * x1) + (V18 2210 (0) (x1).toNatClampNeg)).toNatClampNeg (x3)) fun V22 => gd (¬ (x1 < 0 ∨ 22 ≤ (x1).toNatClampNeg)) <| gd (¬ (x1 < 0 ∨ 22 ≤ (x1).toNatClampNeg)) <| bv (setV V22 2210 (0) (x1).toNatClampNeg ((V22 2210 (0) (x1).toNatClampNeg) + (1 : Int32))) fun V26 => some ((1 : Int32), V26)))))
theorem S_X12_load_0 {E : EN} {X : CX} {P : Option Value → MH → Prop} {ad : AD} {fu : Nat} {out : Int32 × St} (hp : ∀ M, Rep E ad out.2 M → P (some (.int out.1)) M) {V : St} {M : MH} {x1 : Int32} {x2 : Int32} {x3 : Int32} (hR : Rep E ad V M) (h : f_X12_load fu V x1 x2 x3 = some out) : G E X RX12 cX12_load 4 (some .boolean) false (rmD 2) P M [some (.ref (ad 2200 0)), some (.int (x1)), some (.int (x2)), some (.int (x3))] 0 0 0 [] := by
  unfold f_X12_load at h
  refine r_aload_n DX12_load_0 rfl ?_
  refine r_iload_n DX12_load_1 rfl ?_
  obtain ⟨r1, V2, hc3, h⟩ := bd_inv h
  refine k_callV (As := [.int (x1)]) (rest := []) (st1 := [.int (r1)]) (w := some (.int r1)) DX12_load_2 cv_X12_249 hR ct_2200 (one_cnt _) rfl (C_X12_isDrawing (cxL X) hR hc3) rfl (by decide) (by decide) rfl (Nat.le_of_ble_eq_true rfl) rfl (fun M hR => ?_)
  refine r_if_eq DX12_load_5 (fun c4 => ?_) (fun c4 => ?_)
  · have h := if_t c4 h
    exact S_X12_load_46 hp hR h
  · have h := if_f c4 h
    refine r_iload_n DX12_load_8 rfl ?_
    refine r_iconst (v := 1) DX12_load_9 ki_1 ?_
    refine r_aload_n DX12_load_10 rfl ?_
    refine s_geta DX12_load_11 fl_X12_19 hR ct_2200 (one_cnt _) rfl ?_
    refine r_iload_n DX12_load_14 rfl ?_
    obtain ⟨hg5, h⟩ := gd_inv h
    refine s_iald DX12_load_15 hR ct_2208 (one_cnt _) hg5 ?_
    refine r_iconst (v := 1) DX12_load_16 ki_1 ?_
    refine r_isub DX12_load_17 ?_
    obtain ⟨r6, V7, hc8, h⟩ := bd_inv h
    refine k_callS (As := [.int (x2), .int ((1 : Int32)), .int ((V2 2208 (0) (x1).toNatClampNeg) - (1 : Int32))]) (rest := []) (st1 := [.int (r6)]) (w := some (.int r6)) DX12_load_18 cs_X12_245 (C_X12_in (cxL X) hR hc8) rfl (by decide) (by decide) rfl (Nat.le_of_ble_eq_true rfl) rfl (fun M hR => ?_)
    refine r_if_eq DX12_load_21 (fun c9 => ?_) (fun c9 => ?_)
    · have h := if_t c9 h
      exact S_X12_load_46 hp hR h
    · have h := if_f c9 h
      refine r_iload_n DX12_load_24 rfl ?_
      refine r_iconst (v := 1) DX12_load_25 ki_1 ?_
      refine r_sipush (v := 500) DX12_load_26 ks_500 ?_
      obtain ⟨r10, V11, hc12, h⟩ := bd_inv h
      refine k_callS (As := [.int (x3), .int ((1 : Int32)), .int ((500 : Int32))]) (rest := []) (st1 := [.int (r10)]) (w := some (.int r10)) DX12_load_29 cs_X12_245 (C_X12_in (cxL X) hR hc12) rfl (by decide) (by decide) rfl (Nat.le_of_ble_eq_true rfl) rfl (fun M hR => ?_)
      refine r_if_eq DX12_load_32 (fun c13 => ?_) (fun c13 => ?_)
      · have h := if_t c13 h
        exact S_X12_load_46 hp hR h
      · have h := if_f c13 h
        refine r_aload_n DX12_load_35 rfl ?_
        refine s_geta DX12_load_36 fl_X12_25 hR ct_2200 (one_cnt _) rfl ?_
        refine r_iload_n DX12_load_39 rfl ?_
        obtain ⟨hg14, h⟩ := gd_inv h
        refine s_iald DX12_load_40 hR ct_2210 (one_cnt _) hg14 ?_
        refine r_bipush (v := 8) DX12_load_41 kb_8 ?_
        refine r_icmp_ne DX12_load_43 (fun c15 => ?_) (fun c15 => ?_)
        · have h := if_f c15 h
          refine r_aload_n DX12_load_48 rfl ?_
          refine s_geta DX12_load_49 fl_X12_37 hR ct_2200 (one_cnt _) rfl ?_
          refine r_bipush (v := 8) DX12_load_52 kb_8 ?_
          refine r_iload_n DX12_load_54 rfl ?_
          refine r_imul DX12_load_55 ?_
          refine r_aload_n DX12_load_56 rfl ?_
          refine s_geta DX12_load_57 fl_X12_25 hR ct_2200 (one_cnt _) rfl ?_
          refine r_iload_n DX12_load_60 rfl ?_
          obtain ⟨hg16, h⟩ := gd_inv h
          refine s_iald DX12_load_61 hR ct_2210 (one_cnt _) hg16 ?_
          refine r_iadd DX12_load_62 ?_
          refine r_iload_n DX12_load_63 rfl ?_
          obtain ⟨hg17, h⟩ := gd_inv h
          obtain ⟨V18, hv19, h⟩ := bv_inv h
          refine s_iast DX12_load_64 hR oka_2214 ct_2214 (one_cnt _) hg17 (fun M hR => ?_)
          have hR := hR.cg hv19
          refine r_aload_n DX12_load_65 rfl ?_
          refine s_geta DX12_load_66 fl_X12_40 hR ct_2200 (one_cnt _) rfl ?_
          refine r_bipush (v := 8) DX12_load_69 kb_8 ?_
          refine r_iload_n DX12_load_71 rfl ?_
          refine r_imul DX12_load_72 ?_
          refine r_aload_n DX12_load_73 rfl ?_
          refine s_geta DX12_load_74 fl_X12_25 hR ct_2200 (one_cnt _) rfl ?_
          refine r_iload_n DX12_load_77 rfl ?_
          obtain ⟨hg20, h⟩ := gd_inv h
          refine s_iald DX12_load_78 hR ct_2210 (one_cnt _) hg20 ?_
          refine r_iadd DX12_load_79 ?_
          refine r_iload_n DX12_load_80 rfl ?_
          obtain ⟨hg21, h⟩ := gd_inv h
          obtain ⟨V22, hv23, h⟩ := bv_inv h
          refine s_iast DX12_load_81 hR oka_2215 ct_2215 (one_cnt _) hg21 (fun M hR => ?_)
          have hR := hR.cg hv23
          refine r_aload_n DX12_load_82 rfl ?_
          refine s_geta DX12_load_83 fl_X12_25 hR ct_2200 (one_cnt _) rfl ?_
          refine r_iload_n DX12_load_86 rfl ?_
          refine r_aload_n DX12_load_87 rfl ?_
          refine s_geta DX12_load_88 fl_X12_25 hR ct_2200 (one_cnt _) rfl ?_
          refine r_iload_n DX12_load_91 rfl ?_
          obtain ⟨hg24, h⟩ := gd_inv h
          refine s_iald DX12_load_92 hR ct_2210 (one_cnt _) hg24 ?_
          refine r_iconst (v := 1) DX12_load_93 ki_1 ?_
          refine r_iadd DX12_load_94 ?_
          obtain ⟨hg25, h⟩ := gd_inv h
          obtain ⟨V26, hv27, h⟩ := bv_inv h
          refine s_iast DX12_load_95 hR oka_2210 ct_2210 (one_cnt _) hg25 (fun M hR => ?_)
          have hR := hR.cg hv27
          refine r_iconst (v := 1) DX12_load_96 ki_1 ?_
          cases h
          exact r_zret DX12_load_97 rfl rfl ⟨Nat.le_refl 0, Nat.le_refl 0⟩ (hp M hR)
        · have h := if_t c15 h
          exact S_X12_load_46 hp hR h
theorem C_X12_load {E : EN} {ad : AD} {fu : Nat} {out : Int32 × St} {V : St} {M : MH} {x1 : Int32} {x2 : Int32} {x3 : Int32} (l : Launch) (hR : Rep E ad V M) (h : f_X12_load fu V x1 x2 x3 = some out) : Ct E l yX12_load cX12_load 4 (some .boolean) (rmD 2) [.ref (ad 2200 0), .int (x1), .int (x2), .int (x3)] M (fun v M => v = (some (.int out.1)) ∧ Rep E ad out.2 M) :=
  Ct.of (own := RX12) (ini := false) (L := [some (.ref (ad 2200 0)), some (.int (x1)), some (.int (x2)), some (.int (x3))]) rfl rfl (fun h => by cases h) rfl (Nat.le_of_ble_eq_true rfl) rfl (fun X _ => S_X12_load_0 (fun M hR => ⟨rfl, hR⟩) hR h)
def F_X12_look_103 (fu : Nat) (V : St) (s0 : Int32) : RR :=
  some (s0, V)
theorem S_X12_look_103 {E : EN} {X : CX} {P : Option Value → MH → Prop} {ad : AD} {fu : Nat} {out : Int32 × St} (hp : ∀ M, Rep E ad out.2 M → P (some (.int out.1)) M) {V : St} {M : MH} {s0 : Int32} {d0 : Option Value} {d1 : Option Value} {d2 : Option Value} {d3 : Option Value} (hR : Rep E ad V M) (h : F_X12_look_103 fu V s0 = some out) : G E X RX12 cX12_look 4 (some .int) false (rmD 2) P M [d0, d1, d2, d3] 0 0 103 [.int (s0)] := by
  unfold F_X12_look_103 at h
  cases h
  exact r_iret DX12_look_103 rfl ⟨Nat.le_refl 0, Nat.le_refl 0⟩ (hp M hR)
def F_X12_look_102 (fu : Nat) (V : St) : RR :=
  F_X12_look_103 fu V ((-1 : Int32))
theorem S_X12_look_102 {E : EN} {X : CX} {P : Option Value → MH → Prop} {ad : AD} {fu : Nat} {out : Int32 × St} (hp : ∀ M, Rep E ad out.2 M → P (some (.int out.1)) M) {V : St} {M : MH} {d0 : Option Value} {d1 : Option Value} {d2 : Option Value} {d3 : Option Value} (hR : Rep E ad V M) (h : F_X12_look_102 fu V = some out) : G E X RX12 cX12_look 4 (some .int) false (rmD 2) P M [d0, d1, d2, d3] 0 0 102 [] := by
  unfold F_X12_look_102 at h
  refine r_iconst (v := -1) DX12_look_102 ki_m1 ?_
  exact S_X12_look_103 hp hR h
def F_X12_look_51 (fu : Nat) (V : St) (x2 : Int32) (s0 : Int32) : RR :=
  bd (f_X12_isMaker fu V (s0)) fun r1 V2 => if r1 = 0 then
    (some ((-1 : Int32), V2))
    else
    (if x2 = 0 then
      (gd (¬ (s0 < 0 ∨ 12 ≤ (s0).toNatClampNeg)) <| some ((V2 2239 (0) (s0).toNatClampNeg), V2))
      else
      (if x2 < (1 : Int32) then
        (F_X12_look_102 fu V2)
        else
        (if (V2 2202 0 0) < x2 then
          (F_X12_look_102 fu V2)
          else
          (gd (¬ ((((20 : Int32) * s0) + x2) - (1 : Int32) < 0 ∨ 240 ≤ ((((20 : Int32) * s0) + x2) - (1 : Int32)).toNatClampNeg)) <| F_X12_look_103 fu V2 ((V2 2238 (0) ((((20 : Int32) * s0) + x2) - (1 : Int32)).toNatClampNeg))))))
theorem S_X12_look_51 {E : EN} {X : CX} {P : Option Value → MH → Prop} {ad : AD} {fu : Nat} {out : Int32 × St} (hp : ∀ M, Rep E ad out.2 M → P (some (.int out.1)) M) {V : St} {M : MH} {x2 : Int32} {s0 : Int32} {d1 : Option Value} {d3 : Option Value} (hR : Rep E ad V M) (h : F_X12_look_51 fu V x2 s0 = some out) : G E X RX12 cX12_look 4 (some .int) false (rmD 2) P M [some (.ref (ad 2200 0)), d1, some (.int (x2)), d3] 0 0 51 [.int (s0)] := by
  unfold F_X12_look_51 at h
  refine t_istore_n (L' := [some (.ref (ad 2200 0)), d1, some (.int (x2)), some (.int (s0))]) DX12_look_51 (by decide) rfl ?_
  refine r_aload_n DX12_look_52 rfl ?_
  refine r_iload_n DX12_look_53 rfl ?_
  obtain ⟨r1, V2, hc3, h⟩ := bd_inv h
  refine k_callV (As := [.int (s0)]) (rest := []) (st1 := [.int (r1)]) (w := some (.int r1)) DX12_look_54 cv_X12_294 hR ct_2200 (one_cnt _) rfl (C_X12_isMaker (cxL X) hR hc3) rfl (by decide) (by decide) rfl (Nat.le_of_ble_eq_true rfl) rfl (fun M hR => ?_)
  refine r_if_ne DX12_look_57 (fun c4 => ?_) (fun c4 => ?_)
  · have h := if_f c4 h
    refine r_iload_n DX12_look_62 rfl ?_
    refine r_if_ne DX12_look_63 (fun c5 => ?_) (fun c5 => ?_)
    · have h := if_f c5 h
      refine r_iload_n DX12_look_73 rfl ?_
      refine r_iconst (v := 1) DX12_look_74 ki_1 ?_
      refine r_icmp_lt DX12_look_75 (fun c6 => ?_) (fun c6 => ?_)
      · have h := if_t c6 h
        exact S_X12_look_102 hp hR h
      · have h := if_f c6 h
        refine r_iload_n DX12_look_78 rfl ?_
        refine r_aload_n DX12_look_79 rfl ?_
        refine s_geti DX12_look_80 fl_X12_236 hR ct_2200 (one_cnt _) rfl ?_
        refine r_icmp_gt DX12_look_83 (fun c7 => ?_) (fun c7 => ?_)
        · have h := if_t c7 h
          exact S_X12_look_102 hp hR h
        · have h := if_f c7 h
          refine r_aload_n DX12_look_86 rfl ?_
          refine s_geta DX12_look_87 fl_X12_106 hR ct_2200 (one_cnt _) rfl ?_
          refine r_bipush (v := 20) DX12_look_90 kb_20 ?_
          refine r_iload_n DX12_look_92 rfl ?_
          refine r_imul DX12_look_93 ?_
          refine r_iload_n DX12_look_94 rfl ?_
          refine r_iadd DX12_look_95 ?_
          refine r_iconst (v := 1) DX12_look_96 ki_1 ?_
          refine r_isub DX12_look_97 ?_
          obtain ⟨hg8, h⟩ := gd_inv h
          refine s_iald DX12_look_98 hR ct_2238 (one_cnt _) hg8 ?_
          refine r_goto DX12_look_99 ?_
          exact S_X12_look_103 hp hR h
    · have h := if_t c5 h
      refine r_aload_n DX12_look_66 rfl ?_
      refine s_geta DX12_look_67 fl_X12_109 hR ct_2200 (one_cnt _) rfl ?_
      refine r_iload_n DX12_look_70 rfl ?_
      obtain ⟨hg6, h⟩ := gd_inv h
      refine s_iald DX12_look_71 hR ct_2239 (one_cnt _) hg6 ?_
      cases h
      exact r_iret DX12_look_72 rfl ⟨Nat.le_refl 0, Nat.le_refl 0⟩ (hp M hR)
  · have h := if_t c4 h
    refine r_iconst (v := -1) DX12_look_60 ki_m1 ?_
    cases h
    exact r_iret DX12_look_61 rfl ⟨Nat.le_refl 0, Nat.le_refl 0⟩ (hp M hR)
def F_X12_look_36 (fu : Nat) (V : St) (s0 : Int32) : RR :=
  some (s0, V)
theorem S_X12_look_36 {E : EN} {X : CX} {P : Option Value → MH → Prop} {ad : AD} {fu : Nat} {out : Int32 × St} (hp : ∀ M, Rep E ad out.2 M → P (some (.int out.1)) M) {V : St} {M : MH} {s0 : Int32} {d0 : Option Value} {d1 : Option Value} {d2 : Option Value} {d3 : Option Value} (hR : Rep E ad V M) (h : F_X12_look_36 fu V s0 = some out) : G E X RX12 cX12_look 4 (some .int) false (rmD 2) P M [d0, d1, d2, d3] 0 0 36 [.int (s0)] := by
  unfold F_X12_look_36 at h
  cases h
  exact r_iret DX12_look_36 rfl ⟨Nat.le_refl 0, Nat.le_refl 0⟩ (hp M hR)
def f_X12_look (fu : Nat) (V : St) (x1 : Int32) (x2 : Int32) : RR :=
  bd (f_X12_isPerson fu V (x1)) fun r1 V2 => if r1 = 0 then
    (if (100 : Int32) ≤ x1 then
      (F_X12_look_51 fu V2 (x2) (x1 - (100 : Int32)))
      else
      (F_X12_look_51 fu V2 (x2) ((-1 : Int32))))
    else
    (if x2 = 0 then
      (gd (¬ (x1 < 0 ∨ 40 ≤ (x1).toNatClampNeg)) <| F_X12_look_36 fu V2 ((V2 2278 (0) (x1).toNatClampNeg)))
      else
      (if x2 = (1 : Int32) then
        (gd (¬ (x1 < 0 ∨ 40 ≤ (x1).toNatClampNeg)) <| F_X12_look_36 fu V2 ((V2 2279 (0) (x1).toNatClampNeg)))
        else
        (F_X12_look_36 fu V2 ((-1 : Int32)))))
theorem S_X12_look_0 {E : EN} {X : CX} {P : Option Value → MH → Prop} {ad : AD} {fu : Nat} {out : Int32 × St} (hp : ∀ M, Rep E ad out.2 M → P (some (.int out.1)) M) {V : St} {M : MH} {x1 : Int32} {x2 : Int32} (hR : Rep E ad V M) (h : f_X12_look fu V x1 x2 = some out) : G E X RX12 cX12_look 4 (some .int) false (rmD 2) P M [some (.ref (ad 2200 0)), some (.int (x1)), some (.int (x2)), none] 0 0 0 [] := by
  unfold f_X12_look at h
  refine r_aload_n DX12_look_0 rfl ?_
  refine r_iload_n DX12_look_1 rfl ?_
  obtain ⟨r1, V2, hc3, h⟩ := bd_inv h
  refine k_callV (As := [.int (x1)]) (rest := []) (st1 := [.int (r1)]) (w := some (.int r1)) DX12_look_2 cv_X12_443 hR ct_2200 (one_cnt _) rfl (C_X12_isPerson (cxL X) hR hc3) rfl (by decide) (by decide) rfl (Nat.le_of_ble_eq_true rfl) rfl (fun M hR => ?_)
  refine r_if_eq DX12_look_5 (fun c4 => ?_) (fun c4 => ?_)
  · have h := if_t c4 h
    refine r_iload_n DX12_look_37 rfl ?_
    refine r_bipush (v := 100) DX12_look_38 kb_100 ?_
    refine r_icmp_ge DX12_look_40 (fun c5 => ?_) (fun c5 => ?_)
    · have h := if_t c5 h
      refine r_iload_n DX12_look_47 rfl ?_
      refine r_bipush (v := 100) DX12_look_48 kb_100 ?_
      refine r_isub DX12_look_50 ?_
      exact S_X12_look_51 hp hR h
    · have h := if_f c5 h
      refine r_iconst (v := -1) DX12_look_43 ki_m1 ?_
      refine r_goto DX12_look_44 ?_
      exact S_X12_look_51 hp hR h
  · have h := if_f c4 h
    refine r_iload_n DX12_look_8 rfl ?_
    refine r_if_ne DX12_look_9 (fun c5 => ?_) (fun c5 => ?_)
    · have h := if_f c5 h
      refine r_iload_n DX12_look_21 rfl ?_
      refine r_iconst (v := 1) DX12_look_22 ki_1 ?_
      refine r_icmp_ne DX12_look_23 (fun c6 => ?_) (fun c6 => ?_)
      · have h := if_f c6 h
        refine r_iconst (v := -1) DX12_look_35 ki_m1 ?_
        exact S_X12_look_36 hp hR h
      · have h := if_t c6 h
        refine r_aload_n DX12_look_26 rfl ?_
        refine s_geta DX12_look_27 fl_X12_194 hR ct_2200 (one_cnt _) rfl ?_
        refine r_iload_n DX12_look_30 rfl ?_
        obtain ⟨hg7, h⟩ := gd_inv h
        refine s_iald DX12_look_31 hR ct_2279 (one_cnt _) hg7 ?_
        refine r_goto DX12_look_32 ?_
        exact S_X12_look_36 hp hR h
    · have h := if_t c5 h
      refine r_aload_n DX12_look_12 rfl ?_
      refine s_geta DX12_look_13 fl_X12_191 hR ct_2200 (one_cnt _) rfl ?_
      refine r_iload_n DX12_look_16 rfl ?_
      obtain ⟨hg6, h⟩ := gd_inv h
      refine s_iald DX12_look_17 hR ct_2278 (one_cnt _) hg6 ?_
      refine r_goto DX12_look_18 ?_
      exact S_X12_look_36 hp hR h
theorem C_X12_look {E : EN} {ad : AD} {fu : Nat} {out : Int32 × St} {V : St} {M : MH} {x1 : Int32} {x2 : Int32} (l : Launch) (hR : Rep E ad V M) (h : f_X12_look fu V x1 x2 = some out) : Ct E l yX12_look cX12_look 4 (some .int) (rmD 2) [.ref (ad 2200 0), .int (x1), .int (x2)] M (fun v M => v = (some (.int out.1)) ∧ Rep E ad out.2 M) :=
  Ct.of (own := RX12) (ini := false) (L := [some (.ref (ad 2200 0)), some (.int (x1)), some (.int (x2)), none]) rfl rfl (fun h => by cases h) rfl (Nat.le_of_ble_eq_true rfl) rfl (fun X _ => S_X12_look_0 (fun M hR => ⟨rfl, hR⟩) hR h)
def F_X12_loses_75 (fu : Nat) (V : St) (x1 : Int32) (x2 : Int32) (s0 : Int32) : RR :=
  bd (f_X12_paidFor fu V (x2)) fun r1 V2 => bd (f_X12_orNothing fu V2 ((100 : Int32)) (x2) ((-1 : Int32)) ((V2 2201 0 0)) ((V2 2201 0 0))) fun r4 V5 => gd (¬ (x1 < 0 ∨ 12 ≤ (x1).toNatClampNeg)) <| gd (¬ (x1 < 0 ∨ 12 ≤ (x1).toNatClampNeg)) <| bd (f_X12_up fu V5 ((V5 2237 (0) (x1).toNatClampNeg)) ((V5 2236 (0) (x1).toNatClampNeg))) fun r9 V10 => some ((s0 + r9) - (r1 - ((r1 * r4) / ((100 : Int32)))), V10)
theorem S_X12_loses_75 {E : EN} {X : CX} {P : Option Value → MH → Prop} {ad : AD} {fu : Nat} {out : Int32 × St} (hp : ∀ M, Rep E ad out.2 M → P (some (.int out.1)) M) {V : St} {M : MH} {x1 : Int32} {x2 : Int32} {s0 : Int32} {d3 : Option Value} {d4 : Option Value} {d5 : Option Value} (hR : Rep E ad V M) (h : F_X12_loses_75 fu V x1 x2 s0 = some out) : G E X RX12 cX12_loses 6 (some .int) false (rmD 6) P M [some (.ref (ad 2200 0)), some (.int (x1)), some (.int (x2)), d3, d4, d5] 0 0 75 [.int (s0)] := by
  unfold F_X12_loses_75 at h
  refine t_istore_n (L' := [some (.ref (ad 2200 0)), some (.int (x1)), some (.int (x2)), some (.int (s0)), d4, d5]) DX12_loses_75 (by decide) rfl ?_
  refine r_aload_n DX12_loses_76 rfl ?_
  refine r_iload_n DX12_loses_77 rfl ?_
  obtain ⟨r1, V2, hc3, h⟩ := bd_inv h
  refine k_callV (As := [.int (x2)]) (rest := []) (st1 := [.int (r1)]) (w := some (.int r1)) DX12_loses_78 cv_X12_446 hR ct_2200 (one_cnt _) rfl (C_X12_paidFor (cxL X) hR hc3) rfl (by decide) (by decide) rfl (Nat.le_of_ble_eq_true rfl) rfl (fun M hR => ?_)
  refine t_istore (L' := [some (.ref (ad 2200 0)), some (.int (x1)), some (.int (x2)), some (.int (s0)), some (.int (r1)), d5]) DX12_loses_81 (by decide) rfl ?_
  refine r_aload_n DX12_loses_83 rfl ?_
  refine r_bipush (v := 100) DX12_loses_84 kb_100 ?_
  refine r_iload_n DX12_loses_86 rfl ?_
  refine r_iconst (v := -1) DX12_loses_87 ki_m1 ?_
  refine r_aload_n DX12_loses_88 rfl ?_
  refine s_geti DX12_loses_89 fl_X12_400 hR ct_2200 (one_cnt _) rfl ?_
  refine r_aload_n DX12_loses_92 rfl ?_
  refine s_geti DX12_loses_93 fl_X12_400 hR ct_2200 (one_cnt _) rfl ?_
  obtain ⟨r4, V5, hc6, h⟩ := bd_inv h
  refine k_callV (As := [.int ((100 : Int32)), .int (x2), .int ((-1 : Int32)), .int ((V2 2201 0 0)), .int ((V2 2201 0 0))]) (rest := []) (st1 := [.int (r4)]) (w := some (.int r4)) DX12_loses_96 cv_X12_430 hR ct_2200 (one_cnt _) rfl (C_X12_orNothing (cxL X) hR hc6) rfl (by decide) (by decide) rfl (Nat.le_of_ble_eq_true rfl) rfl (fun M hR => ?_)
  refine t_istore (L' := [some (.ref (ad 2200 0)), some (.int (x1)), some (.int (x2)), some (.int (s0)), some (.int (r1)), some (.int (r4))]) DX12_loses_99 (by decide) rfl ?_
  refine r_iload_n DX12_loses_101 rfl ?_
  refine r_aload_n DX12_loses_102 rfl ?_
  refine s_geta DX12_loses_103 fl_X12_103 hR ct_2200 (one_cnt _) rfl ?_
  refine r_iload_n DX12_loses_106 rfl ?_
  obtain ⟨hg7, h⟩ := gd_inv h
  refine s_iald DX12_loses_107 hR ct_2237 (one_cnt _) hg7 ?_
  refine r_aload_n DX12_loses_108 rfl ?_
  refine s_geta DX12_loses_109 fl_X12_100 hR ct_2200 (one_cnt _) rfl ?_
  refine r_iload_n DX12_loses_112 rfl ?_
  obtain ⟨hg8, h⟩ := gd_inv h
  refine s_iald DX12_loses_113 hR ct_2236 (one_cnt _) hg8 ?_
  obtain ⟨r9, V10, hc11, h⟩ := bd_inv h
  refine k_callS (As := [.int ((V5 2237 (0) (x1).toNatClampNeg)), .int ((V5 2236 (0) (x1).toNatClampNeg))]) (rest := [.int (s0)]) (st1 := [.int (r9), .int (s0)]) (w := some (.int r9)) DX12_loses_114 cs_X12_437 (C_X12_up (cxL X) hR hc11) rfl (by decide) (by decide) rfl (Nat.le_of_ble_eq_true rfl) rfl (fun M hR => ?_)
  refine r_iadd DX12_loses_117 ?_
  refine r_iload DX12_loses_118 rfl ?_
  refine r_iload DX12_loses_120 rfl ?_
  refine r_iload DX12_loses_122 rfl ?_
  refine r_imul DX12_loses_124 ?_
  refine r_bipush (v := 100) DX12_loses_125 kb_100 ?_
  refine r_idiv DX12_loses_127 (by decide) ?_
  refine r_isub DX12_loses_128 ?_
  refine r_isub DX12_loses_129 ?_
  cases h
  exact r_iret DX12_loses_130 rfl ⟨Nat.le_refl 0, Nat.le_refl 0⟩ (hp M hR)
def F_X12_loses_16 (fu : Nat) (V : St) : RR :=
  some ((-1000000000 : Int32), V)
theorem S_X12_loses_16 {E : EN} {X : CX} {P : Option Value → MH → Prop} {ad : AD} {fu : Nat} {out : Int32 × St} (hp : ∀ M, Rep E ad out.2 M → P (some (.int out.1)) M) {V : St} {M : MH} {d0 : Option Value} {d1 : Option Value} {d2 : Option Value} {d3 : Option Value} {d4 : Option Value} {d5 : Option Value} (hR : Rep E ad V M) (h : F_X12_loses_16 fu V = some out) : G E X RX12 cX12_loses 6 (some .int) false (rmD 6) P M [d0, d1, d2, d3, d4, d5] 0 0 16 [] := by
  unfold F_X12_loses_16 at h
  refine r_ldcw (v := -1000000000) DX12_loses_16 ck_X12_476 ?_
  cases h
  exact r_iret DX12_loses_19 rfl ⟨Nat.le_refl 0, Nat.le_refl 0⟩ (hp M hR)
def f_X12_loses (fu : Nat) (V : St) (x1 : Int32) (x2 : Int32) : RR :=
  bd (f_X12_isMaker fu V (x1)) fun r1 V2 => if r1 = 0 then
    (F_X12_loses_16 fu V2)
    else
    (bd (f_X12_isThing fu V2 (x2)) fun r5 V6 => if r5 = 0 then
      (F_X12_loses_16 fu V6)
      else
      (gd (¬ (x2 < 0 ∨ 30 ≤ (x2).toNatClampNeg)) <| if (V6 2216 (0) (x2).toNatClampNeg) = 0 then
        (gd (¬ (x2 < 0 ∨ 30 ≤ (x2).toNatClampNeg)) <| gd (¬ (x2 < 0 ∨ 30 ≤ (x2).toNatClampNeg)) <| gd (¬ ((V6 2217 (0) (x2).toNatClampNeg) < 0 ∨ 20 ≤ ((V6 2217 (0) (x2).toNatClampNeg)).toNatClampNeg)) <| bd (f_X12_up fu V6 ((V6 2219 (0) (x2).toNatClampNeg) * (V6 2207 (0) ((V6 2217 (0) (x2).toNatClampNeg)).toNatClampNeg)) ((36 : Int32))) fun r15 V16 => F_X12_loses_75 fu V16 (x1) (x2) (r15))
        else
        (gd (¬ (x2 < 0 ∨ 30 ≤ (x2).toNatClampNeg)) <| if (V6 2216 (0) (x2).toNatClampNeg) = (1 : Int32) then
          (gd (¬ (x2 < 0 ∨ 30 ≤ (x2).toNatClampNeg)) <| F_X12_loses_75 fu V6 (x1) (x2) ((V6 2219 (0) (x2).toNatClampNeg)))
          else
          (F_X12_loses_75 fu V6 (x1) (x2) ((0 : Int32))))))
theorem S_X12_loses_0 {E : EN} {X : CX} {P : Option Value → MH → Prop} {ad : AD} {fu : Nat} {out : Int32 × St} (hp : ∀ M, Rep E ad out.2 M → P (some (.int out.1)) M) {V : St} {M : MH} {x1 : Int32} {x2 : Int32} (hR : Rep E ad V M) (h : f_X12_loses fu V x1 x2 = some out) : G E X RX12 cX12_loses 6 (some .int) false (rmD 6) P M [some (.ref (ad 2200 0)), some (.int (x1)), some (.int (x2)), none, none, none] 0 0 0 [] := by
  unfold f_X12_loses at h
  refine r_aload_n DX12_loses_0 rfl ?_
  refine r_iload_n DX12_loses_1 rfl ?_
  obtain ⟨r1, V2, hc3, h⟩ := bd_inv h
  refine k_callV (As := [.int (x1)]) (rest := []) (st1 := [.int (r1)]) (w := some (.int r1)) DX12_loses_2 cv_X12_294 hR ct_2200 (one_cnt _) rfl (C_X12_isMaker (cxL X) hR hc3) rfl (by decide) (by decide) rfl (Nat.le_of_ble_eq_true rfl) rfl (fun M hR => ?_)
  refine r_if_eq DX12_loses_5 (fun c4 => ?_) (fun c4 => ?_)
  · have h := if_t c4 h
    exact S_X12_loses_16 hp hR h
  · have h := if_f c4 h
    refine r_aload_n DX12_loses_8 rfl ?_
    refine r_iload_n DX12_loses_9 rfl ?_
    obtain ⟨r5, V6, hc7, h⟩ := bd_inv h
    refine k_callV (As := [.int (x2)]) (rest := []) (st1 := [.int (r5)]) (w := some (.int r5)) DX12_loses_10 cv_X12_271 hR ct_2200 (one_cnt _) rfl (C_X12_isThing (cxL X) hR hc7) rfl (by decide) (by decide) rfl (Nat.le_of_ble_eq_true rfl) rfl (fun M hR => ?_)
    refine r_if_ne DX12_loses_13 (fun c8 => ?_) (fun c8 => ?_)
    · have h := if_f c8 h
      refine r_aload_n DX12_loses_20 rfl ?_
      refine s_geta DX12_loses_21 fl_X12_43 hR ct_2200 (one_cnt _) rfl ?_
      refine r_iload_n DX12_loses_24 rfl ?_
      obtain ⟨hg9, h⟩ := gd_inv h
      refine s_iald DX12_loses_25 hR ct_2216 (one_cnt _) hg9 ?_
      refine r_if_ne DX12_loses_26 (fun c10 => ?_) (fun c10 => ?_)
      · have h := if_f c10 h
        refine r_aload_n DX12_loses_55 rfl ?_
        refine s_geta DX12_loses_56 fl_X12_43 hR ct_2200 (one_cnt _) rfl ?_
        refine r_iload_n DX12_loses_59 rfl ?_
        obtain ⟨hg11, h⟩ := gd_inv h
        refine s_iald DX12_loses_60 hR ct_2216 (one_cnt _) hg11 ?_
        refine r_iconst (v := 1) DX12_loses_61 ki_1 ?_
        refine r_icmp_ne DX12_loses_62 (fun c12 => ?_) (fun c12 => ?_)
        · have h := if_f c12 h
          refine r_iconst (v := 0) DX12_loses_74 ki_0 ?_
          exact S_X12_loses_75 hp hR h
        · have h := if_t c12 h
          refine r_aload_n DX12_loses_65 rfl ?_
          refine s_geta DX12_loses_66 fl_X12_52 hR ct_2200 (one_cnt _) rfl ?_
          refine r_iload_n DX12_loses_69 rfl ?_
          obtain ⟨hg13, h⟩ := gd_inv h
          refine s_iald DX12_loses_70 hR ct_2219 (one_cnt _) hg13 ?_
          refine r_goto DX12_loses_71 ?_
          exact S_X12_loses_75 hp hR h
      · have h := if_t c10 h
        refine r_aload_n DX12_loses_29 rfl ?_
        refine s_geta DX12_loses_30 fl_X12_52 hR ct_2200 (one_cnt _) rfl ?_
        refine r_iload_n DX12_loses_33 rfl ?_
        obtain ⟨hg12, h⟩ := gd_inv h
        refine s_iald DX12_loses_34 hR ct_2219 (one_cnt _) hg12 ?_
        refine r_aload_n DX12_loses_35 rfl ?_
        refine s_geta DX12_loses_36 fl_X12_16 hR ct_2200 (one_cnt _) rfl ?_
        refine r_aload_n DX12_loses_39 rfl ?_
        refine s_geta DX12_loses_40 fl_X12_46 hR ct_2200 (one_cnt _) rfl ?_
        refine r_iload_n DX12_loses_43 rfl ?_
        obtain ⟨hg13, h⟩ := gd_inv h
        refine s_iald DX12_loses_44 hR ct_2217 (one_cnt _) hg13 ?_
        obtain ⟨hg14, h⟩ := gd_inv h
        refine s_iald DX12_loses_45 hR ct_2207 (one_cnt _) hg14 ?_
        refine r_imul DX12_loses_46 ?_
        refine r_bipush (v := 36) DX12_loses_47 kb_36 ?_
        obtain ⟨r15, V16, hc17, h⟩ := bd_inv h
        refine k_callS (As := [.int ((V6 2219 (0) (x2).toNatClampNeg) * (V6 2207 (0) ((V6 2217 (0) (x2).toNatClampNeg)).toNatClampNeg)), .int ((36 : Int32))]) (rest := []) (st1 := [.int (r15)]) (w := some (.int r15)) DX12_loses_49 cs_X12_437 (C_X12_up (cxL X) hR hc17) rfl (by decide) (by decide) rfl (Nat.le_of_ble_eq_true rfl) rfl (fun M hR => ?_)
        refine r_goto DX12_loses_52 ?_
        exact S_X12_loses_75 hp hR h
    · have h := if_t c8 h
      exact S_X12_loses_16 hp hR h
theorem C_X12_loses {E : EN} {ad : AD} {fu : Nat} {out : Int32 × St} {V : St} {M : MH} {x1 : Int32} {x2 : Int32} (l : Launch) (hR : Rep E ad V M) (h : f_X12_loses fu V x1 x2 = some out) : Ct E l yX12_loses cX12_loses 6 (some .int) (rmD 6) [.ref (ad 2200 0), .int (x1), .int (x2)] M (fun v M => v = (some (.int out.1)) ∧ Rep E ad out.2 M) :=
  Ct.of (own := RX12) (ini := false) (L := [some (.ref (ad 2200 0)), some (.int (x1)), some (.int (x2)), none, none, none]) rfl rfl (fun h => by cases h) rfl (Nat.le_of_ble_eq_true rfl) rfl (fun X _ => S_X12_loses_0 (fun M hR => ⟨rfl, hR⟩) hR h)
def F_X12_maker_64 (fu : Nat) (V : St) : RR :=
  some ((-1 : Int32), V)
theorem S_X12_maker_64 {E : EN} {X : CX} {P : Option Value → MH → Prop} {ad : AD} {fu : Nat} {out : Int32 × St} (hp : ∀ M, Rep E ad out.2 M → P (some (.int out.1)) M) {V : St} {M : MH} {d0 : Option Value} {d1 : Option Value} {d2 : Option Value} {d3 : Option Value} {d4 : Option Value} {d5 : Option Value} (hR : Rep E ad V M) (h : F_X12_maker_64 fu V = some out) : G E X RX12 cX12_maker 6 (some .int) false (rmD 2) P M [d0, d1, d2, d3, d4, d5] 0 0 64 [] := by
  unfold F_X12_maker_64 at h
  refine r_iconst (v := -1) DX12_maker_64 ki_m1 ?_
  cases h
  exact r_iret DX12_maker_65 rfl ⟨Nat.le_refl 0, Nat.le_refl 0⟩ (hp M hR)
def f_X12_maker (fu : Nat) (V : St) (x1 : Int32) (x2 : Int32) (x3 : Int32) (x4 : Int32) (x5 : Int32) : RR :=
  bd (f_X12_in fu V (x1) ((0 : Int32)) ((7 : Int32))) fun r1 V2 => if r1 = 0 then
    (F_X12_maker_64 fu V2)
    else
    (bd (f_X12_in fu V2 (x2) ((1 : Int32)) ((10000 : Int32))) fun r5 V6 => if r5 = 0 then
      (F_X12_maker_64 fu V6)
      else
      (bd (f_X12_in fu V6 (x3) ((0 : Int32)) ((1000 : Int32))) fun r9 V10 => if r9 = 0 then
        (F_X12_maker_64 fu V10)
        else
        (bd (f_X12_in fu V10 (x4) ((1 : Int32)) ((100 : Int32))) fun r13 V14 => if r13 = 0 then
          (F_X12_maker_64 fu V14)
          else
          (bd (f_X12_in fu V14 (x5) ((0 : Int32)) ((10000 : Int32))) fun r17 V18 => if r17 = 0 then
            (F_X12_maker_64 fu V18)
            else
            (if (V18 2232 0 0) = (12 : Int32) then
              (F_X12_maker_64 fu V18)
              else
              (gd (¬ ((V18 2232 0 0) < 0 ∨ 12 ≤ ((V18 2232 0 0)).toNatClampNeg)) <| bv (setV V18 2233 (0) ((V18 2232 0 0)).toNatClampNeg (x1)) fun V23 => gd (¬ ((V23 2232 0 0) < 0 ∨ 12 ≤ ((V23 2232 0 0)).toNatClampNeg)) <| bv (setV V23 2234 (0) ((V23 2232 0 0)).toNatClampNeg (x2)) fun V26 => gd (¬ ((V26 2232 0 0) < 0 ∨ 12 ≤ ((V26 2232 0 0)).toNatClampNeg)) <| bv (setV V26 2235 (0) ((V26 2232 0 0)).toNatClampNeg (x3)) fun V29 => gd (¬ ((V29 2232 0 0) < 0 ∨ 12 ≤ ((V29 2232 0 0)).toNatClampNeg)) <| bv (setV V29 2236 (0) ((V29 2232 0 0)).toNatClampNeg (x4)) fun V32 => gd (¬ ((V32 2232 0 0) < 0 ∨ 12 ≤ ((V32 2232 0 0)).toNatClampNeg)) <| bv (setV V32 2237 (0) ((V32 2232 0 0)).toNatClampNeg (x5)) fun V35 => bv (setV V35 2232 0 0 ((V35 2232 0 0) + (1 : Int32))) fun V37 => some ((V37 2232 0 0) - (1 : Int32), V37)))))))
theorem S_X12_maker_0 {E : EN} {X : CX} {P : Option Value → MH → Prop} {ad : AD} {fu : Nat} {out : Int32 × St} (hp : ∀ M, Rep E ad out.2 M → P (some (.int out.1)) M) {V : St} {M : MH} {x1 : Int32} {x2 : Int32} {x3 : Int32} {x4 : Int32} {x5 : Int32} (hR : Rep E ad V M) (h : f_X12_maker fu V x1 x2 x3 x4 x5 = some out) : G E X RX12 cX12_maker 6 (some .int) false (rmD 2) P M [some (.ref (ad 2200 0)), some (.int (x1)), some (.int (x2)), some (.int (x3)), some (.int (x4)), some (.int (x5))] 0 0 0 [] := by
  unfold f_X12_maker at h
  refine r_iload_n DX12_maker_0 rfl ?_
  refine r_iconst (v := 0) DX12_maker_1 ki_0 ?_
  refine r_bipush (v := 7) DX12_maker_2 kb_7 ?_
  obtain ⟨r1, V2, hc3, h⟩ := bd_inv h
  refine k_callS (As := [.int (x1), .int ((0 : Int32)), .int ((7 : Int32))]) (rest := []) (st1 := [.int (r1)]) (w := some (.int r1)) DX12_maker_4 cs_X12_245 (C_X12_in (cxL X) hR hc3) rfl (by decide) (by decide) rfl (Nat.le_of_ble_eq_true rfl) rfl (fun M hR => ?_)
  refine r_if_eq DX12_maker_7 (fun c4 => ?_) (fun c4 => ?_)
  · have h := if_t c4 h
    exact S_X12_maker_64 hp hR h
  · have h := if_f c4 h
    refine r_iload_n DX12_maker_10 rfl ?_
    refine r_iconst (v := 1) DX12_maker_11 ki_1 ?_
    refine r_sipush (v := 10000) DX12_maker_12 ks_10000 ?_
    obtain ⟨r5, V6, hc7, h⟩ := bd_inv h
    refine k_callS (As := [.int (x2), .int ((1 : Int32)), .int ((10000 : Int32))]) (rest := []) (st1 := [.int (r5)]) (w := some (.int r5)) DX12_maker_15 cs_X12_245 (C_X12_in (cxL X) hR hc7) rfl (by decide) (by decide) rfl (Nat.le_of_ble_eq_true rfl) rfl (fun M hR => ?_)
    refine r_if_eq DX12_maker_18 (fun c8 => ?_) (fun c8 => ?_)
    · have h := if_t c8 h
      exact S_X12_maker_64 hp hR h
    · have h := if_f c8 h
      refine r_iload_n DX12_maker_21 rfl ?_
      refine r_iconst (v := 0) DX12_maker_22 ki_0 ?_
      refine r_sipush (v := 1000) DX12_maker_23 ks_1000 ?_
      obtain ⟨r9, V10, hc11, h⟩ := bd_inv h
      refine k_callS (As := [.int (x3), .int ((0 : Int32)), .int ((1000 : Int32))]) (rest := []) (st1 := [.int (r9)]) (w := some (.int r9)) DX12_maker_26 cs_X12_245 (C_X12_in (cxL X) hR hc11) rfl (by decide) (by decide) rfl (Nat.le_of_ble_eq_true rfl) rfl (fun M hR => ?_)
      refine r_if_eq DX12_maker_29 (fun c12 => ?_) (fun c12 => ?_)
      · have h := if_t c12 h
        exact S_X12_maker_64 hp hR h
      · have h := if_f c12 h
        refine r_iload DX12_maker_32 rfl ?_
        refine r_iconst (v := 1) DX12_maker_34 ki_1 ?_
        refine r_bipush (v := 100) DX12_maker_35 kb_100 ?_
        obtain ⟨r13, V14, hc15, h⟩ := bd_inv h
        refine k_callS (As := [.int (x4), .int ((1 : Int32)), .int ((100 : Int32))]) (rest := []) (st1 := [.int (r13)]) (w := some (.int r13)) DX12_maker_37 cs_X12_245 (C_X12_in (cxL X) hR hc15) rfl (by decide) (by decide) rfl (Nat.le_of_ble_eq_true rfl) rfl (fun M hR => ?_)
        refine r_if_eq DX12_maker_40 (fun c16 => ?_) (fun c16 => ?_)
        · have h := if_t c16 h
          exact S_X12_maker_64 hp hR h
        · have h := if_f c16 h
          refine r_iload DX12_maker_43 rfl ?_
          refine r_iconst (v := 0) DX12_maker_45 ki_0 ?_
          refine r_sipush (v := 10000) DX12_maker_46 ks_10000 ?_
          obtain ⟨r17, V18, hc19, h⟩ := bd_inv h
          refine k_callS (As := [.int (x5), .int ((0 : Int32)), .int ((10000 : Int32))]) (rest := []) (st1 := [.int (r17)]) (w := some (.int r17)) DX12_maker_49 cs_X12_245 (C_X12_in (cxL X) hR hc19) rfl (by decide) (by decide) rfl (Nat.le_of_ble_eq_true rfl) rfl (fun M hR => ?_)
          refine r_if_eq DX12_maker_52 (fun c20 => ?_) (fun c20 => ?_)
          · have h := if_t c20 h
            exact S_X12_maker_64 hp hR h
          · have h := if_f c20 h
            refine r_aload_n DX12_maker_55 rfl ?_
            refine s_geti DX12_maker_56 fl_X12_291 hR ct_2200 (one_cnt _) rfl ?_
            refine r_bipush (v := 12) DX12_maker_59 kb_12 ?_
            refine r_icmp_ne DX12_maker_61 (fun c21 => ?_) (fun c21 => ?_)
            · have h := if_f c21 h
              refine r_aload_n DX12_maker_66 rfl ?_
              refine s_geta DX12_maker_67 fl_X12_91 hR ct_2200 (one_cnt _) rfl ?_
              refine r_aload_n DX12_maker_70 rfl ?_
              refine s_geti DX12_maker_71 fl_X12_291 hR ct_2200 (one_cnt _) rfl ?_
              refine r_iload_n DX12_maker_74 rfl ?_
              obtain ⟨hg22, h⟩ := gd_inv h
              obtain ⟨V23, hv24, h⟩ := bv_inv h
              refine s_iast DX12_maker_75 hR oka_2233 ct_2233 (one_cnt _) hg22 (fun M hR => ?_)
              have hR := hR.cg hv24
              refine r_aload_n DX12_maker_76 rfl ?_
              refine s_geta DX12_maker_77 fl_X12_94 hR ct_2200 (one_cnt _) rfl ?_
              refine r_aload_n DX12_maker_80 rfl ?_
              refine s_geti DX12_maker_81 fl_X12_291 hR ct_2200 (one_cnt _) rfl ?_
              refine r_iload_n DX12_maker_84 rfl ?_
              obtain ⟨hg25, h⟩ := gd_inv h
              obtain ⟨V26, hv27, h⟩ := bv_inv h
              refine s_iast DX12_maker_85 hR oka_2234 ct_2234 (one_cnt _) hg25 (fun M hR => ?_)
              have hR := hR.cg hv27
              refine r_aload_n DX12_maker_86 rfl ?_
              refine s_geta DX12_maker_87 fl_X12_97 hR ct_2200 (one_cnt _) rfl ?_
              refine r_aload_n DX12_maker_90 rfl ?_
              refine s_geti DX12_maker_91 fl_X12_291 hR ct_2200 (one_cnt _) rfl ?_
              refine r_iload_n DX12_maker_94 rfl ?_
              obtain ⟨hg28, h⟩ := gd_inv h
              obtain ⟨V29, hv30, h⟩ := bv_inv h
              refine s_iast DX12_maker_95 hR oka_2235 ct_2235 (one_cnt _) hg28 (fun M hR => ?_)
              have hR := hR.cg hv30
              refine r_aload_n DX12_maker_96 rfl ?_
              refine s_geta DX12_maker_97 fl_X12_100 hR ct_2200 (one_cnt _) rfl ?_
              refine r_aload_n DX12_maker_100 rfl ?_
              refine s_geti DX12_maker_101 fl_X12_291 hR ct_2200 (one_cnt _) rfl ?_
              refine r_iload DX12_maker_104 rfl ?_
              obtain ⟨hg31, h⟩ := gd_inv h
              obtain ⟨V32, hv33, h⟩ := bv_inv h
              refine s_iast DX12_maker_106 hR oka_2236 ct_2236 (one_cnt _) hg31 (fun M hR => ?_)
              have hR := hR.cg hv33
              refine r_aload_n DX12_maker_107 rfl ?_
              refine s_geta DX12_maker_108 fl_X12_103 hR ct_2200 (one_cnt _) rfl ?_
              refine r_aload_n DX12_maker_111 rfl ?_
              refine s_geti DX12_maker_112 fl_X12_291 hR ct_2200 (one_cnt _) rfl ?_
              refine r_iload DX12_maker_115 rfl ?_
              obtain ⟨hg34, h⟩ := gd_inv h
              obtain ⟨V35, hv36, h⟩ := bv_inv h
              refine s_iast DX12_maker_117 hR oka_2237 ct_2237 (one_cnt _) hg34 (fun M hR => ?_)
              have hR := hR.cg hv36
              refine r_aload_n DX12_maker_118 rfl ?_
              refine r_aload_n DX12_maker_119 rfl ?_
              refine s_geti DX12_maker_120 fl_X12_291 hR ct_2200 (one_cnt _) rfl ?_
              refine r_iconst (v := 1) DX12_maker_123 ki_1 ?_
              refine r_iadd DX12_maker_124 ?_
              obtain ⟨V37, hv38, h⟩ := bv_inv h
              refine s_puti DX12_maker_125 fp_X12_291 hR oks_2232 ct_2200 (one_cnt _) rfl rfl rfl (fun M hR => ?_)
              have hR := hR.cg hv38
              refine r_aload_n DX12_maker_128 rfl ?_
              refine s_geti DX12_maker_129 fl_X12_291 hR ct_2200 (one_cnt _) rfl ?_
              refine r_iconst (v := 1) DX12_maker_132 ki_1 ?_
              refine r_isub DX12_maker_133 ?_
              cases h
              exact r_iret DX12_maker_134 rfl ⟨Nat.le_refl 0, Nat.le_refl 0⟩ (hp M hR)
            · have h := if_t c21 h
              exact S_X12_maker_64 hp hR h
theorem C_X12_maker {E : EN} {ad : AD} {fu : Nat} {out : Int32 × St} {V : St} {M : MH} {x1 : Int32} {x2 : Int32} {x3 : Int32} {x4 : Int32} {x5 : Int32} (l : Launch) (hR : Rep E ad V M) (h : f_X12_maker fu V x1 x2 x3 x4 x5 = some out) : Ct E l yX12_maker cX12_maker 6 (some .int) (rmD 2) [.ref (ad 2200 0), .int (x1), .int (x2), .int (x3), .int (x4), .int (x5)] M (fun v M => v = (some (.int out.1)) ∧ Rep E ad out.2 M) :=
  Ct.of (own := RX12) (ini := false) (L := [some (.ref (ad 2200 0)), some (.int (x1)), some (.int (x2)), some (.int (x3)), some (.int (x4)), some (.int (x5))]) rfl rfl (fun h => by cases h) rfl (Nat.le_of_ble_eq_true rfl) rfl (fun X _ => S_X12_maker_0 (fun M hR => ⟨rfl, hR⟩) hR h)
def F_X12_makes_245 (fu : Nat) (V : St) (x1 : Int32) (x2 : Int32) (x3 : Int32) (x4 : Int32) : RR :=
  gd (¬ (x1 < 0 ∨ 12 ≤ (x1).toNatClampNeg)) <| gd (¬ (x1 < 0 ∨ 12 ≤ (x1).toNatClampNeg)) <| bv (setV V 2239 (0) (x1).toNatClampNeg ((V 2239 (0) (x1).toNatClampNeg) + x3)) fun V3 => if x4 = 0 then
    (gd (¬ (x2 < 0 ∨ 30 ≤ (x2).toNatClampNeg)) <| gd (¬ (x2 < 0 ∨ 30 ≤ (x2).toNatClampNeg)) <| bv (setV V3 2221 (0) (x2).toNatClampNeg ((V3 2221 (0) (x2).toNatClampNeg) + x3)) fun V8 => gd (¬ (x2 < 0 ∨ 30 ≤ (x2).toNatClampNeg)) <| gd (¬ (x2 < 0 ∨ 30 ≤ (x2).toNatClampNeg)) <| some ((V8 2222 (0) (x2).toNatClampNeg) + (V8 2221 (0) (x2).toNatClampNeg), V8))
    else
    (gd (¬ (x2 < 0 ∨ 30 ≤ (x2).toNatClampNeg)) <| gd (¬ (x2 < 0 ∨ 30 ≤ (x2).toNatClampNeg)) <| bv (setV V3 2222 (0) (x2).toNatClampNeg ((V3 2222 (0) (x2).toNatClampNeg) + x3)) fun V14 => gd (¬ ((((15000 : Int32) * x1) + ((500 : Int32) * x2)) + (V14 2201 0 0) < 0 ∨ 180000 ≤ ((((15000 : Int32) * x1) + ((500 : Int32) * x2)) + (V14 2201 0 0)).toNatClampNeg)) <| gd (¬ ((((15000 : Int32) * x1) + ((500 : Int32) * x2)) + (V14 2201 0 0) < 0 ∨ 180000 ≤ ((((15000 : Int32) * x1) + ((500 : Int32) * x2)) + (V14 2201 0 0)).toNatClampNeg)) <| bv (setV V14 2275 (0) ((((15000 : Int32) * x1) + ((500 : Int32) * x2)) + (V14 2201 0 0)).toNatClampNeg ((V14 2275 (0) ((((15000 : Int32) * x1) + ((500 : Int32) * x2)) + (V14 2201 0 0)).toNatClampNeg) + x3)) fun V18 => gd (¬ (x2 < 0 ∨ 30 ≤ (x2).toNatClampNeg)) <| gd (¬ (x2 < 0 ∨ 30 ≤ (x2).toNatClampNeg)) <| some ((V18 2222 (0) (x2).toNatClampNeg) + (V18 2221 (0) (x2).toNatClampNeg), V18))
theorem S_X12_makes_245 {E : EN} {X : CX} {P : Option Value → MH → Prop} {ad : AD} {fu : Nat} {out : Int32 × St} (hp : ∀ M, Rep E ad out.2 M → P (some (.int out.1)) M) {V : St} {M : MH} {x1 : Int32} {x2 : Int32} {x3 : Int32} {x4 : Int32} {d5 : Option Value} {d6 : Option Value} (hR : Rep E ad V M) (h : F_X12_makes_245 fu V x1 x2 x3 x4 = some out) : G E X RX12 cX12_makes 7 (some .int) false (rmD 5) P M [some (.ref (ad 2200 0)), some (.int (x1)), some (.int (x2)), some (.int (x3)), some (.int (x4)), d5, d6] 0 0 245 [] := by
  unfold F_X12_makes_245 at h
  refine r_aload_n DX12_makes_245 rfl ?_
  refine s_geta DX12_makes_246 fl_X12_109 hR ct_2200 (one_cnt _) rfl ?_
  refine r_iload_n DX12_makes_249 rfl ?_
  refine r_aload_n DX12_makes_250 rfl ?_
  refine s_geta DX12_makes_251 fl_X12_109 hR ct_2200 (one_cnt _) rfl ?_
  refine r_iload_n DX12_makes_254 rfl ?_
  obtain ⟨hg1, h⟩ := gd_inv h
  refine s_iald DX12_makes_255 hR ct_2239 (one_cnt _) hg1 ?_
  refine r_iload_n DX12_makes_256 rfl ?_
  refine r_iadd DX12_makes_257 ?_
  obtain ⟨hg2, h⟩ := gd_inv h
  obtain ⟨V3, hv4, h⟩ := bv_inv h
  refine s_iast DX12_makes_258 hR oka_2239 ct_2239 (one_cnt _) hg2 (fun M hR => ?_)
  have hR := hR.cg hv4
  refine r_iload DX12_makes_259 rfl ?_
  refine r_if_eq DX12_makes_261 (fun c5 => ?_) (fun c5 => ?_)
  · have h := if_t c5 h
    refine r_aload_n DX12_makes_336 rfl ?_
    refine s_geta DX12_makes_337 fl_X12_58 hR ct_2200 (one_cnt _) rfl ?_
    refine r_iload_n DX12_makes_340 rfl ?_
    refine r_aload_n DX12_makes_341 rfl ?_
    refine s_geta DX12_makes_342 fl_X12_58 hR ct_2200 (one_cnt _) rfl ?_
    refine r_iload_n DX12_makes_345 rfl ?_
    obtain ⟨hg6, h⟩ := gd_inv h
    refine s_iald DX12_makes_346 hR ct_2221 (one_cnt _) hg6 ?_
    refine r_iload_n DX12_makes_347 rfl ?_
    refine r_iadd DX12_makes_348 ?_
    obtain ⟨hg7, h⟩ := gd_inv h
    obtain ⟨V8, hv9, h⟩ := bv_inv h
    refine s_iast DX12_makes_349 hR oka_2221 ct_2221 (one_cnt _) hg7 (fun M hR => ?_)
    have hR := hR.cg hv9
    refine r_aload_n DX12_makes_350 rfl ?_
    refine s_geta DX12_makes_351 fl_X12_61 hR ct_2200 (one_cnt _) rfl ?_
    refine r_iload_n DX12_makes_354 rfl ?_
    obtain ⟨hg10, h⟩ := gd_inv h
    refine s_iald DX12_makes_355 hR ct_2222 (one_cnt _) hg10 ?_
    refine r_aload_n DX12_makes_356 rfl ?_
    refine s_geta DX12_makes_357 fl_X12_58 hR ct_2200 (one_cnt _) rfl ?_
    refine r_iload_n DX12_makes_360 rfl ?_
    obtain ⟨hg11, h⟩ := gd_inv h
    refine s_iald DX12_makes_361 hR ct_2221 (one_cnt _) hg11 ?_
    refine r_iadd DX12_makes_362 ?_
    cases h
    exact r_iret DX12_makes_363 rfl ⟨Nat.le_refl 0, Nat.le_refl 0⟩ (hp M hR)
  · have h := if_f c5 h
    refine r_aload_n DX12_makes_264 rfl ?_
    refine s_geta DX12_makes_265 fl_X12_61 hR ct_2200 (one_cnt _) rfl ?_
    refine r_iload_n DX12_makes_268 rfl ?_
    refine r_aload_n DX12_makes_269 rfl ?_
    refine s_geta DX12_makes_270 fl_X12_61 hR ct_2200 (one_cnt _) rfl ?_
    refine r_iload_n DX12_makes_273 rfl ?_
    obtain ⟨hg12, h⟩ := gd_inv h
    refine s_iald DX12_makes_274 hR ct_2222 (one_cnt _) hg12 ?_
    refine r_iload_n DX12_makes_275 rfl ?_
    refine r_iadd DX12_makes_276 ?_
    obtain ⟨hg13, h⟩ := gd_inv h
    obtain ⟨V14, hv15, h⟩ := bv_inv h
    refine s_iast DX12_makes_277 hR oka_2222 ct_2222 (one_cnt _) hg13 (fun M hR => ?_)
    have hR := hR.cg hv15
    refine r_aload_n DX12_makes_278 rfl ?_
    refine s_geta DX12_makes_279 fl_X12_185 hR ct_2200 (one_cnt _) rfl ?_
    refine r_sipush (v := 15000) DX12_makes_282 ks_15000 ?_
    refine r_iload_n DX12_makes_285 rfl ?_
    refine r_imul DX12_makes_286 ?_
    refine r_sipush (v := 500) DX12_makes_287 ks_500 ?_
    refine r_iload_n DX12_makes_290 rfl ?_
    refine r_imul DX12_makes_291 ?_
    refine r_iadd DX12_makes_292 ?_
    refine r_aload_n DX12_makes_293 rfl ?_
    refine s_geti DX12_makes_294 fl_X12_400 hR ct_2200 (one_cnt _) rfl ?_
    refine r_iadd DX12_makes_297 ?_
    refine r_aload_n DX12_makes_298 rfl ?_
    refine s_geta DX12_makes_299 fl_X12_185 hR ct_2200 (one_cnt _) rfl ?_
    refine r_sipush (v := 15000) DX12_makes_302 ks_15000 ?_
    refine r_iload_n DX12_makes_305 rfl ?_
    refine r_imul DX12_makes_306 ?_
    refine r_sipush (v := 500) DX12_makes_307 ks_500 ?_
    refine r_iload_n DX12_makes_310 rfl ?_
    refine r_imul DX12_makes_311 ?_
    refine r_iadd DX12_makes_312 ?_
    refine r_aload_n DX12_makes_313 rfl ?_
    refine s_geti DX12_makes_314 fl_X12_400 hR ct_2200 (one_cnt _) rfl ?_
    refine r_iadd DX12_makes_317 ?_
    obtain ⟨hg16, h⟩ := gd_inv h
    refine s_iald DX12_makes_318 hR ct_2275 (one_cnt _) hg16 ?_
    refine r_iload_n DX12_makes_319 rfl ?_
    refine r_iadd DX12_makes_320 ?_
    obtain ⟨hg17, h⟩ := gd_inv h
    obtain ⟨V18, hv19, h⟩ := bv_inv h
    refine s_iast DX12_makes_321 hR oka_2275 ct_2275 (one_cnt _) hg17 (fun M hR => ?_)
    have hR := hR.cg hv19
    refine r_aload_n DX12_makes_322 rfl ?_
    refine s_geta DX12_makes_323 fl_X12_61 hR ct_2200 (one_cnt _) rfl ?_
    refine r_iload_n DX12_makes_326 rfl ?_
    obtain ⟨hg20, h⟩ := gd_inv h
    refine s_iald DX12_makes_327 hR ct_2222 (one_cnt _) hg20 ?_
    refine r_aload_n DX12_makes_328 rfl ?_
    refine s_geta DX12_makes_329 fl_X12_58 hR ct_2200 (one_cnt _) rfl ?_
    refine r_iload_n DX12_makes_332 rfl ?_
    obtain ⟨hg21, h⟩ := gd_inv h
    refine s_iald DX12_makes_333 hR ct_2221 (one_cnt _) hg21 ?_
    refine r_iadd DX12_makes_334 ?_
    cases h
    exact r_iret DX12_makes_335 rfl ⟨Nat.le_refl 0, Nat.le_refl 0⟩ (hp M hR)
def F_X12_makes_219 (fu : Nat) (V : St) : RR :=
  some ((-5 : Int32), V)
theorem S_X12_makes_219 {E : EN} {X : CX} {P : Option Value → MH → Prop} {ad : AD} {fu : Nat} {out : Int32 × St} (hp : ∀ M, Rep E ad out.2 M → P (some (.int out.1)) M) {V : St} {M : MH} {d0 : Option Value} {d1 : Option Value} {d2 : Option Value} {d3 : Option Value} {d4 : Option Value} {d5 : Option Value} {d6 : Option Value} (hR : Rep E ad V M) (h : F_X12_makes_219 fu V = some out) : G E X RX12 cX12_makes 7 (some .int) false (rmD 5) P M [d0, d1, d2, d3, d4, d5, d6] 0 0 219 [] := by
  unfold F_X12_makes_219 at h
  refine r_bipush (v := -5) DX12_makes_219 kb_m5 ?_
  cases h
  exact r_iret DX12_makes_221 rfl ⟨Nat.le_refl 0, Nat.le_refl 0⟩ (hp M hR)
def F_X12_makes_178 (fu : Nat) (V : St) (x1 : Int32) (x2 : Int32) (x3 : Int32) (x4 : Int32) (x5 : Int32) (x6 : Int32) : RR :=
  gd (¬ (x1 < 0 ∨ 12 ≤ (x1).toNatClampNeg)) <| gd (¬ (x1 < 0 ∨ 12 ≤ (x1).toNatClampNeg)) <| if (V 2234 (0) (x1).toNatClampNeg) < (V 2239 (0) (x1).toNatClampNeg) + x3 then
    (F_X12_makes_219 fu V)
    else
    (gd (¬ (x1 < 0 ∨ 12 ≤ (x1).toNatClampNeg)) <| gd (¬ (x1 < 0 ∨ 12 ≤ (x1).toNatClampNeg)) <| gd (¬ (x1 < 0 ∨ 12 ≤ (x1).toNatClampNeg)) <| if (V 2239 (0) (x1).toNatClampNeg) + x3 ≤ (V 2235 (0) (x1).toNatClampNeg) * (V 2236 (0) (x1).toNatClampNeg) then
      (if x5 = (-1 : Int32) then
        (F_X12_makes_245 fu V (x1) (x2) (x3) (x4))
        else
        (gd (¬ (x5 < 0 ∨ 240 ≤ (x5).toNatClampNeg)) <| gd (¬ (x5 < 0 ∨ 240 ≤ (x5).toNatClampNeg)) <| bv (setV V 2238 (0) (x5).toNatClampNeg ((V 2238 (0) (x5).toNatClampNeg) - x6)) fun V11 => F_X12_makes_245 fu V11 (x1) (x2) (x3) (x4)))
      else
      (F_X12_makes_219 fu V))
theorem S_X12_makes_178 {E : EN} {X : CX} {P : Option Value → MH → Prop} {ad : AD} {fu : Nat} {out : Int32 × St} (hp : ∀ M, Rep E ad out.2 M → P (some (.int out.1)) M) {V : St} {M : MH} {x1 : Int32} {x2 : Int32} {x3 : Int32} {x4 : Int32} {x5 : Int32} {x6 : Int32} (hR : Rep E ad V M) (h : F_X12_makes_178 fu V x1 x2 x3 x4 x5 x6 = some out) : G E X RX12 cX12_makes 7 (some .int) false (rmD 5) P M [some (.ref (ad 2200 0)), some (.int (x1)), some (.int (x2)), some (.int (x3)), some (.int (x4)), some (.int (x5)), some (.int (x6))] 0 0 178 [] := by
  unfold F_X12_makes_178 at h
  refine r_aload_n DX12_makes_178 rfl ?_
  refine s_geta DX12_makes_179 fl_X12_109 hR ct_2200 (one_cnt _) rfl ?_
  refine r_iload_n DX12_makes_182 rfl ?_
  obtain ⟨hg1, h⟩ := gd_inv h
  refine s_iald DX12_makes_183 hR ct_2239 (one_cnt _) hg1 ?_
  refine r_iload_n DX12_makes_184 rfl ?_
  refine r_iadd DX12_makes_185 ?_
  refine r_aload_n DX12_makes_186 rfl ?_
  refine s_geta DX12_makes_187 fl_X12_94 hR ct_2200 (one_cnt _) rfl ?_
  refine r_iload_n DX12_makes_190 rfl ?_
  obtain ⟨hg2, h⟩ := gd_inv h
  refine s_iald DX12_makes_191 hR ct_2234 (one_cnt _) hg2 ?_
  refine r_icmp_gt DX12_makes_192 (fun c3 => ?_) (fun c3 => ?_)
  · have h := if_t c3 h
    exact S_X12_makes_219 hp hR h
  · have h := if_f c3 h
    refine r_aload_n DX12_makes_195 rfl ?_
    refine s_geta DX12_makes_196 fl_X12_109 hR ct_2200 (one_cnt _) rfl ?_
    refine r_iload_n DX12_makes_199 rfl ?_
    obtain ⟨hg4, h⟩ := gd_inv h
    refine s_iald DX12_makes_200 hR ct_2239 (one_cnt _) hg4 ?_
    refine r_iload_n DX12_makes_201 rfl ?_
    refine r_iadd DX12_makes_202 ?_
    refine r_aload_n DX12_makes_203 rfl ?_
    refine s_geta DX12_makes_204 fl_X12_97 hR ct_2200 (one_cnt _) rfl ?_
    refine r_iload_n DX12_makes_207 rfl ?_
    obtain ⟨hg5, h⟩ := gd_inv h
    refine s_iald DX12_makes_208 hR ct_2235 (one_cnt _) hg5 ?_
    refine r_aload_n DX12_makes_209 rfl ?_
    refine s_geta DX12_makes_210 fl_X12_100 hR ct_2200 (one_cnt _) rfl ?_
    refine r_iload_n DX12_makes_213 rfl ?_
    obtain ⟨hg6, h⟩ := gd_inv h
    refine s_iald DX12_makes_214 hR ct_2236 (one_cnt _) hg6 ?_
    refine r_imul DX12_makes_215 ?_
    refine r_icmp_le DX12_makes_216 (fun c7 => ?_) (fun c7 => ?_)
    · have h := if_t c7 h
      refine r_iload DX12_makes_222 rfl ?_
      refine r_iconst (v := -1) DX12_makes_224 ki_m1 ?_
      refine r_icmp_eq DX12_makes_225 (fun c8 => ?_) (fun c8 => ?_)
      · have h := if_t c8 h
        exact S_X12_makes_245 hp hR h
      · have h := if_f c8 h
        refine r_aload_n DX12_makes_228 rfl ?_
        refine s_geta DX12_makes_229 fl_X12_106 hR ct_2200 (one_cnt _) rfl ?_
        refine r_iload DX12_makes_232 rfl ?_
        refine r_aload_n DX12_makes_234 rfl ?_
        refine s_geta DX12_makes_235 fl_X12_106 hR ct_2200 (one_cnt _) rfl ?_
        refine r_iload DX12_makes_238 rfl ?_
        obtain ⟨hg9, h⟩ := gd_inv h
        refine s_iald DX12_makes_240 hR ct_2238 (one_cnt _) hg9 ?_
        refine r_iload DX12_makes_241 rfl ?_
        refine r_isub DX12_makes_243 ?_
        obtain ⟨hg10, h⟩ := gd_inv h
        obtain ⟨V11, hv12, h⟩ := bv_inv h
        refine s_iast DX12_makes_244 hR oka_2238 ct_2238 (one_cnt _) hg10 (fun M hR => ?_)
        have hR := hR.cg hv12
        exact S_X12_makes_245 hp hR h
    · have h := if_f c7 h
      exact S_X12_makes_219 hp hR h
def F_X12_makes_155 (fu : Nat) (V : St) (x1 : Int32) (x2 : Int32) (x3 : Int32) (x4 : Int32) (x5 : Int32) (s0 : Int32) : RR :=
  if x5 = (-1 : Int32) then
    (F_X12_makes_178 fu V (x1) (x2) (x3) (x4) (x5) (s0))
    else
    (gd (¬ (x5 < 0 ∨ 240 ≤ (x5).toNatClampNeg)) <| if s0 ≤ (V 2238 (0) (x5).toNatClampNeg) then
      (F_X12_makes_178 fu V (x1) (x2) (x3) (x4) (x5) (s0))
      else
      (some ((-4 : Int32), V)))
theorem S_X12_makes_155 {E : EN} {X : CX} {P : Option Value → MH → Prop} {ad : AD} {fu : Nat} {out : Int32 × St} (hp : ∀ M, Rep E ad out.2 M → P (some (.int out.1)) M) {V : St} {M : MH} {x1 : Int32} {x2 : Int32} {x3 : Int32} {x4 : Int32} {x5 : Int32} {s0 : Int32} {d6 : Option Value} (hR : Rep E ad V M) (h : F_X12_makes_155 fu V x1 x2 x3 x4 x5 s0 = some out) : G E X RX12 cX12_makes 7 (some .int) false (rmD 5) P M [some (.ref (ad 2200 0)), some (.int (x1)), some (.int (x2)), some (.int (x3)), some (.int (x4)), some (.int (x5)), d6] 0 0 155 [.int (s0)] := by
  unfold F_X12_makes_155 at h
  refine t_istore (L' := [some (.ref (ad 2200 0)), some (.int (x1)), some (.int (x2)), some (.int (x3)), some (.int (x4)), some (.int (x5)), some (.int (s0))]) DX12_makes_155 (by decide) rfl ?_
  refine r_iload DX12_makes_157 rfl ?_
  refine r_iconst (v := -1) DX12_makes_159 ki_m1 ?_
  refine r_icmp_eq DX12_makes_160 (fun c1 => ?_) (fun c1 => ?_)
  · have h := if_t c1 h
    exact S_X12_makes_178 hp hR h
  · have h := if_f c1 h
    refine r_iload DX12_makes_163 rfl ?_
    refine r_aload_n DX12_makes_165 rfl ?_
    refine s_geta DX12_makes_166 fl_X12_106 hR ct_2200 (one_cnt _) rfl ?_
    refine r_iload DX12_makes_169 rfl ?_
    obtain ⟨hg2, h⟩ := gd_inv h
    refine s_iald DX12_makes_171 hR ct_2238 (one_cnt _) hg2 ?_
    refine r_icmp_le DX12_makes_172 (fun c3 => ?_) (fun c3 => ?_)
    · have h := if_t c3 h
      exact S_X12_makes_178 hp hR h
    · have h := if_f c3 h
      refine r_bipush (v := -4) DX12_makes_175 kb_m4 ?_
      cases h
      exact r_iret DX12_makes_177 rfl ⟨Nat.le_refl 0, Nat.le_refl 0⟩ (hp M hR)
def F_X12_makes_130 (fu : Nat) (V : St) (x1 : Int32) (x2 : Int32) (x3 : Int32) (x4 : Int32) (s0 : Int32) : RR :=
  if s0 = (-1 : Int32) then
    (F_X12_makes_155 fu V (x1) (x2) (x3) (x4) (s0) ((0 : Int32)))
    else
    (gd (¬ (x2 < 0 ∨ 30 ≤ (x2).toNatClampNeg)) <| bd (f_X12_up fu V (x3 * (V 2219 (0) (x2).toNatClampNeg)) ((36 : Int32))) fun r3 V4 => F_X12_makes_155 fu V4 (x1) (x2) (x3) (x4) (s0) (r3))
theorem S_X12_makes_130 {E : EN} {X : CX} {P : Option Value → MH → Prop} {ad : AD} {fu : Nat} {out : Int32 × St} (hp : ∀ M, Rep E ad out.2 M → P (some (.int out.1)) M) {V : St} {M : MH} {x1 : Int32} {x2 : Int32} {x3 : Int32} {x4 : Int32} {s0 : Int32} {d5 : Option Value} {d6 : Option Value} (hR : Rep E ad V M) (h : F_X12_makes_130 fu V x1 x2 x3 x4 s0 = some out) : G E X RX12 cX12_makes 7 (some .int) false (rmD 5) P M [some (.ref (ad 2200 0)), some (.int (x1)), some (.int (x2)), some (.int (x3)), some (.int (x4)), d5, d6] 0 0 130 [.int (s0)] := by
  unfold F_X12_makes_130 at h
  refine t_istore (L' := [some (.ref (ad 2200 0)), some (.int (x1)), some (.int (x2)), some (.int (x3)), some (.int (x4)), some (.int (s0)), d6]) DX12_makes_130 (by decide) rfl ?_
  refine r_iload DX12_makes_132 rfl ?_
  refine r_iconst (v := -1) DX12_makes_134 ki_m1 ?_
  refine r_icmp_ne DX12_makes_135 (fun c1 => ?_) (fun c1 => ?_)
  · have h := if_f c1 h
    refine r_iload_n DX12_makes_142 rfl ?_
    refine r_aload_n DX12_makes_143 rfl ?_
    refine s_geta DX12_makes_144 fl_X12_52 hR ct_2200 (one_cnt _) rfl ?_
    refine r_iload_n DX12_makes_147 rfl ?_
    obtain ⟨hg2, h⟩ := gd_inv h
    refine s_iald DX12_makes_148 hR ct_2219 (one_cnt _) hg2 ?_
    refine r_imul DX12_makes_149 ?_
    refine r_bipush (v := 36) DX12_makes_150 kb_36 ?_
    obtain ⟨r3, V4, hc5, h⟩ := bd_inv h
    refine k_callS (As := [.int (x3 * (V 2219 (0) (x2).toNatClampNeg)), .int ((36 : Int32))]) (rest := []) (st1 := [.int (r3)]) (w := some (.int r3)) DX12_makes_152 cs_X12_437 (C_X12_up (cxL X) hR hc5) rfl (by decide) (by decide) rfl (Nat.le_of_ble_eq_true rfl) rfl (fun M hR => ?_)
    exact S_X12_makes_155 hp hR h
  · have h := if_t c1 h
    refine r_iconst (v := 0) DX12_makes_138 ki_0 ?_
    refine r_goto DX12_makes_139 ?_
    exact S_X12_makes_155 hp hR h
def F_X12_makes_106 (fu : Nat) (V : St) (x1 : Int32) (x2 : Int32) (x3 : Int32) (x4 : Int32) : RR :=
  gd (¬ (x2 < 0 ∨ 30 ≤ (x2).toNatClampNeg)) <| if (V 2216 (0) (x2).toNatClampNeg) = 0 then
    (gd (¬ (x2 < 0 ∨ 30 ≤ (x2).toNatClampNeg)) <| F_X12_makes_130 fu V (x1) (x2) (x3) (x4) (((20 : Int32) * x1) + (V 2217 (0) (x2).toNatClampNeg)))
    else
    (F_X12_makes_130 fu V (x1) (x2) (x3) (x4) ((-1 : Int32)))
theorem S_X12_makes_106 {E : EN} {X : CX} {P : Option Value → MH → Prop} {ad : AD} {fu : Nat} {out : Int32 × St} (hp : ∀ M, Rep E ad out.2 M → P (some (.int out.1)) M) {V : St} {M : MH} {x1 : Int32} {x2 : Int32} {x3 : Int32} {x4 : Int32} {d5 : Option Value} {d6 : Option Value} (hR : Rep E ad V M) (h : F_X12_makes_106 fu V x1 x2 x3 x4 = some out) : G E X RX12 cX12_makes 7 (some .int) false (rmD 5) P M [some (.ref (ad 2200 0)), some (.int (x1)), some (.int (x2)), some (.int (x3)), some (.int (x4)), d5, d6] 0 0 106 [] := by
  unfold F_X12_makes_106 at h
  refine r_aload_n DX12_makes_106 rfl ?_
  refine s_geta DX12_makes_107 fl_X12_43 hR ct_2200 (one_cnt _) rfl ?_
  refine r_iload_n DX12_makes_110 rfl ?_
  obtain ⟨hg1, h⟩ := gd_inv h
  refine s_iald DX12_makes_111 hR ct_2216 (one_cnt _) hg1 ?_
  refine r_if_ne DX12_makes_112 (fun c2 => ?_) (fun c2 => ?_)
  · have h := if_f c2 h
    refine r_iconst (v := -1) DX12_makes_129 ki_m1 ?_
    exact S_X12_makes_130 hp hR h
  · have h := if_t c2 h
    refine r_bipush (v := 20) DX12_makes_115 kb_20 ?_
    refine r_iload_n DX12_makes_117 rfl ?_
    refine r_imul DX12_makes_118 ?_
    refine r_aload_n DX12_makes_119 rfl ?_
    refine s_geta DX12_makes_120 fl_X12_46 hR ct_2200 (one_cnt _) rfl ?_
    refine r_iload_n DX12_makes_123 rfl ?_
    obtain ⟨hg3, h⟩ := gd_inv h
    refine s_iald DX12_makes_124 hR ct_2217 (one_cnt _) hg3 ?_
    refine r_iadd DX12_makes_125 ?_
    refine r_goto DX12_makes_126 ?_
    exact S_X12_makes_130 hp hR h
def F_X12_makes_55 (fu : Nat) (V : St) : RR :=
  some ((-1 : Int32), V)
theorem S_X12_makes_55 {E : EN} {X : CX} {P : Option Value → MH → Prop} {ad : AD} {fu : Nat} {out : Int32 × St} (hp : ∀ M, Rep E ad out.2 M → P (some (.int out.1)) M) {V : St} {M : MH} {d0 : Option Value} {d1 : Option Value} {d2 : Option Value} {d3 : Option Value} {d4 : Option Value} {d5 : Option Value} {d6 : Option Value} (hR : Rep E ad V M) (h : F_X12_makes_55 fu V = some out) : G E X RX12 cX12_makes 7 (some .int) false (rmD 5) P M [d0, d1, d2, d3, d4, d5, d6] 0 0 55 [] := by
  unfold F_X12_makes_55 at h
  refine r_iconst (v := -1) DX12_makes_55 ki_m1 ?_
  cases h
  exact r_iret DX12_makes_56 rfl ⟨Nat.le_refl 0, Nat.le_refl 0⟩ (hp M hR)
def F_X12_makes_47 (fu : Nat) (V : St) (x1 : Int32) (x2 : Int32) (x3 : Int32) (x4 : Int32) (s0 : Int32) : RR :=
  if s0 + x3 ≤ (1000000 : Int32) then
    (bd (f_X12_isSome fu V ((98 : Int32)) (x2) (x1) ((V 2201 0 0)) ((V 2201 0 0))) fun r2 V3 => if r2 = 0 then
      (if x4 = 0 then
        (F_X12_makes_106 fu V3 (x1) (x2) (x3) (x4))
        else
        (bd (f_X12_isSome fu V3 ((109 : Int32)) (x2) (x1) ((V3 2201 0 0)) ((V3 2201 0 0))) fun r7 V8 => if r7 = 0 then
          (some ((-3 : Int32), V8))
          else
          (F_X12_makes_106 fu V8 (x1) (x2) (x3) (x4))))
      else
      (some ((-2 : Int32), V3)))
    else
    (F_X12_makes_55 fu V)
theorem S_X12_makes_47 {E : EN} {X : CX} {P : Option Value → MH → Prop} {ad : AD} {fu : Nat} {out : Int32 × St} (hp : ∀ M, Rep E ad out.2 M → P (some (.int out.1)) M) {V : St} {M : MH} {x1 : Int32} {x2 : Int32} {x3 : Int32} {x4 : Int32} {s0 : Int32} {d5 : Option Value} {d6 : Option Value} (hR : Rep E ad V M) (h : F_X12_makes_47 fu V x1 x2 x3 x4 s0 = some out) : G E X RX12 cX12_makes 7 (some .int) false (rmD 5) P M [some (.ref (ad 2200 0)), some (.int (x1)), some (.int (x2)), some (.int (x3)), some (.int (x4)), d5, d6] 0 0 47 [.int (s0)] := by
  unfold F_X12_makes_47 at h
  refine r_iload_n DX12_makes_47 rfl ?_
  refine r_iadd DX12_makes_48 ?_
  refine r_ldcw (v := 1000000) DX12_makes_49 ck_X12_297 ?_
  refine r_icmp_le DX12_makes_52 (fun c1 => ?_) (fun c1 => ?_)
  · have h := if_t c1 h
    refine r_aload_n DX12_makes_57 rfl ?_
    refine r_bipush (v := 98) DX12_makes_58 kb_98 ?_
    refine r_iload_n DX12_makes_60 rfl ?_
    refine r_iload_n DX12_makes_61 rfl ?_
    refine r_aload_n DX12_makes_62 rfl ?_
    refine s_geti DX12_makes_63 fl_X12_400 hR ct_2200 (one_cnt _) rfl ?_
    refine r_aload_n DX12_makes_66 rfl ?_
    refine s_geti DX12_makes_67 fl_X12_400 hR ct_2200 (one_cnt _) rfl ?_
    obtain ⟨r2, V3, hc4, h⟩ := bd_inv h
    refine k_callV (As := [.int ((98 : Int32)), .int (x2), .int (x1), .int ((V 2201 0 0)), .int ((V 2201 0 0))]) (rest := []) (st1 := [.int (r2)]) (w := some (.int r2)) DX12_makes_70 cv_X12_433 hR ct_2200 (one_cnt _) rfl (C_X12_isSome (cxL X) hR hc4) rfl (by decide) (by decide) rfl (Nat.le_of_ble_eq_true rfl) rfl (fun M hR => ?_)
    refine r_if_eq DX12_makes_73 (fun c5 => ?_) (fun c5 => ?_)
    · have h := if_t c5 h
      refine r_iload DX12_makes_79 rfl ?_
      refine r_if_eq DX12_makes_81 (fun c6 => ?_) (fun c6 => ?_)
      · have h := if_t c6 h
        exact S_X12_makes_106 hp hR h
      · have h := if_f c6 h
        refine r_aload_n DX12_makes_84 rfl ?_
        refine r_bipush (v := 109) DX12_makes_85 kb_109 ?_
        refine r_iload_n DX12_makes_87 rfl ?_
        refine r_iload_n DX12_makes_88 rfl ?_
        refine r_aload_n DX12_makes_89 rfl ?_
        refine s_geti DX12_makes_90 fl_X12_400 hR ct_2200 (one_cnt _) rfl ?_
        refine r_aload_n DX12_makes_93 rfl ?_
        refine s_geti DX12_makes_94 fl_X12_400 hR ct_2200 (one_cnt _) rfl ?_
        obtain ⟨r7, V8, hc9, h⟩ := bd_inv h
        refine k_callV (As := [.int ((109 : Int32)), .int (x2), .int (x1), .int ((V3 2201 0 0)), .int ((V3 2201 0 0))]) (rest := []) (st1 := [.int (r7)]) (w := some (.int r7)) DX12_makes_97 cv_X12_433 hR ct_2200 (one_cnt _) rfl (C_X12_isSome (cxL X) hR hc9) rfl (by decide) (by decide) rfl (Nat.le_of_ble_eq_true rfl) rfl (fun M hR => ?_)
        refine r_if_ne DX12_makes_100 (fun c10 => ?_) (fun c10 => ?_)
        · have h := if_f c10 h
          exact S_X12_makes_106 hp hR h
        · have h := if_t c10 h
          refine r_bipush (v := -3) DX12_makes_103 kb_m3 ?_
          cases h
          exact r_iret DX12_makes_105 rfl ⟨Nat.le_refl 0, Nat.le_refl 0⟩ (hp M hR)
    · have h := if_f c5 h
      refine r_bipush (v := -2) DX12_makes_76 kb_m2 ?_
      cases h
      exact r_iret DX12_makes_78 rfl ⟨Nat.le_refl 0, Nat.le_refl 0⟩ (hp M hR)
  · have h := if_f c1 h
    exact S_X12_makes_55 hp hR h
def f_X12_makes (fu : Nat) (V : St) (x1 : Int32) (x2 : Int32) (x3 : Int32) (x4 : Int32) : RR :=
  bd (f_X12_isMaker fu V (x1)) fun r1 V2 => if r1 = 0 then
    (F_X12_makes_55 fu V2)
    else
    (bd (f_X12_isThing fu V2 (x2)) fun r5 V6 => if r5 = 0 then
      (F_X12_makes_55 fu V6)
      else
      (bd (f_X12_in fu V6 (x3) ((1 : Int32)) ((10000 : Int32))) fun r9 V10 => if r9 = 0 then
        (F_X12_makes_55 fu V10)
        else
        (if x4 = 0 then
          (gd (¬ (x2 < 0 ∨ 30 ≤ (x2).toNatClampNeg)) <| F_X12_makes_47 fu V10 (x1) (x2) (x3) (x4) ((V10 2221 (0) (x2).toNatClampNeg)))
          else
          (gd (¬ (x2 < 0 ∨ 30 ≤ (x2).toNatClampNeg)) <| F_X12_makes_47 fu V10 (x1) (x2) (x3) (x4) ((V10 2222 (0) (x2).toNatClampNeg))))))
theorem S_X12_makes_0 {E : EN} {X : CX} {P : Option Value → MH → Prop} {ad : AD} {fu : Nat} {out : Int32 × St} (hp : ∀ M, Rep E ad out.2 M → P (some (.int out.1)) M) {V : St} {M : MH} {x1 : Int32} {x2 : Int32} {x3 : Int32} {x4 : Int32} (hR : Rep E ad V M) (h : f_X12_makes fu V x1 x2 x3 x4 = some out) : G E X RX12 cX12_makes 7 (some .int) false (rmD 5) P M [some (.ref (ad 2200 0)), some (.int (x1)), some (.int (x2)), some (.int (x3)), some (.int (x4)), none, none] 0 0 0 [] := by
  unfold f_X12_makes at h
  refine r_aload_n DX12_makes_0 rfl ?_
  refine r_iload_n DX12_makes_1 rfl ?_
  obtain ⟨r1, V2, hc3, h⟩ := bd_inv h
  refine k_callV (As := [.int (x1)]) (rest := []) (st1 := [.int (r1)]) (w := some (.int r1)) DX12_makes_2 cv_X12_294 hR ct_2200 (one_cnt _) rfl (C_X12_isMaker (cxL X) hR hc3) rfl (by decide) (by decide) rfl (Nat.le_of_ble_eq_true rfl) rfl (fun M hR => ?_)
  refine r_if_eq DX12_makes_5 (fun c4 => ?_) (fun c4 => ?_)
  · have h := if_t c4 h
    exact S_X12_makes_55 hp hR h
  · have h := if_f c4 h
    refine r_aload_n DX12_makes_8 rfl ?_
    refine r_iload_n DX12_makes_9 rfl ?_
    obtain ⟨r5, V6, hc7, h⟩ := bd_inv h
    refine k_callV (As := [.int (x2)]) (rest := []) (st1 := [.int (r5)]) (w := some (.int r5)) DX12_makes_10 cv_X12_271 hR ct_2200 (one_cnt _) rfl (C_X12_isThing (cxL X) hR hc7) rfl (by decide) (by decide) rfl (Nat.le_of_ble_eq_true rfl) rfl (fun M hR => ?_)
    refine r_if_eq DX12_makes_13 (fun c8 => ?_) (fun c8 => ?_)
    · have h := if_t c8 h
      exact S_X12_makes_55 hp hR h
    · have h := if_f c8 h
      refine r_iload_n DX12_makes_16 rfl ?_
      refine r_iconst (v := 1) DX12_makes_17 ki_1 ?_
      refine r_sipush (v := 10000) DX12_makes_18 ks_10000 ?_
      obtain ⟨r9, V10, hc11, h⟩ := bd_inv h
      refine k_callS (As := [.int (x3), .int ((1 : Int32)), .int ((10000 : Int32))]) (rest := []) (st1 := [.int (r9)]) (w := some (.int r9)) DX12_makes_21 cs_X12_245 (C_X12_in (cxL X) hR hc11) rfl (by decide) (by decide) rfl (Nat.le_of_ble_eq_true rfl) rfl (fun M hR => ?_)
      refine r_if_eq DX12_makes_24 (fun c12 => ?_) (fun c12 => ?_)
      · have h := if_t c12 h
        exact S_X12_makes_55 hp hR h
      · have h := if_f c12 h
        refine r_iload DX12_makes_27 rfl ?_
        refine r_if_eq DX12_makes_29 (fun c13 => ?_) (fun c13 => ?_)
        · have h := if_t c13 h
          refine r_aload_n DX12_makes_41 rfl ?_
          refine s_geta DX12_makes_42 fl_X12_58 hR ct_2200 (one_cnt _) rfl ?_
          refine r_iload_n DX12_makes_45 rfl ?_
          obtain ⟨hg14, h⟩ := gd_inv h
          refine s_iald DX12_makes_46 hR ct_2221 (one_cnt _) hg14 ?_
          exact S_X12_makes_47 hp hR h
        · have h := if_f c13 h
          refine r_aload_n DX12_makes_32 rfl ?_
          refine s_geta DX12_makes_33 fl_X12_61 hR ct_2200 (one_cnt _) rfl ?_
          refine r_iload_n DX12_makes_36 rfl ?_
          obtain ⟨hg15, h⟩ := gd_inv h
          refine s_iald DX12_makes_37 hR ct_2222 (one_cnt _) hg15 ?_
          refine r_goto DX12_makes_38 ?_
          exact S_X12_makes_47 hp hR h
theorem C_X12_makes {E : EN} {ad : AD} {fu : Nat} {out : Int32 × St} {V : St} {M : MH} {x1 : Int32} {x2 : Int32} {x3 : Int32} {x4 : Int32} (l : Launch) (hR : Rep E ad V M) (h : f_X12_makes fu V x1 x2 x3 x4 = some out) : Ct E l yX12_makes cX12_makes 7 (some .int) (rmD 5) [.ref (ad 2200 0), .int (x1), .int (x2), .int (x3), .int (x4)] M (fun v M => v = (some (.int out.1)) ∧ Rep E ad out.2 M) :=
  Ct.of (own := RX12) (ini := false) (L := [some (.ref (ad 2200 0)), some (.int (x1)), some (.int (x2)), some (.int (x3)), some (.int (x4)), none, none]) rfl rfl (fun h => by cases h) rfl (Nat.le_of_ble_eq_true rfl) rfl (fun X _ => S_X12_makes_0 (fun M hR => ⟨rfl, hR⟩) hR h)
def F_X12_named_18 (fu : Nat) (V : St) : RR :=
  some ((0 : Int32), V)
theorem S_X12_named_18 {E : EN} {X : CX} {P : Option Value → MH → Prop} {ad : AD} {fu : Nat} {out : Int32 × St} (hp : ∀ M, Rep E ad out.2 M → P (some (.int out.1)) M) {V : St} {M : MH} {d0 : Option Value} {d1 : Option Value} {d2 : Option Value} (hR : Rep E ad V M) (h : F_X12_named_18 fu V = some out) : G E X RX12 cX12_named 3 (some .boolean) false (rmD 2) P M [d0, d1, d2] 0 0 18 [] := by
  unfold F_X12_named_18 at h
  refine r_iconst (v := 0) DX12_named_18 ki_0 ?_
  cases h
  exact r_zret DX12_named_19 rfl rfl ⟨Nat.le_refl 0, Nat.le_refl 0⟩ (hp M hR)
def f_X12_named (fu : Nat) (V : St) (x1 : Int32) (x2 : Int32) : RR :=
  bd (f_X12_isMaker fu V (x1)) fun r1 V2 => if r1 = 0 then
    (F_X12_named_18 fu V2)
    else
    (gd (¬ (x1 < 0 ∨ 12 ≤ (x1).toNatClampNeg)) <| if (V2 2240 (0) (x1).toNatClampNeg) = x2 then
      (F_X12_named_18 fu V2)
      else
      (gd (¬ (x1 < 0 ∨ 12 ≤ (x1).toNatClampNeg)) <| gd (x2 = 0 ∨ x2 = 1) <| bv (setV V2 2240 (0) (x1).toNatClampNeg (x2)) fun V9 => some ((1 : Int32), V9)))
theorem S_X12_named_0 {E : EN} {X : CX} {P : Option Value → MH → Prop} {ad : AD} {fu : Nat} {out : Int32 × St} (hp : ∀ M, Rep E ad out.2 M → P (some (.int out.1)) M) {V : St} {M : MH} {x1 : Int32} {x2 : Int32} (hR : Rep E ad V M) (h : f_X12_named fu V x1 x2 = some out) : G E X RX12 cX12_named 3 (some .boolean) false (rmD 2) P M [some (.ref (ad 2200 0)), some (.int (x1)), some (.int (x2))] 0 0 0 [] := by
  unfold f_X12_named at h
  refine r_aload_n DX12_named_0 rfl ?_
  refine r_iload_n DX12_named_1 rfl ?_
  obtain ⟨r1, V2, hc3, h⟩ := bd_inv h
  refine k_callV (As := [.int (x1)]) (rest := []) (st1 := [.int (r1)]) (w := some (.int r1)) DX12_named_2 cv_X12_294 hR ct_2200 (one_cnt _) rfl (C_X12_isMaker (cxL X) hR hc3) rfl (by decide) (by decide) rfl (Nat.le_of_ble_eq_true rfl) rfl (fun M hR => ?_)
  refine r_if_eq DX12_named_5 (fun c4 => ?_) (fun c4 => ?_)
  · have h := if_t c4 h
    exact S_X12_named_18 hp hR h
  · have h := if_f c4 h
    refine r_aload_n DX12_named_8 rfl ?_
    refine s_geta DX12_named_9 fl_X12_112 hR ct_2200 (one_cnt _) rfl ?_
    refine r_iload_n DX12_named_12 rfl ?_
    obtain ⟨hg5, h⟩ := gd_inv h
    refine s_zald DX12_named_13 hR ct_2240 (one_cnt _) hg5 ?_
    refine r_iload_n DX12_named_14 rfl ?_
    refine r_icmp_ne DX12_named_15 (fun c6 => ?_) (fun c6 => ?_)
    · have h := if_f c6 h
      refine r_aload_n DX12_named_20 rfl ?_
      refine s_geta DX12_named_21 fl_X12_112 hR ct_2200 (one_cnt _) rfl ?_
      refine r_iload_n DX12_named_24 rfl ?_
      refine r_iload_n DX12_named_25 rfl ?_
      obtain ⟨hg7, h⟩ := gd_inv h
      obtain ⟨hz8, h⟩ := gd_inv h
      obtain ⟨V9, hv10, h⟩ := bv_inv h
      refine t_zast hz8 DX12_named_26 hR oka_2240 ct_2240 (one_cnt _) hg7 (fun M hR => ?_)
      have hR := hR.cg hv10
      refine r_iconst (v := 1) DX12_named_27 ki_1 ?_
      cases h
      exact r_zret DX12_named_28 rfl rfl ⟨Nat.le_refl 0, Nat.le_refl 0⟩ (hp M hR)
    · have h := if_t c6 h
      exact S_X12_named_18 hp hR h
theorem C_X12_named {E : EN} {ad : AD} {fu : Nat} {out : Int32 × St} {V : St} {M : MH} {x1 : Int32} {x2 : Int32} (l : Launch) (hR : Rep E ad V M) (h : f_X12_named fu V x1 x2 = some out) : Ct E l yX12_named cX12_named 3 (some .boolean) (rmD 2) [.ref (ad 2200 0), .int (x1), .int (x2)] M (fun v M => v = (some (.int out.1)) ∧ Rep E ad out.2 M) :=
  Ct.of (own := RX12) (ini := false) (L := [some (.ref (ad 2200 0)), some (.int (x1)), some (.int (x2))]) rfl rfl (fun h => by cases h) rfl (Nat.le_of_ble_eq_true rfl) rfl (fun X _ => S_X12_named_0 (fun M hR => ⟨rfl, hR⟩) hR h)
def F_X12_needs_55 (fu : Nat) (V : St) (s0 : Int32) : RR :=
  some (s0, V)
theorem S_X12_needs_55 {E : EN} {X : CX} {P : Option Value → MH → Prop} {ad : AD} {fu : Nat} {out : Int32 × St} (hp : ∀ M, Rep E ad out.2 M → P (some (.int out.1)) M) {V : St} {M : MH} {s0 : Int32} {d0 : Option Value} {d1 : Option Value} {d2 : Option Value} {d3 : Option Value} {d4 : Option Value} (hR : Rep E ad V M) (h : F_X12_needs_55 fu V s0 = some out) : G E X RX12 cX12_needs 5 (some .int) false (rmD 3) P M [d0, d1, d2, d3, d4] 0 0 55 [.int (s0)] := by
  unfold F_X12_needs_55 at h
  cases h
  exact r_iret DX12_needs_55 rfl ⟨Nat.le_refl 0, Nat.le_refl 0⟩ (hp M hR)
def F_X12_needs_31 (fu : Nat) (V : St) : RR :=
  some ((-1 : Int32), V)
theorem S_X12_needs_31 {E : EN} {X : CX} {P : Option Value → MH → Prop} {ad : AD} {fu : Nat} {out : Int32 × St} (hp : ∀ M, Rep E ad out.2 M → P (some (.int out.1)) M) {V : St} {M : MH} {d0 : Option Value} {d1 : Option Value} {d2 : Option Value} {d3 : Option Value} {d4 : Option Value} (hR : Rep E ad V M) (h : F_X12_needs_31 fu V = some out) : G E X RX12 cX12_needs 5 (some .int) false (rmD 3) P M [d0, d1, d2, d3, d4] 0 0 31 [] := by
  unfold F_X12_needs_31 at h
  refine r_iconst (v := -1) DX12_needs_31 ki_m1 ?_
  cases h
  exact r_iret DX12_needs_32 rfl ⟨Nat.le_refl 0, Nat.le_refl 0⟩ (hp M hR)
def f_X12_needs (fu : Nat) (V : St) (x1 : Int32) (x2 : Int32) (x3 : Int32) : RR :=
  bd (f_X12_areTold fu V (x1)) fun r1 V2 => if r1 = 0 then
    (F_X12_needs_31 fu V2)
    else
    (if x2 ≤ 0 then
      (F_X12_needs_31 fu V2)
      else
      (if x2 &&& (x1 ^^^ (-1 : Int32)) = 0 then
        (bd (f_X12_in fu V2 (x3) ((1 : Int32)) ((100000 : Int32))) fun r7 V8 => if r7 = 0 then
          (F_X12_needs_31 fu V8)
          else
          (bd (f_X12_neededBy fu V8 (x1) (x2) (x3)) fun r11 V12 => if r11 = (-1 : Int32) then
            (F_X12_needs_55 fu V12 ((-2 : Int32)))
            else
            (F_X12_needs_55 fu V12 (r11))))
        else
        (F_X12_needs_31 fu V2)))
theorem S_X12_needs_0 {E : EN} {X : CX} {P : Option Value → MH → Prop} {ad : AD} {fu : Nat} {out : Int32 × St} (hp : ∀ M, Rep E ad out.2 M → P (some (.int out.1)) M) {V : St} {M : MH} {x1 : Int32} {x2 : Int32} {x3 : Int32} (hR : Rep E ad V M) (h : f_X12_needs fu V x1 x2 x3 = some out) : G E X RX12 cX12_needs 5 (some .int) false (rmD 3) P M [some (.ref (ad 2200 0)), some (.int (x1)), some (.int (x2)), some (.int (x3)), none] 0 0 0 [] := by
  unfold f_X12_needs at h
  refine r_aload_n DX12_needs_0 rfl ?_
  refine r_iload_n DX12_needs_1 rfl ?_
  obtain ⟨r1, V2, hc3, h⟩ := bd_inv h
  refine k_callV (As := [.int (x1)]) (rest := []) (st1 := [.int (r1)]) (w := some (.int r1)) DX12_needs_2 cv_X12_467 hR ct_2200 (one_cnt _) rfl (C_X12_areTold (cxL X) hR hc3) rfl (by decide) (by decide) rfl (Nat.le_of_ble_eq_true rfl) rfl (fun M hR => ?_)
  refine r_if_eq DX12_needs_5 (fun c4 => ?_) (fun c4 => ?_)
  · have h := if_t c4 h
    exact S_X12_needs_31 hp hR h
  · have h := if_f c4 h
    refine r_iload_n DX12_needs_8 rfl ?_
    refine r_if_le DX12_needs_9 (fun c5 => ?_) (fun c5 => ?_)
    · have h := if_t c5 h
      exact S_X12_needs_31 hp hR h
    · have h := if_f c5 h
      refine r_iload_n DX12_needs_12 rfl ?_
      refine r_iload_n DX12_needs_13 rfl ?_
      refine r_iconst (v := -1) DX12_needs_14 ki_m1 ?_
      refine r_ixor DX12_needs_15 ?_
      refine r_iand DX12_needs_16 ?_
      refine r_if_ne DX12_needs_17 (fun c6 => ?_) (fun c6 => ?_)
      · have h := if_f c6 h
        exact S_X12_needs_31 hp hR h
      · have h := if_t c6 h
        refine r_iload_n DX12_needs_20 rfl ?_
        refine r_iconst (v := 1) DX12_needs_21 ki_1 ?_
        refine r_ldcw (v := 100000) DX12_needs_22 ck_X12_257 ?_
        obtain ⟨r7, V8, hc9, h⟩ := bd_inv h
        refine k_callS (As := [.int (x3), .int ((1 : Int32)), .int ((100000 : Int32))]) (rest := []) (st1 := [.int (r7)]) (w := some (.int r7)) DX12_needs_25 cs_X12_245 (C_X12_in (cxL X) hR hc9) rfl (by decide) (by decide) rfl (Nat.le_of_ble_eq_true rfl) rfl (fun M hR => ?_)
        refine r_if_ne DX12_needs_28 (fun c10 => ?_) (fun c10 => ?_)
        · have h := if_f c10 h
          refine r_aload_n DX12_needs_33 rfl ?_
          refine r_iload_n DX12_needs_34 rfl ?_
          refine r_iload_n DX12_needs_35 rfl ?_
          refine r_iload_n DX12_needs_36 rfl ?_
          obtain ⟨r11, V12, hc13, h⟩ := bd_inv h
          refine k_callV (As := [.int (x1), .int (x2), .int (x3)]) (rest := []) (st1 := [.int (r11)]) (w := some (.int r11)) DX12_needs_37 cv_X12_470 hR ct_2200 (one_cnt _) rfl (C_X12_neededBy (cxL X) hR hc13) rfl (by decide) (by decide) rfl (Nat.le_of_ble_eq_true rfl) rfl (fun M hR => ?_)
          refine t_istore (L' := [some (.ref (ad 2200 0)), some (.int (x1)), some (.int (x2)), some (.int (x3)), some (.int (r11))]) DX12_needs_40 (by decide) rfl ?_
          refine r_iload DX12_needs_42 rfl ?_
          refine r_iconst (v := -1) DX12_needs_44 ki_m1 ?_
          refine r_icmp_ne DX12_needs_45 (fun c14 => ?_) (fun c14 => ?_)
          · have h := if_f c14 h
            refine r_iload DX12_needs_53 rfl ?_
            exact S_X12_needs_55 hp hR h
          · have h := if_t c14 h
            refine r_bipush (v := -2) DX12_needs_48 kb_m2 ?_
            refine r_goto DX12_needs_50 ?_
            exact S_X12_needs_55 hp hR h
        · have h := if_t c10 h
          exact S_X12_needs_31 hp hR h
theorem C_X12_needs {E : EN} {ad : AD} {fu : Nat} {out : Int32 × St} {V : St} {M : MH} {x1 : Int32} {x2 : Int32} {x3 : Int32} (l : Launch) (hR : Rep E ad V M) (h : f_X12_needs fu V x1 x2 x3 = some out) : Ct E l yX12_needs cX12_needs 5 (some .int) (rmD 3) [.ref (ad 2200 0), .int (x1), .int (x2), .int (x3)] M (fun v M => v = (some (.int out.1)) ∧ Rep E ad out.2 M) :=
  Ct.of (own := RX12) (ini := false) (L := [some (.ref (ad 2200 0)), some (.int (x1)), some (.int (x2)), some (.int (x3)), none]) rfl rfl (fun h => by cases h) rfl (Nat.le_of_ble_eq_true rfl) rfl (fun X _ => S_X12_needs_0 (fun M hR => ⟨rfl, hR⟩) hR h)
def F_X12_number_182 (fu : Nat) (V : St) (s0 : Int32) : RR :=
  some (s0, V)
theorem S_X12_number_182 {E : EN} {X : CX} {P : Option Value → MH → Prop} {ad : AD} {fu : Nat} {out : Int32 × St} (hp : ∀ M, Rep E ad out.2 M → P (some (.int out.1)) M) {V : St} {M : MH} {s0 : Int32} {d0 : Option Value} {d1 : Option Value} {d2 : Option Value} {d3 : Option Value} {d4 : Option Value} {d5 : Option Value} (hR : Rep E ad V M) (h : F_X12_number_182 fu V s0 = some out) : G E X RX12 cX12_number 6 (some .int) false (rmD 6) P M [d0, d1, d2, d3, d4, d5] 0 0 182 [.int (s0)] := by
  unfold F_X12_number_182 at h
  cases h
  exact r_iret DX12_number_182 rfl ⟨Nat.le_refl 0, Nat.le_refl 0⟩ (hp M hR)
def F_X12_number_165 (fu : Nat) (V : St) (x2 : Int32) (x3 : Int32) (x4 : Int32) (x5 : Int32) (s0 : Int32) : RR :=
  bd (f_X12_isSome fu V (s0) (x2) (x3) (x4) (x5)) fun r1 V2 => if r1 = 0 then
    (F_X12_number_182 fu V2 ((0 : Int32)))
    else
    (F_X12_number_182 fu V2 ((1 : Int32)))
theorem S_X12_number_165 {E : EN} {X : CX} {P : Option Value → MH → Prop} {ad : AD} {fu : Nat} {out : Int32 × St} (hp : ∀ M, Rep E ad out.2 M → P (some (.int out.1)) M) {V : St} {M : MH} {x2 : Int32} {x3 : Int32} {x4 : Int32} {x5 : Int32} {s0 : Int32} {d0 : Option Value} {d1 : Option Value} (hR : Rep E ad V M) (h : F_X12_number_165 fu V x2 x3 x4 x5 s0 = some out) : G E X RX12 cX12_number 6 (some .int) false (rmD 6) P M [d0, d1, some (.int (x2)), some (.int (x3)), some (.int (x4)), some (.int (x5))] 0 0 165 [.int (s0), .ref (ad 2200 0)] := by
  unfold F_X12_number_165 at h
  refine r_iload_n DX12_number_165 rfl ?_
  refine r_iload_n DX12_number_166 rfl ?_
  refine r_iload DX12_number_167 rfl ?_
  refine r_iload DX12_number_169 rfl ?_
  obtain ⟨r1, V2, hc3, h⟩ := bd_inv h
  refine k_callV (As := [.int (s0), .int (x2), .int (x3), .int (x4), .int (x5)]) (rest := []) (st1 := [.int (r1)]) (w := some (.int r1)) DX12_number_171 cv_X12_433 hR ct_2200 (one_cnt _) rfl (C_X12_isSome (cxL X) hR hc3) rfl (by decide) (by decide) rfl (Nat.le_of_ble_eq_true rfl) rfl (fun M hR => ?_)
  refine r_if_eq DX12_number_174 (fun c4 => ?_) (fun c4 => ?_)
  · have h := if_t c4 h
    refine r_iconst (v := 0) DX12_number_181 ki_0 ?_
    exact S_X12_number_182 hp hR h
  · have h := if_f c4 h
    refine r_iconst (v := 1) DX12_number_177 ki_1 ?_
    refine r_goto DX12_number_178 ?_
    exact S_X12_number_182 hp hR h
def F_X12_number_68 (fu : Nat) (V : St) (x1 : Int32) (x2 : Int32) (x3 : Int32) (x4 : Int32) (x5 : Int32) : RR :=
  if x1 = 0 then (bd (f_X12_orNothing fu V ((112 : Int32)) (x2) (x3) (x4) (x5)) fun r2 V3 => some (r2, V3)) else
    if x1 = 1 then (bd (f_X12_numberBy fu V ((99 : Int32)) (x2) (x3) (x4) (x5)) fun r6 V7 => some (r6, V7)) else
    if x1 = 2 then (bd (f_X12_orNothing fu V ((103 : Int32)) (x2) (x3) (x4) (x5)) fun r10 V11 => some (r10, V11)) else
    if x1 = 3 then (bd (f_X12_orNothing fu V ((100 : Int32)) (x2) (x3) (x4) (x5)) fun r14 V15 => some (r14, V15)) else
    if x1 = (4 : Int32) then
    (F_X12_number_165 fu V (x2) (x3) (x4) (x5) ((109 : Int32)))
    else
    (F_X12_number_165 fu V (x2) (x3) (x4) (x5) ((98 : Int32)))
theorem S_X12_number_68 {E : EN} {X : CX} {P : Option Value → MH → Prop} {ad : AD} {fu : Nat} {out : Int32 × St} (hp : ∀ M, Rep E ad out.2 M → P (some (.int out.1)) M) {V : St} {M : MH} {x1 : Int32} {x2 : Int32} {x3 : Int32} {x4 : Int32} {x5 : Int32} (hR : Rep E ad V M) (h : F_X12_number_68 fu V x1 x2 x3 x4 x5 = some out) : G E X RX12 cX12_number 6 (some .int) false (rmD 6) P M [some (.ref (ad 2200 0)), some (.int (x1)), some (.int (x2)), some (.int (x3)), some (.int (x4)), some (.int (x5))] 0 0 68 [] := by
  unfold F_X12_number_68 at h
  refine r_iload_n DX12_number_68 rfl ?_
  by_cases e5 : x1 = 0
  · have h := if_t e5 h
    refine r_table (tgt := 100) DX12_number_69 (Or.inr ⟨by rw [e5]; decide, by rw [e5]; decide, by rw [e5]; rfl⟩) rfl ?_
    refine r_aload_n DX12_number_100 rfl ?_
    refine r_bipush (v := 112) DX12_number_101 kb_112 ?_
    refine r_iload_n DX12_number_103 rfl ?_
    refine r_iload_n DX12_number_104 rfl ?_
    refine r_iload DX12_number_105 rfl ?_
    refine r_iload DX12_number_107 rfl ?_
    obtain ⟨r2, V3, hc4, h⟩ := bd_inv h
    refine k_callV (As := [.int ((112 : Int32)), .int (x2), .int (x3), .int (x4), .int (x5)]) (rest := []) (st1 := [.int (r2)]) (w := some (.int r2)) DX12_number_109 cv_X12_430 hR ct_2200 (one_cnt _) rfl (C_X12_orNothing (cxL X) hR hc4) rfl (by decide) (by decide) rfl (Nat.le_of_ble_eq_true rfl) rfl (fun M hR => ?_)
    cases h
    exact r_iret DX12_number_112 rfl ⟨Nat.le_refl 0, Nat.le_refl 0⟩ (hp M hR)
  have h := if_f e5 h
  by_cases e9 : x1 = 1
  · have h := if_t e9 h
    refine r_table (tgt := 113) DX12_number_69 (Or.inr ⟨by rw [e9]; decide, by rw [e9]; decide, by rw [e9]; rfl⟩) rfl ?_
    refine r_aload_n DX12_number_113 rfl ?_
    refine r_bipush (v := 99) DX12_number_114 kb_99 ?_
    refine r_iload_n DX12_number_116 rfl ?_
    refine r_iload_n DX12_number_117 rfl ?_
    refine r_iload DX12_number_118 rfl ?_
    refine r_iload DX12_number_120 rfl ?_
    obtain ⟨r6, V7, hc8, h⟩ := bd_inv h
    refine k_callV (As := [.int ((99 : Int32)), .int (x2), .int (x3), .int (x4), .int (x5)]) (rest := []) (st1 := [.int (r6)]) (w := some (.int r6)) DX12_number_122 cv_X12_420 hR ct_2200 (one_cnt _) rfl (C_X12_numberBy (cxL X) hR hc8) rfl (by decide) (by decide) rfl (Nat.le_of_ble_eq_true rfl) rfl (fun M hR => ?_)
    cases h
    exact r_iret DX12_number_125 rfl ⟨Nat.le_refl 0, Nat.le_refl 0⟩ (hp M hR)
  have h := if_f e9 h
  by_cases e13 : x1 = 2
  · have h := if_t e13 h
    refine r_table (tgt := 126) DX12_number_69 (Or.inr ⟨by rw [e13]; decide, by rw [e13]; decide, by rw [e13]; rfl⟩) rfl ?_
    refine r_aload_n DX12_number_126 rfl ?_
    refine r_bipush (v := 103) DX12_number_127 kb_103 ?_
    refine r_iload_n DX12_number_129 rfl ?_
    refine r_iload_n DX12_number_130 rfl ?_
    refine r_iload DX12_number_131 rfl ?_
    refine r_iload DX12_number_133 rfl ?_
    obtain ⟨r10, V11, hc12, h⟩ := bd_inv h
    refine k_callV (As := [.int ((103 : Int32)), .int (x2), .int (x3), .int (x4), .int (x5)]) (rest := []) (st1 := [.int (r10)]) (w := some (.int r10)) DX12_number_135 cv_X12_430 hR ct_2200 (one_cnt _) rfl (C_X12_orNothing (cxL X) hR hc12) rfl (by decide) (by decide) rfl (Nat.le_of_ble_eq_true rfl) rfl (fun M hR => ?_)
    cases h
    exact r_iret DX12_number_138 rfl ⟨Nat.le_refl 0, Nat.le_refl 0⟩ (hp M hR)
  have h := if_f e13 h
  by_cases e17 : x1 = 3
  · have h := if_t e17 h
    refine r_table (tgt := 139) DX12_number_69 (Or.inr ⟨by rw [e17]; decide, by rw [e17]; decide, by rw [e17]; rfl⟩) rfl ?_
    refine r_aload_n DX12_number_139 rfl ?_
    refine r_bipush (v := 100) DX12_number_140 kb_100 ?_
    refine r_iload_n DX12_number_142 rfl ?_
    refine r_iload_n DX12_number_143 rfl ?_
    refine r_iload DX12_number_144 rfl ?_
    refine r_iload DX12_number_146 rfl ?_
    obtain ⟨r14, V15, hc16, h⟩ := bd_inv h
    refine k_callV (As := [.int ((100 : Int32)), .int (x2), .int (x3), .int (x4), .int (x5)]) (rest := []) (st1 := [.int (r14)]) (w := some (.int r14)) DX12_number_148 cv_X12_430 hR ct_2200 (one_cnt _) rfl (C_X12_orNothing (cxL X) hR hc16) rfl (by decide) (by decide) rfl (Nat.le_of_ble_eq_true rfl) rfl (fun M hR => ?_)
    cases h
    exact r_iret DX12_number_151 rfl ⟨Nat.le_refl 0, Nat.le_refl 0⟩ (hp M hR)
  have h := if_f e17 h
  refine r_tabled (tgt := 152) (cs := [0, 1, 2, 3]) DX12_number_69 (by decide) (by decide) (fun z hz => by simp only [List.mem_cons, List.not_mem_nil, or_false] at hz; rcases hz with rfl | rfl | rfl | rfl <;> first | exact lv_neT e5 rfl | exact lv_neT e9 rfl | exact lv_neT e13 rfl | exact lv_neT e17 rfl) rfl ?_
  refine r_aload_n DX12_number_152 rfl ?_
  refine r_iload_n DX12_number_153 rfl ?_
  refine r_iconst (v := 4) DX12_number_154 ki_4 ?_
  refine r_icmp_ne DX12_number_155 (fun c18 => ?_) (fun c18 => ?_)
  · have h := if_f c18 h
    refine r_bipush (v := 98) DX12_number_163 kb_98 ?_
    exact S_X12_number_165 hp hR h
  · have h := if_t c18 h
    refine r_bipush (v := 109) DX12_number_158 kb_109 ?_
    refine r_goto DX12_number_160 ?_
    exact S_X12_number_165 hp hR h
def F_X12_number_66 (fu : Nat) (V : St) : RR :=
  some ((-1 : Int32), V)
theorem S_X12_number_66 {E : EN} {X : CX} {P : Option Value → MH → Prop} {ad : AD} {fu : Nat} {out : Int32 × St} (hp : ∀ M, Rep E ad out.2 M → P (some (.int out.1)) M) {V : St} {M : MH} {d0 : Option Value} {d1 : Option Value} {d2 : Option Value} {d3 : Option Value} {d4 : Option Value} {d5 : Option Value} (hR : Rep E ad V M) (h : F_X12_number_66 fu V = some out) : G E X RX12 cX12_number 6 (some .int) false (rmD 6) P M [d0, d1, d2, d3, d4, d5] 0 0 66 [] := by
  unfold F_X12_number_66 at h
  refine r_iconst (v := -1) DX12_number_66 ki_m1 ?_
  cases h
  exact r_iret DX12_number_67 rfl ⟨Nat.le_refl 0, Nat.le_refl 0⟩ (hp M hR)
def F_X12_number_40 (fu : Nat) (V : St) (x1 : Int32) (x2 : Int32) (x3 : Int32) (x4 : Int32) (x5 : Int32) : RR :=
  if x1 = (2 : Int32) then
    (if x2 = (-1 : Int32) then
      (if x3 = (-1 : Int32) then
        (F_X12_number_68 fu V (x1) (x2) (x3) (x4) (x5))
        else
        (F_X12_number_66 fu V))
      else
      (F_X12_number_66 fu V))
    else
    (bd (f_X12_isThing fu V (x2)) fun r2 V3 => if r2 = 0 then
      (F_X12_number_66 fu V3)
      else
      (F_X12_number_68 fu V3 (x1) (x2) (x3) (x4) (x5)))
theorem S_X12_number_40 {E : EN} {X : CX} {P : Option Value → MH → Prop} {ad : AD} {fu : Nat} {out : Int32 × St} (hp : ∀ M, Rep E ad out.2 M → P (some (.int out.1)) M) {V : St} {M : MH} {x1 : Int32} {x2 : Int32} {x3 : Int32} {x4 : Int32} {x5 : Int32} (hR : Rep E ad V M) (h : F_X12_number_40 fu V x1 x2 x3 x4 x5 = some out) : G E X RX12 cX12_number 6 (some .int) false (rmD 6) P M [some (.ref (ad 2200 0)), some (.int (x1)), some (.int (x2)), some (.int (x3)), some (.int (x4)), some (.int (x5))] 0 0 40 [] := by
  unfold F_X12_number_40 at h
  refine r_iload_n DX12_number_40 rfl ?_
  refine r_iconst (v := 2) DX12_number_41 ki_2 ?_
  refine r_icmp_ne DX12_number_42 (fun c1 => ?_) (fun c1 => ?_)
  · have h := if_f c1 h
    refine r_aload_n DX12_number_58 rfl ?_
    refine r_iload_n DX12_number_59 rfl ?_
    obtain ⟨r2, V3, hc4, h⟩ := bd_inv h
    refine k_callV (As := [.int (x2)]) (rest := []) (st1 := [.int (r2)]) (w := some (.int r2)) DX12_number_60 cv_X12_271 hR ct_2200 (one_cnt _) rfl (C_X12_isThing (cxL X) hR hc4) rfl (by decide) (by decide) rfl (Nat.le_of_ble_eq_true rfl) rfl (fun M hR => ?_)
    refine r_if_ne DX12_number_63 (fun c5 => ?_) (fun c5 => ?_)
    · have h := if_f c5 h
      exact S_X12_number_68 hp hR h
    · have h := if_t c5 h
      exact S_X12_number_66 hp hR h
  · have h := if_t c1 h
    refine r_iload_n DX12_number_45 rfl ?_
    refine r_iconst (v := -1) DX12_number_46 ki_m1 ?_
    refine r_icmp_ne DX12_number_47 (fun c5 => ?_) (fun c5 => ?_)
    · have h := if_f c5 h
      exact S_X12_number_66 hp hR h
    · have h := if_t c5 h
      refine r_iload_n DX12_number_50 rfl ?_
      refine r_iconst (v := -1) DX12_number_51 ki_m1 ?_
      refine r_icmp_eq DX12_number_52 (fun c6 => ?_) (fun c6 => ?_)
      · have h := if_t c6 h
        exact S_X12_number_68 hp hR h
      · have h := if_f c6 h
        refine r_goto DX12_number_55 ?_
        exact S_X12_number_66 hp hR h
def F_X12_number_38 (fu : Nat) (V : St) : RR :=
  some ((-1 : Int32), V)
theorem S_X12_number_38 {E : EN} {X : CX} {P : Option Value → MH → Prop} {ad : AD} {fu : Nat} {out : Int32 × St} (hp : ∀ M, Rep E ad out.2 M → P (some (.int out.1)) M) {V : St} {M : MH} {d0 : Option Value} {d1 : Option Value} {d2 : Option Value} {d3 : Option Value} {d4 : Option Value} {d5 : Option Value} (hR : Rep E ad V M) (h : F_X12_number_38 fu V = some out) : G E X RX12 cX12_number 6 (some .int) false (rmD 6) P M [d0, d1, d2, d3, d4, d5] 0 0 38 [] := by
  unfold F_X12_number_38 at h
  refine r_iconst (v := -1) DX12_number_38 ki_m1 ?_
  cases h
  exact r_iret DX12_number_39 rfl ⟨Nat.le_refl 0, Nat.le_refl 0⟩ (hp M hR)
def f_X12_number (fu : Nat) (V : St) (x1 : Int32) (x2 : Int32) (x3 : Int32) (x4 : Int32) (x5 : Int32) : RR :=
  bd (f_X12_in fu V (x1) ((0 : Int32)) ((5 : Int32))) fun r1 V2 => if r1 = 0 then
    (F_X12_number_38 fu V2)
    else
    (bd (f_X12_isWeek fu V2 (x4)) fun r5 V6 => if r5 = 0 then
      (F_X12_number_38 fu V6)
      else
      (bd (f_X12_isWeek fu V6 (x5)) fun r9 V10 => if r9 = 0 then
        (F_X12_number_38 fu V10)
        else
        (if x3 = (-1 : Int32) then
          (F_X12_number_40 fu V10 (x1) (x2) (x3) (x4) (x5))
          else
          (bd (f_X12_isMaker fu V10 (x3)) fun r14 V15 => if r14 = 0 then
            (F_X12_number_38 fu V15)
            else
            (F_X12_number_40 fu V15 (x1) (x2) (x3) (x4) (x5))))))
theorem S_X12_number_0 {E : EN} {X : CX} {P : Option Value → MH → Prop} {ad : AD} {fu : Nat} {out : Int32 × St} (hp : ∀ M, Rep E ad out.2 M → P (some (.int out.1)) M) {V : St} {M : MH} {x1 : Int32} {x2 : Int32} {x3 : Int32} {x4 : Int32} {x5 : Int32} (hR : Rep E ad V M) (h : f_X12_number fu V x1 x2 x3 x4 x5 = some out) : G E X RX12 cX12_number 6 (some .int) false (rmD 6) P M [some (.ref (ad 2200 0)), some (.int (x1)), some (.int (x2)), some (.int (x3)), some (.int (x4)), some (.int (x5))] 0 0 0 [] := by
  unfold f_X12_number at h
  refine r_iload_n DX12_number_0 rfl ?_
  refine r_iconst (v := 0) DX12_number_1 ki_0 ?_
  refine r_iconst (v := 5) DX12_number_2 ki_5 ?_
  obtain ⟨r1, V2, hc3, h⟩ := bd_inv h
  refine k_callS (As := [.int (x1), .int ((0 : Int32)), .int ((5 : Int32))]) (rest := []) (st1 := [.int (r1)]) (w := some (.int r1)) DX12_number_3 cs_X12_245 (C_X12_in (cxL X) hR hc3) rfl (by decide) (by decide) rfl (Nat.le_of_ble_eq_true rfl) rfl (fun M hR => ?_)
  refine r_if_eq DX12_number_6 (fun c4 => ?_) (fun c4 => ?_)
  · have h := if_t c4 h
    exact S_X12_number_38 hp hR h
  · have h := if_f c4 h
    refine r_iload DX12_number_9 rfl ?_
    obtain ⟨r5, V6, hc7, h⟩ := bd_inv h
    refine k_callS (As := [.int (x4)]) (rest := []) (st1 := [.int (r5)]) (w := some (.int r5)) DX12_number_11 cs_X12_391 (C_X12_isWeek (cxL X) hR hc7) rfl (by decide) (by decide) rfl (Nat.le_of_ble_eq_true rfl) rfl (fun M hR => ?_)
    refine r_if_eq DX12_number_14 (fun c8 => ?_) (fun c8 => ?_)
    · have h := if_t c8 h
      exact S_X12_number_38 hp hR h
    · have h := if_f c8 h
      refine r_iload DX12_number_17 rfl ?_
      obtain ⟨r9, V10, hc11, h⟩ := bd_inv h
      refine k_callS (As := [.int (x5)]) (rest := []) (st1 := [.int (r9)]) (w := some (.int r9)) DX12_number_19 cs_X12_391 (C_X12_isWeek (cxL X) hR hc11) rfl (by decide) (by decide) rfl (Nat.le_of_ble_eq_true rfl) rfl (fun M hR => ?_)
      refine r_if_eq DX12_number_22 (fun c12 => ?_) (fun c12 => ?_)
      · have h := if_t c12 h
        exact S_X12_number_38 hp hR h
      · have h := if_f c12 h
        refine r_iload_n DX12_number_25 rfl ?_
        refine r_iconst (v := -1) DX12_number_26 ki_m1 ?_
        refine r_icmp_eq DX12_number_27 (fun c13 => ?_) (fun c13 => ?_)
        · have h := if_t c13 h
          exact S_X12_number_40 hp hR h
        · have h := if_f c13 h
          refine r_aload_n DX12_number_30 rfl ?_
          refine r_iload_n DX12_number_31 rfl ?_
          obtain ⟨r14, V15, hc16, h⟩ := bd_inv h
          refine k_callV (As := [.int (x3)]) (rest := []) (st1 := [.int (r14)]) (w := some (.int r14)) DX12_number_32 cv_X12_294 hR ct_2200 (one_cnt _) rfl (C_X12_isMaker (cxL X) hR hc16) rfl (by decide) (by decide) rfl (Nat.le_of_ble_eq_true rfl) rfl (fun M hR => ?_)
          refine r_if_ne DX12_number_35 (fun c17 => ?_) (fun c17 => ?_)
          · have h := if_f c17 h
            exact S_X12_number_40 hp hR h
          · have h := if_t c17 h
            exact S_X12_number_38 hp hR h
theorem C_X12_number {E : EN} {ad : AD} {fu : Nat} {out : Int32 × St} {V : St} {M : MH} {x1 : Int32} {x2 : Int32} {x3 : Int32} {x4 : Int32} {x5 : Int32} (l : Launch) (hR : Rep E ad V M) (h : f_X12_number fu V x1 x2 x3 x4 x5 = some out) : Ct E l yX12_number cX12_number 6 (some .int) (rmD 6) [.ref (ad 2200 0), .int (x1), .int (x2), .int (x3), .int (x4), .int (x5)] M (fun v M => v = (some (.int out.1)) ∧ Rep E ad out.2 M) :=
  Ct.of (own := RX12) (ini := false) (L := [some (.ref (ad 2200 0)), some (.int (x1)), some (.int (x2)), some (.int (x3)), some (.int (x4)), some (.int (x5))]) rfl rfl (fun h => by cases h) rfl (Nat.le_of_ble_eq_true rfl) rfl (fun X _ => S_X12_number_0 (fun M hR => ⟨rfl, hR⟩) hR h)
