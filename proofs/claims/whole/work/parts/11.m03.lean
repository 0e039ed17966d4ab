theorem S_X12_cheapest_210 {E : EN} {X : CX} {P : Option Value → MH → Prop} {ad : AD} {fu : Nat} {out : Int32 × St} (hp : ∀ M, Rep E ad out.2 M → P (some (.int out.1)) M) {V : St} {M : MH} {s0 : Int32} {d0 : Option Value} {d1 : Option Value} {d2 : Option Value} {d3 : Option Value} {d4 : Option Value} {d5 : Option Value} {d6 : Option Value} {d7 : Option Value} {d8 : Option Value} {d9 : Option Value} (hR : Rep E ad V M) (h : F_X12_cheapest_210 fu V s0 = some out) : G E X RX12 cX12_cheapest 10 (some .int) false (rmD 4) P M [d0, d1, d2, d3, d4, d5, d6, d7, d8, d9] 0 0 210 [.int (s0)] := by
  unfold F_X12_cheapest_210 at h
  cases h
  exact r_iret DX12_cheapest_210 rfl ⟨Nat.le_refl 0, Nat.le_refl 0⟩ (hp M hR)
theorem S_X12_cheapest_199 {E : EN} {X : CX} {P : Option Value → MH → Prop} {ad : AD} {fu : Nat} {out : Int32 × St} (hp : ∀ M, Rep E ad out.2 M → P (some (.int out.1)) M) {V : St} {M : MH} {x5 : Int32} {d0 : Option Value} {d1 : Option Value} {d2 : Option Value} {d3 : Option Value} {d4 : Option Value} {d6 : Option Value} {d7 : Option Value} {d8 : Option Value} {d9 : Option Value} (hR : Rep E ad V M) (h : F_X12_cheapest_199 fu V x5 = some out) : G E X RX12 cX12_cheapest 10 (some .int) false (rmD 4) P M [d0, d1, d2, d3, d4, some (.int (x5)), d6, d7, d8, d9] 0 0 199 [] := by
  unfold F_X12_cheapest_199 at h
  refine r_iload DX12_cheapest_199 rfl ?_
  refine r_goto DX12_cheapest_201 ?_
  exact S_X12_cheapest_210 hp hR h
theorem S_X12_cheapest_188 {E : EN} {X : CX} {P : Option Value → MH → Prop} {ad : AD} {fu : Nat} {out : Int32 × St} (hp : ∀ M, Rep E ad out.2 M → P (some (.int out.1)) M) {V : St} {M : MH} {x2 : Int32} {x5 : Int32} {d1 : Option Value} {d3 : Option Value} {d4 : Option Value} {d6 : Option Value} {d7 : Option Value} {d8 : Option Value} {d9 : Option Value} (hR : Rep E ad V M) (h : F_X12_cheapest_188 fu V x2 x5 = some out) : G E X RX12 cX12_cheapest 10 (some .int) false (rmD 4) P M [some (.ref (ad 2200 0)), d1, some (.int (x2)), d3, d4, some (.int (x5)), d6, d7, d8, d9] 0 0 188 [] := by
  unfold F_X12_cheapest_188 at h
  refine r_iload DX12_cheapest_188 rfl ?_
  refine r_iconst (v := -1) DX12_cheapest_190 ki_m1 ?_
  refine r_icmp_eq DX12_cheapest_191 (fun c1 => ?_) (fun c1 => ?_)
  · have h := if_t c1 h
    exact S_X12_cheapest_199 hp hR h
  · have h := if_f c1 h
    refine r_iload_n DX12_cheapest_194 rfl ?_
    refine r_iconst (v := -1) DX12_cheapest_195 ki_m1 ?_
    refine r_icmp_ne DX12_cheapest_196 (fun c2 => ?_) (fun c2 => ?_)
    · have h := if_f c2 h
      refine r_aload_n DX12_cheapest_204 rfl ?_
      refine s_geta DX12_cheapest_205 fl_X12_76 hR ct_2200 (one_cnt _) rfl ?_
      refine r_iload_n DX12_cheapest_208 rfl ?_
      obtain ⟨hg3, h⟩ := gd_inv h
      refine s_iald DX12_cheapest_209 hR ct_2227 (one_cnt _) hg3 ?_
      exact S_X12_cheapest_210 hp hR h
    · have h := if_t c2 h
      exact S_X12_cheapest_199 hp hR h
theorem S_X12_cheapest_182 {E : EN} {X : CX} {P : Option Value → MH → Prop} {ad : AD} {fu : Nat} {out : Int32 × St} {kh : St → Int32 → Int32 → Int32 → Int32 → Int32 → Int32 → RR} {kx188 : St → Int32 → Int32 → RR} (hkh : ∀ {V : St} {M : MH} {x1 : Int32} {x2 : Int32} {x3 : Int32} {x4 : Int32} {x5 : Int32} {x6 : Int32} {d7 : Option Value} {d8 : Option Value} {d9 : Option Value}, Rep E ad V M → kh V x1 x2 x3 x4 x5 x6 = some out → G E X RX12 cX12_cheapest 10 (some .int) false (rmD 4) P M [some (.ref (ad 2200 0)), some (.int (x1)), some (.int (x2)), some (.int (x3)), some (.int (x4)), some (.int (x5)), some (.int (x6)), d7, d8, d9] 0 0 63 []) (hkx188 : ∀ {V : St} {M : MH} {x2 : Int32} {x5 : Int32} {d1 : Option Value} {d3 : Option Value} {d4 : Option Value} {d6 : Option Value} {d7 : Option Value} {d8 : Option Value} {d9 : Option Value}, Rep E ad V M → kx188 V x2 x5 = some out → G E X RX12 cX12_cheapest 10 (some .int) false (rmD 4) P M [some (.ref (ad 2200 0)), d1, some (.int (x2)), d3, d4, some (.int (x5)), d6, d7, d8, d9] 0 0 188 []) (hp : ∀ M, Rep E ad out.2 M → P (some (.int out.1)) M) {V : St} {M : MH} {x1 : Int32} {x2 : Int32} {x3 : Int32} {x4 : Int32} {x5 : Int32} {x6 : Int32} {d7 : Option Value} {d8 : Option Value} {d9 : Option Value} (hR : Rep E ad V M) (h : F_X12_cheapest_182 kh kx188 fu V x1 x2 x3 x4 x5 x6 = some out) : G E X RX12 cX12_cheapest 10 (some .int) false (rmD 4) P M [some (.ref (ad 2200 0)), some (.int (x1)), some (.int (x2)), some (.int (x3)), some (.int (x4)), some (.int (x5)), some (.int (x6)), d7, d8, d9] 0 0 182 [] := by
  unfold F_X12_cheapest_182 at h
  refine t_iinc (v := 1) (L' := [some (.ref (ad 2200 0)), some (.int (x1)), some (.int (x2)), some (.int (x3)), some (.int (x4)), some (.int (x5)), some (.int (x6 + 1)), d7, d8, d9]) DX12_cheapest_182 rfl ki_1 (by decide) rfl ?_
  refine r_goto DX12_cheapest_185 ?_
  exact hkh hR h
theorem S_X12_cheapest_156 {E : EN} {X : CX} {P : Option Value → MH → Prop} {ad : AD} {fu : Nat} {out : Int32 × St} {kh : St → Int32 → Int32 → Int32 → Int32 → Int32 → Int32 → Int32 → RR} {kx182 : St → Int32 → Int32 → Int32 → Int32 → Int32 → Int32 → RR} (hkh : ∀ {V : St} {M : MH} {x1 : Int32} {x2 : Int32} {x3 : Int32} {x4 : Int32} {x5 : Int32} {x6 : Int32} {x9 : Int32} {d7 : Option Value} {d8 : Option Value}, Rep E ad V M → kh V x1 x2 x3 x4 x5 x6 x9 = some out → G E X RX12 cX12_cheapest 10 (some .int) false (rmD 4) P M [some (.ref (ad 2200 0)), some (.int (x1)), some (.int (x2)), some (.int (x3)), some (.int (x4)), some (.int (x5)), some (.int (x6)), d7, d8, some (.int (x9))] 0 0 156 []) (hkx182 : ∀ {V : St} {M : MH} {x1 : Int32} {x2 : Int32} {x3 : Int32} {x4 : Int32} {x5 : Int32} {x6 : Int32} {d7 : Option Value} {d8 : Option Value} {d9 : Option Value}, Rep E ad V M → kx182 V x1 x2 x3 x4 x5 x6 = some out → G E X RX12 cX12_cheapest 10 (some .int) false (rmD 4) P M [some (.ref (ad 2200 0)), some (.int (x1)), some (.int (x2)), some (.int (x3)), some (.int (x4)), some (.int (x5)), some (.int (x6)), d7, d8, d9] 0 0 182 []) (hp : ∀ M, Rep E ad out.2 M → P (some (.int out.1)) M) {V : St} {M : MH} {x1 : Int32} {x2 : Int32} {x3 : Int32} {x4 : Int32} {x5 : Int32} {x6 : Int32} {x9 : Int32} {d7 : Option Value} {d8 : Option Value} (hR : Rep E ad V M) (h : F_X12_cheapest_156 kh kx182 fu V x1 x2 x3 x4 x5 x6 x9 = some out) : G E X RX12 cX12_cheapest 10 (some .int) false (rmD 4) P M [some (.ref (ad 2200 0)), some (.int (x1)), some (.int (x2)), some (.int (x3)), some (.int (x4)), some (.int (x5)), some (.int (x6)), d7, d8, some (.int (x9))] 0 0 156 [] := by
  unfold F_X12_cheapest_156 at h
  refine r_iload DX12_cheapest_156 rfl ?_
  refine r_iload_n DX12_cheapest_158 rfl ?_
  refine r_icmp_ge DX12_cheapest_159 (fun c1 => ?_) (fun c1 => ?_)
  · have h := if_t c1 h
    exact hkx182 hR h
  · have h := if_f c1 h
    refine r_aload_n DX12_cheapest_162 rfl ?_
    refine s_geta DX12_cheapest_163 fl_X12_76 hR ct_2200 (one_cnt _) rfl ?_
    refine r_iload DX12_cheapest_166 rfl ?_
    refine r_aload_n DX12_cheapest_168 rfl ?_
    refine s_geta DX12_cheapest_169 fl_X12_73 hR ct_2200 (one_cnt _) rfl ?_
    refine r_iload DX12_cheapest_172 rfl ?_
    obtain ⟨hg2, h⟩ := gd_inv h
    refine s_iald DX12_cheapest_174 hR ct_2226 (one_cnt _) hg2 ?_
    obtain ⟨hg3, h⟩ := gd_inv h
    obtain ⟨V4, hv5, h⟩ := bv_inv h
    refine s_iast DX12_cheapest_175 hR oka_2227 ct_2227 (one_cnt _) hg3 (fun M hR => ?_)
    have hR := hR.cg hv5
    refine t_iinc (v := 1) (L' := [some (.ref (ad 2200 0)), some (.int (x1)), some (.int (x2)), some (.int (x3)), some (.int (x4)), some (.int (x5)), some (.int (x6)), d7, d8, some (.int (x9 + 1))]) DX12_cheapest_176 rfl ki_1 (by decide) rfl ?_
    refine r_goto DX12_cheapest_179 ?_
    exact hkh hR h
theorem SL_X12_cheapest_156 {E : EN} {X : CX} {P : Option Value → MH → Prop} {ad : AD} {fu : Nat} {out : Int32 × St} {kx182 : St → Int32 → Int32 → Int32 → Int32 → Int32 → Int32 → RR} (hkx182 : ∀ {V : St} {M : MH} {x1 : Int32} {x2 : Int32} {x3 : Int32} {x4 : Int32} {x5 : Int32} {x6 : Int32} {d7 : Option Value} {d8 : Option Value} {d9 : Option Value}, Rep E ad V M → kx182 V x1 x2 x3 x4 x5 x6 = some out → G E X RX12 cX12_cheapest 10 (some .int) false (rmD 4) P M [some (.ref (ad 2200 0)), some (.int (x1)), some (.int (x2)), some (.int (x3)), some (.int (x4)), some (.int (x5)), some (.int (x6)), d7, d8, d9] 0 0 182 []) (hp : ∀ M, Rep E ad out.2 M → P (some (.int out.1)) M) : ∀ (n : Nat) {V : St} {M : MH} {x1 : Int32} {x2 : Int32} {x3 : Int32} {x4 : Int32} {x5 : Int32} {x6 : Int32} {x9 : Int32} {d7 : Option Value} {d8 : Option Value}, Rep E ad V M → Lp_X12_cheapest_156 kx182 fu n V x1 x2 x3 x4 x5 x6 x9 = some out → G E X RX12 cX12_cheapest 10 (some .int) false (rmD 4) P M [some (.ref (ad 2200 0)), some (.int (x1)), some (.int (x2)), some (.int (x3)), some (.int (x4)), some (.int (x5)), some (.int (x6)), d7, d8, some (.int (x9))] 0 0 156 [] := by
  intro n
  induction n with
  | zero => intros; rename_i h; cases h
  | succ n ih => exact fun hR h => S_X12_cheapest_156 (fun hR h => ih hR h) (fun hR h => hkx182 hR h) hp hR h
theorem S_X12_cheapest_138 {E : EN} {X : CX} {P : Option Value → MH → Prop} {ad : AD} {fu : Nat} {out : Int32 × St} {kh : St → Int32 → Int32 → Int32 → Int32 → Int32 → Int32 → RR} {kx188 : St → Int32 → Int32 → RR} (hkh : ∀ {V : St} {M : MH} {x1 : Int32} {x2 : Int32} {x3 : Int32} {x4 : Int32} {x5 : Int32} {x6 : Int32} {d7 : Option Value} {d8 : Option Value} {d9 : Option Value}, Rep E ad V M → kh V x1 x2 x3 x4 x5 x6 = some out → G E X RX12 cX12_cheapest 10 (some .int) false (rmD 4) P M [some (.ref (ad 2200 0)), some (.int (x1)), some (.int (x2)), some (.int (x3)), some (.int (x4)), some (.int (x5)), some (.int (x6)), d7, d8, d9] 0 0 63 []) (hkx188 : ∀ {V : St} {M : MH} {x2 : Int32} {x5 : Int32} {d1 : Option Value} {d3 : Option Value} {d4 : Option Value} {d6 : Option Value} {d7 : Option Value} {d8 : Option Value} {d9 : Option Value}, Rep E ad V M → kx188 V x2 x5 = some out → G E X RX12 cX12_cheapest 10 (some .int) false (rmD 4) P M [some (.ref (ad 2200 0)), d1, some (.int (x2)), d3, d4, some (.int (x5)), d6, d7, d8, d9] 0 0 188 []) (hp : ∀ M, Rep E ad out.2 M → P (some (.int out.1)) M) {V : St} {M : MH} {x1 : Int32} {x2 : Int32} {x3 : Int32} {x4 : Int32} {x5 : Int32} {x6 : Int32} {x8 : Int32} {d7 : Option Value} {d9 : Option Value} (hR : Rep E ad V M) (h : F_X12_cheapest_138 kh kx188 fu V x1 x2 x3 x4 x5 x6 x8 = some out) : G E X RX12 cX12_cheapest 10 (some .int) false (rmD 4) P M [some (.ref (ad 2200 0)), some (.int (x1)), some (.int (x2)), some (.int (x3)), some (.int (x4)), some (.int (x5)), some (.int (x6)), d7, some (.int (x8)), d9] 0 0 138 [] := by
  unfold F_X12_cheapest_138 at h
  refine r_aload_n DX12_cheapest_138 rfl ?_
  refine r_iload_n DX12_cheapest_139 rfl ?_
  obtain ⟨r1, V2, hc3, h⟩ := bd_inv h
  refine k_callV (As := [.int (x1)]) (rest := []) (st1 := [.int (r1)]) (w := some (.int r1)) DX12_cheapest_140 cv_X12_262 hR ct_2200 (one_cnt _) rfl (C_X12_isBearing (out := (r1, V2)) (cxL X) hR hc3) rfl (by decide) (by decide) rfl (Nat.le_of_ble_eq_true rfl) rfl (fun M hR => ?_)
  refine r_if_ne DX12_cheapest_143 (fun c4 => ?_) (fun c4 => ?_)
  · have h := if_f c4 h
    refine r_iload DX12_cheapest_149 rfl ?_
    refine t_istore (L' := [some (.ref (ad 2200 0)), some (.int (x1)), some (.int (x2)), some (.int (x3)), some (.int (x4)), some (.int (x8)), some (.int (x6)), d7, some (.int (x8)), d9]) DX12_cheapest_151 (by decide) rfl ?_
    refine r_iconst (v := 0) DX12_cheapest_153 ki_0 ?_
    refine t_istore (L' := [some (.ref (ad 2200 0)), some (.int (x1)), some (.int (x2)), some (.int (x3)), some (.int (x4)), some (.int (x8)), some (.int (x6)), d7, some (.int (x8)), some (.int ((0 : Int32)))]) DX12_cheapest_154 (by decide) rfl ?_
    exact SL_X12_cheapest_156 (fun hR h => S_X12_cheapest_182 (fun hR h => hkh hR h) (fun hR h => hkx188 hR h) hp hR h) hp fu hR h
  · have h := if_t c4 h
    refine r_goto DX12_cheapest_146 ?_
    exact S_X12_cheapest_182 (fun hR h => hkh hR h) (fun hR h => hkx188 hR h) hp hR h
theorem S_X12_cheapest_125 {E : EN} {X : CX} {P : Option Value → MH → Prop} {ad : AD} {fu : Nat} {out : Int32 × St} {kh : St → Int32 → Int32 → Int32 → Int32 → Int32 → Int32 → RR} {kx188 : St → Int32 → Int32 → RR} (hkh : ∀ {V : St} {M : MH} {x1 : Int32} {x2 : Int32} {x3 : Int32} {x4 : Int32} {x5 : Int32} {x6 : Int32} {d7 : Option Value} {d8 : Option Value} {d9 : Option Value}, Rep E ad V M → kh V x1 x2 x3 x4 x5 x6 = some out → G E X RX12 cX12_cheapest 10 (some .int) false (rmD 4) P M [some (.ref (ad 2200 0)), some (.int (x1)), some (.int (x2)), some (.int (x3)), some (.int (x4)), some (.int (x5)), some (.int (x6)), d7, d8, d9] 0 0 63 []) (hkx188 : ∀ {V : St} {M : MH} {x2 : Int32} {x5 : Int32} {d1 : Option Value} {d3 : Option Value} {d4 : Option Value} {d6 : Option Value} {d7 : Option Value} {d8 : Option Value} {d9 : Option Value}, Rep E ad V M → kx188 V x2 x5 = some out → G E X RX12 cX12_cheapest 10 (some .int) false (rmD 4) P M [some (.ref (ad 2200 0)), d1, some (.int (x2)), d3, d4, some (.int (x5)), d6, d7, d8, d9] 0 0 188 []) (hp : ∀ M, Rep E ad out.2 M → P (some (.int out.1)) M) {V : St} {M : MH} {x1 : Int32} {x2 : Int32} {x3 : Int32} {x4 : Int32} {x5 : Int32} {x6 : Int32} {x8 : Int32} {d7 : Option Value} {d9 : Option Value} (hR : Rep E ad V M) (h : F_X12_cheapest_125 kh kx188 fu V x1 x2 x3 x4 x5 x6 x8 = some out) : G E X RX12 cX12_cheapest 10 (some .int) false (rmD 4) P M [some (.ref (ad 2200 0)), some (.int (x1)), some (.int (x2)), some (.int (x3)), some (.int (x4)), some (.int (x5)), some (.int (x6)), d7, some (.int (x8)), d9] 0 0 125 [] := by
  unfold F_X12_cheapest_125 at h
  refine r_iload DX12_cheapest_125 rfl ?_
  refine r_iconst (v := -1) DX12_cheapest_127 ki_m1 ?_
  refine r_icmp_eq DX12_cheapest_128 (fun c1 => ?_) (fun c1 => ?_)
  · have h := if_t c1 h
    exact S_X12_cheapest_138 (fun hR h => hkh hR h) (fun hR h => hkx188 hR h) hp hR h
  · have h := if_f c1 h
    refine r_iload DX12_cheapest_131 rfl ?_
    refine r_iload DX12_cheapest_133 rfl ?_
    refine r_icmp_ge DX12_cheapest_135 (fun c2 => ?_) (fun c2 => ?_)
    · have h := if_t c2 h
      exact S_X12_cheapest_182 (fun hR h => hkh hR h) (fun hR h => hkx188 hR h) hp hR h
    · have h := if_f c2 h
      exact S_X12_cheapest_138 (fun hR h => hkh hR h) (fun hR h => hkx188 hR h) hp hR h
theorem S_X12_cheapest_82 {E : EN} {X : CX} {P : Option Value → MH → Prop} {ad : AD} {fu : Nat} {out : Int32 × St} {kh : St → Int32 → Int32 → Int32 → Int32 → Int32 → Int32 → Int32 → Int32 → Int32 → RR} {kx125 : St → Int32 → Int32 → Int32 → Int32 → Int32 → Int32 → Int32 → RR} (hkh : ∀ {V : St} {M : MH} {x1 : Int32} {x2 : Int32} {x3 : Int32} {x4 : Int32} {x5 : Int32} {x6 : Int32} {x7 : Int32} {x8 : Int32} {x9 : Int32}, Rep E ad V M → kh V x1 x2 x3 x4 x5 x6 x7 x8 x9 = some out → G E X RX12 cX12_cheapest 10 (some .int) false (rmD 4) P M [some (.ref (ad 2200 0)), some (.int (x1)), some (.int (x2)), some (.int (x3)), some (.int (x4)), some (.int (x5)), some (.int (x6)), some (.int (x7)), some (.int (x8)), some (.int (x9))] 0 0 82 []) (hkx125 : ∀ {V : St} {M : MH} {x1 : Int32} {x2 : Int32} {x3 : Int32} {x4 : Int32} {x5 : Int32} {x6 : Int32} {x8 : Int32} {d7 : Option Value} {d9 : Option Value}, Rep E ad V M → kx125 V x1 x2 x3 x4 x5 x6 x8 = some out → G E X RX12 cX12_cheapest 10 (some .int) false (rmD 4) P M [some (.ref (ad 2200 0)), some (.int (x1)), some (.int (x2)), some (.int (x3)), some (.int (x4)), some (.int (x5)), some (.int (x6)), d7, some (.int (x8)), d9] 0 0 125 []) (hp : ∀ M, Rep E ad out.2 M → P (some (.int out.1)) M) {V : St} {M : MH} {x1 : Int32} {x2 : Int32} {x3 : Int32} {x4 : Int32} {x5 : Int32} {x6 : Int32} {x7 : Int32} {x8 : Int32} {x9 : Int32} (hR : Rep E ad V M) (h : F_X12_cheapest_82 kh kx125 fu V x1 x2 x3 x4 x5 x6 x7 x8 x9 = some out) : G E X RX12 cX12_cheapest 10 (some .int) false (rmD 4) P M [some (.ref (ad 2200 0)), some (.int (x1)), some (.int (x2)), some (.int (x3)), some (.int (x4)), some (.int (x5)), some (.int (x6)), some (.int (x7)), some (.int (x8)), some (.int (x9))] 0 0 82 [] := by
  unfold F_X12_cheapest_82 at h
  refine r_iload DX12_cheapest_82 rfl ?_
  refine r_if_lt DX12_cheapest_84 (fun c1 => ?_) (fun c1 => ?_)
  · have h := if_t c1 h
    exact hkx125 hR h
  · have h := if_f c1 h
    refine r_aload_n DX12_cheapest_87 rfl ?_
    refine s_geta DX12_cheapest_88 fl_X12_73 hR ct_2200 (one_cnt _) rfl ?_
    refine r_iload DX12_cheapest_91 rfl ?_
    refine r_iload DX12_cheapest_93 rfl ?_
    refine r_iconst (v := 3) DX12_cheapest_95 ki_3 ?_
    refine r_irem DX12_cheapest_96 (by decide) ?_
    obtain ⟨hg2, h⟩ := gd_inv h
    obtain ⟨V3, hv4, h⟩ := bv_inv h
    refine s_iast DX12_cheapest_97 hR oka_2226 ct_2226 (one_cnt _) hg2 (fun M hR => ?_)
    have hR := hR.cg hv4
    refine r_iload DX12_cheapest_98 rfl ?_
    refine r_iconst (v := 3) DX12_cheapest_100 ki_3 ?_
    refine r_idiv DX12_cheapest_101 (by decide) ?_
    refine t_istore (L' := [some (.ref (ad 2200 0)), some (.int (x1)), some (.int (x2)), some (.int (x3)), some (.int (x4)), some (.int (x5)), some (.int (x6)), some (.int ((x7) / ((3 : Int32)))), some (.int (x8)), some (.int (x9))]) DX12_cheapest_102 (by decide) rfl ?_
    refine r_iload DX12_cheapest_104 rfl ?_
    refine r_aload_n DX12_cheapest_106 rfl ?_
    refine s_geta DX12_cheapest_107 fl_X12_73 hR ct_2200 (one_cnt _) rfl ?_
    refine r_iload DX12_cheapest_110 rfl ?_
    obtain ⟨hg5, h⟩ := gd_inv h
    refine s_iald DX12_cheapest_112 hR ct_2226 (one_cnt _) hg5 ?_
    obtain ⟨r6, V7, hc8, h⟩ := bd_inv h
    refine k_callS (As := [.int ((V3 2226 (0) (x9).toNatClampNeg))]) (rest := [.int (x8)]) (st1 := [.int (r6), .int (x8)]) (w := some (.int r6)) DX12_cheapest_113 cs_X12_265 (C_X12_usesOf (out := (r6, V7)) (cxL X) hR hc8) rfl (by decide) (by decide) rfl (Nat.le_of_ble_eq_true rfl) rfl (fun M hR => ?_)
    refine r_iadd DX12_cheapest_116 ?_
    refine t_istore (L' := [some (.ref (ad 2200 0)), some (.int (x1)), some (.int (x2)), some (.int (x3)), some (.int (x4)), some (.int (x5)), some (.int (x6)), some (.int ((x7) / ((3 : Int32)))), some (.int (x8 + r6)), some (.int (x9))]) DX12_cheapest_117 (by decide) rfl ?_
    refine t_iinc (v := -1) (L' := [some (.ref (ad 2200 0)), some (.int (x1)), some (.int (x2)), some (.int (x3)), some (.int (x4)), some (.int (x5)), some (.int (x6)), some (.int ((x7) / ((3 : Int32)))), some (.int (x8 + r6)), some (.int (x9 + (-1)))]) DX12_cheapest_119 rfl ki_m1 (by decide) rfl ?_
    refine r_goto DX12_cheapest_122 ?_
    exact hkh hR h
theorem SL_X12_cheapest_82 {E : EN} {X : CX} {P : Option Value → MH → Prop} {ad : AD} {fu : Nat} {out : Int32 × St} {kx125 : St → Int32 → Int32 → Int32 → Int32 → Int32 → Int32 → Int32 → RR} (hkx125 : ∀ {V : St} {M : MH} {x1 : Int32} {x2 : Int32} {x3 : Int32} {x4 : Int32} {x5 : Int32} {x6 : Int32} {x8 : Int32} {d7 : Option Value} {d9 : Option Value}, Rep E ad V M → kx125 V x1 x2 x3 x4 x5 x6 x8 = some out → G E X RX12 cX12_cheapest 10 (some .int) false (rmD 4) P M [some (.ref (ad 2200 0)), some (.int (x1)), some (.int (x2)), some (.int (x3)), some (.int (x4)), some (.int (x5)), some (.int (x6)), d7, some (.int (x8)), d9] 0 0 125 []) (hp : ∀ M, Rep E ad out.2 M → P (some (.int out.1)) M) : ∀ (n : Nat) {V : St} {M : MH} {x1 : Int32} {x2 : Int32} {x3 : Int32} {x4 : Int32} {x5 : Int32} {x6 : Int32} {x7 : Int32} {x8 : Int32} {x9 : Int32}, Rep E ad V M → Lp_X12_cheapest_82 kx125 fu n V x1 x2 x3 x4 x5 x6 x7 x8 x9 = some out → G E X RX12 cX12_cheapest 10 (some .int) false (rmD 4) P M [some (.ref (ad 2200 0)), some (.int (x1)), some (.int (x2)), some (.int (x3)), some (.int (x4)), some (.int (x5)), some (.int (x6)), some (.int (x7)), some (.int (x8)), some (.int (x9))] 0 0 82 [] := by
  intro n
  induction n with
  | zero => intros; rename_i h; cases h
  | succ n ih => exact fun hR h => S_X12_cheapest_82 (fun hR h => ih hR h) (fun hR h => hkx125 hR h) hp hR h
theorem S_X12_cheapest_63 {E : EN} {X : CX} {P : Option Value → MH → Prop} {ad : AD} {fu : Nat} {out : Int32 × St} {kh : St → Int32 → Int32 → Int32 → Int32 → Int32 → Int32 → RR} {kx188 : St → Int32 → Int32 → RR} (hkh : ∀ {V : St} {M : MH} {x1 : Int32} {x2 : Int32} {x3 : Int32} {x4 : Int32} {x5 : Int32} {x6 : Int32} {d7 : Option Value} {d8 : Option Value} {d9 : Option Value}, Rep E ad V M → kh V x1 x2 x3 x4 x5 x6 = some out → G E X RX12 cX12_cheapest 10 (some .int) false (rmD 4) P M [some (.ref (ad 2200 0)), some (.int (x1)), some (.int (x2)), some (.int (x3)), some (.int (x4)), some (.int (x5)), some (.int (x6)), d7, d8, d9] 0 0 63 []) (hkx188 : ∀ {V : St} {M : MH} {x2 : Int32} {x5 : Int32} {d1 : Option Value} {d3 : Option Value} {d4 : Option Value} {d6 : Option Value} {d7 : Option Value} {d8 : Option Value} {d9 : Option Value}, Rep E ad V M → kx188 V x2 x5 = some out → G E X RX12 cX12_cheapest 10 (some .int) false (rmD 4) P M [some (.ref (ad 2200 0)), d1, some (.int (x2)), d3, d4, some (.int (x5)), d6, d7, d8, d9] 0 0 188 []) (hp : ∀ M, Rep E ad out.2 M → P (some (.int out.1)) M) {V : St} {M : MH} {x1 : Int32} {x2 : Int32} {x3 : Int32} {x4 : Int32} {x5 : Int32} {x6 : Int32} {d7 : Option Value} {d8 : Option Value} {d9 : Option Value} (hR : Rep E ad V M) (h : F_X12_cheapest_63 kh kx188 fu V x1 x2 x3 x4 x5 x6 = some out) : G E X RX12 cX12_cheapest 10 (some .int) false (rmD 4) P M [some (.ref (ad 2200 0)), some (.int (x1)), some (.int (x2)), some (.int (x3)), some (.int (x4)), some (.int (x5)), some (.int (x6)), d7, d8, d9] 0 0 63 [] := by
  unfold F_X12_cheapest_63 at h
  refine r_iload DX12_cheapest_63 rfl ?_
  refine r_iload DX12_cheapest_65 rfl ?_
  refine r_icmp_ge DX12_cheapest_67 (fun c1 => ?_) (fun c1 => ?_)
  · have h := if_t c1 h
    exact hkx188 hR h
  · have h := if_f c1 h
    refine r_iload DX12_cheapest_70 rfl ?_
    refine t_istore (L' := [some (.ref (ad 2200 0)), some (.int (x1)), some (.int (x2)), some (.int (x3)), some (.int (x4)), some (.int (x5)), some (.int (x6)), some (.int (x6)), d8, d9]) DX12_cheapest_72 (by decide) rfl ?_
    refine r_iconst (v := 0) DX12_cheapest_74 ki_0 ?_
    refine t_istore (L' := [some (.ref (ad 2200 0)), some (.int (x1)), some (.int (x2)), some (.int (x3)), some (.int (x4)), some (.int (x5)), some (.int (x6)), some (.int (x6)), some (.int ((0 : Int32))), d9]) DX12_cheapest_75 (by decide) rfl ?_
    refine r_iload_n DX12_cheapest_77 rfl ?_
    refine r_iconst (v := 1) DX12_cheapest_78 ki_1 ?_
    refine r_isub DX12_cheapest_79 ?_
    refine t_istore (L' := [some (.ref (ad 2200 0)), some (.int (x1)), some (.int (x2)), some (.int (x3)), some (.int (x4)), some (.int (x5)), some (.int (x6)), some (.int (x6)), some (.int ((0 : Int32))), some (.int (x3 - (1 : Int32)))]) DX12_cheapest_80 (by decide) rfl ?_
    exact SL_X12_cheapest_82 (fun hR h => S_X12_cheapest_125 (fun hR h => hkh hR h) (fun hR h => hkx188 hR h) hp hR h) hp fu hR h
theorem SL_X12_cheapest_63 {E : EN} {X : CX} {P : Option Value → MH → Prop} {ad : AD} {fu : Nat} {out : Int32 × St} {kx188 : St → Int32 → Int32 → RR} (hkx188 : ∀ {V : St} {M : MH} {x2 : Int32} {x5 : Int32} {d1 : Option Value} {d3 : Option Value} {d4 : Option Value} {d6 : Option Value} {d7 : Option Value} {d8 : Option Value} {d9 : Option Value}, Rep E ad V M → kx188 V x2 x5 = some out → G E X RX12 cX12_cheapest 10 (some .int) false (rmD 4) P M [some (.ref (ad 2200 0)), d1, some (.int (x2)), d3, d4, some (.int (x5)), d6, d7, d8, d9] 0 0 188 []) (hp : ∀ M, Rep E ad out.2 M → P (some (.int out.1)) M) : ∀ (n : Nat) {V : St} {M : MH} {x1 : Int32} {x2 : Int32} {x3 : Int32} {x4 : Int32} {x5 : Int32} {x6 : Int32} {d7 : Option Value} {d8 : Option Value} {d9 : Option Value}, Rep E ad V M → Lp_X12_cheapest_63 kx188 fu n V x1 x2 x3 x4 x5 x6 = some out → G E X RX12 cX12_cheapest 10 (some .int) false (rmD 4) P M [some (.ref (ad 2200 0)), some (.int (x1)), some (.int (x2)), some (.int (x3)), some (.int (x4)), some (.int (x5)), some (.int (x6)), d7, d8, d9] 0 0 63 [] := by
  intro n
  induction n with
  | zero => intros; rename_i h; cases h
  | succ n ih => exact fun hR h => S_X12_cheapest_63 (fun hR h => ih hR h) (fun hR h => hkx188 hR h) hp hR h
theorem S_X12_cheapest_57 {E : EN} {X : CX} {P : Option Value → MH → Prop} {ad : AD} {fu : Nat} {out : Int32 × St} (hp : ∀ M, Rep E ad out.2 M → P (some (.int out.1)) M) {V : St} {M : MH} {x1 : Int32} {x2 : Int32} {x3 : Int32} {x4 : Int32} {d5 : Option Value} {d6 : Option Value} {d7 : Option Value} {d8 : Option Value} {d9 : Option Value} (hR : Rep E ad V M) (h : F_X12_cheapest_57 fu V x1 x2 x3 x4 = some out) : G E X RX12 cX12_cheapest 10 (some .int) false (rmD 4) P M [some (.ref (ad 2200 0)), some (.int (x1)), some (.int (x2)), some (.int (x3)), some (.int (x4)), d5, d6, d7, d8, d9] 0 0 57 [] := by
  unfold F_X12_cheapest_57 at h
  refine r_iconst (v := -1) DX12_cheapest_57 ki_m1 ?_
  refine t_istore (L' := [some (.ref (ad 2200 0)), some (.int (x1)), some (.int (x2)), some (.int (x3)), some (.int (x4)), some (.int ((-1 : Int32))), d6, d7, d8, d9]) DX12_cheapest_58 (by decide) rfl ?_
  refine r_iconst (v := 0) DX12_cheapest_60 ki_0 ?_
  refine t_istore (L' := [some (.ref (ad 2200 0)), some (.int (x1)), some (.int (x2)), some (.int (x3)), some (.int (x4)), some (.int ((-1 : Int32))), some (.int ((0 : Int32))), d7, d8, d9]) DX12_cheapest_61 (by decide) rfl ?_
  exact SL_X12_cheapest_63 (fun hR h => S_X12_cheapest_188 hp hR h) hp fu hR h
theorem S_X12_cheapest_39 {E : EN} {X : CX} {P : Option Value → MH → Prop} {ad : AD} {fu : Nat} {out : Int32 × St} {kh : St → Int32 → Int32 → Int32 → Int32 → Int32 → RR} {kx57 : St → Int32 → Int32 → Int32 → Int32 → RR} (hkh : ∀ {V : St} {M : MH} {x1 : Int32} {x2 : Int32} {x3 : Int32} {x4 : Int32} {x5 : Int32} {d6 : Option Value} {d7 : Option Value} {d8 : Option Value} {d9 : Option Value}, Rep E ad V M → kh V x1 x2 x3 x4 x5 = some out → G E X RX12 cX12_cheapest 10 (some .int) false (rmD 4) P M [some (.ref (ad 2200 0)), some (.int (x1)), some (.int (x2)), some (.int (x3)), some (.int (x4)), some (.int (x5)), d6, d7, d8, d9] 0 0 39 []) (hkx57 : ∀ {V : St} {M : MH} {x1 : Int32} {x2 : Int32} {x3 : Int32} {x4 : Int32} {d5 : Option Value} {d6 : Option Value} {d7 : Option Value} {d8 : Option Value} {d9 : Option Value}, Rep E ad V M → kx57 V x1 x2 x3 x4 = some out → G E X RX12 cX12_cheapest 10 (some .int) false (rmD 4) P M [some (.ref (ad 2200 0)), some (.int (x1)), some (.int (x2)), some (.int (x3)), some (.int (x4)), d5, d6, d7, d8, d9] 0 0 57 []) (hp : ∀ M, Rep E ad out.2 M → P (some (.int out.1)) M) {V : St} {M : MH} {x1 : Int32} {x2 : Int32} {x3 : Int32} {x4 : Int32} {x5 : Int32} {d6 : Option Value} {d7 : Option Value} {d8 : Option Value} {d9 : Option Value} (hR : Rep E ad V M) (h : F_X12_cheapest_39 kh kx57 fu V x1 x2 x3 x4 x5 = some out) : G E X RX12 cX12_cheapest 10 (some .int) false (rmD 4) P M [some (.ref (ad 2200 0)), some (.int (x1)), some (.int (x2)), some (.int (x3)), some (.int (x4)), some (.int (x5)), d6, d7, d8, d9] 0 0 39 [] := by
  unfold F_X12_cheapest_39 at h
  refine r_iload DX12_cheapest_39 rfl ?_
  refine r_iload_n DX12_cheapest_41 rfl ?_
  refine r_icmp_ge DX12_cheapest_42 (fun c1 => ?_) (fun c1 => ?_)
  · have h := if_t c1 h
    exact hkx57 hR h
  · have h := if_f c1 h
    refine r_iconst (v := 3) DX12_cheapest_45 ki_3 ?_
    refine r_iload DX12_cheapest_46 rfl ?_
    refine r_imul DX12_cheapest_48 ?_
    refine t_istore (L' := [some (.ref (ad 2200 0)), some (.int (x1)), some (.int (x2)), some (.int (x3)), some (.int ((3 : Int32) * x4)), some (.int (x5)), d6, d7, d8, d9]) DX12_cheapest_49 (by decide) rfl ?_
    refine t_iinc (v := 1) (L' := [some (.ref (ad 2200 0)), some (.int (x1)), some (.int (x2)), some (.int (x3)), some (.int ((3 : Int32) * x4)), some (.int (x5 + 1)), d6, d7, d8, d9]) DX12_cheapest_51 rfl ki_1 (by decide) rfl ?_
    refine r_goto DX12_cheapest_54 ?_
    exact hkh hR h
theorem SL_X12_cheapest_39 {E : EN} {X : CX} {P : Option Value → MH → Prop} {ad : AD} {fu : Nat} {out : Int32 × St} {kx57 : St → Int32 → Int32 → Int32 → Int32 → RR} (hkx57 : ∀ {V : St} {M : MH} {x1 : Int32} {x2 : Int32} {x3 : Int32} {x4 : Int32} {d5 : Option Value} {d6 : Option Value} {d7 : Option Value} {d8 : Option Value} {d9 : Option Value}, Rep E ad V M → kx57 V x1 x2 x3 x4 = some out → G E X RX12 cX12_cheapest 10 (some .int) false (rmD 4) P M [some (.ref (ad 2200 0)), some (.int (x1)), some (.int (x2)), some (.int (x3)), some (.int (x4)), d5, d6, d7, d8, d9] 0 0 57 []) (hp : ∀ M, Rep E ad out.2 M → P (some (.int out.1)) M) : ∀ (n : Nat) {V : St} {M : MH} {x1 : Int32} {x2 : Int32} {x3 : Int32} {x4 : Int32} {x5 : Int32} {d6 : Option Value} {d7 : Option Value} {d8 : Option Value} {d9 : Option Value}, Rep E ad V M → Lp_X12_cheapest_39 kx57 fu n V x1 x2 x3 x4 x5 = some out → G E X RX12 cX12_cheapest 10 (some .int) false (rmD 4) P M [some (.ref (ad 2200 0)), some (.int (x1)), some (.int (x2)), some (.int (x3)), some (.int (x4)), some (.int (x5)), d6, d7, d8, d9] 0 0 39 [] := by
  intro n
  induction n with
  | zero => intros; rename_i h; cases h
  | succ n ih => exact fun hR h => S_X12_cheapest_39 (fun hR h => ih hR h) (fun hR h => hkx57 hR h) hp hR h
theorem S_X12_cheapest_24 {E : EN} {X : CX} {P : Option Value → MH → Prop} {ad : AD} {fu : Nat} {out : Int32 × St} (hp : ∀ M, Rep E ad out.2 M → P (some (.int out.1)) M) {V : St} {M : MH} {d0 : Option Value} {d1 : Option Value} {d2 : Option Value} {d3 : Option Value} {d4 : Option Value} {d5 : Option Value} {d6 : Option Value} {d7 : Option Value} {d8 : Option Value} {d9 : Option Value} (hR : Rep E ad V M) (h : F_X12_cheapest_24 fu V = some out) : G E X RX12 cX12_cheapest 10 (some .int) false (rmD 4) P M [d0, d1, d2, d3, d4, d5, d6, d7, d8, d9] 0 0 24 [] := by
  unfold F_X12_cheapest_24 at h
  refine r_iconst (v := -1) DX12_cheapest_24 ki_m1 ?_
  cases h
  exact r_iret DX12_cheapest_25 rfl ⟨Nat.le_refl 0, Nat.le_refl 0⟩ (hp M hR)
theorem S_X12_cheapest_0 {E : EN} {X : CX} {P : Option Value → MH → Prop} {ad : AD} {fu : Nat} {out : Int32 × St} (hp : ∀ M, Rep E ad out.2 M → P (some (.int out.1)) M) {V : St} {M : MH} {x1 : Int32} {x2 : Int32} (hR : Rep E ad V M) (h : f_X12_cheapest fu V x1 x2 = some out) : G E X RX12 cX12_cheapest 10 (some .int) false (rmD 4) P M [some (.ref (ad 2200 0)), some (.int (x1)), some (.int (x2)), none, none, none, none, none, none, none] 0 0 0 [] := by
  unfold f_X12_cheapest at h
  refine r_aload_n DX12_cheapest_0 rfl ?_
  refine r_iload_n DX12_cheapest_1 rfl ?_
  obtain ⟨r1, V2, hc3, h⟩ := bd_inv h
  refine k_callV (As := [.int (x1)]) (rest := []) (st1 := [.int (r1)]) (w := some (.int r1)) DX12_cheapest_2 cv_X12_249 hR ct_2200 (one_cnt _) rfl (C_X12_isDrawing (out := (r1, V2)) (cxL X) hR hc3) rfl (by decide) (by decide) rfl (Nat.le_of_ble_eq_true rfl) rfl (fun M hR => ?_)
  refine r_if_eq DX12_cheapest_5 (fun c4 => ?_) (fun c4 => ?_)
  · have h := if_t c4 h
    exact S_X12_cheapest_24 hp hR h
  · have h := if_f c4 h
    refine r_iload_n DX12_cheapest_8 rfl ?_
    refine r_iconst (v := -1) DX12_cheapest_9 ki_m1 ?_
    refine r_aload_n DX12_cheapest_10 rfl ?_
    refine s_geta DX12_cheapest_11 fl_X12_22 hR ct_2200 (one_cnt _) rfl ?_
    refine r_iload_n DX12_cheapest_14 rfl ?_
    obtain ⟨hg5, h⟩ := gd_inv h
    refine s_iald DX12_cheapest_15 hR ct_2209 (one_cnt _) hg5 ?_
    refine r_iconst (v := 1) DX12_cheapest_16 ki_1 ?_
    refine r_isub DX12_cheapest_17 ?_
    obtain ⟨r6, V7, hc8, h⟩ := bd_inv h
    refine k_callS (As := [.int (x2), .int ((-1 : Int32)), .int ((V2 2209 (0) (x1).toNatClampNeg) - (1 : Int32))]) (rest := []) (st1 := [.int (r6)]) (w := some (.int r6)) DX12_cheapest_18 cs_X12_245 (C_X12_in (out := (r6, V7)) (cxL X) hR hc8) rfl (by decide) (by decide) rfl (Nat.le_of_ble_eq_true rfl) rfl (fun M hR => ?_)
    refine r_if_ne DX12_cheapest_21 (fun c9 => ?_) (fun c9 => ?_)
    · have h := if_f c9 h
      refine r_aload_n DX12_cheapest_26 rfl ?_
      refine s_geta DX12_cheapest_27 fl_X12_22 hR ct_2200 (one_cnt _) rfl ?_
      refine r_iload_n DX12_cheapest_30 rfl ?_
      obtain ⟨hg10, h⟩ := gd_inv h
      refine s_iald DX12_cheapest_31 hR ct_2209 (one_cnt _) hg10 ?_
      refine t_istore_n (L' := [some (.ref (ad 2200 0)), some (.int (x1)), some (.int (x2)), some (.int ((V7 2209 (0) (x1).toNatClampNeg))), none, none, none, none, none, none]) DX12_cheapest_32 (by decide) rfl ?_
      refine r_iconst (v := 1) DX12_cheapest_33 ki_1 ?_
      refine t_istore (L' := [some (.ref (ad 2200 0)), some (.int (x1)), some (.int (x2)), some (.int ((V7 2209 (0) (x1).toNatClampNeg))), some (.int ((1 : Int32))), none, none, none, none, none]) DX12_cheapest_34 (by decide) rfl ?_
      refine r_iconst (v := 0) DX12_cheapest_36 ki_0 ?_
      refine t_istore (L' := [some (.ref (ad 2200 0)), some (.int (x1)), some (.int (x2)), some (.int ((V7 2209 (0) (x1).toNatClampNeg))), some (.int ((1 : Int32))), some (.int ((0 : Int32))), none, none, none, none]) DX12_cheapest_37 (by decide) rfl ?_
      exact SL_X12_cheapest_39 (fun hR h => S_X12_cheapest_57 hp hR h) hp fu hR h
    · have h := if_t c9 h
      exact S_X12_cheapest_24 hp hR h
theorem C_X12_cheapest {E : EN} {ad : AD} {fu : Nat} {out : Int32 × St} {V : St} {M : MH} {x1 : Int32} {x2 : Int32} (l : Launch) (hR : Rep E ad V M) (h : f_X12_cheapest fu V x1 x2 = some out) : Ct E l yX12_cheapest cX12_cheapest 10 (some .int) (rmD 4) [.ref (ad 2200 0), .int (x1), .int (x2)] M (fun v M => v = (some (.int out.1)) ∧ Rep E ad out.2 M) :=
  Ct.of (own := RX12) (ini := false) (L := [some (.ref (ad 2200 0)), some (.int (x1)), some (.int (x2)), none, none, none, none, none, none, none]) rfl rfl (fun h => by cases h) rfl (Nat.le_of_ble_eq_true rfl) rfl (fun X _ => S_X12_cheapest_0 (fun M hR => ⟨rfl, hR⟩) hR h)
theorem S_X12_tapeNumber_37 {E : EN} {X : CX} {P : Option Value → MH → Prop} {ad : AD} {fu : Nat} {out : Int32 × St} (hp : ∀ M, Rep E ad out.2 M → P (some (.int out.1)) M) {V : St} {M : MH} {x2 : Int32} {d0 : Option Value} {d1 : Option Value} {d3 : Option Value} (hR : Rep E ad V M) (h : F_X12_tapeNumber_37 fu V x2 = some out) : G E X RX12 cX12_tapeNumber 4 (some .int) false (rmD 1) P M [d0, d1, some (.int (x2)), d3] 0 0 37 [] := by
  unfold F_X12_tapeNumber_37 at h
  refine r_iload_n DX12_tapeNumber_37 rfl ?_
  cases h
  exact r_iret DX12_tapeNumber_38 rfl ⟨Nat.le_refl 0, Nat.le_refl 0⟩ (hp M hR)
theorem S_X12_tapeNumber_6 {E : EN} {X : CX} {P : Option Value → MH → Prop} {ad : AD} {fu : Nat} {out : Int32 × St} {kh : St → Int32 → Int32 → Int32 → RR} {kx37 : St → Int32 → RR} (hkh : ∀ {V : St} {M : MH} {x1 : Int32} {x2 : Int32} {x3 : Int32}, Rep E ad V M → kh V x1 x2 x3 = some out → G E X RX12 cX12_tapeNumber 4 (some .int) false (rmD 1) P M [some (.ref (ad 2200 0)), some (.int (x1)), some (.int (x2)), some (.int (x3))] 0 0 6 []) (hkx37 : ∀ {V : St} {M : MH} {x2 : Int32} {d0 : Option Value} {d1 : Option Value} {d3 : Option Value}, Rep E ad V M → kx37 V x2 = some out → G E X RX12 cX12_tapeNumber 4 (some .int) false (rmD 1) P M [d0, d1, some (.int (x2)), d3] 0 0 37 []) (hp : ∀ M, Rep E ad out.2 M → P (some (.int out.1)) M) {V : St} {M : MH} {x1 : Int32} {x2 : Int32} {x3 : Int32} (hR : Rep E ad V M) (h : F_X12_tapeNumber_6 kh kx37 fu V x1 x2 x3 = some out) : G E X RX12 cX12_tapeNumber 4 (some .int) false (rmD 1) P M [some (.ref (ad 2200 0)), some (.int (x1)), some (.int (x2)), some (.int (x3))] 0 0 6 [] := by
  unfold F_X12_tapeNumber_6 at h
  refine r_iload_n DX12_tapeNumber_6 rfl ?_
  refine r_iconst (v := 4) DX12_tapeNumber_7 ki_4 ?_
  refine r_iload_n DX12_tapeNumber_8 rfl ?_
  refine r_imul DX12_tapeNumber_9 ?_
  refine r_iconst (v := 4) DX12_tapeNumber_10 ki_4 ?_
  refine r_iadd DX12_tapeNumber_11 ?_
  refine r_icmp_ge DX12_tapeNumber_12 (fun c1 => ?_) (fun c1 => ?_)
  · have h := if_t c1 h
    exact hkx37 hR h
  · have h := if_f c1 h
    refine r_iload_n DX12_tapeNumber_15 rfl ?_
    refine r_bipush (v := 8) DX12_tapeNumber_16 kb_8 ?_
    refine r_ishl DX12_tapeNumber_18 ?_
    refine r_aload_n DX12_tapeNumber_19 rfl ?_
    refine s_geta DX12_tapeNumber_20 fl_X12_116 hR ct_2200 (one_cnt _) rfl ?_
    refine r_iload_n DX12_tapeNumber_23 rfl ?_
    obtain ⟨hg2, h⟩ := gd_inv h
    refine s_bald DX12_tapeNumber_24 hR ct_2241 (one_cnt _) hg2 ?_
    refine r_sipush (v := 255) DX12_tapeNumber_25 ks_255 ?_
    refine r_iand DX12_tapeNumber_28 ?_
    refine r_ior DX12_tapeNumber_29 ?_
    refine t_istore_n (L' := [some (.ref (ad 2200 0)), some (.int (x1)), some (.int ((x2 <<< ((8 : Int32) &&& 31)) ||| ((V 2241 (0) (x3).toNatClampNeg) &&& (255 : Int32)))), some (.int (x3))]) DX12_tapeNumber_30 (by decide) rfl ?_
    refine t_iinc (v := 1) (L' := [some (.ref (ad 2200 0)), some (.int (x1)), some (.int ((x2 <<< ((8 : Int32) &&& 31)) ||| ((V 2241 (0) (x3).toNatClampNeg) &&& (255 : Int32)))), some (.int (x3 + 1))]) DX12_tapeNumber_31 rfl ki_1 (by decide) rfl ?_
    refine r_goto DX12_tapeNumber_34 ?_
    exact hkh hR h
theorem SL_X12_tapeNumber_6 {E : EN} {X : CX} {P : Option Value → MH → Prop} {ad : AD} {fu : Nat} {out : Int32 × St} {kx37 : St → Int32 → RR} (hkx37 : ∀ {V : St} {M : MH} {x2 : Int32} {d0 : Option Value} {d1 : Option Value} {d3 : Option Value}, Rep E ad V M → kx37 V x2 = some out → G E X RX12 cX12_tapeNumber 4 (some .int) false (rmD 1) P M [d0, d1, some (.int (x2)), d3] 0 0 37 []) (hp : ∀ M, Rep E ad out.2 M → P (some (.int out.1)) M) : ∀ (n : Nat) {V : St} {M : MH} {x1 : Int32} {x2 : Int32} {x3 : Int32}, Rep E ad V M → Lp_X12_tapeNumber_6 kx37 fu n V x1 x2 x3 = some out → G E X RX12 cX12_tapeNumber 4 (some .int) false (rmD 1) P M [some (.ref (ad 2200 0)), some (.int (x1)), some (.int (x2)), some (.int (x3))] 0 0 6 [] := by
  intro n
  induction n with
  | zero => intros; rename_i h; cases h
  | succ n ih => exact fun hR h => S_X12_tapeNumber_6 (fun hR h => ih hR h) (fun hR h => hkx37 hR h) hp hR h
theorem S_X12_tapeNumber_0 {E : EN} {X : CX} {P : Option Value → MH → Prop} {ad : AD} {fu : Nat} {out : Int32 × St} (hp : ∀ M, Rep E ad out.2 M → P (some (.int out.1)) M) {V : St} {M : MH} {x1 : Int32} (hR : Rep E ad V M) (h : f_X12_tapeNumber fu V x1 = some out) : G E X RX12 cX12_tapeNumber 4 (some .int) false (rmD 1) P M [some (.ref (ad 2200 0)), some (.int (x1)), none, none] 0 0 0 [] := by
  unfold f_X12_tapeNumber at h
  refine r_iconst (v := 0) DX12_tapeNumber_0 ki_0 ?_
  refine t_istore_n (L' := [some (.ref (ad 2200 0)), some (.int (x1)), some (.int ((0 : Int32))), none]) DX12_tapeNumber_1 (by decide) rfl ?_
  refine r_iconst (v := 4) DX12_tapeNumber_2 ki_4 ?_
  refine r_iload_n DX12_tapeNumber_3 rfl ?_
  refine r_imul DX12_tapeNumber_4 ?_
  refine t_istore_n (L' := [some (.ref (ad 2200 0)), some (.int (x1)), some (.int ((0 : Int32))), some (.int ((4 : Int32) * x1))]) DX12_tapeNumber_5 (by decide) rfl ?_
  exact SL_X12_tapeNumber_6 (fun hR h => S_X12_tapeNumber_37 hp hR h) hp fu hR h
theorem C_X12_tapeNumber {E : EN} {ad : AD} {fu : Nat} {out : Int32 × St} {V : St} {M : MH} {x1 : Int32} (l : Launch) (hR : Rep E ad V M) (h : f_X12_tapeNumber fu V x1 = some out) : Ct E l yX12_tapeNumber cX12_tapeNumber 4 (some .int) (rmD 1) [.ref (ad 2200 0), .int (x1)] M (fun v M => v = (some (.int out.1)) ∧ Rep E ad out.2 M) :=
  Ct.of (own := RX12) (ini := false) (L := [some (.ref (ad 2200 0)), some (.int (x1)), none, none]) rfl rfl (fun h => by cases h) rfl (Nat.le_of_ble_eq_true rfl) rfl (fun X _ => S_X12_tapeNumber_0 (fun M hR => ⟨rfl, hR⟩) hR h)
theorem S_X12_check_153 {E : EN} {X : CX} {P : Option Value → MH → Prop} {ad : AD} {fu : Nat} {out : Int32 × St} (hp : ∀ M, Rep E ad out.2 M → P (some (.int out.1)) M) {V : St} {M : MH} {s0 : Int32} {d0 : Option Value} {d1 : Option Value} {d2 : Option Value} {d3 : Option Value} {d4 : Option Value} {d5 : Option Value} (hR : Rep E ad V M) (h : F_X12_check_153 fu V s0 = some out) : G E X RX12 cX12_check 6 (some .int) false (rmD 2) P M [d0, d1, d2, d3, d4, d5] 0 0 153 [.int (s0)] := by
  unfold F_X12_check_153 at h
  cases h
  exact r_iret DX12_check_153 rfl ⟨Nat.le_refl 0, Nat.le_refl 0⟩ (hp M hR)
theorem S_X12_check_141 {E : EN} {X : CX} {P : Option Value → MH → Prop} {ad : AD} {fu : Nat} {out : Int32 × St} (hp : ∀ M, Rep E ad out.2 M → P (some (.int out.1)) M) {V : St} {M : MH} {x1 : Int32} {x2 : Int32} {d0 : Option Value} {d3 : Option Value} {d4 : Option Value} {d5 : Option Value} (hR : Rep E ad V M) (h : F_X12_check_141 fu V x1 x2 = some out) : G E X RX12 cX12_check 6 (some .int) false (rmD 2) P M [d0, some (.int (x1)), some (.int (x2)), d3, d4, d5] 0 0 141 [] := by
  unfold F_X12_check_141 at h
  refine r_iload_n DX12_check_141 rfl ?_
  refine r_iconst (v := 3) DX12_check_142 ki_3 ?_
  refine r_iload_n DX12_check_143 rfl ?_
  refine r_imul DX12_check_144 ?_
  refine r_icmp_ge DX12_check_145 (fun c1 => ?_) (fun c1 => ?_)
  · have h := if_t c1 h
    refine r_iconst (v := -1) DX12_check_152 ki_m1 ?_
    exact S_X12_check_153 hp hR h
  · have h := if_f c1 h
    refine r_iload_n DX12_check_148 rfl ?_
    refine r_goto DX12_check_149 ?_
    exact S_X12_check_153 hp hR h
theorem S_X12_check_135 {E : EN} {X : CX} {P : Option Value → MH → Prop} {ad : AD} {fu : Nat} {out : Int32 × St} {kh : St → Int32 → Int32 → Int32 → RR} {kx91 : St → Int32 → RR} {kx105 : St → Int32 → RR} {kx121 : St → Int32 → RR} {kx141 : St → Int32 → Int32 → RR} (hkh : ∀ {V : St} {M : MH} {x1 : Int32} {x2 : Int32} {x3 : Int32} {d4 : Option Value} {d5 : Option Value}, Rep E ad V M → kh V x1 x2 x3 = some out → G E X RX12 cX12_check 6 (some .int) false (rmD 2) P M [some (.ref (ad 2200 0)), some (.int (x1)), some (.int (x2)), some (.int (x3)), d4, d5] 0 0 27 []) (hkx91 : ∀ {V : St} {M : MH} {x2 : Int32} {d0 : Option Value} {d1 : Option Value} {d3 : Option Value} {d4 : Option Value} {d5 : Option Value}, Rep E ad V M → kx91 V x2 = some out → G E X RX12 cX12_check 6 (some .int) false (rmD 2) P M [d0, d1, some (.int (x2)), d3, d4, d5] 0 0 91 []) (hkx105 : ∀ {V : St} {M : MH} {x2 : Int32} {d0 : Option Value} {d1 : Option Value} {d3 : Option Value} {d4 : Option Value} {d5 : Option Value}, Rep E ad V M → kx105 V x2 = some out → G E X RX12 cX12_check 6 (some .int) false (rmD 2) P M [d0, d1, some (.int (x2)), d3, d4, d5] 0 0 105 []) (hkx121 : ∀ {V : St} {M : MH} {x2 : Int32} {d0 : Option Value} {d1 : Option Value} {d3 : Option Value} {d4 : Option Value} {d5 : Option Value}, Rep E ad V M → kx121 V x2 = some out → G E X RX12 cX12_check 6 (some .int) false (rmD 2) P M [d0, d1, some (.int (x2)), d3, d4, d5] 0 0 121 []) (hkx141 : ∀ {V : St} {M : MH} {x1 : Int32} {x2 : Int32} {d0 : Option Value} {d3 : Option Value} {d4 : Option Value} {d5 : Option Value}, Rep E ad V M → kx141 V x1 x2 = some out → G E X RX12 cX12_check 6 (some .int) false (rmD 2) P M [d0, some (.int (x1)), some (.int (x2)), d3, d4, d5] 0 0 141 []) (hp : ∀ M, Rep E ad out.2 M → P (some (.int out.1)) M) {V : St} {M : MH} {x1 : Int32} {x2 : Int32} {x3 : Int32} {d4 : Option Value} {d5 : Option Value} (hR : Rep E ad V M) (h : F_X12_check_135 kh kx91 kx105 kx121 kx141 fu V x1 x2 x3 = some out) : G E X RX12 cX12_check 6 (some .int) false (rmD 2) P M [some (.ref (ad 2200 0)), some (.int (x1)), some (.int (x2)), some (.int (x3)), d4, d5] 0 0 135 [] := by
  unfold F_X12_check_135 at h
  refine t_iinc (v := 1) (L' := [some (.ref (ad 2200 0)), some (.int (x1)), some (.int (x2)), some (.int (x3 + 1)), d4, d5]) DX12_check_135 rfl ki_1 (by decide) rfl ?_
  refine r_goto DX12_check_138 ?_
  exact hkh hR h
theorem S_X12_check_129 {E : EN} {X : CX} {P : Option Value → MH → Prop} {ad : AD} {fu : Nat} {out : Int32 × St} {kh : St → Int32 → Int32 → Int32 → Int32 → RR} {kx91 : St → Int32 → RR} {kx105 : St → Int32 → RR} {kx121 : St → Int32 → RR} {kx135 : St → Int32 → Int32 → Int32 → RR} (hkh : ∀ {V : St} {M : MH} {x1 : Int32} {x2 : Int32} {x3 : Int32} {x4 : Int32} {d5 : Option Value}, Rep E ad V M → kh V x1 x2 x3 x4 = some out → G E X RX12 cX12_check 6 (some .int) false (rmD 2) P M [some (.ref (ad 2200 0)), some (.int (x1)), some (.int (x2)), some (.int (x3)), some (.int (x4)), d5] 0 0 38 []) (hkx91 : ∀ {V : St} {M : MH} {x2 : Int32} {d0 : Option Value} {d1 : Option Value} {d3 : Option Value} {d4 : Option Value} {d5 : Option Value}, Rep E ad V M → kx91 V x2 = some out → G E X RX12 cX12_check 6 (some .int) false (rmD 2) P M [d0, d1, some (.int (x2)), d3, d4, d5] 0 0 91 []) (hkx105 : ∀ {V : St} {M : MH} {x2 : Int32} {d0 : Option Value} {d1 : Option Value} {d3 : Option Value} {d4 : Option Value} {d5 : Option Value}, Rep E ad V M → kx105 V x2 = some out → G E X RX12 cX12_check 6 (some .int) false (rmD 2) P M [d0, d1, some (.int (x2)), d3, d4, d5] 0 0 105 []) (hkx121 : ∀ {V : St} {M : MH} {x2 : Int32} {d0 : Option Value} {d1 : Option Value} {d3 : Option Value} {d4 : Option Value} {d5 : Option Value}, Rep E ad V M → kx121 V x2 = some out → G E X RX12 cX12_check 6 (some .int) false (rmD 2) P M [d0, d1, some (.int (x2)), d3, d4, d5] 0 0 121 []) (hkx135 : ∀ {V : St} {M : MH} {x1 : Int32} {x2 : Int32} {x3 : Int32} {d4 : Option Value} {d5 : Option Value}, Rep E ad V M → kx135 V x1 x2 x3 = some out → G E X RX12 cX12_check 6 (some .int) false (rmD 2) P M [some (.ref (ad 2200 0)), some (.int (x1)), some (.int (x2)), some (.int (x3)), d4, d5] 0 0 135 []) (hp : ∀ M, Rep E ad out.2 M → P (some (.int out.1)) M) {V : St} {M : MH} {x1 : Int32} {x2 : Int32} {x3 : Int32} {x4 : Int32} {d5 : Option Value} (hR : Rep E ad V M) (h : F_X12_check_129 kh kx91 kx105 kx121 kx135 fu V x1 x2 x3 x4 = some out) : G E X RX12 cX12_check 6 (some .int) false (rmD 2) P M [some (.ref (ad 2200 0)), some (.int (x1)), some (.int (x2)), some (.int (x3)), some (.int (x4)), d5] 0 0 129 [] := by
  unfold F_X12_check_129 at h
  refine t_iinc (v := 1) (L' := [some (.ref (ad 2200 0)), some (.int (x1)), some (.int (x2)), some (.int (x3)), some (.int (x4 + 1)), d5]) DX12_check_129 rfl ki_1 (by decide) rfl ?_
  refine r_goto DX12_check_132 ?_
  exact hkh hR h
theorem S_X12_check_121 {E : EN} {X : CX} {P : Option Value → MH → Prop} {ad : AD} {fu : Nat} {out : Int32 × St} (hp : ∀ M, Rep E ad out.2 M → P (some (.int out.1)) M) {V : St} {M : MH} {x2 : Int32} {d0 : Option Value} {d1 : Option Value} {d3 : Option Value} {d4 : Option Value} {d5 : Option Value} (hR : Rep E ad V M) (h : F_X12_check_121 fu V x2 = some out) : G E X RX12 cX12_check 6 (some .int) false (rmD 2) P M [d0, d1, some (.int (x2)), d3, d4, d5] 0 0 121 [] := by
  unfold F_X12_check_121 at h
  refine r_iload_n DX12_check_121 rfl ?_
  refine r_iconst (v := 2) DX12_check_122 ki_2 ?_
  refine r_iadd DX12_check_123 ?_
  cases h
  exact r_iret DX12_check_124 rfl ⟨Nat.le_refl 0, Nat.le_refl 0⟩ (hp M hR)
theorem S_X12_check_105 {E : EN} {X : CX} {P : Option Value → MH → Prop} {ad : AD} {fu : Nat} {out : Int32 × St} (hp : ∀ M, Rep E ad out.2 M → P (some (.int out.1)) M) {V : St} {M : MH} {x2 : Int32} {d0 : Option Value} {d1 : Option Value} {d3 : Option Value} {d4 : Option Value} {d5 : Option Value} (hR : Rep E ad V M) (h : F_X12_check_105 fu V x2 = some out) : G E X RX12 cX12_check 6 (some .int) false (rmD 2) P M [d0, d1, some (.int (x2)), d3, d4, d5] 0 0 105 [] := by
  unfold F_X12_check_105 at h
  refine r_iload_n DX12_check_105 rfl ?_
  refine r_iconst (v := 1) DX12_check_106 ki_1 ?_
  refine r_iadd DX12_check_107 ?_
  cases h
  exact r_iret DX12_check_108 rfl ⟨Nat.le_refl 0, Nat.le_refl 0⟩ (hp M hR)
theorem S_X12_check_91 {E : EN} {X : CX} {P : Option Value → MH → Prop} {ad : AD} {fu : Nat} {out : Int32 × St} (hp : ∀ M, Rep E ad out.2 M → P (some (.int out.1)) M) {V : St} {M : MH} {x2 : Int32} {d0 : Option Value} {d1 : Option Value} {d3 : Option Value} {d4 : Option Value} {d5 : Option Value} (hR : Rep E ad V M) (h : F_X12_check_91 fu V x2 = some out) : G E X RX12 cX12_check 6 (some .int) false (rmD 2) P M [d0, d1, some (.int (x2)), d3, d4, d5] 0 0 91 [] := by
  unfold F_X12_check_91 at h
  refine r_iload_n DX12_check_91 rfl ?_
  cases h
  exact r_iret DX12_check_92 rfl ⟨Nat.le_refl 0, Nat.le_refl 0⟩ (hp M hR)
theorem S_X12_check_65 {E : EN} {X : CX} {P : Option Value → MH → Prop} {ad : AD} {fu : Nat} {out : Int32 × St} {kh : St → Int32 → Int32 → Int32 → Int32 → RR} {kx91 : St → Int32 → RR} {kx105 : St → Int32 → RR} {kx121 : St → Int32 → RR} {kx135 : St → Int32 → Int32 → Int32 → RR} (hkh : ∀ {V : St} {M : MH} {x1 : Int32} {x2 : Int32} {x3 : Int32} {x4 : Int32} {d5 : Option Value}, Rep E ad V M → kh V x1 x2 x3 x4 = some out → G E X RX12 cX12_check 6 (some .int) false (rmD 2) P M [some (.ref (ad 2200 0)), some (.int (x1)), some (.int (x2)), some (.int (x3)), some (.int (x4)), d5] 0 0 38 []) (hkx91 : ∀ {V : St} {M : MH} {x2 : Int32} {d0 : Option Value} {d1 : Option Value} {d3 : Option Value} {d4 : Option Value} {d5 : Option Value}, Rep E ad V M → kx91 V x2 = some out → G E X RX12 cX12_check 6 (some .int) false (rmD 2) P M [d0, d1, some (.int (x2)), d3, d4, d5] 0 0 91 []) (hkx105 : ∀ {V : St} {M : MH} {x2 : Int32} {d0 : Option Value} {d1 : Option Value} {d3 : Option Value} {d4 : Option Value} {d5 : Option Value}, Rep E ad V M → kx105 V x2 = some out → G E X RX12 cX12_check 6 (some .int) false (rmD 2) P M [d0, d1, some (.int (x2)), d3, d4, d5] 0 0 105 []) (hkx121 : ∀ {V : St} {M : MH} {x2 : Int32} {d0 : Option Value} {d1 : Option Value} {d3 : Option Value} {d4 : Option Value} {d5 : Option Value}, Rep E ad V M → kx121 V x2 = some out → G E X RX12 cX12_check 6 (some .int) false (rmD 2) P M [d0, d1, some (.int (x2)), d3, d4, d5] 0 0 121 []) (hkx135 : ∀ {V : St} {M : MH} {x1 : Int32} {x2 : Int32} {x3 : Int32} {d4 : Option Value} {d5 : Option Value}, Rep E ad V M → kx135 V x1 x2 x3 = some out → G E X RX12 cX12_check 6 (some .int) false (rmD 2) P M [some (.ref (ad 2200 0)), some (.int (x1)), some (.int (x2)), some (.int (x3)), d4, d5] 0 0 135 []) (hp : ∀ M, Rep E ad out.2 M → P (some (.int out.1)) M) {V : St} {M : MH} {x1 : Int32} {x2 : Int32} {x3 : Int32} {x4 : Int32} {s0 : Int32} {d5 : Option Value} (hR : Rep E ad V M) (h : F_X12_check_65 kh kx91 kx105 kx121 kx135 fu V x1 x2 x3 x4 s0 = some out) : G E X RX12 cX12_check 6 (some .int) false (rmD 2) P M [some (.ref (ad 2200 0)), some (.int (x1)), some (.int (x2)), some (.int (x3)), some (.int (x4)), d5] 0 0 65 [.int (s0)] := by
  unfold F_X12_check_65 at h
  refine t_istore (L' := [some (.ref (ad 2200 0)), some (.int (x1)), some (.int (x2)), some (.int (x3)), some (.int (x4)), some (.int (s0))]) DX12_check_65 (by decide) rfl ?_
  refine r_iload DX12_check_67 rfl ?_
  refine r_if_ne DX12_check_69 (fun c1 => ?_) (fun c1 => ?_)
  · have h := if_f c1 h
    refine r_iload_n DX12_check_75 rfl ?_
    refine r_iconst (v := 3) DX12_check_76 ki_3 ?_
    refine r_iload_n DX12_check_77 rfl ?_
    refine r_imul DX12_check_78 ?_
    refine r_icmp_eq DX12_check_79 (fun c2 => ?_) (fun c2 => ?_)
    · have h := if_t c2 h
      exact hkx91 hR h
    · have h := if_f c2 h
      refine r_aload_n DX12_check_82 rfl ?_
      refine r_iload_n DX12_check_83 rfl ?_
      obtain ⟨r3, V4, hc5, h⟩ := bd_inv h
      refine k_callV (As := [.int (x2)]) (rest := []) (st1 := [.int (r3)]) (w := some (.int r3)) DX12_check_84 cv_X12_477 hR ct_2200 (one_cnt _) rfl (C_X12_tapeNumber (out := (r3, V4)) (cxL X) hR hc5) rfl (by decide) (by decide) rfl (Nat.le_of_ble_eq_true rfl) rfl (fun M hR => ?_)
      refine r_iload_n DX12_check_87 rfl ?_
      refine r_icmp_eq DX12_check_88 (fun c6 => ?_) (fun c6 => ?_)
      · have h := if_t c6 h
        refine r_aload_n DX12_check_93 rfl ?_
        refine r_iload_n DX12_check_94 rfl ?_
        refine r_iconst (v := 1) DX12_check_95 ki_1 ?_
        refine r_iadd DX12_check_96 ?_
        obtain ⟨r7, V8, hc9, h⟩ := bd_inv h
        refine k_callV (As := [.int (x2 + (1 : Int32))]) (rest := []) (st1 := [.int (r7)]) (w := some (.int r7)) DX12_check_97 cv_X12_477 hR ct_2200 (one_cnt _) rfl (C_X12_tapeNumber (out := (r7, V8)) (cxL X) hR hc9) rfl (by decide) (by decide) rfl (Nat.le_of_ble_eq_true rfl) rfl (fun M hR => ?_)
        refine r_iload DX12_check_100 rfl ?_
        refine r_icmp_eq DX12_check_102 (fun c10 => ?_) (fun c10 => ?_)
        · have h := if_t c10 h
          refine r_aload_n DX12_check_109 rfl ?_
          refine r_iload_n DX12_check_110 rfl ?_
          refine r_iconst (v := 2) DX12_check_111 ki_2 ?_
          refine r_iadd DX12_check_112 ?_
          obtain ⟨r11, V12, hc13, h⟩ := bd_inv h
          refine k_callV (As := [.int (x2 + (2 : Int32))]) (rest := []) (st1 := [.int (r11)]) (w := some (.int r11)) DX12_check_113 cv_X12_477 hR ct_2200 (one_cnt _) rfl (C_X12_tapeNumber (out := (r11, V12)) (cxL X) hR hc13) rfl (by decide) (by decide) rfl (Nat.le_of_ble_eq_true rfl) rfl (fun M hR => ?_)
          refine r_iload DX12_check_116 rfl ?_
          refine r_icmp_eq DX12_check_118 (fun c14 => ?_) (fun c14 => ?_)
          · have h := if_t c14 h
            refine r_iload_n DX12_check_125 rfl ?_
            refine r_iconst (v := 3) DX12_check_126 ki_3 ?_
            refine r_iadd DX12_check_127 ?_
            refine t_istore_n (L' := [some (.ref (ad 2200 0)), some (.int (x1)), some (.int (x2 + (3 : Int32))), some (.int (x3)), some (.int (x4)), some (.int (s0))]) DX12_check_128 (by decide) rfl ?_
            exact S_X12_check_129 (fun hR h => hkh hR h) (fun hR h => hkx91 hR h) (fun hR h => hkx105 hR h) (fun hR h => hkx121 hR h) (fun hR h => hkx135 hR h) hp hR h
          · have h := if_f c14 h
            exact hkx121 hR h
        · have h := if_f c10 h
          exact hkx105 hR h
      · have h := if_f c6 h
        exact hkx91 hR h
  · have h := if_t c1 h
    refine r_goto DX12_check_72 ?_
    exact S_X12_check_129 (fun hR h => hkh hR h) (fun hR h => hkx91 hR h) (fun hR h => hkx105 hR h) (fun hR h => hkx121 hR h) (fun hR h => hkx135 hR h) hp hR h
theorem S_X12_check_38 {E : EN} {X : CX} {P : Option Value → MH → Prop} {ad : AD} {fu : Nat} {out : Int32 × St} {kh : St → Int32 → Int32 → Int32 → Int32 → RR} {kx91 : St → Int32 → RR} {kx105 : St → Int32 → RR} {kx121 : St → Int32 → RR} {kx135 : St → Int32 → Int32 → Int32 → RR} (hkh : ∀ {V : St} {M : MH} {x1 : Int32} {x2 : Int32} {x3 : Int32} {x4 : Int32} {d5 : Option Value}, Rep E ad V M → kh V x1 x2 x3 x4 = some out → G E X RX12 cX12_check 6 (some .int) false (rmD 2) P M [some (.ref (ad 2200 0)), some (.int (x1)), some (.int (x2)), some (.int (x3)), some (.int (x4)), d5] 0 0 38 []) (hkx91 : ∀ {V : St} {M : MH} {x2 : Int32} {d0 : Option Value} {d1 : Option Value} {d3 : Option Value} {d4 : Option Value} {d5 : Option Value}, Rep E ad V M → kx91 V x2 = some out → G E X RX12 cX12_check 6 (some .int) false (rmD 2) P M [d0, d1, some (.int (x2)), d3, d4, d5] 0 0 91 []) (hkx105 : ∀ {V : St} {M : MH} {x2 : Int32} {d0 : Option Value} {d1 : Option Value} {d3 : Option Value} {d4 : Option Value} {d5 : Option Value}, Rep E ad V M → kx105 V x2 = some out → G E X RX12 cX12_check 6 (some .int) false (rmD 2) P M [d0, d1, some (.int (x2)), d3, d4, d5] 0 0 105 []) (hkx121 : ∀ {V : St} {M : MH} {x2 : Int32} {d0 : Option Value} {d1 : Option Value} {d3 : Option Value} {d4 : Option Value} {d5 : Option Value}, Rep E ad V M → kx121 V x2 = some out → G E X RX12 cX12_check 6 (some .int) false (rmD 2) P M [d0, d1, some (.int (x2)), d3, d4, d5] 0 0 121 []) (hkx135 : ∀ {V : St} {M : MH} {x1 : Int32} {x2 : Int32} {x3 : Int32} {d4 : Option Value} {d5 : Option Value}, Rep E ad V M → kx135 V x1 x2 x3 = some out → G E X RX12 cX12_check 6 (some .int) false (rmD 2) P M [some (.ref (ad 2200 0)), some (.int (x1)), some (.int (x2)), some (.int (x3)), d4, d5] 0 0 135 []) (hp : ∀ M, Rep E ad out.2 M → P (some (.int out.1)) M) {V : St} {M : MH} {x1 : Int32} {x2 : Int32} {x3 : Int32} {x4 : Int32} {d5 : Option Value} (hR : Rep E ad V M) (h : F_X12_check_38 kh kx91 kx105 kx121 kx135 fu V x1 x2 x3 x4 = some out) : G E X RX12 cX12_check 6 (some .int) false (rmD 2) P M [some (.ref (ad 2200 0)), some (.int (x1)), some (.int (x2)), some (.int (x3)), some (.int (x4)), d5] 0 0 38 [] := by
  unfold F_X12_check_38 at h
  refine r_iload DX12_check_38 rfl ?_
  refine r_iconst (v := 2) DX12_check_40 ki_2 ?_
  refine r_icmp_ge DX12_check_41 (fun c1 => ?_) (fun c1 => ?_)
  · have h := if_t c1 h
    exact hkx135 hR h
  · have h := if_f c1 h
    refine r_iload DX12_check_44 rfl ?_
    refine r_iconst (v := 1) DX12_check_46 ki_1 ?_
    refine r_icmp_ne DX12_check_47 (fun c2 => ?_) (fun c2 => ?_)
    · have h := if_f c2 h
      refine r_aload_n DX12_check_59 rfl ?_
      refine s_geta DX12_check_60 fl_X12_58 hR ct_2200 (one_cnt _) rfl ?_
      refine r_iload_n DX12_check_63 rfl ?_
      obtain ⟨hg3, h⟩ := gd_inv h
      refine s_iald DX12_check_64 hR ct_2221 (one_cnt _) hg3 ?_
      exact S_X12_check_65 (fun hR h => hkh hR h) (fun hR h => hkx91 hR h) (fun hR h => hkx105 hR h) (fun hR h => hkx121 hR h) (fun hR h => hkx135 hR h) hp hR h
    · have h := if_t c2 h
      refine r_aload_n DX12_check_50 rfl ?_
      refine s_geta DX12_check_51 fl_X12_61 hR ct_2200 (one_cnt _) rfl ?_
      refine r_iload_n DX12_check_54 rfl ?_
      obtain ⟨hg4, h⟩ := gd_inv h
      refine s_iald DX12_check_55 hR ct_2222 (one_cnt _) hg4 ?_
      refine r_goto DX12_check_56 ?_
      exact S_X12_check_65 (fun hR h => hkh hR h) (fun hR h => hkx91 hR h) (fun hR h => hkx105 hR h) (fun hR h => hkx121 hR h) (fun hR h => hkx135 hR h) hp hR h
theorem SL_X12_check_38 {E : EN} {X : CX} {P : Option Value → MH → Prop} {ad : AD} {fu : Nat} {out : Int32 × St} {kx91 : St → Int32 → RR} {kx105 : St → Int32 → RR} {kx121 : St → Int32 → RR} {kx135 : St → Int32 → Int32 → Int32 → RR} (hkx91 : ∀ {V : St} {M : MH} {x2 : Int32} {d0 : Option Value} {d1 : Option Value} {d3 : Option Value} {d4 : Option Value} {d5 : Option Value}, Rep E ad V M → kx91 V x2 = some out → G E X RX12 cX12_check 6 (some .int) false (rmD 2) P M [d0, d1, some (.int (x2)), d3, d4, d5] 0 0 91 []) (hkx105 : ∀ {V : St} {M : MH} {x2 : Int32} {d0 : Option Value} {d1 : Option Value} {d3 : Option Value} {d4 : Option Value} {d5 : Option Value}, Rep E ad V M → kx105 V x2 = some out → G E X RX12 cX12_check 6 (some .int) false (rmD 2) P M [d0, d1, some (.int (x2)), d3, d4, d5] 0 0 105 []) (hkx121 : ∀ {V : St} {M : MH} {x2 : Int32} {d0 : Option Value} {d1 : Option Value} {d3 : Option Value} {d4 : Option Value} {d5 : Option Value}, Rep E ad V M → kx121 V x2 = some out → G E X RX12 cX12_check 6 (some .int) false (rmD 2) P M [d0, d1, some (.int (x2)), d3, d4, d5] 0 0 121 []) (hkx135 : ∀ {V : St} {M : MH} {x1 : Int32} {x2 : Int32} {x3 : Int32} {d4 : Option Value} {d5 : Option Value}, Rep E ad V M → kx135 V x1 x2 x3 = some out → G E X RX12 cX12_check 6 (some .int) false (rmD 2) P M [some (.ref (ad 2200 0)), some (.int (x1)), some (.int (x2)), some (.int (x3)), d4, d5] 0 0 135 []) (hp : ∀ M, Rep E ad out.2 M → P (some (.int out.1)) M) : ∀ (n : Nat) {V : St} {M : MH} {x1 : Int32} {x2 : Int32} {x3 : Int32} {x4 : Int32} {d5 : Option Value}, Rep E ad V M → Lp_X12_check_38 kx91 kx105 kx121 kx135 fu n V x1 x2 x3 x4 = some out → G E X RX12 cX12_check 6 (some .int) false (rmD 2) P M [some (.ref (ad 2200 0)), some (.int (x1)), some (.int (x2)), some (.int (x3)), some (.int (x4)), d5] 0 0 38 [] := by
  intro n
  induction n with
  | zero => intros; rename_i h; cases h
  | succ n ih => exact fun hR h => S_X12_check_38 (fun hR h => ih hR h) (fun hR h => hkx91 hR h) (fun hR h => hkx105 hR h) (fun hR h => hkx121 hR h) (fun hR h => hkx135 hR h) hp hR h
theorem S_X12_check_27 {E : EN} {X : CX} {P : Option Value → MH → Prop} {ad : AD} {fu : Nat} {out : Int32 × St} {kh : St → Int32 → Int32 → Int32 → RR} {kx91 : St → Int32 → RR} {kx105 : St → Int32 → RR} {kx121 : St → Int32 → RR} {kx141 : St → Int32 → Int32 → RR} (hkh : ∀ {V : St} {M : MH} {x1 : Int32} {x2 : Int32} {x3 : Int32} {d4 : Option Value} {d5 : Option Value}, Rep E ad V M → kh V x1 x2 x3 = some out → G E X RX12 cX12_check 6 (some .int) false (rmD 2) P M [some (.ref (ad 2200 0)), some (.int (x1)), some (.int (x2)), some (.int (x3)), d4, d5] 0 0 27 []) (hkx91 : ∀ {V : St} {M : MH} {x2 : Int32} {d0 : Option Value} {d1 : Option Value} {d3 : Option Value} {d4 : Option Value} {d5 : Option Value}, Rep E ad V M → kx91 V x2 = some out → G E X RX12 cX12_check 6 (some .int) false (rmD 2) P M [d0, d1, some (.int (x2)), d3, d4, d5] 0 0 91 []) (hkx105 : ∀ {V : St} {M : MH} {x2 : Int32} {d0 : Option Value} {d1 : Option Value} {d3 : Option Value} {d4 : Option Value} {d5 : Option Value}, Rep E ad V M → kx105 V x2 = some out → G E X RX12 cX12_check 6 (some .int) false (rmD 2) P M [d0, d1, some (.int (x2)), d3, d4, d5] 0 0 105 []) (hkx121 : ∀ {V : St} {M : MH} {x2 : Int32} {d0 : Option Value} {d1 : Option Value} {d3 : Option Value} {d4 : Option Value} {d5 : Option Value}, Rep E ad V M → kx121 V x2 = some out → G E X RX12 cX12_check 6 (some .int) false (rmD 2) P M [d0, d1, some (.int (x2)), d3, d4, d5] 0 0 121 []) (hkx141 : ∀ {V : St} {M : MH} {x1 : Int32} {x2 : Int32} {d0 : Option Value} {d3 : Option Value} {d4 : Option Value} {d5 : Option Value}, Rep E ad V M → kx141 V x1 x2 = some out → G E X RX12 cX12_check 6 (some .int) false (rmD 2) P M [d0, some (.int (x1)), some (.int (x2)), d3, d4, d5] 0 0 141 []) (hp : ∀ M, Rep E ad out.2 M → P (some (.int out.1)) M) {V : St} {M : MH} {x1 : Int32} {x2 : Int32} {x3 : Int32} {d4 : Option Value} {d5 : Option Value} (hR : Rep E ad V M) (h : F_X12_check_27 kh kx91 kx105 kx121 kx141 fu V x1 x2 x3 = some out) : G E X RX12 cX12_check 6 (some .int) false (rmD 2) P M [some (.ref (ad 2200 0)), some (.int (x1)), some (.int (x2)), some (.int (x3)), d4, d5] 0 0 27 [] := by
  unfold F_X12_check_27 at h
  refine r_iload_n DX12_check_27 rfl ?_
  refine r_aload_n DX12_check_28 rfl ?_
  refine s_geti DX12_check_29 fl_X12_242 hR ct_2200 (one_cnt _) rfl ?_
  refine r_icmp_ge DX12_check_32 (fun c1 => ?_) (fun c1 => ?_)
  · have h := if_t c1 h
    exact hkx141 hR h
  · have h := if_f c1 h
    refine r_iconst (v := 0) DX12_check_35 ki_0 ?_
    refine t_istore (L' := [some (.ref (ad 2200 0)), some (.int (x1)), some (.int (x2)), some (.int (x3)), some (.int ((0 : Int32))), d5]) DX12_check_36 (by decide) rfl ?_
    exact SL_X12_check_38 (fun hR h => hkx91 hR h) (fun hR h => hkx105 hR h) (fun hR h => hkx121 hR h) (fun hR h => S_X12_check_135 (fun hR h => hkh hR h) (fun hR h => hkx91 hR h) (fun hR h => hkx105 hR h) (fun hR h => hkx121 hR h) (fun hR h => hkx141 hR h) hp hR h) hp fu hR h
theorem SL_X12_check_27 {E : EN} {X : CX} {P : Option Value → MH → Prop} {ad : AD} {fu : Nat} {out : Int32 × St} {kx91 : St → Int32 → RR} {kx105 : St → Int32 → RR} {kx121 : St → Int32 → RR} {kx141 : St → Int32 → Int32 → RR} (hkx91 : ∀ {V : St} {M : MH} {x2 : Int32} {d0 : Option Value} {d1 : Option Value} {d3 : Option Value} {d4 : Option Value} {d5 : Option Value}, Rep E ad V M → kx91 V x2 = some out → G E X RX12 cX12_check 6 (some .int) false (rmD 2) P M [d0, d1, some (.int (x2)), d3, d4, d5] 0 0 91 []) (hkx105 : ∀ {V : St} {M : MH} {x2 : Int32} {d0 : Option Value} {d1 : Option Value} {d3 : Option Value} {d4 : Option Value} {d5 : Option Value}, Rep E ad V M → kx105 V x2 = some out → G E X RX12 cX12_check 6 (some .int) false (rmD 2) P M [d0, d1, some (.int (x2)), d3, d4, d5] 0 0 105 []) (hkx121 : ∀ {V : St} {M : MH} {x2 : Int32} {d0 : Option Value} {d1 : Option Value} {d3 : Option Value} {d4 : Option Value} {d5 : Option Value}, Rep E ad V M → kx121 V x2 = some out → G E X RX12 cX12_check 6 (some .int) false (rmD 2) P M [d0, d1, some (.int (x2)), d3, d4, d5] 0 0 121 []) (hkx141 : ∀ {V : St} {M : MH} {x1 : Int32} {x2 : Int32} {d0 : Option Value} {d3 : Option Value} {d4 : Option Value} {d5 : Option Value}, Rep E ad V M → kx141 V x1 x2 = some out → G E X RX12 cX12_check 6 (some .int) false (rmD 2) P M [d0, some (.int (x1)), some (.int (x2)), d3, d4, d5] 0 0 141 []) (hp : ∀ M, Rep E ad out.2 M → P (some (.int out.1)) M) : ∀ (n : Nat) {V : St} {M : MH} {x1 : Int32} {x2 : Int32} {x3 : Int32} {d4 : Option Value} {d5 : Option Value}, Rep E ad V M → Lp_X12_check_27 kx91 kx105 kx121 kx141 fu n V x1 x2 x3 = some out → G E X RX12 cX12_check 6 (some .int) false (rmD 2) P M [some (.ref (ad 2200 0)), some (.int (x1)), some (.int (x2)), some (.int (x3)), d4, d5] 0 0 27 [] := by
  intro n
  induction n with
  | zero => intros; rename_i h; cases h
  | succ n ih => exact fun hR h => S_X12_check_27 (fun hR h => ih hR h) (fun hR h => hkx91 hR h) (fun hR h => hkx105 hR h) (fun hR h => hkx121 hR h) (fun hR h => hkx141 hR h) hp hR h
theorem S_X12_check_15 {E : EN} {X : CX} {P : Option Value → MH → Prop} {ad : AD} {fu : Nat} {out : Int32 × St} (hp : ∀ M, Rep E ad out.2 M → P (some (.int out.1)) M) {V : St} {M : MH} {d0 : Option Value} {d1 : Option Value} {d2 : Option Value} {d3 : Option Value} {d4 : Option Value} {d5 : Option Value} (hR : Rep E ad V M) (h : F_X12_check_15 fu V = some out) : G E X RX12 cX12_check 6 (some .int) false (rmD 2) P M [d0, d1, d2, d3, d4, d5] 0 0 15 [] := by
  unfold F_X12_check_15 at h
  refine r_bipush (v := -2) DX12_check_15 kb_m2 ?_
  cases h
  exact r_iret DX12_check_17 rfl ⟨Nat.le_refl 0, Nat.le_refl 0⟩ (hp M hR)
theorem S_X12_check_0 {E : EN} {X : CX} {P : Option Value → MH → Prop} {ad : AD} {fu : Nat} {out : Int32 × St} (hp : ∀ M, Rep E ad out.2 M → P (some (.int out.1)) M) {V : St} {M : MH} {x1 : Int32} (hR : Rep E ad V M) (h : f_X12_check fu V x1 = some out) : G E X RX12 cX12_check 6 (some .int) false (rmD 2) P M [some (.ref (ad 2200 0)), some (.int (x1)), none, none, none, none] 0 0 0 [] := by
  unfold f_X12_check at h
  refine r_iload_n DX12_check_0 rfl ?_
  refine r_if_lt DX12_check_1 (fun c1 => ?_) (fun c1 => ?_)
  · have h := if_t c1 h
    exact S_X12_check_15 hp hR h
  · have h := if_f c1 h
    refine r_iload_n DX12_check_4 rfl ?_
    refine r_aload_n DX12_check_5 rfl ?_
    refine s_geti DX12_check_6 fl_X12_274 hR ct_2200 (one_cnt _) rfl ?_
    refine r_bipush (v := 12) DX12_check_9 kb_12 ?_
    refine r_idiv DX12_check_11 (by decide) ?_
    refine r_icmp_le DX12_check_12 (fun c2 => ?_) (fun c2 => ?_)
    · have h := if_t c2 h
      refine r_aload_n DX12_check_18 rfl ?_
      refine r_iconst (v := 0) DX12_check_19 ki_0 ?_
      obtain ⟨V3, hv4, h⟩ := bv_inv h
      refine s_puti DX12_check_20 fp_X12_274 hR oks_2242 ct_2200 (one_cnt _) rfl rfl rfl (fun M hR => ?_)
      have hR := hR.cg hv4
      refine r_iconst (v := 0) DX12_check_23 ki_0 ?_
      refine t_istore_n (L' := [some (.ref (ad 2200 0)), some (.int (x1)), some (.int ((0 : Int32))), none, none, none]) DX12_check_24 (by decide) rfl ?_
      refine r_iconst (v := 0) DX12_check_25 ki_0 ?_
      refine t_istore_n (L' := [some (.ref (ad 2200 0)), some (.int (x1)), some (.int ((0 : Int32))), some (.int ((0 : Int32))), none, none]) DX12_check_26 (by decide) rfl ?_
      exact SL_X12_check_27 (fun hR h => S_X12_check_91 hp hR h) (fun hR h => S_X12_check_105 hp hR h) (fun hR h => S_X12_check_121 hp hR h) (fun hR h => S_X12_check_141 hp hR h) hp fu hR h
    · have h := if_f c2 h
      exact S_X12_check_15 hp hR h
theorem C_X12_check {E : EN} {ad : AD} {fu : Nat} {out : Int32 × St} {V : St} {M : MH} {x1 : Int32} (l : Launch) (hR : Rep E ad V M) (h : f_X12_check fu V x1 = some out) : Ct E l yX12_check cX12_check 6 (some .int) (rmD 2) [.ref (ad 2200 0), .int (x1)] M (fun v M => v = (some (.int out.1)) ∧ Rep E ad out.2 M) :=
  Ct.of (own := RX12) (ini := false) (L := [some (.ref (ad 2200 0)), some (.int (x1)), none, none, none, none]) rfl rfl (fun h => by cases h) rfl (Nat.le_of_ble_eq_true rfl) rfl (fun X _ => S_X12_check_0 (fun M hR => ⟨rfl, hR⟩) hR h)
theorem S_X12_says_0 {E : EN} {X : CX} {P : Option Value → MH → Prop} {ad : AD} {fu : Nat} {out : Int32 × St} (hp : ∀ M, Rep E ad out.2 M → P none M) {V : St} {M : MH} {x1 : Int32} {x2 : Int32} (hR : Rep E ad V M) (h : f_X12_says fu V x1 x2 = some out) : G E X RX12 cX12_says 3 none false (rmD 1) P M [some (.ref (ad 2200 0)), some (.int (x1)), some (.int (x2))] 0 0 0 [] := by
  unfold f_X12_says at h
  refine r_aload_n DX12_says_0 rfl ?_
  refine s_geta DX12_says_1 fl_X12_120 hR ct_2200 (one_cnt _) rfl ?_
  refine r_aload_n DX12_says_4 rfl ?_
  refine s_geti DX12_says_5 fl_X12_325 hR ct_2200 (one_cnt _) rfl ?_
  refine r_ldcw (v := 1048576) DX12_says_8 ck_X12_328 ?_
  refine r_iload_n DX12_says_11 rfl ?_
  refine r_imul DX12_says_12 ?_
  refine r_iload_n DX12_says_13 rfl ?_
  refine r_iadd DX12_says_14 ?_
  obtain ⟨hg1, h⟩ := gd_inv h
  obtain ⟨V2, hv3, h⟩ := bv_inv h
  refine s_iast DX12_says_15 hR oka_2251 ct_2251 (one_cnt _) hg1 (fun M hR => ?_)
  have hR := hR.cg hv3
  refine r_aload_n DX12_says_16 rfl ?_
  refine r_aload_n DX12_says_17 rfl ?_
  refine s_geti DX12_says_18 fl_X12_325 hR ct_2200 (one_cnt _) rfl ?_
  refine r_iconst (v := 1) DX12_says_21 ki_1 ?_
  refine r_iadd DX12_says_22 ?_
  obtain ⟨V4, hv5, h⟩ := bv_inv h
  refine s_puti DX12_says_23 fp_X12_325 hR oks_2248 ct_2200 (one_cnt _) rfl rfl rfl (fun M hR => ?_)
  have hR := hR.cg hv5
  cases h
  exact r_vret DX12_says_26 rfl ⟨Nat.le_refl 0, Nat.le_refl 0⟩ (hp M hR)
theorem C_X12_says {E : EN} {ad : AD} {fu : Nat} {out : Int32 × St} {V : St} {M : MH} {x1 : Int32} {x2 : Int32} (l : Launch) (hR : Rep E ad V M) (h : f_X12_says fu V x1 x2 = some out) : Ct E l yX12_says cX12_says 3 none (rmD 1) [.ref (ad 2200 0), .int (x1), .int (x2)] M (fun v M => v = none ∧ Rep E ad out.2 M) :=
  Ct.of (own := RX12) (ini := false) (L := [some (.ref (ad 2200 0)), some (.int (x1)), some (.int (x2))]) rfl rfl (fun h => by cases h) rfl (Nat.le_of_ble_eq_true rfl) rfl (fun X _ => S_X12_says_0 (fun M hR => ⟨rfl, hR⟩) hR h)
theorem S_X12_top_26 {E : EN} {X : CX} {P : Option Value → MH → Prop} {ad : AD} {fu : Nat} {out : Int32 × St} (hp : ∀ M, Rep E ad out.2 M → P (some (.int out.1)) M) {V : St} {M : MH} {s0 : Int32} {d0 : Option Value} (hR : Rep E ad V M) (h : F_X12_top_26 fu V s0 = some out) : G E X RX12 cX12_top 1 (some .int) false (rmD 1) P M [d0] 0 0 26 [.int (s0)] := by
  unfold F_X12_top_26 at h
  cases h
  exact r_iret DX12_top_26 rfl ⟨Nat.le_refl 0, Nat.le_refl 0⟩ (hp M hR)
theorem S_X12_top_0 {E : EN} {X : CX} {P : Option Value → MH → Prop} {ad : AD} {fu : Nat} {out : Int32 × St} (hp : ∀ M, Rep E ad out.2 M → P (some (.int out.1)) M) {V : St} {M : MH} (hR : Rep E ad V M) (h : f_X12_top fu V = some out) : G E X RX12 cX12_top 1 (some .int) false (rmD 1) P M [some (.ref (ad 2200 0))] 0 0 0 [] := by
  unfold f_X12_top at h
  refine r_aload_n DX12_top_0 rfl ?_
  refine s_geti DX12_top_1 fl_X12_332 hR ct_2200 (one_cnt _) rfl ?_
  refine r_if_ne DX12_top_4 (fun c1 => ?_) (fun c1 => ?_)
  · have h := if_f c1 h
    refine r_aload_n DX12_top_11 rfl ?_
    refine s_geta DX12_top_12 fl_X12_123 hR ct_2200 (one_cnt _) rfl ?_
    refine r_aload_n DX12_top_15 rfl ?_
    refine s_geti DX12_top_16 fl_X12_332 hR ct_2200 (one_cnt _) rfl ?_
    refine r_iconst (v := 1) DX12_top_19 ki_1 ?_
    refine r_isub DX12_top_20 ?_
    obtain ⟨hg2, h⟩ := gd_inv h
    refine s_iald DX12_top_21 hR ct_2252 (one_cnt _) hg2 ?_
    refine r_ldcw (v := 1048576) DX12_top_22 ck_X12_328 ?_
    refine r_idiv DX12_top_25 (by decide) ?_
    exact S_X12_top_26 hp hR h
  · have h := if_t c1 h
    refine r_iconst (v := -1) DX12_top_7 ki_m1 ?_
    refine r_goto DX12_top_8 ?_
    exact S_X12_top_26 hp hR h
theorem C_X12_top {E : EN} {ad : AD} {fu : Nat} {out : Int32 × St} {V : St} {M : MH} (l : Launch) (hR : Rep E ad V M) (h : f_X12_top fu V = some out) : Ct E l yX12_top cX12_top 1 (some .int) (rmD 1) [.ref (ad 2200 0)] M (fun v M => v = (some (.int out.1)) ∧ Rep E ad out.2 M) :=
  Ct.of (own := RX12) (ini := false) (L := [some (.ref (ad 2200 0))]) rfl rfl (fun h => by cases h) rfl (Nat.le_of_ble_eq_true rfl) rfl (fun X _ => S_X12_top_0 (fun M hR => ⟨rfl, hR⟩) hR h)
theorem S_X12_closesSums_59 {E : EN} {X : CX} {P : Option Value → MH → Prop} {ad : AD} {fu : Nat} {out : Int32 × St} (hp : ∀ M, Rep E ad out.2 M → P none M) {V : St} {M : MH} {d0 : Option Value} {d1 : Option Value} (hR : Rep E ad V M) (h : F_X12_closesSums_59 fu V = some out) : G E X RX12 cX12_closesSums 2 none false (rmD 2) P M [d0, d1] 0 0 59 [] := by
  unfold F_X12_closesSums_59 at h
  cases h
  exact r_vret DX12_closesSums_59 rfl ⟨Nat.le_refl 0, Nat.le_refl 0⟩ (hp M hR)
theorem S_X12_closesSums_37 {E : EN} {X : CX} {P : Option Value → MH → Prop} {ad : AD} {fu : Nat} {out : Int32 × St} {kh : St → Int32 → RR} {kx59 : St → RR} (hkh : ∀ {V : St} {M : MH} {x1 : Int32}, Rep E ad V M → kh V x1 = some out → G E X RX12 cX12_closesSums 2 none false (rmD 2) P M [some (.ref (ad 2200 0)), some (.int (x1))] 0 0 0 []) (hkx59 : ∀ {V : St} {M : MH} {d0 : Option Value} {d1 : Option Value}, Rep E ad V M → kx59 V  = some out → G E X RX12 cX12_closesSums 2 none false (rmD 2) P M [d0, d1] 0 0 59 []) (hp : ∀ M, Rep E ad out.2 M → P none M) {V : St} {M : MH} {x1 : Int32} (hR : Rep E ad V M) (h : F_X12_closesSums_37 kh kx59 fu V x1 = some out) : G E X RX12 cX12_closesSums 2 none false (rmD 2) P M [some (.ref (ad 2200 0)), some (.int (x1))] 0 0 37 [] := by
  unfold F_X12_closesSums_37 at h
  refine r_aload_n DX12_closesSums_37 rfl ?_
  refine r_aload_n DX12_closesSums_38 rfl ?_
  obtain ⟨r1, V2, hc3, h⟩ := bd_inv h
  refine k_callV (As := []) (rest := [.ref (ad 2200 0)]) (st1 := [.int (r1), .ref (ad 2200 0)]) (w := some (.int r1)) DX12_closesSums_39 cv_X12_335 hR ct_2200 (one_cnt _) rfl (C_X12_top (out := (r1, V2)) (cxL X) hR hc3) rfl (by decide) (by decide) rfl (Nat.le_of_ble_eq_true rfl) rfl (fun M hR => ?_)
  refine r_iconst (v := 0) DX12_closesSums_42 ki_0 ?_
  obtain ⟨r4, V5, hc6, h⟩ := bd_inv h
  refine k_callV (As := [.int (r1), .int ((0 : Int32))]) (rest := []) (st1 := []) (w := none) DX12_closesSums_43 cv_X12_338 hR ct_2200 (one_cnt _) rfl (C_X12_says (out := (r4, V5)) (cxL X) hR hc6) rfl (by decide) (by decide) rfl (Nat.le_of_ble_eq_true rfl) rfl (fun M hR => ?_)
  refine r_aload_n DX12_closesSums_46 rfl ?_
  refine r_aload_n DX12_closesSums_47 rfl ?_
  refine s_geti DX12_closesSums_48 fl_X12_332 hR ct_2200 (one_cnt _) rfl ?_
  refine r_iconst (v := 1) DX12_closesSums_51 ki_1 ?_
  refine r_isub DX12_closesSums_52 ?_
  obtain ⟨V7, hv8, h⟩ := bv_inv h
  refine s_puti DX12_closesSums_53 fp_X12_332 hR oks_2249 ct_2200 (one_cnt _) rfl rfl rfl (fun M hR => ?_)
  have hR := hR.cg hv8
  refine r_goto DX12_closesSums_56 ?_
  exact hkh hR h
theorem S_X12_closesSums_17 {E : EN} {X : CX} {P : Option Value → MH → Prop} {ad : AD} {fu : Nat} {out : Int32 × St} {kh : St → Int32 → RR} {kx59 : St → RR} (hkh : ∀ {V : St} {M : MH} {x1 : Int32}, Rep E ad V M → kh V x1 = some out → G E X RX12 cX12_closesSums 2 none false (rmD 2) P M [some (.ref (ad 2200 0)), some (.int (x1))] 0 0 0 []) (hkx59 : ∀ {V : St} {M : MH} {d0 : Option Value} {d1 : Option Value}, Rep E ad V M → kx59 V  = some out → G E X RX12 cX12_closesSums 2 none false (rmD 2) P M [d0, d1] 0 0 59 []) (hp : ∀ M, Rep E ad out.2 M → P none M) {V : St} {M : MH} {x1 : Int32} (hR : Rep E ad V M) (h : F_X12_closesSums_17 kh kx59 fu V x1 = some out) : G E X RX12 cX12_closesSums 2 none false (rmD 2) P M [some (.ref (ad 2200 0)), some (.int (x1))] 0 0 17 [] := by
  unfold F_X12_closesSums_17 at h
  refine r_iload_n DX12_closesSums_17 rfl ?_
  refine r_if_eq DX12_closesSums_18 (fun c1 => ?_) (fun c1 => ?_)
  · have h := if_t c1 h
    exact hkx59 hR h
  · have h := if_f c1 h
    refine r_aload_n DX12_closesSums_21 rfl ?_
    obtain ⟨r2, V3, hc4, h⟩ := bd_inv h
    refine k_callV (As := []) (rest := []) (st1 := [.int (r2)]) (w := some (.int r2)) DX12_closesSums_22 cv_X12_335 hR ct_2200 (one_cnt _) rfl (C_X12_top (out := (r2, V3)) (cxL X) hR hc4) rfl (by decide) (by decide) rfl (Nat.le_of_ble_eq_true rfl) rfl (fun M hR => ?_)
    refine r_iconst (v := 2) DX12_closesSums_25 ki_2 ?_
    refine r_icmp_eq DX12_closesSums_26 (fun c5 => ?_) (fun c5 => ?_)
    · have h := if_t c5 h
      exact S_X12_closesSums_37 (fun hR h => hkh hR h) (fun hR h => hkx59 hR h) hp hR h
    · have h := if_f c5 h
      refine r_aload_n DX12_closesSums_29 rfl ?_
      obtain ⟨r6, V7, hc8, h⟩ := bd_inv h
      refine k_callV (As := []) (rest := []) (st1 := [.int (r6)]) (w := some (.int r6)) DX12_closesSums_30 cv_X12_335 hR ct_2200 (one_cnt _) rfl (C_X12_top (out := (r6, V7)) (cxL X) hR hc8) rfl (by decide) (by decide) rfl (Nat.le_of_ble_eq_true rfl) rfl (fun M hR => ?_)
      refine r_iconst (v := 3) DX12_closesSums_33 ki_3 ?_
      refine r_icmp_ne DX12_closesSums_34 (fun c9 => ?_) (fun c9 => ?_)
      · have h := if_f c9 h
        exact hkx59 hR h
      · have h := if_t c9 h
        exact S_X12_closesSums_37 (fun hR h => hkh hR h) (fun hR h => hkx59 hR h) hp hR h
theorem S_X12_closesSums_0 {E : EN} {X : CX} {P : Option Value → MH → Prop} {ad : AD} {fu : Nat} {out : Int32 × St} {kh : St → Int32 → RR} {kx59 : St → RR} (hkh : ∀ {V : St} {M : MH} {x1 : Int32}, Rep E ad V M → kh V x1 = some out → G E X RX12 cX12_closesSums 2 none false (rmD 2) P M [some (.ref (ad 2200 0)), some (.int (x1))] 0 0 0 []) (hkx59 : ∀ {V : St} {M : MH} {d0 : Option Value} {d1 : Option Value}, Rep E ad V M → kx59 V  = some out → G E X RX12 cX12_closesSums 2 none false (rmD 2) P M [d0, d1] 0 0 59 []) (hp : ∀ M, Rep E ad out.2 M → P none M) {V : St} {M : MH} {x1 : Int32} (hR : Rep E ad V M) (h : F_X12_closesSums_0 kh kx59 fu V x1 = some out) : G E X RX12 cX12_closesSums 2 none false (rmD 2) P M [some (.ref (ad 2200 0)), some (.int (x1))] 0 0 0 [] := by
  unfold F_X12_closesSums_0 at h
  refine r_aload_n DX12_closesSums_0 rfl ?_
  obtain ⟨r1, V2, hc3, h⟩ := bd_inv h
  refine k_callV (As := []) (rest := []) (st1 := [.int (r1)]) (w := some (.int r1)) DX12_closesSums_1 cv_X12_335 hR ct_2200 (one_cnt _) rfl (C_X12_top (out := (r1, V2)) (cxL X) hR hc3) rfl (by decide) (by decide) rfl (Nat.le_of_ble_eq_true rfl) rfl (fun M hR => ?_)
  refine r_iconst (v := 4) DX12_closesSums_4 ki_4 ?_
  refine r_icmp_lt DX12_closesSums_5 (fun c4 => ?_) (fun c4 => ?_)
  · have h := if_t c4 h
    exact S_X12_closesSums_17 (fun hR h => hkh hR h) (fun hR h => hkx59 hR h) hp hR h
  · have h := if_f c4 h
    refine r_aload_n DX12_closesSums_8 rfl ?_
    obtain ⟨r5, V6, hc7, h⟩ := bd_inv h
    refine k_callV (As := []) (rest := []) (st1 := [.int (r5)]) (w := some (.int r5)) DX12_closesSums_9 cv_X12_335 hR ct_2200 (one_cnt _) rfl (C_X12_top (out := (r5, V6)) (cxL X) hR hc7) rfl (by decide) (by decide) rfl (Nat.le_of_ble_eq_true rfl) rfl (fun M hR => ?_)
    refine r_bipush (v := 6) DX12_closesSums_12 kb_6 ?_
    refine r_icmp_le DX12_closesSums_14 (fun c8 => ?_) (fun c8 => ?_)
    · have h := if_t c8 h
      exact S_X12_closesSums_37 (fun hR h => hkh hR h) (fun hR h => hkx59 hR h) hp hR h
    · have h := if_f c8 h
      exact S_X12_closesSums_17 (fun hR h => hkh hR h) (fun hR h => hkx59 hR h) hp hR h
theorem SL_X12_closesSums_0 {E : EN} {X : CX} {P : Option Value → MH → Prop} {ad : AD} {fu : Nat} {out : Int32 × St} {kx59 : St → RR} (hkx59 : ∀ {V : St} {M : MH} {d0 : Option Value} {d1 : Option Value}, Rep E ad V M → kx59 V  = some out → G E X RX12 cX12_closesSums 2 none false (rmD 2) P M [d0, d1] 0 0 59 []) (hp : ∀ M, Rep E ad out.2 M → P none M) : ∀ (n : Nat) {V : St} {M : MH} {x1 : Int32}, Rep E ad V M → Lp_X12_closesSums_0 kx59 fu n V x1 = some out → G E X RX12 cX12_closesSums 2 none false (rmD 2) P M [some (.ref (ad 2200 0)), some (.int (x1))] 0 0 0 [] := by
  intro n
  induction n with
  | zero => intros; rename_i h; cases h
  | succ n ih => exact fun hR h => S_X12_closesSums_0 (fun hR h => ih hR h) (fun hR h => hkx59 hR h) hp hR h
theorem S_X12_closesSums_E {E : EN} {X : CX} {P : Option Value → MH → Prop} {ad : AD} {fu : Nat} {out : Int32 × St} (hp : ∀ M, Rep E ad out.2 M → P none M) {V : St} {M : MH} {x1 : Int32} (hR : Rep E ad V M) (h : f_X12_closesSums fu V x1 = some out) : G E X RX12 cX12_closesSums 2 none false (rmD 2) P M [some (.ref (ad 2200 0)), some (.int (x1))] 0 0 0 [] := by
  unfold f_X12_closesSums at h
  exact SL_X12_closesSums_0 (fun hR h => S_X12_closesSums_59 hp hR h) hp fu hR h
theorem C_X12_closesSums {E : EN} {ad : AD} {fu : Nat} {out : Int32 × St} {V : St} {M : MH} {x1 : Int32} (l : Launch) (hR : Rep E ad V M) (h : f_X12_closesSums fu V x1 = some out) : Ct E l yX12_closesSums cX12_closesSums 2 none (rmD 2) [.ref (ad 2200 0), .int (x1)] M (fun v M => v = none ∧ Rep E ad out.2 M) :=
  Ct.of (own := RX12) (ini := false) (L := [some (.ref (ad 2200 0)), some (.int (x1))]) rfl rfl (fun h => by cases h) rfl (Nat.le_of_ble_eq_true rfl) rfl (fun X _ => S_X12_closesSums_E (fun M hR => ⟨rfl, hR⟩) hR h)
theorem S_X12_cloth_76 {E : EN} {X : CX} {P : Option Value → MH → Prop} {ad : AD} {fu : Nat} {out : Int32 × St} (hp : ∀ M, Rep E ad out.2 M → P (some (.int out.1)) M) {V : St} {M : MH} {x1 : Int32} {x2 : Int32} {x3 : Int32} {d4 : Option Value} (hR : Rep E ad V M) (h : F_X12_cloth_76 fu V x1 x2 x3 = some out) : G E X RX12 cX12_cloth 5 (some .int) false (rmD 2) P M [some (.ref (ad 2200 0)), some (.int (x1)), some (.int (x2)), some (.int (x3)), d4] 0 0 76 [] := by
  unfold F_X12_cloth_76 at h
  refine r_aload_n DX12_cloth_76 rfl ?_
  refine s_geta DX12_cloth_77 fl_X12_7 hR ct_2200 (one_cnt _) rfl ?_
  refine r_aload_n DX12_cloth_80 rfl ?_
  refine s_geti DX12_cloth_81 fl_X12_236 hR ct_2200 (one_cnt _) rfl ?_
  refine r_iload_n DX12_cloth_84 rfl ?_
  obtain ⟨hg1, h⟩ := gd_inv h
  obtain ⟨V2, hv3, h⟩ := bv_inv h
  refine s_iast DX12_cloth_85 hR oka_2205 ct_2205 (one_cnt _) hg1 (fun M hR => ?_)
  have hR := hR.cg hv3
  refine r_aload_n DX12_cloth_86 rfl ?_
  refine s_geta DX12_cloth_87 fl_X12_13 hR ct_2200 (one_cnt _) rfl ?_
  refine r_aload_n DX12_cloth_90 rfl ?_
  refine s_geti DX12_cloth_91 fl_X12_236 hR ct_2200 (one_cnt _) rfl ?_
  refine r_iload_n DX12_cloth_94 rfl ?_
  obtain ⟨hg4, h⟩ := gd_inv h
  obtain ⟨V5, hv6, h⟩ := bv_inv h
  refine s_iast DX12_cloth_95 hR oka_2206 ct_2206 (one_cnt _) hg4 (fun M hR => ?_)
  have hR := hR.cg hv6
  refine r_aload_n DX12_cloth_96 rfl ?_
  refine s_geta DX12_cloth_97 fl_X12_16 hR ct_2200 (one_cnt _) rfl ?_
  refine r_aload_n DX12_cloth_100 rfl ?_
  refine s_geti DX12_cloth_101 fl_X12_236 hR ct_2200 (one_cnt _) rfl ?_
  refine r_iload_n DX12_cloth_104 rfl ?_
  obtain ⟨hg7, h⟩ := gd_inv h
  obtain ⟨V8, hv9, h⟩ := bv_inv h
  refine s_iast DX12_cloth_105 hR oka_2207 ct_2207 (one_cnt _) hg7 (fun M hR => ?_)
  have hR := hR.cg hv9
  refine r_aload_n DX12_cloth_106 rfl ?_
  refine r_aload_n DX12_cloth_107 rfl ?_
  refine s_geti DX12_cloth_108 fl_X12_236 hR ct_2200 (one_cnt _) rfl ?_
  refine r_iconst (v := 1) DX12_cloth_111 ki_1 ?_
  refine r_iadd DX12_cloth_112 ?_
  obtain ⟨V10, hv11, h⟩ := bv_inv h
  refine s_puti DX12_cloth_113 fp_X12_236 hR oks_2202 ct_2200 (one_cnt _) rfl rfl rfl (fun M hR => ?_)
  have hR := hR.cg hv11
  refine r_aload_n DX12_cloth_116 rfl ?_
  refine s_geti DX12_cloth_117 fl_X12_236 hR ct_2200 (one_cnt _) rfl ?_
  refine r_iconst (v := 1) DX12_cloth_120 ki_1 ?_
  refine r_isub DX12_cloth_121 ?_
  cases h
  exact r_iret DX12_cloth_122 rfl ⟨Nat.le_refl 0, Nat.le_refl 0⟩ (hp M hR)
theorem S_X12_cloth_68 {E : EN} {X : CX} {P : Option Value → MH → Prop} {ad : AD} {fu : Nat} {out : Int32 × St} (hp : ∀ M, Rep E ad out.2 M → P (some (.int out.1)) M) {V : St} {M : MH} {d0 : Option Value} {d1 : Option Value} {d2 : Option Value} {d3 : Option Value} {d4 : Option Value} (hR : Rep E ad V M) (h : F_X12_cloth_68 fu V = some out) : G E X RX12 cX12_cloth 5 (some .int) false (rmD 2) P M [d0, d1, d2, d3, d4] 0 0 68 [] := by
  unfold F_X12_cloth_68 at h
  refine r_iconst (v := -1) DX12_cloth_68 ki_m1 ?_
  cases h
  exact r_iret DX12_cloth_69 rfl ⟨Nat.le_refl 0, Nat.le_refl 0⟩ (hp M hR)
theorem S_X12_cloth_48 {E : EN} {X : CX} {P : Option Value → MH → Prop} {ad : AD} {fu : Nat} {out : Int32 × St} {kh : St → Int32 → Int32 → Int32 → Int32 → RR} {kx68 : St → RR} {kx76 : St → Int32 → Int32 → Int32 → RR} (hkh : ∀ {V : St} {M : MH} {x1 : Int32} {x2 : Int32} {x3 : Int32} {x4 : Int32}, Rep E ad V M → kh V x1 x2 x3 x4 = some out → G E X RX12 cX12_cloth 5 (some .int) false (rmD 2) P M [some (.ref (ad 2200 0)), some (.int (x1)), some (.int (x2)), some (.int (x3)), some (.int (x4))] 0 0 48 []) (hkx68 : ∀ {V : St} {M : MH} {d0 : Option Value} {d1 : Option Value} {d2 : Option Value} {d3 : Option Value} {d4 : Option Value}, Rep E ad V M → kx68 V  = some out → G E X RX12 cX12_cloth 5 (some .int) false (rmD 2) P M [d0, d1, d2, d3, d4] 0 0 68 []) (hkx76 : ∀ {V : St} {M : MH} {x1 : Int32} {x2 : Int32} {x3 : Int32} {d4 : Option Value}, Rep E ad V M → kx76 V x1 x2 x3 = some out → G E X RX12 cX12_cloth 5 (some .int) false (rmD 2) P M [some (.ref (ad 2200 0)), some (.int (x1)), some (.int (x2)), some (.int (x3)), d4] 0 0 76 []) (hp : ∀ M, Rep E ad out.2 M → P (some (.int out.1)) M) {V : St} {M : MH} {x1 : Int32} {x2 : Int32} {x3 : Int32} {x4 : Int32} (hR : Rep E ad V M) (h : F_X12_cloth_48 kh kx68 kx76 fu V x1 x2 x3 x4 = some out) : G E X RX12 cX12_cloth 5 (some .int) false (rmD 2) P M [some (.ref (ad 2200 0)), some (.int (x1)), some (.int (x2)), some (.int (x3)), some (.int (x4))] 0 0 48 [] := by
  unfold F_X12_cloth_48 at h
  refine r_iload DX12_cloth_48 rfl ?_
  refine r_aload_n DX12_cloth_50 rfl ?_
  refine s_geti DX12_cloth_51 fl_X12_236 hR ct_2200 (one_cnt _) rfl ?_
  refine r_icmp_ge DX12_cloth_54 (fun c1 => ?_) (fun c1 => ?_)
  · have h := if_t c1 h
    exact hkx76 hR h
  · have h := if_f c1 h
    refine r_aload_n DX12_cloth_57 rfl ?_
    refine s_geta DX12_cloth_58 fl_X12_7 hR ct_2200 (one_cnt _) rfl ?_
    refine r_iload DX12_cloth_61 rfl ?_
    obtain ⟨hg2, h⟩ := gd_inv h
    refine s_iald DX12_cloth_63 hR ct_2205 (one_cnt _) hg2 ?_
    refine r_iload_n DX12_cloth_64 rfl ?_
    refine r_icmp_ne DX12_cloth_65 (fun c3 => ?_) (fun c3 => ?_)
    · have h := if_f c3 h
      refine t_iinc (v := 1) (L' := [some (.ref (ad 2200 0)), some (.int (x1)), some (.int (x2)), some (.int (x3)), some (.int (x4 + 1))]) DX12_cloth_70 rfl ki_1 (by decide) rfl ?_
      refine r_goto DX12_cloth_73 ?_
      exact hkh hR h
    · have h := if_t c3 h
      exact hkx68 hR h
theorem SL_X12_cloth_48 {E : EN} {X : CX} {P : Option Value → MH → Prop} {ad : AD} {fu : Nat} {out : Int32 × St} {kx68 : St → RR} {kx76 : St → Int32 → Int32 → Int32 → RR} (hkx68 : ∀ {V : St} {M : MH} {d0 : Option Value} {d1 : Option Value} {d2 : Option Value} {d3 : Option Value} {d4 : Option Value}, Rep E ad V M → kx68 V  = some out → G E X RX12 cX12_cloth 5 (some .int) false (rmD 2) P M [d0, d1, d2, d3, d4] 0 0 68 []) (hkx76 : ∀ {V : St} {M : MH} {x1 : Int32} {x2 : Int32} {x3 : Int32} {d4 : Option Value}, Rep E ad V M → kx76 V x1 x2 x3 = some out → G E X RX12 cX12_cloth 5 (some .int) false (rmD 2) P M [some (.ref (ad 2200 0)), some (.int (x1)), some (.int (x2)), some (.int (x3)), d4] 0 0 76 []) (hp : ∀ M, Rep E ad out.2 M → P (some (.int out.1)) M) : ∀ (n : Nat) {V : St} {M : MH} {x1 : Int32} {x2 : Int32} {x3 : Int32} {x4 : Int32}, Rep E ad V M → Lp_X12_cloth_48 kx68 kx76 fu n V x1 x2 x3 x4 = some out → G E X RX12 cX12_cloth 5 (some .int) false (rmD 2) P M [some (.ref (ad 2200 0)), some (.int (x1)), some (.int (x2)), some (.int (x3)), some (.int (x4))] 0 0 48 [] := by
  intro n
  induction n with
  | zero => intros; rename_i h; cases h
  | succ n ih => exact fun hR h => S_X12_cloth_48 (fun hR h => ih hR h) (fun hR h => hkx68 hR h) (fun hR h => hkx76 hR h) hp hR h
theorem S_X12_cloth_43 {E : EN} {X : CX} {P : Option Value → MH → Prop} {ad : AD} {fu : Nat} {out : Int32 × St} (hp : ∀ M, Rep E ad out.2 M → P (some (.int out.1)) M) {V : St} {M : MH} {d0 : Option Value} {d1 : Option Value} {d2 : Option Value} {d3 : Option Value} {d4 : Option Value} (hR : Rep E ad V M) (h : F_X12_cloth_43 fu V = some out) : G E X RX12 cX12_cloth 5 (some .int) false (rmD 2) P M [d0, d1, d2, d3, d4] 0 0 43 [] := by
  unfold F_X12_cloth_43 at h
  refine r_iconst (v := -1) DX12_cloth_43 ki_m1 ?_
  cases h
  exact r_iret DX12_cloth_44 rfl ⟨Nat.le_refl 0, Nat.le_refl 0⟩ (hp M hR)
theorem S_X12_cloth_0 {E : EN} {X : CX} {P : Option Value → MH → Prop} {ad : AD} {fu : Nat} {out : Int32 × St} (hp : ∀ M, Rep E ad out.2 M → P (some (.int out.1)) M) {V : St} {M : MH} {x1 : Int32} {x2 : Int32} {x3 : Int32} (hR : Rep E ad V M) (h : f_X12_cloth fu V x1 x2 x3 = some out) : G E X RX12 cX12_cloth 5 (some .int) false (rmD 2) P M [some (.ref (ad 2200 0)), some (.int (x1)), some (.int (x2)), some (.int (x3)), none] 0 0 0 [] := by
  unfold f_X12_cloth at h
  refine r_iload_n DX12_cloth_0 rfl ?_
  refine r_bipush (v := 100) DX12_cloth_1 kb_100 ?_
  refine r_sipush (v := 999) DX12_cloth_3 ks_999 ?_
  obtain ⟨r1, V2, hc3, h⟩ := bd_inv h
  refine k_callS (As := [.int (x1), .int ((100 : Int32)), .int ((999 : Int32))]) (rest := []) (st1 := [.int (r1)]) (w := some (.int r1)) DX12_cloth_6 cs_X12_245 (C_X12_in (out := (r1, V2)) (cxL X) hR hc3) rfl (by decide) (by decide) rfl (Nat.le_of_ble_eq_true rfl) rfl (fun M hR => ?_)
  refine r_if_eq DX12_cloth_9 (fun c4 => ?_) (fun c4 => ?_)
  · have h := if_t c4 h
    exact S_X12_cloth_43 hp hR h
  · have h := if_f c4 h
    refine r_iload_n DX12_cloth_12 rfl ?_
    refine r_iconst (v := 1) DX12_cloth_13 ki_1 ?_
    refine r_sipush (v := 1000) DX12_cloth_14 ks_1000 ?_
    obtain ⟨r5, V6, hc7, h⟩ := bd_inv h
    refine k_callS (As := [.int (x2), .int ((1 : Int32)), .int ((1000 : Int32))]) (rest := []) (st1 := [.int (r5)]) (w := some (.int r5)) DX12_cloth_17 cs_X12_245 (C_X12_in (out := (r5, V6)) (cxL X) hR hc7) rfl (by decide) (by decide) rfl (Nat.le_of_ble_eq_true rfl) rfl (fun M hR => ?_)
    refine r_if_eq DX12_cloth_20 (fun c8 => ?_) (fun c8 => ?_)
    · have h := if_t c8 h
      exact S_X12_cloth_43 hp hR h
    · have h := if_f c8 h
      refine r_iload_n DX12_cloth_23 rfl ?_
      refine r_iconst (v := 1) DX12_cloth_24 ki_1 ?_
      refine r_sipush (v := 10000) DX12_cloth_25 ks_10000 ?_
      obtain ⟨r9, V10, hc11, h⟩ := bd_inv h
      refine k_callS (As := [.int (x3), .int ((1 : Int32)), .int ((10000 : Int32))]) (rest := []) (st1 := [.int (r9)]) (w := some (.int r9)) DX12_cloth_28 cs_X12_245 (C_X12_in (out := (r9, V10)) (cxL X) hR hc11) rfl (by decide) (by decide) rfl (Nat.le_of_ble_eq_true rfl) rfl (fun M hR => ?_)
      refine r_if_eq DX12_cloth_31 (fun c12 => ?_) (fun c12 => ?_)
      · have h := if_t c12 h
        exact S_X12_cloth_43 hp hR h
      · have h := if_f c12 h
        refine r_aload_n DX12_cloth_34 rfl ?_
        refine s_geti DX12_cloth_35 fl_X12_236 hR ct_2200 (one_cnt _) rfl ?_
        refine r_bipush (v := 20) DX12_cloth_38 kb_20 ?_
        refine r_icmp_ne DX12_cloth_40 (fun c13 => ?_) (fun c13 => ?_)
        · have h := if_f c13 h
          refine r_iconst (v := 0) DX12_cloth_45 ki_0 ?_
          refine t_istore (L' := [some (.ref (ad 2200 0)), some (.int (x1)), some (.int (x2)), some (.int (x3)), some (.int ((0 : Int32)))]) DX12_cloth_46 (by decide) rfl ?_
          exact SL_X12_cloth_48 (fun hR h => S_X12_cloth_68 hp hR h) (fun hR h => S_X12_cloth_76 hp hR h) hp fu hR h
        · have h := if_t c13 h
          exact S_X12_cloth_43 hp hR h
theorem C_X12_cloth {E : EN} {ad : AD} {fu : Nat} {out : Int32 × St} {V : St} {M : MH} {x1 : Int32} {x2 : Int32} {x3 : Int32} (l : Launch) (hR : Rep E ad V M) (h : f_X12_cloth fu V x1 x2 x3 = some out) : Ct E l yX12_cloth cX12_cloth 5 (some .int) (rmD 2) [.ref (ad 2200 0), .int (x1), .int (x2), .int (x3)] M (fun v M => v = (some (.int out.1)) ∧ Rep E ad out.2 M) :=
  Ct.of (own := RX12) (ini := false) (L := [some (.ref (ad 2200 0)), some (.int (x1)), some (.int (x2)), some (.int (x3)), none]) rfl rfl (fun h => by cases h) rfl (Nat.le_of_ble_eq_true rfl) rfl (fun X _ => S_X12_cloth_0 (fun M hR => ⟨rfl, hR⟩) hR h)
theorem S_X12_count_199 {E : EN} {X : CX} {P : Option Value → MH → Prop} {ad : AD} {fu : Nat} {out : Int32 × St} (hp : ∀ M, Rep E ad out.2 M → P (some (.int out.1)) M) {V : St} {M : MH} {s0 : Int32} {d0 : Option Value} {d1 : Option Value} (hR : Rep E ad V M) (h : F_X12_count_199 fu V s0 = some out) : G E X RX12 cX12_count 2 (some .int) false (rmD 2) P M [d0, d1] 0 0 199 [.int (s0)] := by
  unfold F_X12_count_199 at h
  cases h
  exact r_iret DX12_count_199 rfl ⟨Nat.le_refl 0, Nat.le_refl 0⟩ (hp M hR)
theorem S_X12_count_0 {E : EN} {X : CX} {P : Option Value → MH → Prop} {ad : AD} {fu : Nat} {out : Int32 × St} (hp : ∀ M, Rep E ad out.2 M → P (some (.int out.1)) M) {V : St} {M : MH} {x1 : Int32} (hR : Rep E ad V M) (h : f_X12_count fu V x1 = some out) : G E X RX12 cX12_count 2 (some .int) false (rmD 2) P M [some (.ref (ad 2200 0)), some (.int (x1))] 0 0 0 [] := by
  unfold f_X12_count at h
  refine r_iload_n DX12_count_0 rfl ?_
  by_cases e2 : x1 = 0
  · have h := if_t e2 h
    refine r_table (tgt := 60) DX12_count_1 (Or.inr ⟨by rw [e2]; decide, by rw [e2]; decide, by rw [e2]; rfl⟩) rfl ?_
    refine r_aload_n DX12_count_60 rfl ?_
    refine s_geti DX12_count_61 fl_X12_400 hR ct_2200 (one_cnt _) rfl ?_
    cases h
    exact r_iret DX12_count_64 rfl ⟨Nat.le_refl 0, Nat.le_refl 0⟩ (hp M hR)
  have h := if_f e2 h
  by_cases e3 : x1 = 1
  · have h := if_t e3 h
    refine r_table (tgt := 65) DX12_count_1 (Or.inr ⟨by rw [e3]; decide, by rw [e3]; decide, by rw [e3]; rfl⟩) rfl ?_
    refine r_aload_n DX12_count_65 rfl ?_
    refine s_geti DX12_count_66 fl_X12_236 hR ct_2200 (one_cnt _) rfl ?_
    cases h
    exact r_iret DX12_count_69 rfl ⟨Nat.le_refl 0, Nat.le_refl 0⟩ (hp M hR)
  have h := if_f e3 h
  by_cases e4 : x1 = 2
  · have h := if_t e4 h
    refine r_table (tgt := 70) DX12_count_1 (Or.inr ⟨by rw [e4]; decide, by rw [e4]; decide, by rw [e4]; rfl⟩) rfl ?_
    refine r_aload_n DX12_count_70 rfl ?_
    refine s_geti DX12_count_71 fl_X12_239 hR ct_2200 (one_cnt _) rfl ?_
    cases h
    exact r_iret DX12_count_74 rfl ⟨Nat.le_refl 0, Nat.le_refl 0⟩ (hp M hR)
  have h := if_f e4 h
  by_cases e5 : x1 = 3
  · have h := if_t e5 h
    refine r_table (tgt := 75) DX12_count_1 (Or.inr ⟨by rw [e5]; decide, by rw [e5]; decide, by rw [e5]; rfl⟩) rfl ?_
    refine r_aload_n DX12_count_75 rfl ?_
    refine s_geti DX12_count_76 fl_X12_242 hR ct_2200 (one_cnt _) rfl ?_
    cases h
    exact r_iret DX12_count_79 rfl ⟨Nat.le_refl 0, Nat.le_refl 0⟩ (hp M hR)
  have h := if_f e5 h
  by_cases e6 : x1 = 4
  · have h := if_t e6 h
    refine r_table (tgt := 80) DX12_count_1 (Or.inr ⟨by rw [e6]; decide, by rw [e6]; decide, by rw [e6]; rfl⟩) rfl ?_
    refine r_aload_n DX12_count_80 rfl ?_
    refine s_geti DX12_count_81 fl_X12_291 hR ct_2200 (one_cnt _) rfl ?_
    cases h
    exact r_iret DX12_count_84 rfl ⟨Nat.le_refl 0, Nat.le_refl 0⟩ (hp M hR)
  have h := if_f e6 h
  by_cases e7 : x1 = 5
  · have h := if_t e7 h
    refine r_table (tgt := 85) DX12_count_1 (Or.inr ⟨by rw [e7]; decide, by rw [e7]; decide, by rw [e7]; rfl⟩) rfl ?_
    refine r_aload_n DX12_count_85 rfl ?_
    refine s_geti DX12_count_86 fl_X12_394 hR ct_2200 (one_cnt _) rfl ?_
    cases h
    exact r_iret DX12_count_89 rfl ⟨Nat.le_refl 0, Nat.le_refl 0⟩ (hp M hR)
  have h := if_f e7 h
  by_cases e8 : x1 = 6
  · have h := if_t e8 h
    refine r_table (tgt := 90) DX12_count_1 (Or.inr ⟨by rw [e8]; decide, by rw [e8]; decide, by rw [e8]; rfl⟩) rfl ?_
    refine r_aload_n DX12_count_90 rfl ?_
    refine s_geti DX12_count_91 fl_X12_440 hR ct_2200 (one_cnt _) rfl ?_
    cases h
    exact r_iret DX12_count_94 rfl ⟨Nat.le_refl 0, Nat.le_refl 0⟩ (hp M hR)
  have h := if_f e8 h
  by_cases e9 : x1 = 7
  · have h := if_t e9 h
    refine r_table (tgt := 95) DX12_count_1 (Or.inr ⟨by rw [e9]; decide, by rw [e9]; decide, by rw [e9]; rfl⟩) rfl ?_
    refine r_aload_n DX12_count_95 rfl ?_
    refine s_geti DX12_count_96 fl_X12_449 hR ct_2200 (one_cnt _) rfl ?_
    cases h
    exact r_iret DX12_count_99 rfl ⟨Nat.le_refl 0, Nat.le_refl 0⟩ (hp M hR)
  have h := if_f e9 h
  by_cases e10 : x1 = 8
  · have h := if_t e10 h
    refine r_table (tgt := 100) DX12_count_1 (Or.inr ⟨by rw [e10]; decide, by rw [e10]; decide, by rw [e10]; rfl⟩) rfl ?_
    refine r_aload_n DX12_count_100 rfl ?_
    refine s_geti DX12_count_101 fl_X12_458 hR ct_2200 (one_cnt _) rfl ?_
    cases h
    exact r_iret DX12_count_104 rfl ⟨Nat.le_refl 0, Nat.le_refl 0⟩ (hp M hR)
  have h := if_f e10 h
  by_cases e11 : x1 = 9
  · have h := if_t e11 h
    refine r_table (tgt := 105) DX12_count_1 (Or.inr ⟨by rw [e11]; decide, by rw [e11]; decide, by rw [e11]; rfl⟩) rfl ?_
    refine r_aload_n DX12_count_105 rfl ?_
    refine s_geti DX12_count_106 fl_X12_461 hR ct_2200 (one_cnt _) rfl ?_
    cases h
    exact r_iret DX12_count_109 rfl ⟨Nat.le_refl 0, Nat.le_refl 0⟩ (hp M hR)
  have h := if_f e11 h
  by_cases e12 : x1 = 10
  · have h := if_t e12 h
    refine r_table (tgt := 110) DX12_count_1 (Or.inr ⟨by rw [e12]; decide, by rw [e12]; decide, by rw [e12]; rfl⟩) rfl ?_
    refine r_aload_n DX12_count_110 rfl ?_
    refine s_geti DX12_count_111 fl_X12_274 hR ct_2200 (one_cnt _) rfl ?_
    cases h
    exact r_iret DX12_count_114 rfl ⟨Nat.le_refl 0, Nat.le_refl 0⟩ (hp M hR)
  have h := if_f e12 h
  refine r_tabled (tgt := 115) (cs := [0, 1, 2, 3, 4, 5, 6, 7, 8, 9, 10]) DX12_count_1 (by decide) (by decide) (fun z hz => by simp only [List.mem_cons, List.not_mem_nil, or_false] at hz; rcases hz with rfl | rfl | rfl | rfl | rfl | rfl | rfl | rfl | rfl | rfl | rfl <;> first | exact lv_neT e2 rfl | exact lv_neT e3 rfl | exact lv_neT e4 rfl | exact lv_neT e5 rfl | exact lv_neT e6 rfl | exact lv_neT e7 rfl | exact lv_neT e8 rfl | exact lv_neT e9 rfl | exact lv_neT e10 rfl | exact lv_neT e11 rfl | exact lv_neT e12 rfl) rfl ?_
  refine r_iload_n DX12_count_115 rfl ?_
  refine r_bipush (v := 20) DX12_count_116 kb_20 ?_
  refine r_bipush (v := 19) DX12_count_118 kb_19 ?_
  refine r_aload_n DX12_count_120 rfl ?_
  refine s_geti DX12_count_121 fl_X12_394 hR ct_2200 (one_cnt _) rfl ?_
  refine r_iadd DX12_count_124 ?_
  obtain ⟨r13, V14, hc15, h⟩ := bd_inv h
  refine k_callS (As := [.int (x1), .int ((20 : Int32)), .int ((19 : Int32) + (V 2258 0 0))]) (rest := []) (st1 := [.int (r13)]) (w := some (.int r13)) DX12_count_125 cs_X12_245 (C_X12_in (out := (r13, V14)) (cxL X) hR hc15) rfl (by decide) (by decide) rfl (Nat.le_of_ble_eq_true rfl) rfl (fun M hR => ?_)
  refine r_if_eq DX12_count_128 (fun c16 => ?_) (fun c16 => ?_)
  · have h := if_t c16 h
    refine r_iload_n DX12_count_141 rfl ?_
    refine r_bipush (v := 100) DX12_count_142 kb_100 ?_
    refine r_bipush (v := 99) DX12_count_144 kb_99 ?_
    refine r_aload_n DX12_count_146 rfl ?_
    refine s_geti DX12_count_147 fl_X12_242 hR ct_2200 (one_cnt _) rfl ?_
    refine r_iadd DX12_count_150 ?_
    obtain ⟨r17, V18, hc19, h⟩ := bd_inv h
    refine k_callS (As := [.int (x1), .int ((100 : Int32)), .int ((99 : Int32) + (V14 2204 0 0))]) (rest := []) (st1 := [.int (r17)]) (w := some (.int r17)) DX12_count_151 cs_X12_245 (C_X12_in (out := (r17, V18)) (cxL X) hR hc19) rfl (by decide) (by decide) rfl (Nat.le_of_ble_eq_true rfl) rfl (fun M hR => ?_)
    refine r_if_eq DX12_count_154 (fun c20 => ?_) (fun c20 => ?_)
    · have h := if_t c20 h
      refine r_iload_n DX12_count_167 rfl ?_
      refine r_sipush (v := 200) DX12_count_168 ks_200 ?_
      refine r_sipush (v := 199) DX12_count_171 ks_199 ?_
      refine r_aload_n DX12_count_174 rfl ?_
      refine s_geti DX12_count_175 fl_X12_242 hR ct_2200 (one_cnt _) rfl ?_
      refine r_iadd DX12_count_178 ?_
      obtain ⟨r21, V22, hc23, h⟩ := bd_inv h
      refine k_callS (As := [.int (x1), .int ((200 : Int32)), .int ((199 : Int32) + (V18 2204 0 0))]) (rest := []) (st1 := [.int (r21)]) (w := some (.int r21)) DX12_count_179 cs_X12_245 (C_X12_in (out := (r21, V22)) (cxL X) hR hc23) rfl (by decide) (by decide) rfl (Nat.le_of_ble_eq_true rfl) rfl (fun M hR => ?_)
      refine r_if_eq DX12_count_182 (fun c24 => ?_) (fun c24 => ?_)
      · have h := if_t c24 h
        refine r_iconst (v := -1) DX12_count_198 ki_m1 ?_
        exact S_X12_count_199 hp hR h
      · have h := if_f c24 h
        refine r_aload_n DX12_count_185 rfl ?_
        refine s_geta DX12_count_186 fl_X12_61 hR ct_2200 (one_cnt _) rfl ?_
        refine r_iload_n DX12_count_189 rfl ?_
        refine r_sipush (v := 200) DX12_count_190 ks_200 ?_
        refine r_isub DX12_count_193 ?_
        obtain ⟨hg25, h⟩ := gd_inv h
        refine s_iald DX12_count_194 hR ct_2222 (one_cnt _) hg25 ?_
        refine r_goto DX12_count_195 ?_
        exact S_X12_count_199 hp hR h
    · have h := if_f c20 h
      refine r_aload_n DX12_count_157 rfl ?_
      refine s_geta DX12_count_158 fl_X12_58 hR ct_2200 (one_cnt _) rfl ?_
      refine r_iload_n DX12_count_161 rfl ?_
      refine r_bipush (v := 100) DX12_count_162 kb_100 ?_
      refine r_isub DX12_count_164 ?_
      obtain ⟨hg24, h⟩ := gd_inv h
      refine s_iald DX12_count_165 hR ct_2221 (one_cnt _) hg24 ?_
      cases h
      exact r_iret DX12_count_166 rfl ⟨Nat.le_refl 0, Nat.le_refl 0⟩ (hp M hR)
  · have h := if_f c16 h
    refine r_aload_n DX12_count_131 rfl ?_
    refine s_geta DX12_count_132 fl_X12_157 hR ct_2200 (one_cnt _) rfl ?_
    refine r_iload_n DX12_count_135 rfl ?_
    refine r_bipush (v := 20) DX12_count_136 kb_20 ?_
    refine r_isub DX12_count_138 ?_
    obtain ⟨hg20, h⟩ := gd_inv h
    refine s_iald DX12_count_139 hR ct_2264 (one_cnt _) hg20 ?_
    cases h
    exact r_iret DX12_count_140 rfl ⟨Nat.le_refl 0, Nat.le_refl 0⟩ (hp M hR)
theorem C_X12_count {E : EN} {ad : AD} {fu : Nat} {out : Int32 × St} {V : St} {M : MH} {x1 : Int32} (l : Launch) (hR : Rep E ad V M) (h : f_X12_count fu V x1 = some out) : Ct E l yX12_count cX12_count 2 (some .int) (rmD 2) [.ref (ad 2200 0), .int (x1)] M (fun v M => v = (some (.int out.1)) ∧ Rep E ad out.2 M) :=
  Ct.of (own := RX12) (ini := false) (L := [some (.ref (ad 2200 0)), some (.int (x1))]) rfl rfl (fun h => by cases h) rfl (Nat.le_of_ble_eq_true rfl) rfl (fun X _ => S_X12_count_0 (fun M hR => ⟨rfl, hR⟩) hR h)
