theorem S_X12_isDrawing_17 {E : EN} {X : CX} {P : Option Value → MH → Prop} {ad : AD} {fu : Nat} {out : Int32 × St} (hp : ∀ M, Rep E ad out.2 M → P (some (.int out.1)) M) {V : St} {M : MH} {s0 : Int32} {d0 : Option Value} {d1 : Option Value} (hR : Rep E ad V M) (h : F_X12_isDrawing_17 fu V s0 = some out) : G E X RX12 cX12_isDrawing 2 (some .boolean) false (rmD 1) P M [d0, d1] 0 0 17 [.int (s0)] := by
  unfold F_X12_isDrawing_17 at h
  obtain ⟨hz1, h⟩ := gd_inv h
  cases h
  exact r_zret DX12_isDrawing_17 rfl (nz_nar hz1) ⟨Nat.le_refl 0, Nat.le_refl 0⟩ (hp M hR)
theorem S_X12_isDrawing_16 {E : EN} {X : CX} {P : Option Value → MH → Prop} {ad : AD} {fu : Nat} {out : Int32 × St} (hp : ∀ M, Rep E ad out.2 M → P (some (.int out.1)) M) {V : St} {M : MH} {d0 : Option Value} {d1 : Option Value} (hR : Rep E ad V M) (h : F_X12_isDrawing_16 fu V = some out) : G E X RX12 cX12_isDrawing 2 (some .boolean) false (rmD 1) P M [d0, d1] 0 0 16 [] := by
  unfold F_X12_isDrawing_16 at h
  refine r_iconst (v := 0) DX12_isDrawing_16 ki_0 ?_
  exact S_X12_isDrawing_17 hp hR h
theorem S_X12_isDrawing_0 {E : EN} {X : CX} {P : Option Value → MH → Prop} {ad : AD} {fu : Nat} {out : Int32 × St} (hp : ∀ M, Rep E ad out.2 M → P (some (.int out.1)) M) {V : St} {M : MH} {x1 : Int32} (hR : Rep E ad V M) (h : f_X12_isDrawing fu V x1 = some out) : G E X RX12 cX12_isDrawing 2 (some .boolean) false (rmD 1) P M [some (.ref (ad 2200 0)), some (.int (x1))] 0 0 0 [] := by
  unfold f_X12_isDrawing at h
  refine r_iload_n DX12_isDrawing_0 rfl ?_
  refine r_if_lt DX12_isDrawing_1 (fun c1 => ?_) (fun c1 => ?_)
  · have h := if_t c1 h
    exact S_X12_isDrawing_16 hp hR h
  · have h := if_f c1 h
    refine r_iload_n DX12_isDrawing_4 rfl ?_
    refine r_aload_n DX12_isDrawing_5 rfl ?_
    refine s_geti DX12_isDrawing_6 fl_X12_239 hR ct_2200 (one_cnt _) rfl ?_
    refine r_icmp_ge DX12_isDrawing_9 (fun c2 => ?_) (fun c2 => ?_)
    · have h := if_t c2 h
      exact S_X12_isDrawing_16 hp hR h
    · have h := if_f c2 h
      refine r_iconst (v := 1) DX12_isDrawing_12 ki_1 ?_
      refine r_goto DX12_isDrawing_13 ?_
      exact S_X12_isDrawing_17 hp hR h
theorem C_X12_isDrawing {E : EN} {ad : AD} {fu : Nat} {out : Int32 × St} {V : St} {M : MH} {x1 : Int32} (l : Launch) (hR : Rep E ad V M) (h : f_X12_isDrawing fu V x1 = some out) : Ct E l yX12_isDrawing cX12_isDrawing 2 (some .boolean) (rmD 1) [.ref (ad 2200 0), .int (x1)] M (fun v M => v = (some (.int out.1)) ∧ Rep E ad out.2 M) :=
  Ct.of (own := RX12) (ini := false) (L := [some (.ref (ad 2200 0)), some (.int (x1))]) rfl rfl (fun h => by cases h) rfl (Nat.le_of_ble_eq_true rfl) rfl (fun X _ => S_X12_isDrawing_0 (fun M hR => ⟨rfl, hR⟩) hR h)
theorem S_X12_bears_58 {E : EN} {X : CX} {P : Option Value → MH → Prop} {ad : AD} {fu : Nat} {out : Int32 × St} (hp : ∀ M, Rep E ad out.2 M → P (some (.int out.1)) M) {V : St} {M : MH} {s0 : Int32} {d0 : Option Value} {d1 : Option Value} {d2 : Option Value} (hR : Rep E ad V M) (h : F_X12_bears_58 fu V s0 = some out) : G E X RX12 cX12_bears 3 (some .int) false (rmD 4) P M [d0, d1, d2] 0 0 58 [.int (s0)] := by
  unfold F_X12_bears_58 at h
  cases h
  exact r_iret DX12_bears_58 rfl ⟨Nat.le_refl 0, Nat.le_refl 0⟩ (hp M hR)
theorem S_X12_bears_45 {E : EN} {X : CX} {P : Option Value → MH → Prop} {ad : AD} {fu : Nat} {out : Int32 × St} (hp : ∀ M, Rep E ad out.2 M → P (some (.int out.1)) M) {V : St} {M : MH} {x1 : Int32} {d2 : Option Value} (hR : Rep E ad V M) (h : F_X12_bears_45 fu V x1 = some out) : G E X RX12 cX12_bears 3 (some .int) false (rmD 4) P M [some (.ref (ad 2200 0)), some (.int (x1)), d2] 0 0 45 [] := by
  unfold F_X12_bears_45 at h
  refine r_aload_n DX12_bears_45 rfl ?_
  refine r_iload_n DX12_bears_46 rfl ?_
  obtain ⟨r1, V2, hc3, h⟩ := bd_inv h
  refine k_callV (As := [.int (x1)]) (rest := []) (st1 := [.int (r1)]) (w := some (.int r1)) DX12_bears_47 cv_X12_262 hR ct_2200 (one_cnt _) rfl (C_X12_isBearing (out := (r1, V2)) (cxL X) hR hc3) rfl (by decide) (by decide) rfl (Nat.le_of_ble_eq_true rfl) rfl (fun M hR => ?_)
  refine r_if_eq DX12_bears_50 (fun c4 => ?_) (fun c4 => ?_)
  · have h := if_t c4 h
    refine r_iconst (v := 0) DX12_bears_57 ki_0 ?_
    exact S_X12_bears_58 hp hR h
  · have h := if_f c4 h
    refine r_iconst (v := 1) DX12_bears_53 ki_1 ?_
    refine r_goto DX12_bears_54 ?_
    exact S_X12_bears_58 hp hR h
theorem S_X12_bears_12 {E : EN} {X : CX} {P : Option Value → MH → Prop} {ad : AD} {fu : Nat} {out : Int32 × St} {kh : St → Int32 → Int32 → RR} {kx45 : St → Int32 → RR} (hkh : ∀ {V : St} {M : MH} {x1 : Int32} {x2 : Int32}, Rep E ad V M → kh V x1 x2 = some out → G E X RX12 cX12_bears 3 (some .int) false (rmD 4) P M [some (.ref (ad 2200 0)), some (.int (x1)), some (.int (x2))] 0 0 12 []) (hkx45 : ∀ {V : St} {M : MH} {x1 : Int32} {d2 : Option Value}, Rep E ad V M → kx45 V x1 = some out → G E X RX12 cX12_bears 3 (some .int) false (rmD 4) P M [some (.ref (ad 2200 0)), some (.int (x1)), d2] 0 0 45 []) (hp : ∀ M, Rep E ad out.2 M → P (some (.int out.1)) M) {V : St} {M : MH} {x1 : Int32} {x2 : Int32} (hR : Rep E ad V M) (h : F_X12_bears_12 kh kx45 fu V x1 x2 = some out) : G E X RX12 cX12_bears 3 (some .int) false (rmD 4) P M [some (.ref (ad 2200 0)), some (.int (x1)), some (.int (x2))] 0 0 12 [] := by
  unfold F_X12_bears_12 at h
  refine r_iload_n DX12_bears_12 rfl ?_
  refine r_aload_n DX12_bears_13 rfl ?_
  refine s_geta DX12_bears_14 fl_X12_22 hR ct_2200 (one_cnt _) rfl ?_
  refine r_iload_n DX12_bears_17 rfl ?_
  obtain ⟨hg1, h⟩ := gd_inv h
  refine s_iald DX12_bears_18 hR ct_2209 (one_cnt _) hg1 ?_
  refine r_icmp_ge DX12_bears_19 (fun c2 => ?_) (fun c2 => ?_)
  · have h := if_t c2 h
    exact hkx45 hR h
  · have h := if_f c2 h
    refine r_aload_n DX12_bears_22 rfl ?_
    refine s_geta DX12_bears_23 fl_X12_73 hR ct_2200 (one_cnt _) rfl ?_
    refine r_iload_n DX12_bears_26 rfl ?_
    refine r_aload_n DX12_bears_27 rfl ?_
    refine s_geta DX12_bears_28 fl_X12_34 hR ct_2200 (one_cnt _) rfl ?_
    refine r_bipush (v := 8) DX12_bears_31 kb_8 ?_
    refine r_iload_n DX12_bears_33 rfl ?_
    refine r_imul DX12_bears_34 ?_
    refine r_iload_n DX12_bears_35 rfl ?_
    refine r_iadd DX12_bears_36 ?_
    obtain ⟨hg3, h⟩ := gd_inv h
    refine s_iald DX12_bears_37 hR ct_2213 (one_cnt _) hg3 ?_
    obtain ⟨hg4, h⟩ := gd_inv h
    obtain ⟨V5, hv6, h⟩ := bv_inv h
    refine s_iast DX12_bears_38 hR oka_2226 ct_2226 (one_cnt _) hg4 (fun M hR => ?_)
    have hR := hR.cg hv6
    refine t_iinc (v := 1) (L' := [some (.ref (ad 2200 0)), some (.int (x1)), some (.int (x2 + 1))]) DX12_bears_39 rfl ki_1 (by decide) rfl ?_
    refine r_goto DX12_bears_42 ?_
    exact hkh hR h
theorem SL_X12_bears_12 {E : EN} {X : CX} {P : Option Value → MH → Prop} {ad : AD} {fu : Nat} {out : Int32 × St} {kx45 : St → Int32 → RR} (hkx45 : ∀ {V : St} {M : MH} {x1 : Int32} {d2 : Option Value}, Rep E ad V M → kx45 V x1 = some out → G E X RX12 cX12_bears 3 (some .int) false (rmD 4) P M [some (.ref (ad 2200 0)), some (.int (x1)), d2] 0 0 45 []) (hp : ∀ M, Rep E ad out.2 M → P (some (.int out.1)) M) : ∀ (n : Nat) {V : St} {M : MH} {x1 : Int32} {x2 : Int32}, Rep E ad V M → Lp_X12_bears_12 kx45 fu n V x1 x2 = some out → G E X RX12 cX12_bears 3 (some .int) false (rmD 4) P M [some (.ref (ad 2200 0)), some (.int (x1)), some (.int (x2))] 0 0 12 [] := by
  intro n
  induction n with
  | zero => intros; rename_i h; cases h
  | succ n ih => exact fun hR h => S_X12_bears_12 (fun hR h => ih hR h) (fun hR h => hkx45 hR h) hp hR h
theorem S_X12_bears_0 {E : EN} {X : CX} {P : Option Value → MH → Prop} {ad : AD} {fu : Nat} {out : Int32 × St} (hp : ∀ M, Rep E ad out.2 M → P (some (.int out.1)) M) {V : St} {M : MH} {x1 : Int32} (hR : Rep E ad V M) (h : f_X12_bears fu V x1 = some out) : G E X RX12 cX12_bears 3 (some .int) false (rmD 4) P M [some (.ref (ad 2200 0)), some (.int (x1)), none] 0 0 0 [] := by
  unfold f_X12_bears at h
  refine r_aload_n DX12_bears_0 rfl ?_
  refine r_iload_n DX12_bears_1 rfl ?_
  obtain ⟨r1, V2, hc3, h⟩ := bd_inv h
  refine k_callV (As := [.int (x1)]) (rest := []) (st1 := [.int (r1)]) (w := some (.int r1)) DX12_bears_2 cv_X12_249 hR ct_2200 (one_cnt _) rfl (C_X12_isDrawing (out := (r1, V2)) (cxL X) hR hc3) rfl (by decide) (by decide) rfl (Nat.le_of_ble_eq_true rfl) rfl (fun M hR => ?_)
  refine r_if_ne DX12_bears_5 (fun c4 => ?_) (fun c4 => ?_)
  · have h := if_f c4 h
    refine r_iconst (v := 0) DX12_bears_10 ki_0 ?_
    refine t_istore_n (L' := [some (.ref (ad 2200 0)), some (.int (x1)), some (.int ((0 : Int32)))]) DX12_bears_11 (by decide) rfl ?_
    exact SL_X12_bears_12 (fun hR h => S_X12_bears_45 hp hR h) hp fu hR h
  · have h := if_t c4 h
    refine r_iconst (v := -1) DX12_bears_8 ki_m1 ?_
    cases h
    exact r_iret DX12_bears_9 rfl ⟨Nat.le_refl 0, Nat.le_refl 0⟩ (hp M hR)
theorem C_X12_bears {E : EN} {ad : AD} {fu : Nat} {out : Int32 × St} {V : St} {M : MH} {x1 : Int32} (l : Launch) (hR : Rep E ad V M) (h : f_X12_bears fu V x1 = some out) : Ct E l yX12_bears cX12_bears 3 (some .int) (rmD 4) [.ref (ad 2200 0), .int (x1)] M (fun v M => v = (some (.int out.1)) ∧ Rep E ad out.2 M) :=
  Ct.of (own := RX12) (ini := false) (L := [some (.ref (ad 2200 0)), some (.int (x1)), none]) rfl rfl (fun h => by cases h) rfl (Nat.le_of_ble_eq_true rfl) rfl (fun X _ => S_X12_bears_0 (fun M hR => ⟨rfl, hR⟩) hR h)
theorem S_X12_in_15 {E : EN} {X : CX} {P : Option Value → MH → Prop} {ad : AD} {fu : Nat} {out : Int32 × St} (hp : ∀ M, Rep E ad out.2 M → P (some (.int out.1)) M) {V : St} {M : MH} {s0 : Int32} {d0 : Option Value} {d1 : Option Value} {d2 : Option Value} (hR : Rep E ad V M) (h : F_X12_in_15 fu V s0 = some out) : G E X RX12 cX12_in 3 (some .boolean) false (rmD 1) P M [d0, d1, d2] 0 0 15 [.int (s0)] := by
  unfold F_X12_in_15 at h
  obtain ⟨hz1, h⟩ := gd_inv h
  cases h
  exact r_zret DX12_in_15 rfl (nz_nar hz1) ⟨Nat.le_refl 0, Nat.le_refl 0⟩ (hp M hR)
theorem S_X12_in_14 {E : EN} {X : CX} {P : Option Value → MH → Prop} {ad : AD} {fu : Nat} {out : Int32 × St} (hp : ∀ M, Rep E ad out.2 M → P (some (.int out.1)) M) {V : St} {M : MH} {d0 : Option Value} {d1 : Option Value} {d2 : Option Value} (hR : Rep E ad V M) (h : F_X12_in_14 fu V = some out) : G E X RX12 cX12_in 3 (some .boolean) false (rmD 1) P M [d0, d1, d2] 0 0 14 [] := by
  unfold F_X12_in_14 at h
  refine r_iconst (v := 0) DX12_in_14 ki_0 ?_
  exact S_X12_in_15 hp hR h
theorem S_X12_in_0 {E : EN} {X : CX} {P : Option Value → MH → Prop} {ad : AD} {fu : Nat} {out : Int32 × St} (hp : ∀ M, Rep E ad out.2 M → P (some (.int out.1)) M) {V : St} {M : MH} {x0 : Int32} {x1 : Int32} {x2 : Int32} (hR : Rep E ad V M) (h : f_X12_in fu V x0 x1 x2 = some out) : G E X RX12 cX12_in 3 (some .boolean) false (rmD 1) P M [some (.int (x0)), some (.int (x1)), some (.int (x2))] 0 0 0 [] := by
  unfold f_X12_in at h
  refine r_iload_n DX12_in_0 rfl ?_
  refine r_iload_n DX12_in_1 rfl ?_
  refine r_icmp_lt DX12_in_2 (fun c1 => ?_) (fun c1 => ?_)
  · have h := if_t c1 h
    exact S_X12_in_14 hp hR h
  · have h := if_f c1 h
    refine r_iload_n DX12_in_5 rfl ?_
    refine r_iload_n DX12_in_6 rfl ?_
    refine r_icmp_gt DX12_in_7 (fun c2 => ?_) (fun c2 => ?_)
    · have h := if_t c2 h
      exact S_X12_in_14 hp hR h
    · have h := if_f c2 h
      refine r_iconst (v := 1) DX12_in_10 ki_1 ?_
      refine r_goto DX12_in_11 ?_
      exact S_X12_in_15 hp hR h
theorem C_X12_in {E : EN} {ad : AD} {fu : Nat} {out : Int32 × St} {V : St} {M : MH} {x0 : Int32} {x1 : Int32} {x2 : Int32} (l : Launch) (hR : Rep E ad V M) (h : f_X12_in fu V x0 x1 x2 = some out) : Ct E l yX12_in cX12_in 3 (some .boolean) (rmD 1) [.int (x0), .int (x1), .int (x2)] M (fun v M => v = (some (.int out.1)) ∧ Rep E ad out.2 M) :=
  Ct.of (own := RX12) (ini := false) (L := [some (.int (x0)), some (.int (x1)), some (.int (x2))]) rfl rfl (fun h => by cases h) rfl (Nat.le_of_ble_eq_true rfl) rfl (fun X _ => S_X12_in_0 (fun M hR => ⟨rfl, hR⟩) hR h)
theorem S_X12_bench_0 {E : EN} {X : CX} {P : Option Value → MH → Prop} {ad : AD} {fu : Nat} {out : Int32 × St} (hp : ∀ M, Rep E ad out.2 M → P (some (.int out.1)) M) {V : St} {M : MH} {x1 : Int32} (hR : Rep E ad V M) (h : f_X12_bench fu V x1 = some out) : G E X RX12 cX12_bench 2 (some .boolean) false (rmD 2) P M [some (.ref (ad 2200 0)), some (.int (x1))] 0 0 0 [] := by
  unfold f_X12_bench at h
  refine r_iload_n DX12_bench_0 rfl ?_
  refine r_iconst (v := 1) DX12_bench_1 ki_1 ?_
  refine r_sipush (v := 1000) DX12_bench_2 ks_1000 ?_
  obtain ⟨r1, V2, hc3, h⟩ := bd_inv h
  refine k_callS (As := [.int (x1), .int ((1 : Int32)), .int ((1000 : Int32))]) (rest := []) (st1 := [.int (r1)]) (w := some (.int r1)) DX12_bench_5 cs_X12_245 (C_X12_in (out := (r1, V2)) (cxL X) hR hc3) rfl (by decide) (by decide) rfl (Nat.le_of_ble_eq_true rfl) rfl (fun M hR => ?_)
  refine r_if_ne DX12_bench_8 (fun c4 => ?_) (fun c4 => ?_)
  · have h := if_f c4 h
    refine r_aload_n DX12_bench_13 rfl ?_
    refine r_iload_n DX12_bench_14 rfl ?_
    obtain ⟨V5, hv6, h⟩ := bv_inv h
    refine s_puti DX12_bench_15 fp_X12_212 hR oks_2288 ct_2200 (one_cnt _) rfl rfl rfl (fun M hR => ?_)
    have hR := hR.cg hv6
    refine r_iconst (v := 1) DX12_bench_18 ki_1 ?_
    cases h
    exact r_zret DX12_bench_19 rfl rfl ⟨Nat.le_refl 0, Nat.le_refl 0⟩ (hp M hR)
  · have h := if_t c4 h
    refine r_iconst (v := 0) DX12_bench_11 ki_0 ?_
    cases h
    exact r_zret DX12_bench_12 rfl rfl ⟨Nat.le_refl 0, Nat.le_refl 0⟩ (hp M hR)
theorem C_X12_bench {E : EN} {ad : AD} {fu : Nat} {out : Int32 × St} {V : St} {M : MH} {x1 : Int32} (l : Launch) (hR : Rep E ad V M) (h : f_X12_bench fu V x1 = some out) : Ct E l yX12_bench cX12_bench 2 (some .boolean) (rmD 2) [.ref (ad 2200 0), .int (x1)] M (fun v M => v = (some (.int out.1)) ∧ Rep E ad out.2 M) :=
  Ct.of (own := RX12) (ini := false) (L := [some (.ref (ad 2200 0)), some (.int (x1))]) rfl rfl (fun h => by cases h) rfl (Nat.le_of_ble_eq_true rfl) rfl (fun X _ => S_X12_bench_0 (fun M hR => ⟨rfl, hR⟩) hR h)
theorem S_X12_reckon_96 {E : EN} {X : CX} {P : Option Value → MH → Prop} {ad : AD} {fu : Nat} {out : Int32 × St} (hp : ∀ M, Rep E ad out.2 M → P (some (.int out.1)) M) {V : St} {M : MH} {s0 : Int32} {d0 : Option Value} {d1 : Option Value} {d2 : Option Value} (hR : Rep E ad V M) (h : F_X12_reckon_96 fu V s0 = some out) : G E X RX12 cX12_reckon 3 (some .int) false (rmD 1) P M [d0, d1, d2] 0 0 96 [.int (s0)] := by
  unfold F_X12_reckon_96 at h
  cases h
  exact r_iret DX12_reckon_96 rfl ⟨Nat.le_refl 0, Nat.le_refl 0⟩ (hp M hR)
theorem S_X12_reckon_85 {E : EN} {X : CX} {P : Option Value → MH → Prop} {ad : AD} {fu : Nat} {out : Int32 × St} (hp : ∀ M, Rep E ad out.2 M → P (some (.int out.1)) M) {V : St} {M : MH} {s0 : Int32} {d0 : Option Value} {d1 : Option Value} {d2 : Option Value} (hR : Rep E ad V M) (h : F_X12_reckon_85 fu V s0 = some out) : G E X RX12 cX12_reckon 3 (some .int) false (rmD 1) P M [d0, d1, d2] 0 0 85 [.int (s0)] := by
  unfold F_X12_reckon_85 at h
  cases h
  exact r_iret DX12_reckon_85 rfl ⟨Nat.le_refl 0, Nat.le_refl 0⟩ (hp M hR)
theorem S_X12_reckon_74 {E : EN} {X : CX} {P : Option Value → MH → Prop} {ad : AD} {fu : Nat} {out : Int32 × St} (hp : ∀ M, Rep E ad out.2 M → P (some (.int out.1)) M) {V : St} {M : MH} {s0 : Int32} {d0 : Option Value} {d1 : Option Value} {d2 : Option Value} (hR : Rep E ad V M) (h : F_X12_reckon_74 fu V s0 = some out) : G E X RX12 cX12_reckon 3 (some .int) false (rmD 1) P M [d0, d1, d2] 0 0 74 [.int (s0)] := by
  unfold F_X12_reckon_74 at h
  cases h
  exact r_iret DX12_reckon_74 rfl ⟨Nat.le_refl 0, Nat.le_refl 0⟩ (hp M hR)
theorem S_X12_reckon_0 {E : EN} {X : CX} {P : Option Value → MH → Prop} {ad : AD} {fu : Nat} {out : Int32 × St} (hp : ∀ M, Rep E ad out.2 M → P (some (.int out.1)) M) {V : St} {M : MH} {x0 : Int32} {x1 : Int32} {x2 : Int32} (hR : Rep E ad V M) (h : f_X12_reckon fu V x0 x1 x2 = some out) : G E X RX12 cX12_reckon 3 (some .int) false (rmD 1) P M [some (.int (x0)), some (.int (x1)), some (.int (x2))] 0 0 0 [] := by
  unfold f_X12_reckon at h
  refine r_iload_n DX12_reckon_0 rfl ?_
  by_cases e2 : x0 = 2
  · have h := if_t e2 h
    refine r_table (tgt := 44) DX12_reckon_1 (Or.inr ⟨by rw [e2]; decide, by rw [e2]; decide, by rw [e2]; rfl⟩) rfl ?_
    refine r_iload_n DX12_reckon_44 rfl ?_
    refine r_iload_n DX12_reckon_45 rfl ?_
    refine r_iadd DX12_reckon_46 ?_
    cases h
    exact r_iret DX12_reckon_47 rfl ⟨Nat.le_refl 0, Nat.le_refl 0⟩ (hp M hR)
  have h := if_f e2 h
  by_cases e3 : x0 = 3
  · have h := if_t e3 h
    refine r_table (tgt := 48) DX12_reckon_1 (Or.inr ⟨by rw [e3]; decide, by rw [e3]; decide, by rw [e3]; rfl⟩) rfl ?_
    refine r_iload_n DX12_reckon_48 rfl ?_
    refine r_iload_n DX12_reckon_49 rfl ?_
    refine r_isub DX12_reckon_50 ?_
    cases h
    exact r_iret DX12_reckon_51 rfl ⟨Nat.le_refl 0, Nat.le_refl 0⟩ (hp M hR)
  have h := if_f e3 h
  by_cases e4 : x0 = 4
  · have h := if_t e4 h
    refine r_table (tgt := 52) DX12_reckon_1 (Or.inr ⟨by rw [e4]; decide, by rw [e4]; decide, by rw [e4]; rfl⟩) rfl ?_
    refine r_iload_n DX12_reckon_52 rfl ?_
    refine r_iload_n DX12_reckon_53 rfl ?_
    refine r_imul DX12_reckon_54 ?_
    cases h
    exact r_iret DX12_reckon_55 rfl ⟨Nat.le_refl 0, Nat.le_refl 0⟩ (hp M hR)
  have h := if_f e4 h
  by_cases e6 : x0 = 5
  · have h := if_t e6 h
    refine r_table (tgt := 56) DX12_reckon_1 (Or.inr ⟨by rw [e6]; decide, by rw [e6]; decide, by rw [e6]; rfl⟩) rfl ?_
    refine r_iload_n DX12_reckon_56 rfl ?_
    refine r_iload_n DX12_reckon_57 rfl ?_
    obtain ⟨hn5, h⟩ := gd_inv h
    refine r_idiv DX12_reckon_58 hn5 ?_
    cases h
    exact r_iret DX12_reckon_59 rfl ⟨Nat.le_refl 0, Nat.le_refl 0⟩ (hp M hR)
  have h := if_f e6 h
  by_cases e8 : x0 = 6
  · have h := if_t e8 h
    refine r_table (tgt := 60) DX12_reckon_1 (Or.inr ⟨by rw [e8]; decide, by rw [e8]; decide, by rw [e8]; rfl⟩) rfl ?_
    refine r_iload_n DX12_reckon_60 rfl ?_
    refine r_iload_n DX12_reckon_61 rfl ?_
    obtain ⟨hn7, h⟩ := gd_inv h
    refine r_irem DX12_reckon_62 hn7 ?_
    cases h
    exact r_iret DX12_reckon_63 rfl ⟨Nat.le_refl 0, Nat.le_refl 0⟩ (hp M hR)
  have h := if_f e8 h
  by_cases e9 : x0 = 7
  · have h := if_t e9 h
    refine r_table (tgt := 64) DX12_reckon_1 (Or.inr ⟨by rw [e9]; decide, by rw [e9]; decide, by rw [e9]; rfl⟩) rfl ?_
    refine r_iload_n DX12_reckon_64 rfl ?_
    refine r_iload_n DX12_reckon_65 rfl ?_
    refine r_icmp_ge DX12_reckon_66 (fun c9 => ?_) (fun c9 => ?_)
    · have h := if_t c9 h
      refine r_iconst (v := 0) DX12_reckon_73 ki_0 ?_
      exact S_X12_reckon_74 hp hR h
    · have h := if_f c9 h
      refine r_iconst (v := 1) DX12_reckon_69 ki_1 ?_
      refine r_goto DX12_reckon_70 ?_
      exact S_X12_reckon_74 hp hR h
  have h := if_f e9 h
  by_cases e10 : x0 = 8
  · have h := if_t e10 h
    refine r_table (tgt := 75) DX12_reckon_1 (Or.inr ⟨by rw [e10]; decide, by rw [e10]; decide, by rw [e10]; rfl⟩) rfl ?_
    refine r_iload_n DX12_reckon_75 rfl ?_
    refine r_iload_n DX12_reckon_76 rfl ?_
    refine r_icmp_le DX12_reckon_77 (fun c10 => ?_) (fun c10 => ?_)
    · have h := if_t c10 h
      refine r_iconst (v := 0) DX12_reckon_84 ki_0 ?_
      exact S_X12_reckon_85 hp hR h
    · have h := if_f c10 h
      refine r_iconst (v := 1) DX12_reckon_80 ki_1 ?_
      refine r_goto DX12_reckon_81 ?_
      exact S_X12_reckon_85 hp hR h
  have h := if_f e10 h
  refine r_tabled (tgt := 86) (cs := [2, 3, 4, 5, 6, 7, 8]) DX12_reckon_1 (by decide) (by decide) (fun z hz => by simp only [List.mem_cons, List.not_mem_nil, or_false] at hz; rcases hz with rfl | rfl | rfl | rfl | rfl | rfl | rfl <;> first | exact lv_neT e2 rfl | exact lv_neT e3 rfl | exact lv_neT e4 rfl | exact lv_neT e6 rfl | exact lv_neT e8 rfl | exact lv_neT e9 rfl | exact lv_neT e10 rfl) rfl ?_
  refine r_iload_n DX12_reckon_86 rfl ?_
  refine r_iload_n DX12_reckon_87 rfl ?_
  refine r_icmp_ne DX12_reckon_88 (fun c11 => ?_) (fun c11 => ?_)
  · have h := if_f c11 h
    refine r_iconst (v := 0) DX12_reckon_95 ki_0 ?_
    exact S_X12_reckon_96 hp hR h
  · have h := if_t c11 h
    refine r_iconst (v := 1) DX12_reckon_91 ki_1 ?_
    refine r_goto DX12_reckon_92 ?_
    exact S_X12_reckon_96 hp hR h
theorem C_X12_reckon {E : EN} {ad : AD} {fu : Nat} {out : Int32 × St} {V : St} {M : MH} {x0 : Int32} {x1 : Int32} {x2 : Int32} (l : Launch) (hR : Rep E ad V M) (h : f_X12_reckon fu V x0 x1 x2 = some out) : Ct E l yX12_reckon cX12_reckon 3 (some .int) (rmD 1) [.int (x0), .int (x1), .int (x2)] M (fun v M => v = (some (.int out.1)) ∧ Rep E ad out.2 M) :=
  Ct.of (own := RX12) (ini := false) (L := [some (.int (x0)), some (.int (x1)), some (.int (x2))]) rfl rfl (fun h => by cases h) rfl (Nat.le_of_ble_eq_true rfl) rfl (fun X _ => S_X12_reckon_0 (fun M hR => ⟨rfl, hR⟩) hR h)
theorem S_X12_holds_257 {E : EN} {X : CX} {P : Option Value → MH → Prop} {ad : AD} {fu : Nat} {out : Int32 × St} (hp : ∀ M, Rep E ad out.2 M → P (some (.int out.1)) M) {V : St} {M : MH} {s0 : Int32} {d0 : Option Value} {d1 : Option Value} {d2 : Option Value} {d3 : Option Value} {d4 : Option Value} {d5 : Option Value} {d6 : Option Value} (hR : Rep E ad V M) (h : F_X12_holds_257 fu V s0 = some out) : G E X RX12 cX12_holds 7 (some .boolean) false (rmD 2) P M [d0, d1, d2, d3, d4, d5, d6] 0 0 257 [.int (s0)] := by
  unfold F_X12_holds_257 at h
  obtain ⟨hz1, h⟩ := gd_inv h
  cases h
  exact r_zret DX12_holds_257 rfl (nz_nar hz1) ⟨Nat.le_refl 0, Nat.le_refl 0⟩ (hp M hR)
theorem S_X12_holds_242 {E : EN} {X : CX} {P : Option Value → MH → Prop} {ad : AD} {fu : Nat} {out : Int32 × St} (hp : ∀ M, Rep E ad out.2 M → P (some (.int out.1)) M) {V : St} {M : MH} {d1 : Option Value} {d2 : Option Value} {d3 : Option Value} {d4 : Option Value} {d5 : Option Value} {d6 : Option Value} (hR : Rep E ad V M) (h : F_X12_holds_242 fu V = some out) : G E X RX12 cX12_holds 7 (some .boolean) false (rmD 2) P M [some (.ref (ad 2200 0)), d1, d2, d3, d4, d5, d6] 0 0 242 [] := by
  unfold F_X12_holds_242 at h
  refine r_aload_n DX12_holds_242 rfl ?_
  refine s_geta DX12_holds_243 fl_X12_178 hR ct_2200 (one_cnt _) rfl ?_
  refine r_iconst (v := 0) DX12_holds_246 ki_0 ?_
  obtain ⟨hg1, h⟩ := gd_inv h
  refine s_iald DX12_holds_247 hR ct_2271 (one_cnt _) hg1 ?_
  refine r_iconst (v := 1) DX12_holds_248 ki_1 ?_
  refine r_icmp_ne DX12_holds_249 (fun c2 => ?_) (fun c2 => ?_)
  · have h := if_f c2 h
    refine r_iconst (v := 0) DX12_holds_256 ki_0 ?_
    exact S_X12_holds_257 hp hR h
  · have h := if_t c2 h
    refine r_iconst (v := 1) DX12_holds_252 ki_1 ?_
    refine r_goto DX12_holds_253 ?_
    exact S_X12_holds_257 hp hR h
theorem S_X12_holds_239 {E : EN} {X : CX} {P : Option Value → MH → Prop} {ad : AD} {fu : Nat} {out : Int32 × St} {kh : St → Int32 → Int32 → Int32 → Int32 → RR} {kx210 : St → RR} {kx242 : St → RR} (hkh : ∀ {V : St} {M : MH} {x1 : Int32} {x2 : Int32} {x3 : Int32} {x4 : Int32} {d5 : Option Value} {d6 : Option Value}, Rep E ad V M → kh V x1 x2 x3 x4 = some out → G E X RX12 cX12_holds 7 (some .boolean) false (rmD 2) P M [some (.ref (ad 2200 0)), some (.int (x1)), some (.int (x2)), some (.int (x3)), some (.int (x4)), d5, d6] 0 0 19 []) (hkx210 : ∀ {V : St} {M : MH} {d0 : Option Value} {d1 : Option Value} {d2 : Option Value} {d3 : Option Value} {d4 : Option Value} {d5 : Option Value} {d6 : Option Value}, Rep E ad V M → kx210 V  = some out → G E X RX12 cX12_holds 7 (some .boolean) false (rmD 2) P M [d0, d1, d2, d3, d4, d5, d6] 0 0 210 []) (hkx242 : ∀ {V : St} {M : MH} {d1 : Option Value} {d2 : Option Value} {d3 : Option Value} {d4 : Option Value} {d5 : Option Value} {d6 : Option Value}, Rep E ad V M → kx242 V  = some out → G E X RX12 cX12_holds 7 (some .boolean) false (rmD 2) P M [some (.ref (ad 2200 0)), d1, d2, d3, d4, d5, d6] 0 0 242 []) (hp : ∀ M, Rep E ad out.2 M → P (some (.int out.1)) M) {V : St} {M : MH} {x1 : Int32} {x2 : Int32} {x3 : Int32} {x4 : Int32} {d5 : Option Value} {d6 : Option Value} (hR : Rep E ad V M) (h : F_X12_holds_239 kh kx210 kx242 fu V x1 x2 x3 x4 = some out) : G E X RX12 cX12_holds 7 (some .boolean) false (rmD 2) P M [some (.ref (ad 2200 0)), some (.int (x1)), some (.int (x2)), some (.int (x3)), some (.int (x4)), d5, d6] 0 0 239 [] := by
  unfold F_X12_holds_239 at h
  refine r_goto DX12_holds_239 ?_
  exact hkh hR h
theorem S_X12_holds_212 {E : EN} {X : CX} {P : Option Value → MH → Prop} {ad : AD} {fu : Nat} {out : Int32 × St} {kh : St → Int32 → Int32 → Int32 → Int32 → RR} {kx210 : St → RR} {kx242 : St → RR} (hkh : ∀ {V : St} {M : MH} {x1 : Int32} {x2 : Int32} {x3 : Int32} {x4 : Int32} {d5 : Option Value} {d6 : Option Value}, Rep E ad V M → kh V x1 x2 x3 x4 = some out → G E X RX12 cX12_holds 7 (some .boolean) false (rmD 2) P M [some (.ref (ad 2200 0)), some (.int (x1)), some (.int (x2)), some (.int (x3)), some (.int (x4)), d5, d6] 0 0 19 []) (hkx210 : ∀ {V : St} {M : MH} {d0 : Option Value} {d1 : Option Value} {d2 : Option Value} {d3 : Option Value} {d4 : Option Value} {d5 : Option Value} {d6 : Option Value}, Rep E ad V M → kx210 V  = some out → G E X RX12 cX12_holds 7 (some .boolean) false (rmD 2) P M [d0, d1, d2, d3, d4, d5, d6] 0 0 210 []) (hkx242 : ∀ {V : St} {M : MH} {d1 : Option Value} {d2 : Option Value} {d3 : Option Value} {d4 : Option Value} {d5 : Option Value} {d6 : Option Value}, Rep E ad V M → kx242 V  = some out → G E X RX12 cX12_holds 7 (some .boolean) false (rmD 2) P M [some (.ref (ad 2200 0)), d1, d2, d3, d4, d5, d6] 0 0 242 []) (hp : ∀ M, Rep E ad out.2 M → P (some (.int out.1)) M) {V : St} {M : MH} {x1 : Int32} {x2 : Int32} {x3 : Int32} {x4 : Int32} {x5 : Int32} {d6 : Option Value} (hR : Rep E ad V M) (h : F_X12_holds_212 kh kx210 kx242 fu V x1 x2 x3 x4 x5 = some out) : G E X RX12 cX12_holds 7 (some .boolean) false (rmD 2) P M [some (.ref (ad 2200 0)), some (.int (x1)), some (.int (x2)), some (.int (x3)), some (.int (x4)), some (.int (x5)), d6] 0 0 212 [] := by
  unfold F_X12_holds_212 at h
  refine r_aload_n DX12_holds_212 rfl ?_
  refine s_geta DX12_holds_213 fl_X12_178 hR ct_2200 (one_cnt _) rfl ?_
  refine r_iload_n DX12_holds_216 rfl ?_
  refine r_iconst (v := 1) DX12_holds_217 ki_1 ?_
  refine r_isub DX12_holds_218 ?_
  refine r_iload DX12_holds_219 rfl ?_
  refine r_aload_n DX12_holds_221 rfl ?_
  refine s_geta DX12_holds_222 fl_X12_178 hR ct_2200 (one_cnt _) rfl ?_
  refine r_iload_n DX12_holds_225 rfl ?_
  refine r_iconst (v := 1) DX12_holds_226 ki_1 ?_
  refine r_isub DX12_holds_227 ?_
  obtain ⟨hg1, h⟩ := gd_inv h
  refine s_iald DX12_holds_228 hR ct_2271 (one_cnt _) hg1 ?_
  refine r_aload_n DX12_holds_229 rfl ?_
  refine s_geta DX12_holds_230 fl_X12_178 hR ct_2200 (one_cnt _) rfl ?_
  refine r_iload_n DX12_holds_233 rfl ?_
  obtain ⟨hg2, h⟩ := gd_inv h
  refine s_iald DX12_holds_234 hR ct_2271 (one_cnt _) hg2 ?_
  obtain ⟨r3, V4, hc5, h⟩ := bd_inv h
  refine k_callS (As := [.int (x5), .int ((V 2271 (0) (x2 - (1 : Int32)).toNatClampNeg)), .int ((V 2271 (0) (x2).toNatClampNeg))]) (rest := [.int (x2 - (1 : Int32)), .ref (ad 2271 (0))]) (st1 := [.int (r3), .int (x2 - (1 : Int32)), .ref (ad 2271 (0))]) (w := some (.int r3)) DX12_holds_235 cs_X12_406 (C_X12_reckon (out := (r3, V4)) (cxL X) hR hc5) rfl (by decide) (by decide) rfl (Nat.le_of_ble_eq_true rfl) rfl (fun M hR => ?_)
  obtain ⟨hg6, h⟩ := gd_inv h
  obtain ⟨V7, hv8, h⟩ := bv_inv h
  refine s_iast DX12_holds_238 hR oka_2271 ct_2271 (one_cnt _) hg6 (fun M hR => ?_)
  have hR := hR.cg hv8
  exact S_X12_holds_239 (fun hR h => hkh hR h) (fun hR h => hkx210 hR h) (fun hR h => hkx242 hR h) hp hR h
theorem S_X12_holds_210 {E : EN} {X : CX} {P : Option Value → MH → Prop} {ad : AD} {fu : Nat} {out : Int32 × St} (hp : ∀ M, Rep E ad out.2 M → P (some (.int out.1)) M) {V : St} {M : MH} {d0 : Option Value} {d1 : Option Value} {d2 : Option Value} {d3 : Option Value} {d4 : Option Value} {d5 : Option Value} {d6 : Option Value} (hR : Rep E ad V M) (h : F_X12_holds_210 fu V = some out) : G E X RX12 cX12_holds 7 (some .boolean) false (rmD 2) P M [d0, d1, d2, d3, d4, d5, d6] 0 0 210 [] := by
  unfold F_X12_holds_210 at h
  refine r_iconst (v := 0) DX12_holds_210 ki_0 ?_
  cases h
  exact r_zret DX12_holds_211 rfl rfl ⟨Nat.le_refl 0, Nat.le_refl 0⟩ (hp M hR)
theorem S_X12_holds_201 {E : EN} {X : CX} {P : Option Value → MH → Prop} {ad : AD} {fu : Nat} {out : Int32 × St} {kh : St → Int32 → Int32 → Int32 → Int32 → RR} {kx210 : St → RR} {kx242 : St → RR} (hkh : ∀ {V : St} {M : MH} {x1 : Int32} {x2 : Int32} {x3 : Int32} {x4 : Int32} {d5 : Option Value} {d6 : Option Value}, Rep E ad V M → kh V x1 x2 x3 x4 = some out → G E X RX12 cX12_holds 7 (some .boolean) false (rmD 2) P M [some (.ref (ad 2200 0)), some (.int (x1)), some (.int (x2)), some (.int (x3)), some (.int (x4)), d5, d6] 0 0 19 []) (hkx210 : ∀ {V : St} {M : MH} {d0 : Option Value} {d1 : Option Value} {d2 : Option Value} {d3 : Option Value} {d4 : Option Value} {d5 : Option Value} {d6 : Option Value}, Rep E ad V M → kx210 V  = some out → G E X RX12 cX12_holds 7 (some .boolean) false (rmD 2) P M [d0, d1, d2, d3, d4, d5, d6] 0 0 210 []) (hkx242 : ∀ {V : St} {M : MH} {d1 : Option Value} {d2 : Option Value} {d3 : Option Value} {d4 : Option Value} {d5 : Option Value} {d6 : Option Value}, Rep E ad V M → kx242 V  = some out → G E X RX12 cX12_holds 7 (some .boolean) false (rmD 2) P M [some (.ref (ad 2200 0)), d1, d2, d3, d4, d5, d6] 0 0 242 []) (hp : ∀ M, Rep E ad out.2 M → P (some (.int out.1)) M) {V : St} {M : MH} {x1 : Int32} {x2 : Int32} {x3 : Int32} {x4 : Int32} {x5 : Int32} {d6 : Option Value} (hR : Rep E ad V M) (h : F_X12_holds_201 kh kx210 kx242 fu V x1 x2 x3 x4 x5 = some out) : G E X RX12 cX12_holds 7 (some .boolean) false (rmD 2) P M [some (.ref (ad 2200 0)), some (.int (x1)), some (.int (x2)), some (.int (x3)), some (.int (x4)), some (.int (x5)), d6] 0 0 201 [] := by
  unfold F_X12_holds_201 at h
  refine r_aload_n DX12_holds_201 rfl ?_
  refine s_geta DX12_holds_202 fl_X12_178 hR ct_2200 (one_cnt _) rfl ?_
  refine r_iload_n DX12_holds_205 rfl ?_
  obtain ⟨hg1, h⟩ := gd_inv h
  refine s_iald DX12_holds_206 hR ct_2271 (one_cnt _) hg1 ?_
  refine r_if_ne DX12_holds_207 (fun c2 => ?_) (fun c2 => ?_)
  · have h := if_f c2 h
    exact S_X12_holds_212 (fun hR h => hkh hR h) (fun hR h => hkx210 hR h) (fun hR h => hkx242 hR h) hp hR h
  · have h := if_t c2 h
    exact hkx210 hR h
theorem S_X12_holds_165 {E : EN} {X : CX} {P : Option Value → MH → Prop} {ad : AD} {fu : Nat} {out : Int32 × St} {kh : St → Int32 → Int32 → Int32 → Int32 → RR} {kx210 : St → RR} {kx242 : St → RR} (hkh : ∀ {V : St} {M : MH} {x1 : Int32} {x2 : Int32} {x3 : Int32} {x4 : Int32} {d5 : Option Value} {d6 : Option Value}, Rep E ad V M → kh V x1 x2 x3 x4 = some out → G E X RX12 cX12_holds 7 (some .boolean) false (rmD 2) P M [some (.ref (ad 2200 0)), some (.int (x1)), some (.int (x2)), some (.int (x3)), some (.int (x4)), d5, d6] 0 0 19 []) (hkx210 : ∀ {V : St} {M : MH} {d0 : Option Value} {d1 : Option Value} {d2 : Option Value} {d3 : Option Value} {d4 : Option Value} {d5 : Option Value} {d6 : Option Value}, Rep E ad V M → kx210 V  = some out → G E X RX12 cX12_holds 7 (some .boolean) false (rmD 2) P M [d0, d1, d2, d3, d4, d5, d6] 0 0 210 []) (hkx242 : ∀ {V : St} {M : MH} {d1 : Option Value} {d2 : Option Value} {d3 : Option Value} {d4 : Option Value} {d5 : Option Value} {d6 : Option Value}, Rep E ad V M → kx242 V  = some out → G E X RX12 cX12_holds 7 (some .boolean) false (rmD 2) P M [some (.ref (ad 2200 0)), d1, d2, d3, d4, d5, d6] 0 0 242 []) (hp : ∀ M, Rep E ad out.2 M → P (some (.int out.1)) M) {V : St} {M : MH} {x1 : Int32} {x2 : Int32} {x3 : Int32} {x4 : Int32} {x6 : Int32} {s0 : Int32} {s1 : Int32} {d5 : Option Value} (hR : Rep E ad V M) (h : F_X12_holds_165 kh kx210 kx242 fu V x1 x2 x3 x4 x6 s0 s1 = some out) : G E X RX12 cX12_holds 7 (some .boolean) false (rmD 2) P M [some (.ref (ad 2200 0)), some (.int (x1)), some (.int (x2)), some (.int (x3)), some (.int (x4)), d5, some (.int (x6))] 0 0 165 [.int (s0), .int (s1)] := by
  unfold F_X12_holds_165 at h
  refine r_icmp_ne DX12_holds_165 (fun c1 => ?_) (fun c1 => ?_)
  · have h := if_f c1 h
    refine r_iload_n DX12_holds_177 rfl ?_
    refine r_iconst (v := 1) DX12_holds_178 ki_1 ?_
    refine r_isub DX12_holds_179 ?_
    refine t_istore_n (L' := [some (.ref (ad 2200 0)), some (.int (x1)), some (.int (x2 - (1 : Int32))), some (.int (x3)), some (.int (x4)), d5, some (.int (x6))]) DX12_holds_180 (by decide) rfl ?_
    refine r_goto DX12_holds_181 ?_
    exact S_X12_holds_239 (fun hR h => hkh hR h) (fun hR h => hkx210 hR h) (fun hR h => hkx242 hR h) hp hR h
  · have h := if_t c1 h
    refine r_iload_n DX12_holds_168 rfl ?_
    refine r_iload DX12_holds_169 rfl ?_
    refine r_iadd DX12_holds_171 ?_
    refine t_istore (L' := [some (.ref (ad 2200 0)), some (.int (x1)), some (.int (x2)), some (.int (x3)), some (.int (x3 + x6)), d5, some (.int (x6))]) DX12_holds_172 (by decide) rfl ?_
    refine r_goto DX12_holds_174 ?_
    exact S_X12_holds_239 (fun hR h => hkh hR h) (fun hR h => hkx210 hR h) (fun hR h => hkx242 hR h) hp hR h
theorem S_X12_holds_145 {E : EN} {X : CX} {P : Option Value → MH → Prop} {ad : AD} {fu : Nat} {out : Int32 × St} {kh : St → Int32 → Int32 → Int32 → Int32 → RR} {kx210 : St → RR} {kx242 : St → RR} (hkh : ∀ {V : St} {M : MH} {x1 : Int32} {x2 : Int32} {x3 : Int32} {x4 : Int32} {d5 : Option Value} {d6 : Option Value}, Rep E ad V M → kh V x1 x2 x3 x4 = some out → G E X RX12 cX12_holds 7 (some .boolean) false (rmD 2) P M [some (.ref (ad 2200 0)), some (.int (x1)), some (.int (x2)), some (.int (x3)), some (.int (x4)), d5, d6] 0 0 19 []) (hkx210 : ∀ {V : St} {M : MH} {d0 : Option Value} {d1 : Option Value} {d2 : Option Value} {d3 : Option Value} {d4 : Option Value} {d5 : Option Value} {d6 : Option Value}, Rep E ad V M → kx210 V  = some out → G E X RX12 cX12_holds 7 (some .boolean) false (rmD 2) P M [d0, d1, d2, d3, d4, d5, d6] 0 0 210 []) (hkx242 : ∀ {V : St} {M : MH} {d1 : Option Value} {d2 : Option Value} {d3 : Option Value} {d4 : Option Value} {d5 : Option Value} {d6 : Option Value}, Rep E ad V M → kx242 V  = some out → G E X RX12 cX12_holds 7 (some .boolean) false (rmD 2) P M [some (.ref (ad 2200 0)), d1, d2, d3, d4, d5, d6] 0 0 242 []) (hp : ∀ M, Rep E ad out.2 M → P (some (.int out.1)) M) {V : St} {M : MH} {x1 : Int32} {x2 : Int32} {x3 : Int32} {x4 : Int32} {x5 : Int32} {x6 : Int32} (hR : Rep E ad V M) (h : F_X12_holds_145 kh kx210 kx242 fu V x1 x2 x3 x4 x5 x6 = some out) : G E X RX12 cX12_holds 7 (some .boolean) false (rmD 2) P M [some (.ref (ad 2200 0)), some (.int (x1)), some (.int (x2)), some (.int (x3)), some (.int (x4)), some (.int (x5)), some (.int (x6))] 0 0 145 [] := by
  unfold F_X12_holds_145 at h
  refine r_aload_n DX12_holds_145 rfl ?_
  refine s_geta DX12_holds_146 fl_X12_178 hR ct_2200 (one_cnt _) rfl ?_
  refine r_iload_n DX12_holds_149 rfl ?_
  refine r_iconst (v := 1) DX12_holds_150 ki_1 ?_
  refine r_isub DX12_holds_151 ?_
  obtain ⟨hg1, h⟩ := gd_inv h
  refine s_iald DX12_holds_152 hR ct_2271 (one_cnt _) hg1 ?_
  refine r_iload DX12_holds_153 rfl ?_
  refine r_bipush (v := 12) DX12_holds_155 kb_12 ?_
  refine r_icmp_ne DX12_holds_157 (fun c2 => ?_) (fun c2 => ?_)
  · have h := if_f c2 h
    refine r_iconst (v := 0) DX12_holds_164 ki_0 ?_
    exact S_X12_holds_165 (fun hR h => hkh hR h) (fun hR h => hkx210 hR h) (fun hR h => hkx242 hR h) hp hR h
  · have h := if_t c2 h
    refine r_iconst (v := 1) DX12_holds_160 ki_1 ?_
    refine r_goto DX12_holds_161 ?_
    exact S_X12_holds_165 (fun hR h => hkh hR h) (fun hR h => hkx210 hR h) (fun hR h => hkx242 hR h) hp hR h
theorem S_X12_holds_95 {E : EN} {X : CX} {P : Option Value → MH → Prop} {ad : AD} {fu : Nat} {out : Int32 × St} {kh : St → Int32 → Int32 → Int32 → Int32 → RR} {kx210 : St → RR} {kx242 : St → RR} (hkh : ∀ {V : St} {M : MH} {x1 : Int32} {x2 : Int32} {x3 : Int32} {x4 : Int32} {d5 : Option Value} {d6 : Option Value}, Rep E ad V M → kh V x1 x2 x3 x4 = some out → G E X RX12 cX12_holds 7 (some .boolean) false (rmD 2) P M [some (.ref (ad 2200 0)), some (.int (x1)), some (.int (x2)), some (.int (x3)), some (.int (x4)), d5, d6] 0 0 19 []) (hkx210 : ∀ {V : St} {M : MH} {d0 : Option Value} {d1 : Option Value} {d2 : Option Value} {d3 : Option Value} {d4 : Option Value} {d5 : Option Value} {d6 : Option Value}, Rep E ad V M → kx210 V  = some out → G E X RX12 cX12_holds 7 (some .boolean) false (rmD 2) P M [d0, d1, d2, d3, d4, d5, d6] 0 0 210 []) (hkx242 : ∀ {V : St} {M : MH} {d1 : Option Value} {d2 : Option Value} {d3 : Option Value} {d4 : Option Value} {d5 : Option Value} {d6 : Option Value}, Rep E ad V M → kx242 V  = some out → G E X RX12 cX12_holds 7 (some .boolean) false (rmD 2) P M [some (.ref (ad 2200 0)), d1, d2, d3, d4, d5, d6] 0 0 242 []) (hp : ∀ M, Rep E ad out.2 M → P (some (.int out.1)) M) {V : St} {M : MH} {x1 : Int32} {x2 : Int32} {x3 : Int32} {x4 : Int32} {s0 : Int32} {s1 : Int32} {d5 : Option Value} {d6 : Option Value} (hR : Rep E ad V M) (h : F_X12_holds_95 kh kx210 kx242 fu V x1 x2 x3 x4 s0 s1 = some out) : G E X RX12 cX12_holds 7 (some .boolean) false (rmD 2) P M [some (.ref (ad 2200 0)), some (.int (x1)), some (.int (x2)), some (.int (x3)), some (.int (x4)), d5, d6] 0 0 95 [.int (s0), .int (s1), .ref (ad 2271 (0))] := by
  unfold F_X12_holds_95 at h
  obtain ⟨hg1, h⟩ := gd_inv h
  obtain ⟨V2, hv3, h⟩ := bv_inv h
  refine s_iast DX12_holds_95 hR oka_2271 ct_2271 (one_cnt _) hg1 (fun M hR => ?_)
  have hR := hR.cg hv3
  refine r_iload_n DX12_holds_96 rfl ?_
  refine r_iconst (v := 1) DX12_holds_97 ki_1 ?_
  refine r_iadd DX12_holds_98 ?_
  refine t_istore_n (L' := [some (.ref (ad 2200 0)), some (.int (x1)), some (.int (x2 + (1 : Int32))), some (.int (x3)), some (.int (x4)), d5, d6]) DX12_holds_99 (by decide) rfl ?_
  refine r_goto DX12_holds_100 ?_
  exact S_X12_holds_239 (fun hR h => hkh hR h) (fun hR h => hkx210 hR h) (fun hR h => hkx242 hR h) hp hR h
theorem S_X12_holds_73 {E : EN} {X : CX} {P : Option Value → MH → Prop} {ad : AD} {fu : Nat} {out : Int32 × St} {kh : St → Int32 → Int32 → Int32 → Int32 → RR} {kx210 : St → RR} {kx242 : St → RR} (hkh : ∀ {V : St} {M : MH} {x1 : Int32} {x2 : Int32} {x3 : Int32} {x4 : Int32} {d5 : Option Value} {d6 : Option Value}, Rep E ad V M → kh V x1 x2 x3 x4 = some out → G E X RX12 cX12_holds 7 (some .boolean) false (rmD 2) P M [some (.ref (ad 2200 0)), some (.int (x1)), some (.int (x2)), some (.int (x3)), some (.int (x4)), d5, d6] 0 0 19 []) (hkx210 : ∀ {V : St} {M : MH} {d0 : Option Value} {d1 : Option Value} {d2 : Option Value} {d3 : Option Value} {d4 : Option Value} {d5 : Option Value} {d6 : Option Value}, Rep E ad V M → kx210 V  = some out → G E X RX12 cX12_holds 7 (some .boolean) false (rmD 2) P M [d0, d1, d2, d3, d4, d5, d6] 0 0 210 []) (hkx242 : ∀ {V : St} {M : MH} {d1 : Option Value} {d2 : Option Value} {d3 : Option Value} {d4 : Option Value} {d5 : Option Value} {d6 : Option Value}, Rep E ad V M → kx242 V  = some out → G E X RX12 cX12_holds 7 (some .boolean) false (rmD 2) P M [some (.ref (ad 2200 0)), d1, d2, d3, d4, d5, d6] 0 0 242 []) (hp : ∀ M, Rep E ad out.2 M → P (some (.int out.1)) M) {V : St} {M : MH} {x1 : Int32} {x2 : Int32} {x3 : Int32} {x4 : Int32} {x5 : Int32} {x6 : Int32} (hR : Rep E ad V M) (h : F_X12_holds_73 kh kx210 kx242 fu V x1 x2 x3 x4 x5 x6 = some out) : G E X RX12 cX12_holds 7 (some .boolean) false (rmD 2) P M [some (.ref (ad 2200 0)), some (.int (x1)), some (.int (x2)), some (.int (x3)), some (.int (x4)), some (.int (x5)), some (.int (x6))] 0 0 73 [] := by
  unfold F_X12_holds_73 at h
  refine r_aload_n DX12_holds_73 rfl ?_
  refine s_geta DX12_holds_74 fl_X12_178 hR ct_2200 (one_cnt _) rfl ?_
  refine r_iload_n DX12_holds_77 rfl ?_
  refine r_iload DX12_holds_78 rfl ?_
  refine r_if_ne DX12_holds_80 (fun c1 => ?_) (fun c1 => ?_)
  · have h := if_f c1 h
    refine r_aload_n DX12_holds_88 rfl ?_
    refine s_geta DX12_holds_89 fl_X12_181 hR ct_2200 (one_cnt _) rfl ?_
    refine r_iload DX12_holds_92 rfl ?_
    obtain ⟨hg2, h⟩ := gd_inv h
    refine s_iald DX12_holds_94 hR ct_2272 (one_cnt _) hg2 ?_
    exact S_X12_holds_95 (fun hR h => hkh hR h) (fun hR h => hkx210 hR h) (fun hR h => hkx242 hR h) hp hR h
  · have h := if_t c1 h
    refine r_iload DX12_holds_83 rfl ?_
    refine r_goto DX12_holds_85 ?_
    exact S_X12_holds_95 (fun hR h => hkh hR h) (fun hR h => hkx210 hR h) (fun hR h => hkx242 hR h) hp hR h
theorem S_X12_holds_19 {E : EN} {X : CX} {P : Option Value → MH → Prop} {ad : AD} {fu : Nat} {out : Int32 × St} {kh : St → Int32 → Int32 → Int32 → Int32 → RR} {kx210 : St → RR} {kx242 : St → RR} (hkh : ∀ {V : St} {M : MH} {x1 : Int32} {x2 : Int32} {x3 : Int32} {x4 : Int32} {d5 : Option Value} {d6 : Option Value}, Rep E ad V M → kh V x1 x2 x3 x4 = some out → G E X RX12 cX12_holds 7 (some .boolean) false (rmD 2) P M [some (.ref (ad 2200 0)), some (.int (x1)), some (.int (x2)), some (.int (x3)), some (.int (x4)), d5, d6] 0 0 19 []) (hkx210 : ∀ {V : St} {M : MH} {d0 : Option Value} {d1 : Option Value} {d2 : Option Value} {d3 : Option Value} {d4 : Option Value} {d5 : Option Value} {d6 : Option Value}, Rep E ad V M → kx210 V  = some out → G E X RX12 cX12_holds 7 (some .boolean) false (rmD 2) P M [d0, d1, d2, d3, d4, d5, d6] 0 0 210 []) (hkx242 : ∀ {V : St} {M : MH} {d1 : Option Value} {d2 : Option Value} {d3 : Option Value} {d4 : Option Value} {d5 : Option Value} {d6 : Option Value}, Rep E ad V M → kx242 V  = some out → G E X RX12 cX12_holds 7 (some .boolean) false (rmD 2) P M [some (.ref (ad 2200 0)), d1, d2, d3, d4, d5, d6] 0 0 242 []) (hp : ∀ M, Rep E ad out.2 M → P (some (.int out.1)) M) {V : St} {M : MH} {x1 : Int32} {x2 : Int32} {x3 : Int32} {x4 : Int32} {d5 : Option Value} {d6 : Option Value} (hR : Rep E ad V M) (h : F_X12_holds_19 kh kx210 kx242 fu V x1 x2 x3 x4 = some out) : G E X RX12 cX12_holds 7 (some .boolean) false (rmD 2) P M [some (.ref (ad 2200 0)), some (.int (x1)), some (.int (x2)), some (.int (x3)), some (.int (x4)), d5, d6] 0 0 19 [] := by
  unfold F_X12_holds_19 at h
  refine r_iload DX12_holds_19 rfl ?_
  refine r_aload_n DX12_holds_21 rfl ?_
  refine s_geta DX12_holds_22 fl_X12_166 hR ct_2200 (one_cnt _) rfl ?_
  refine r_iload_n DX12_holds_25 rfl ?_
  obtain ⟨hg1, h⟩ := gd_inv h
  refine s_iald DX12_holds_26 hR ct_2267 (one_cnt _) hg1 ?_
  refine r_icmp_ge DX12_holds_27 (fun c2 => ?_) (fun c2 => ?_)
  · have h := if_t c2 h
    exact hkx242 hR h
  · have h := if_f c2 h
    refine r_aload_n DX12_holds_30 rfl ?_
    refine s_geta DX12_holds_31 fl_X12_145 hR ct_2200 (one_cnt _) rfl ?_
    refine r_iload DX12_holds_34 rfl ?_
    obtain ⟨hg3, h⟩ := gd_inv h
    refine s_iald DX12_holds_36 hR ct_2260 (one_cnt _) hg3 ?_
    refine r_ldcw (v := 1048576) DX12_holds_37 ck_X12_328 ?_
    refine r_idiv DX12_holds_40 (by decide) ?_
    refine t_istore (L' := [some (.ref (ad 2200 0)), some (.int (x1)), some (.int (x2)), some (.int (x3)), some (.int (x4)), some (.int (((V 2260 (0) (x4).toNatClampNeg)) / ((1048576 : Int32)))), d6]) DX12_holds_41 (by decide) rfl ?_
    refine r_aload_n DX12_holds_43 rfl ?_
    refine s_geta DX12_holds_44 fl_X12_145 hR ct_2200 (one_cnt _) rfl ?_
    refine r_iload DX12_holds_47 rfl ?_
    obtain ⟨hg4, h⟩ := gd_inv h
    refine s_iald DX12_holds_49 hR ct_2260 (one_cnt _) hg4 ?_
    refine r_ldcw (v := 1048576) DX12_holds_50 ck_X12_328 ?_
    refine r_irem DX12_holds_53 (by decide) ?_
    refine t_istore (L' := [some (.ref (ad 2200 0)), some (.int (x1)), some (.int (x2)), some (.int (x3)), some (.int (x4)), some (.int (((V 2260 (0) (x4).toNatClampNeg)) / ((1048576 : Int32)))), some (.int (((V 2260 (0) (x4).toNatClampNeg)) - ((V 2260 (0) (x4).toNatClampNeg)) / ((1048576 : Int32)) * ((1048576 : Int32))))]) DX12_holds_54 (by decide) rfl ?_
    refine r_iload DX12_holds_56 rfl ?_
    refine r_iconst (v := 1) DX12_holds_58 ki_1 ?_
    refine r_iadd DX12_holds_59 ?_
    refine t_istore (L' := [some (.ref (ad 2200 0)), some (.int (x1)), some (.int (x2)), some (.int (x3)), some (.int (x4 + (1 : Int32))), some (.int (((V 2260 (0) (x4).toNatClampNeg)) / ((1048576 : Int32)))), some (.int (((V 2260 (0) (x4).toNatClampNeg)) - ((V 2260 (0) (x4).toNatClampNeg)) / ((1048576 : Int32)) * ((1048576 : Int32))))]) DX12_holds_60 (by decide) rfl ?_
    refine r_iload DX12_holds_62 rfl ?_
    refine r_if_eq DX12_holds_64 (fun c5 => ?_) (fun c5 => ?_)
    · have h := if_t c5 h
      exact S_X12_holds_73 (fun hR h => hkh hR h) (fun hR h => hkx210 hR h) (fun hR h => hkx242 hR h) hp hR h
    · have h := if_f c5 h
      refine r_iload DX12_holds_67 rfl ?_
      refine r_iconst (v := 1) DX12_holds_69 ki_1 ?_
      refine r_icmp_ne DX12_holds_70 (fun c6 => ?_) (fun c6 => ?_)
      · have h := if_f c6 h
        refine r_iload DX12_holds_103 rfl ?_
        refine r_bipush (v := 10) DX12_holds_105 kb_10 ?_
        refine r_icmp_ne DX12_holds_107 (fun c7 => ?_) (fun c7 => ?_)
        · have h := if_f c7 h
          refine r_iload DX12_holds_131 rfl ?_
          refine r_bipush (v := 11) DX12_holds_133 kb_11 ?_
          refine r_icmp_eq DX12_holds_135 (fun c8 => ?_) (fun c8 => ?_)
          · have h := if_t c8 h
            exact S_X12_holds_145 (fun hR h => hkh hR h) (fun hR h => hkx210 hR h) (fun hR h => hkx242 hR h) hp hR h
          · have h := if_f c8 h
            refine r_iload DX12_holds_138 rfl ?_
            refine r_bipush (v := 12) DX12_holds_140 kb_12 ?_
            refine r_icmp_ne DX12_holds_142 (fun c9 => ?_) (fun c9 => ?_)
            · have h := if_f c9 h
              refine r_iload_n DX12_holds_184 rfl ?_
              refine r_iconst (v := 1) DX12_holds_185 ki_1 ?_
              refine r_isub DX12_holds_186 ?_
              refine t_istore_n (L' := [some (.ref (ad 2200 0)), some (.int (x1)), some (.int (x2 - (1 : Int32))), some (.int (x3)), some (.int (x4 + (1 : Int32))), some (.int (((V 2260 (0) (x4).toNatClampNeg)) / ((1048576 : Int32)))), some (.int (((V 2260 (0) (x4).toNatClampNeg)) - ((V 2260 (0) (x4).toNatClampNeg)) / ((1048576 : Int32)) * ((1048576 : Int32))))]) DX12_holds_187 (by decide) rfl ?_
              refine r_iload DX12_holds_188 rfl ?_
              refine r_iconst (v := 5) DX12_holds_190 ki_5 ?_
              refine r_icmp_eq DX12_holds_191 (fun c10 => ?_) (fun c10 => ?_)
              · have h := if_t c10 h
                exact S_X12_holds_201 (fun hR h => hkh hR h) (fun hR h => hkx210 hR h) (fun hR h => hkx242 hR h) hp hR h
              · have h := if_f c10 h
                refine r_iload DX12_holds_194 rfl ?_
                refine r_bipush (v := 6) DX12_holds_196 kb_6 ?_
                refine r_icmp_ne DX12_holds_198 (fun c11 => ?_) (fun c11 => ?_)
                · have h := if_f c11 h
                  exact S_X12_holds_212 (fun hR h => hkh hR h) (fun hR h => hkx210 hR h) (fun hR h => hkx242 hR h) hp hR h
                · have h := if_t c11 h
                  exact S_X12_holds_201 (fun hR h => hkh hR h) (fun hR h => hkx210 hR h) (fun hR h => hkx242 hR h) hp hR h
            · have h := if_t c9 h
              exact S_X12_holds_145 (fun hR h => hkh hR h) (fun hR h => hkx210 hR h) (fun hR h => hkx242 hR h) hp hR h
        · have h := if_t c7 h
          refine r_aload_n DX12_holds_110 rfl ?_
          refine s_geta DX12_holds_111 fl_X12_178 hR ct_2200 (one_cnt _) rfl ?_
          refine r_iload_n DX12_holds_114 rfl ?_
          refine r_iconst (v := 1) DX12_holds_115 ki_1 ?_
          refine r_isub DX12_holds_116 ?_
          refine r_iconst (v := 1) DX12_holds_117 ki_1 ?_
          refine r_aload_n DX12_holds_118 rfl ?_
          refine s_geta DX12_holds_119 fl_X12_178 hR ct_2200 (one_cnt _) rfl ?_
          refine r_iload_n DX12_holds_122 rfl ?_
          refine r_iconst (v := 1) DX12_holds_123 ki_1 ?_
          refine r_isub DX12_holds_124 ?_
          obtain ⟨hg8, h⟩ := gd_inv h
          refine s_iald DX12_holds_125 hR ct_2271 (one_cnt _) hg8 ?_
          refine r_isub DX12_holds_126 ?_
          obtain ⟨hg9, h⟩ := gd_inv h
          obtain ⟨V10, hv11, h⟩ := bv_inv h
          refine s_iast DX12_holds_127 hR oka_2271 ct_2271 (one_cnt _) hg9 (fun M hR => ?_)
          have hR := hR.cg hv11
          refine r_goto DX12_holds_128 ?_
          exact S_X12_holds_239 (fun hR h => hkh hR h) (fun hR h => hkx210 hR h) (fun hR h => hkx242 hR h) hp hR h
      · have h := if_t c6 h
        exact S_X12_holds_73 (fun hR h => hkh hR h) (fun hR h => hkx210 hR h) (fun hR h => hkx242 hR h) hp hR h
theorem SL_X12_holds_19 {E : EN} {X : CX} {P : Option Value → MH → Prop} {ad : AD} {fu : Nat} {out : Int32 × St} {kx210 : St → RR} {kx242 : St → RR} (hkx210 : ∀ {V : St} {M : MH} {d0 : Option Value} {d1 : Option Value} {d2 : Option Value} {d3 : Option Value} {d4 : Option Value} {d5 : Option Value} {d6 : Option Value}, Rep E ad V M → kx210 V  = some out → G E X RX12 cX12_holds 7 (some .boolean) false (rmD 2) P M [d0, d1, d2, d3, d4, d5, d6] 0 0 210 []) (hkx242 : ∀ {V : St} {M : MH} {d1 : Option Value} {d2 : Option Value} {d3 : Option Value} {d4 : Option Value} {d5 : Option Value} {d6 : Option Value}, Rep E ad V M → kx242 V  = some out → G E X RX12 cX12_holds 7 (some .boolean) false (rmD 2) P M [some (.ref (ad 2200 0)), d1, d2, d3, d4, d5, d6] 0 0 242 []) (hp : ∀ M, Rep E ad out.2 M → P (some (.int out.1)) M) : ∀ (n : Nat) {V : St} {M : MH} {x1 : Int32} {x2 : Int32} {x3 : Int32} {x4 : Int32} {d5 : Option Value} {d6 : Option Value}, Rep E ad V M → Lp_X12_holds_19 kx210 kx242 fu n V x1 x2 x3 x4 = some out → G E X RX12 cX12_holds 7 (some .boolean) false (rmD 2) P M [some (.ref (ad 2200 0)), some (.int (x1)), some (.int (x2)), some (.int (x3)), some (.int (x4)), d5, d6] 0 0 19 [] := by
  intro n
  induction n with
  | zero => intros; rename_i h; cases h
  | succ n ih => exact fun hR h => S_X12_holds_19 (fun hR h => ih hR h) (fun hR h => hkx210 hR h) (fun hR h => hkx242 hR h) hp hR h
theorem S_X12_holds_0 {E : EN} {X : CX} {P : Option Value → MH → Prop} {ad : AD} {fu : Nat} {out : Int32 × St} (hp : ∀ M, Rep E ad out.2 M → P (some (.int out.1)) M) {V : St} {M : MH} {x1 : Int32} (hR : Rep E ad V M) (h : f_X12_holds fu V x1 = some out) : G E X RX12 cX12_holds 7 (some .boolean) false (rmD 2) P M [some (.ref (ad 2200 0)), some (.int (x1)), none, none, none, none, none] 0 0 0 [] := by
  unfold f_X12_holds at h
  refine r_iconst (v := 0) DX12_holds_0 ki_0 ?_
  refine t_istore_n (L' := [some (.ref (ad 2200 0)), some (.int (x1)), some (.int ((0 : Int32))), none, none, none, none]) DX12_holds_1 (by decide) rfl ?_
  refine r_sipush (v := 180) DX12_holds_2 ks_180 ?_
  refine r_iload_n DX12_holds_5 rfl ?_
  refine r_bipush (v := 12) DX12_holds_6 kb_12 ?_
  refine r_idiv DX12_holds_8 (by decide) ?_
  refine r_imul DX12_holds_9 ?_
  refine t_istore_n (L' := [some (.ref (ad 2200 0)), some (.int (x1)), some (.int ((0 : Int32))), some (.int ((180 : Int32) * ((x1) / ((12 : Int32))))), none, none, none]) DX12_holds_10 (by decide) rfl ?_
  refine r_aload_n DX12_holds_11 rfl ?_
  refine s_geta DX12_holds_12 fl_X12_163 hR ct_2200 (one_cnt _) rfl ?_
  refine r_iload_n DX12_holds_15 rfl ?_
  obtain ⟨hg1, h⟩ := gd_inv h
  refine s_iald DX12_holds_16 hR ct_2266 (one_cnt _) hg1 ?_
  refine t_istore (L' := [some (.ref (ad 2200 0)), some (.int (x1)), some (.int ((0 : Int32))), some (.int ((180 : Int32) * ((x1) / ((12 : Int32))))), some (.int ((V 2266 (0) (x1).toNatClampNeg))), none, none]) DX12_holds_17 (by decide) rfl ?_
  exact SL_X12_holds_19 (fun hR h => S_X12_holds_210 hp hR h) (fun hR h => S_X12_holds_242 hp hR h) hp fu hR h
theorem C_X12_holds {E : EN} {ad : AD} {fu : Nat} {out : Int32 × St} {V : St} {M : MH} {x1 : Int32} (l : Launch) (hR : Rep E ad V M) (h : f_X12_holds fu V x1 = some out) : Ct E l yX12_holds cX12_holds 7 (some .boolean) (rmD 2) [.ref (ad 2200 0), .int (x1)] M (fun v M => v = (some (.int out.1)) ∧ Rep E ad out.2 M) :=
  Ct.of (own := RX12) (ini := false) (L := [some (.ref (ad 2200 0)), some (.int (x1)), none, none, none, none, none]) rfl rfl (fun h => by cases h) rfl (Nat.le_of_ble_eq_true rfl) rfl (fun X _ => S_X12_holds_0 (fun M hR => ⟨rfl, hR⟩) hR h)
theorem S_X12_isForce_42 {E : EN} {X : CX} {P : Option Value → MH → Prop} {ad : AD} {fu : Nat} {out : Int32 × St} (hp : ∀ M, Rep E ad out.2 M → P (some (.int out.1)) M) {V : St} {M : MH} {s0 : Int32} {d0 : Option Value} {d1 : Option Value} {d2 : Option Value} {d3 : Option Value} (hR : Rep E ad V M) (h : F_X12_isForce_42 fu V s0 = some out) : G E X RX12 cX12_isForce 4 (some .boolean) false (rmD 2) P M [d0, d1, d2, d3] 0 0 42 [.int (s0)] := by
  unfold F_X12_isForce_42 at h
  obtain ⟨hz1, h⟩ := gd_inv h
  cases h
  exact r_zret DX12_isForce_42 rfl (nz_nar hz1) ⟨Nat.le_refl 0, Nat.le_refl 0⟩ (hp M hR)
theorem S_X12_isForce_41 {E : EN} {X : CX} {P : Option Value → MH → Prop} {ad : AD} {fu : Nat} {out : Int32 × St} (hp : ∀ M, Rep E ad out.2 M → P (some (.int out.1)) M) {V : St} {M : MH} {d0 : Option Value} {d1 : Option Value} {d2 : Option Value} {d3 : Option Value} (hR : Rep E ad V M) (h : F_X12_isForce_41 fu V = some out) : G E X RX12 cX12_isForce 4 (some .boolean) false (rmD 2) P M [d0, d1, d2, d3] 0 0 41 [] := by
  unfold F_X12_isForce_41 at h
  refine r_iconst (v := 0) DX12_isForce_41 ki_0 ?_
  exact S_X12_isForce_42 hp hR h
theorem S_X12_isForce_0 {E : EN} {X : CX} {P : Option Value → MH → Prop} {ad : AD} {fu : Nat} {out : Int32 × St} (hp : ∀ M, Rep E ad out.2 M → P (some (.int out.1)) M) {V : St} {M : MH} {x1 : Int32} {x2 : Int32} {x3 : Int32} (hR : Rep E ad V M) (h : f_X12_isForce fu V x1 x2 x3 = some out) : G E X RX12 cX12_isForce 4 (some .boolean) false (rmD 2) P M [some (.ref (ad 2200 0)), some (.int (x1)), some (.int (x2)), some (.int (x3))] 0 0 0 [] := by
  unfold f_X12_isForce at h
  refine r_iload_n DX12_isForce_0 rfl ?_
  refine r_aload_n DX12_isForce_1 rfl ?_
  refine s_geti DX12_isForce_2 fl_X12_141 hR ct_2200 (one_cnt _) rfl ?_
  refine r_icmp_eq DX12_isForce_5 (fun c1 => ?_) (fun c1 => ?_)
  · have h := if_t c1 h
    exact S_X12_isForce_41 hp hR h
  · have h := if_f c1 h
    refine r_aload_n DX12_isForce_8 rfl ?_
    refine s_geta DX12_isForce_9 fl_X12_154 hR ct_2200 (one_cnt _) rfl ?_
    refine r_iload_n DX12_isForce_12 rfl ?_
    obtain ⟨hg2, h⟩ := gd_inv h
    refine s_iald DX12_isForce_13 hR ct_2263 (one_cnt _) hg2 ?_
    refine r_iload_n DX12_isForce_14 rfl ?_
    refine r_icmp_gt DX12_isForce_15 (fun c3 => ?_) (fun c3 => ?_)
    · have h := if_t c3 h
      exact S_X12_isForce_41 hp hR h
    · have h := if_f c3 h
      refine r_iload_n DX12_isForce_18 rfl ?_
      refine r_aload_n DX12_isForce_19 rfl ?_
      refine s_geta DX12_isForce_20 fl_X12_148 hR ct_2200 (one_cnt _) rfl ?_
      refine r_iload_n DX12_isForce_23 rfl ?_
      obtain ⟨hg4, h⟩ := gd_inv h
      refine s_iald DX12_isForce_24 hR ct_2261 (one_cnt _) hg4 ?_
      refine r_aload_n DX12_isForce_25 rfl ?_
      refine s_geta DX12_isForce_26 fl_X12_151 hR ct_2200 (one_cnt _) rfl ?_
      refine r_iload_n DX12_isForce_29 rfl ?_
      obtain ⟨hg5, h⟩ := gd_inv h
      refine s_iald DX12_isForce_30 hR ct_2262 (one_cnt _) hg5 ?_
      obtain ⟨r6, V7, hc8, h⟩ := bd_inv h
      refine k_callS (As := [.int (x2), .int ((V 2261 (0) (x1).toNatClampNeg)), .int ((V 2262 (0) (x1).toNatClampNeg))]) (rest := []) (st1 := [.int (r6)]) (w := some (.int r6)) DX12_isForce_31 cs_X12_245 (C_X12_in (out := (r6, V7)) (cxL X) hR hc8) rfl (by decide) (by decide) rfl (Nat.le_of_ble_eq_true rfl) rfl (fun M hR => ?_)
      refine r_if_eq DX12_isForce_34 (fun c9 => ?_) (fun c9 => ?_)
      · have h := if_t c9 h
        exact S_X12_isForce_41 hp hR h
      · have h := if_f c9 h
        refine r_iconst (v := 1) DX12_isForce_37 ki_1 ?_
        refine r_goto DX12_isForce_38 ?_
        exact S_X12_isForce_42 hp hR h
theorem C_X12_isForce {E : EN} {ad : AD} {fu : Nat} {out : Int32 × St} {V : St} {M : MH} {x1 : Int32} {x2 : Int32} {x3 : Int32} (l : Launch) (hR : Rep E ad V M) (h : f_X12_isForce fu V x1 x2 x3 = some out) : Ct E l yX12_isForce cX12_isForce 4 (some .boolean) (rmD 2) [.ref (ad 2200 0), .int (x1), .int (x2), .int (x3)] M (fun v M => v = (some (.int out.1)) ∧ Rep E ad out.2 M) :=
  Ct.of (own := RX12) (ini := false) (L := [some (.ref (ad 2200 0)), some (.int (x1)), some (.int (x2)), some (.int (x3))]) rfl rfl (fun h => by cases h) rfl (Nat.le_of_ble_eq_true rfl) rfl (fun X _ => S_X12_isForce_0 (fun M hR => ⟨rfl, hR⟩) hR h)
theorem S_X12_setsFacts_203 {E : EN} {X : CX} {P : Option Value → MH → Prop} {ad : AD} {fu : Nat} {out : Int32 × St} (hp : ∀ M, Rep E ad out.2 M → P none M) {V : St} {M : MH} {d0 : Option Value} {d1 : Option Value} {d2 : Option Value} {d3 : Option Value} {d4 : Option Value} (hR : Rep E ad V M) (h : F_X12_setsFacts_203 fu V = some out) : G E X RX12 cX12_setsFacts 5 none false (rmD 1) P M [d0, d1, d2, d3, d4] 0 0 203 [] := by
  unfold F_X12_setsFacts_203 at h
  cases h
  exact r_vret DX12_setsFacts_203 rfl ⟨Nat.le_refl 0, Nat.le_refl 0⟩ (hp M hR)
theorem S_X12_setsFacts_189 {E : EN} {X : CX} {P : Option Value → MH → Prop} {ad : AD} {fu : Nat} {out : Int32 × St} (hp : ∀ M, Rep E ad out.2 M → P none M) {V : St} {M : MH} {x2 : Int32} {s0 : Int32} {s1 : Int32} {d1 : Option Value} {d3 : Option Value} {d4 : Option Value} (hR : Rep E ad V M) (h : F_X12_setsFacts_189 fu V x2 s0 s1 = some out) : G E X RX12 cX12_setsFacts 5 none false (rmD 1) P M [some (.ref (ad 2200 0)), d1, some (.int (x2)), d3, d4] 0 0 189 [.int (s0), .int (s1), .ref (ad 2272 (0))] := by
  unfold F_X12_setsFacts_189 at h
  obtain ⟨hg1, h⟩ := gd_inv h
  obtain ⟨V2, hv3, h⟩ := bv_inv h
  refine s_iast DX12_setsFacts_189 hR oka_2272 ct_2272 (one_cnt _) hg1 (fun M hR => ?_)
  have hR := hR.cg hv3
  refine r_aload_n DX12_setsFacts_190 rfl ?_
  refine s_geta DX12_setsFacts_191 fl_X12_181 hR ct_2200 (one_cnt _) rfl ?_
  refine r_bipush (v := 8) DX12_setsFacts_194 kb_8 ?_
  refine r_aload_n DX12_setsFacts_196 rfl ?_
  refine s_geta DX12_setsFacts_197 fl_X12_97 hR ct_2200 (one_cnt _) rfl ?_
  refine r_iload_n DX12_setsFacts_200 rfl ?_
  obtain ⟨hg4, h⟩ := gd_inv h
  refine s_iald DX12_setsFacts_201 hR ct_2235 (one_cnt _) hg4 ?_
  obtain ⟨hg5, h⟩ := gd_inv h
  obtain ⟨V6, hv7, h⟩ := bv_inv h
  refine s_iast DX12_setsFacts_202 hR oka_2272 ct_2272 (one_cnt _) hg5 (fun M hR => ?_)
  have hR := hR.cg hv7
  exact S_X12_setsFacts_203 hp hR h
theorem S_X12_setsFacts_151 {E : EN} {X : CX} {P : Option Value → MH → Prop} {ad : AD} {fu : Nat} {out : Int32 × St} (hp : ∀ M, Rep E ad out.2 M → P none M) {V : St} {M : MH} {x2 : Int32} {d1 : Option Value} {d3 : Option Value} {d4 : Option Value} (hR : Rep E ad V M) (h : F_X12_setsFacts_151 fu V x2 = some out) : G E X RX12 cX12_setsFacts 5 none false (rmD 1) P M [some (.ref (ad 2200 0)), d1, some (.int (x2)), d3, d4] 0 0 151 [] := by
  unfold F_X12_setsFacts_151 at h
  refine r_iload_n DX12_setsFacts_151 rfl ?_
  refine r_iconst (v := -1) DX12_setsFacts_152 ki_m1 ?_
  refine r_icmp_eq DX12_setsFacts_153 (fun c1 => ?_) (fun c1 => ?_)
  · have h := if_t c1 h
    exact S_X12_setsFacts_203 hp hR h
  · have h := if_f c1 h
    refine r_aload_n DX12_setsFacts_156 rfl ?_
    refine s_geta DX12_setsFacts_157 fl_X12_181 hR ct_2200 (one_cnt _) rfl ?_
    refine r_bipush (v := 6) DX12_setsFacts_160 kb_6 ?_
    refine r_aload_n DX12_setsFacts_162 rfl ?_
    refine s_geta DX12_setsFacts_163 fl_X12_91 hR ct_2200 (one_cnt _) rfl ?_
    refine r_iload_n DX12_setsFacts_166 rfl ?_
    obtain ⟨hg2, h⟩ := gd_inv h
    refine s_iald DX12_setsFacts_167 hR ct_2233 (one_cnt _) hg2 ?_
    obtain ⟨hg3, h⟩ := gd_inv h
    obtain ⟨V4, hv5, h⟩ := bv_inv h
    refine s_iast DX12_setsFacts_168 hR oka_2272 ct_2272 (one_cnt _) hg3 (fun M hR => ?_)
    have hR := hR.cg hv5
    refine r_aload_n DX12_setsFacts_169 rfl ?_
    refine s_geta DX12_setsFacts_170 fl_X12_181 hR ct_2200 (one_cnt _) rfl ?_
    refine r_bipush (v := 7) DX12_setsFacts_173 kb_7 ?_
    refine r_aload_n DX12_setsFacts_175 rfl ?_
    refine s_geta DX12_setsFacts_176 fl_X12_112 hR ct_2200 (one_cnt _) rfl ?_
    refine r_iload_n DX12_setsFacts_179 rfl ?_
    obtain ⟨hg6, h⟩ := gd_inv h
    refine s_zald DX12_setsFacts_180 hR ct_2240 (one_cnt _) hg6 ?_
    refine r_if_eq DX12_setsFacts_181 (fun c7 => ?_) (fun c7 => ?_)
    · have h := if_t c7 h
      refine r_iconst (v := 0) DX12_setsFacts_188 ki_0 ?_
      exact S_X12_setsFacts_189 hp hR h
    · have h := if_f c7 h
      refine r_iconst (v := 1) DX12_setsFacts_184 ki_1 ?_
      refine r_goto DX12_setsFacts_185 ?_
      exact S_X12_setsFacts_189 hp hR h
theorem S_X12_setsFacts_150 {E : EN} {X : CX} {P : Option Value → MH → Prop} {ad : AD} {fu : Nat} {out : Int32 × St} (hp : ∀ M, Rep E ad out.2 M → P none M) {V : St} {M : MH} {x2 : Int32} {s0 : Int32} {s1 : Int32} {d1 : Option Value} {d3 : Option Value} {d4 : Option Value} (hR : Rep E ad V M) (h : F_X12_setsFacts_150 fu V x2 s0 s1 = some out) : G E X RX12 cX12_setsFacts 5 none false (rmD 1) P M [some (.ref (ad 2200 0)), d1, some (.int (x2)), d3, d4] 0 0 150 [.int (s0), .int (s1), .ref (ad 2272 (0))] := by
  unfold F_X12_setsFacts_150 at h
  obtain ⟨hg1, h⟩ := gd_inv h
  obtain ⟨V2, hv3, h⟩ := bv_inv h
  refine s_iast DX12_setsFacts_150 hR oka_2272 ct_2272 (one_cnt _) hg1 (fun M hR => ?_)
  have hR := hR.cg hv3
  exact S_X12_setsFacts_151 hp hR h
theorem S_X12_setsFacts_96 {E : EN} {X : CX} {P : Option Value → MH → Prop} {ad : AD} {fu : Nat} {out : Int32 × St} (hp : ∀ M, Rep E ad out.2 M → P none M) {V : St} {M : MH} {x1 : Int32} {x2 : Int32} {s0 : Int32} {s1 : Int32} {d3 : Option Value} {d4 : Option Value} (hR : Rep E ad V M) (h : F_X12_setsFacts_96 fu V x1 x2 s0 s1 = some out) : G E X RX12 cX12_setsFacts 5 none false (rmD 1) P M [some (.ref (ad 2200 0)), some (.int (x1)), some (.int (x2)), d3, d4] 0 0 96 [.int (s0), .int (s1), .ref (ad 2272 (0))] := by
  unfold F_X12_setsFacts_96 at h
  obtain ⟨hg1, h⟩ := gd_inv h
  obtain ⟨V2, hv3, h⟩ := bv_inv h
  refine s_iast DX12_setsFacts_96 hR oka_2272 ct_2272 (one_cnt _) hg1 (fun M hR => ?_)
  have hR := hR.cg hv3
  refine r_aload_n DX12_setsFacts_97 rfl ?_
  refine s_geta DX12_setsFacts_98 fl_X12_181 hR ct_2200 (one_cnt _) rfl ?_
  refine r_iconst (v := 3) DX12_setsFacts_101 ki_3 ?_
  refine r_aload_n DX12_setsFacts_102 rfl ?_
  refine s_geta DX12_setsFacts_103 fl_X12_49 hR ct_2200 (one_cnt _) rfl ?_
  refine r_iload_n DX12_setsFacts_106 rfl ?_
  obtain ⟨hg4, h⟩ := gd_inv h
  refine s_iald DX12_setsFacts_107 hR ct_2218 (one_cnt _) hg4 ?_
  obtain ⟨hg5, h⟩ := gd_inv h
  obtain ⟨V6, hv7, h⟩ := bv_inv h
  refine s_iast DX12_setsFacts_108 hR oka_2272 ct_2272 (one_cnt _) hg5 (fun M hR => ?_)
  have hR := hR.cg hv7
  refine r_aload_n DX12_setsFacts_109 rfl ?_
  refine s_geta DX12_setsFacts_110 fl_X12_181 hR ct_2200 (one_cnt _) rfl ?_
  refine r_iconst (v := 4) DX12_setsFacts_113 ki_4 ?_
  refine r_aload_n DX12_setsFacts_114 rfl ?_
  refine s_geta DX12_setsFacts_115 fl_X12_52 hR ct_2200 (one_cnt _) rfl ?_
  refine r_iload_n DX12_setsFacts_118 rfl ?_
  obtain ⟨hg8, h⟩ := gd_inv h
  refine s_iald DX12_setsFacts_119 hR ct_2219 (one_cnt _) hg8 ?_
  obtain ⟨hg9, h⟩ := gd_inv h
  obtain ⟨V10, hv11, h⟩ := bv_inv h
  refine s_iast DX12_setsFacts_120 hR oka_2272 ct_2272 (one_cnt _) hg9 (fun M hR => ?_)
  have hR := hR.cg hv11
  refine r_aload_n DX12_setsFacts_121 rfl ?_
  refine s_geta DX12_setsFacts_122 fl_X12_181 hR ct_2200 (one_cnt _) rfl ?_
  refine r_iconst (v := 5) DX12_setsFacts_125 ki_5 ?_
  refine r_aload_n DX12_setsFacts_126 rfl ?_
  refine s_geta DX12_setsFacts_127 fl_X12_43 hR ct_2200 (one_cnt _) rfl ?_
  refine r_iload_n DX12_setsFacts_130 rfl ?_
  obtain ⟨hg12, h⟩ := gd_inv h
  refine s_iald DX12_setsFacts_131 hR ct_2216 (one_cnt _) hg12 ?_
  refine r_if_ne DX12_setsFacts_132 (fun c13 => ?_) (fun c13 => ?_)
  · have h := if_f c13 h
    refine r_iconst (v := 0) DX12_setsFacts_149 ki_0 ?_
    exact S_X12_setsFacts_150 hp hR h
  · have h := if_t c13 h
    refine r_aload_n DX12_setsFacts_135 rfl ?_
    refine s_geta DX12_setsFacts_136 fl_X12_13 hR ct_2200 (one_cnt _) rfl ?_
    refine r_aload_n DX12_setsFacts_139 rfl ?_
    refine s_geta DX12_setsFacts_140 fl_X12_46 hR ct_2200 (one_cnt _) rfl ?_
    refine r_iload_n DX12_setsFacts_143 rfl ?_
    obtain ⟨hg14, h⟩ := gd_inv h
    refine s_iald DX12_setsFacts_144 hR ct_2217 (one_cnt _) hg14 ?_
    obtain ⟨hg15, h⟩ := gd_inv h
    refine s_iald DX12_setsFacts_145 hR ct_2206 (one_cnt _) hg15 ?_
    refine r_goto DX12_setsFacts_146 ?_
    exact S_X12_setsFacts_150 hp hR h
theorem S_X12_setsFacts_24 {E : EN} {X : CX} {P : Option Value → MH → Prop} {ad : AD} {fu : Nat} {out : Int32 × St} (hp : ∀ M, Rep E ad out.2 M → P none M) {V : St} {M : MH} {x1 : Int32} {x2 : Int32} {x3 : Int32} {d4 : Option Value} (hR : Rep E ad V M) (h : F_X12_setsFacts_24 fu V x1 x2 x3 = some out) : G E X RX12 cX12_setsFacts 5 none false (rmD 1) P M [some (.ref (ad 2200 0)), some (.int (x1)), some (.int (x2)), some (.int (x3)), d4] 0 0 24 [] := by
  unfold F_X12_setsFacts_24 at h
  refine r_aload_n DX12_setsFacts_24 rfl ?_
  refine s_geta DX12_setsFacts_25 fl_X12_181 hR ct_2200 (one_cnt _) rfl ?_
  refine r_iconst (v := 0) DX12_setsFacts_28 ki_0 ?_
  refine r_iload_n DX12_setsFacts_29 rfl ?_
  obtain ⟨hg1, h⟩ := gd_inv h
  obtain ⟨V2, hv3, h⟩ := bv_inv h
  refine s_iast DX12_setsFacts_30 hR oka_2272 ct_2272 (one_cnt _) hg1 (fun M hR => ?_)
  have hR := hR.cg hv3
  refine r_iload_n DX12_setsFacts_31 rfl ?_
  refine r_iconst (v := -1) DX12_setsFacts_32 ki_m1 ?_
  refine r_icmp_eq DX12_setsFacts_33 (fun c4 => ?_) (fun c4 => ?_)
  · have h := if_t c4 h
    exact S_X12_setsFacts_151 hp hR h
  · have h := if_f c4 h
    refine r_aload_n DX12_setsFacts_36 rfl ?_
    refine s_geta DX12_setsFacts_37 fl_X12_181 hR ct_2200 (one_cnt _) rfl ?_
    refine r_iconst (v := 1) DX12_setsFacts_40 ki_1 ?_
    refine r_aload_n DX12_setsFacts_41 rfl ?_
    refine s_geta DX12_setsFacts_42 fl_X12_43 hR ct_2200 (one_cnt _) rfl ?_
    refine r_iload_n DX12_setsFacts_45 rfl ?_
    obtain ⟨hg5, h⟩ := gd_inv h
    refine s_iald DX12_setsFacts_46 hR ct_2216 (one_cnt _) hg5 ?_
    obtain ⟨hg6, h⟩ := gd_inv h
    obtain ⟨V7, hv8, h⟩ := bv_inv h
    refine s_iast DX12_setsFacts_47 hR oka_2272 ct_2272 (one_cnt _) hg6 (fun M hR => ?_)
    have hR := hR.cg hv8
    refine r_aload_n DX12_setsFacts_48 rfl ?_
    refine s_geta DX12_setsFacts_49 fl_X12_181 hR ct_2200 (one_cnt _) rfl ?_
    refine r_iconst (v := 2) DX12_setsFacts_52 ki_2 ?_
    refine r_aload_n DX12_setsFacts_53 rfl ?_
    refine s_geta DX12_setsFacts_54 fl_X12_43 hR ct_2200 (one_cnt _) rfl ?_
    refine r_iload_n DX12_setsFacts_57 rfl ?_
    obtain ⟨hg9, h⟩ := gd_inv h
    refine s_iald DX12_setsFacts_58 hR ct_2216 (one_cnt _) hg9 ?_
    refine r_if_ne DX12_setsFacts_59 (fun c10 => ?_) (fun c10 => ?_)
    · have h := if_f c10 h
      refine r_aload_n DX12_setsFacts_76 rfl ?_
      refine s_geta DX12_setsFacts_77 fl_X12_43 hR ct_2200 (one_cnt _) rfl ?_
      refine r_iload_n DX12_setsFacts_80 rfl ?_
      obtain ⟨hg11, h⟩ := gd_inv h
      refine s_iald DX12_setsFacts_81 hR ct_2216 (one_cnt _) hg11 ?_
      refine r_iconst (v := 1) DX12_setsFacts_82 ki_1 ?_
      refine r_icmp_ne DX12_setsFacts_83 (fun c12 => ?_) (fun c12 => ?_)
      · have h := if_f c12 h
        refine r_iconst (v := 0) DX12_setsFacts_95 ki_0 ?_
        exact S_X12_setsFacts_96 hp hR h
      · have h := if_t c12 h
        refine r_aload_n DX12_setsFacts_86 rfl ?_
        refine s_geta DX12_setsFacts_87 fl_X12_46 hR ct_2200 (one_cnt _) rfl ?_
        refine r_iload_n DX12_setsFacts_90 rfl ?_
        obtain ⟨hg13, h⟩ := gd_inv h
        refine s_iald DX12_setsFacts_91 hR ct_2217 (one_cnt _) hg13 ?_
        refine r_goto DX12_setsFacts_92 ?_
        exact S_X12_setsFacts_96 hp hR h
    · have h := if_t c10 h
      refine r_aload_n DX12_setsFacts_62 rfl ?_
      refine s_geta DX12_setsFacts_63 fl_X12_7 hR ct_2200 (one_cnt _) rfl ?_
      refine r_aload_n DX12_setsFacts_66 rfl ?_
      refine s_geta DX12_setsFacts_67 fl_X12_46 hR ct_2200 (one_cnt _) rfl ?_
      refine r_iload_n DX12_setsFacts_70 rfl ?_
      obtain ⟨hg12, h⟩ := gd_inv h
      refine s_iald DX12_setsFacts_71 hR ct_2217 (one_cnt _) hg12 ?_
      obtain ⟨hg13, h⟩ := gd_inv h
      refine s_iald DX12_setsFacts_72 hR ct_2205 (one_cnt _) hg13 ?_
      refine r_goto DX12_setsFacts_73 ?_
      exact S_X12_setsFacts_96 hp hR h
theorem S_X12_setsFacts_3 {E : EN} {X : CX} {P : Option Value → MH → Prop} {ad : AD} {fu : Nat} {out : Int32 × St} {kh : St → Int32 → Int32 → Int32 → Int32 → RR} {kx24 : St → Int32 → Int32 → Int32 → RR} (hkh : ∀ {V : St} {M : MH} {x1 : Int32} {x2 : Int32} {x3 : Int32} {x4 : Int32}, Rep E ad V M → kh V x1 x2 x3 x4 = some out → G E X RX12 cX12_setsFacts 5 none false (rmD 1) P M [some (.ref (ad 2200 0)), some (.int (x1)), some (.int (x2)), some (.int (x3)), some (.int (x4))] 0 0 3 []) (hkx24 : ∀ {V : St} {M : MH} {x1 : Int32} {x2 : Int32} {x3 : Int32} {d4 : Option Value}, Rep E ad V M → kx24 V x1 x2 x3 = some out → G E X RX12 cX12_setsFacts 5 none false (rmD 1) P M [some (.ref (ad 2200 0)), some (.int (x1)), some (.int (x2)), some (.int (x3)), d4] 0 0 24 []) (hp : ∀ M, Rep E ad out.2 M → P none M) {V : St} {M : MH} {x1 : Int32} {x2 : Int32} {x3 : Int32} {x4 : Int32} (hR : Rep E ad V M) (h : F_X12_setsFacts_3 kh kx24 fu V x1 x2 x3 x4 = some out) : G E X RX12 cX12_setsFacts 5 none false (rmD 1) P M [some (.ref (ad 2200 0)), some (.int (x1)), some (.int (x2)), some (.int (x3)), some (.int (x4))] 0 0 3 [] := by
  unfold F_X12_setsFacts_3 at h
  refine r_iload DX12_setsFacts_3 rfl ?_
  refine r_bipush (v := 9) DX12_setsFacts_5 kb_9 ?_
  refine r_icmp_ge DX12_setsFacts_7 (fun c1 => ?_) (fun c1 => ?_)
  · have h := if_t c1 h
    exact hkx24 hR h
  · have h := if_f c1 h
    refine r_aload_n DX12_setsFacts_10 rfl ?_
    refine s_geta DX12_setsFacts_11 fl_X12_181 hR ct_2200 (one_cnt _) rfl ?_
    refine r_iload DX12_setsFacts_14 rfl ?_
    refine r_iconst (v := 0) DX12_setsFacts_16 ki_0 ?_
    obtain ⟨hg2, h⟩ := gd_inv h
    obtain ⟨V3, hv4, h⟩ := bv_inv h
    refine s_iast DX12_setsFacts_17 hR oka_2272 ct_2272 (one_cnt _) hg2 (fun M hR => ?_)
    have hR := hR.cg hv4
    refine t_iinc (v := 1) (L' := [some (.ref (ad 2200 0)), some (.int (x1)), some (.int (x2)), some (.int (x3)), some (.int (x4 + 1))]) DX12_setsFacts_18 rfl ki_1 (by decide) rfl ?_
    refine r_goto DX12_setsFacts_21 ?_
    exact hkh hR h
theorem SL_X12_setsFacts_3 {E : EN} {X : CX} {P : Option Value → MH → Prop} {ad : AD} {fu : Nat} {out : Int32 × St} {kx24 : St → Int32 → Int32 → Int32 → RR} (hkx24 : ∀ {V : St} {M : MH} {x1 : Int32} {x2 : Int32} {x3 : Int32} {d4 : Option Value}, Rep E ad V M → kx24 V x1 x2 x3 = some out → G E X RX12 cX12_setsFacts 5 none false (rmD 1) P M [some (.ref (ad 2200 0)), some (.int (x1)), some (.int (x2)), some (.int (x3)), d4] 0 0 24 []) (hp : ∀ M, Rep E ad out.2 M → P none M) : ∀ (n : Nat) {V : St} {M : MH} {x1 : Int32} {x2 : Int32} {x3 : Int32} {x4 : Int32}, Rep E ad V M → Lp_X12_setsFacts_3 kx24 fu n V x1 x2 x3 x4 = some out → G E X RX12 cX12_setsFacts 5 none false (rmD 1) P M [some (.ref (ad 2200 0)), some (.int (x1)), some (.int (x2)), some (.int (x3)), some (.int (x4))] 0 0 3 [] := by
  intro n
  induction n with
  | zero => intros; rename_i h; cases h
  | succ n ih => exact fun hR h => S_X12_setsFacts_3 (fun hR h => ih hR h) (fun hR h => hkx24 hR h) hp hR h
theorem S_X12_setsFacts_0 {E : EN} {X : CX} {P : Option Value → MH → Prop} {ad : AD} {fu : Nat} {out : Int32 × St} (hp : ∀ M, Rep E ad out.2 M → P none M) {V : St} {M : MH} {x1 : Int32} {x2 : Int32} {x3 : Int32} (hR : Rep E ad V M) (h : f_X12_setsFacts fu V x1 x2 x3 = some out) : G E X RX12 cX12_setsFacts 5 none false (rmD 1) P M [some (.ref (ad 2200 0)), some (.int (x1)), some (.int (x2)), some (.int (x3)), none] 0 0 0 [] := by
  unfold f_X12_setsFacts at h
  refine r_iconst (v := 0) DX12_setsFacts_0 ki_0 ?_
  refine t_istore (L' := [some (.ref (ad 2200 0)), some (.int (x1)), some (.int (x2)), some (.int (x3)), some (.int ((0 : Int32)))]) DX12_setsFacts_1 (by decide) rfl ?_
  exact SL_X12_setsFacts_3 (fun hR h => S_X12_setsFacts_24 hp hR h) hp fu hR h
theorem C_X12_setsFacts {E : EN} {ad : AD} {fu : Nat} {out : Int32 × St} {V : St} {M : MH} {x1 : Int32} {x2 : Int32} {x3 : Int32} (l : Launch) (hR : Rep E ad V M) (h : f_X12_setsFacts fu V x1 x2 x3 = some out) : Ct E l yX12_setsFacts cX12_setsFacts 5 none (rmD 1) [.ref (ad 2200 0), .int (x1), .int (x2), .int (x3)] M (fun v M => v = none ∧ Rep E ad out.2 M) :=
  Ct.of (own := RX12) (ini := false) (L := [some (.ref (ad 2200 0)), some (.int (x1)), some (.int (x2)), some (.int (x3)), none]) rfl rfl (fun h => by cases h) rfl (Nat.le_of_ble_eq_true rfl) rfl (fun X _ => S_X12_setsFacts_0 (fun M hR => ⟨rfl, hR⟩) hR h)
theorem S_X12_strikes_155 {E : EN} {X : CX} {P : Option Value → MH → Prop} {ad : AD} {fu : Nat} {out : Int32 × St} (hp : ∀ M, Rep E ad out.2 M → P none M) {V : St} {M : MH} {d0 : Option Value} {d1 : Option Value} {d2 : Option Value} {d3 : Option Value} {d4 : Option Value} {d5 : Option Value} (hR : Rep E ad V M) (h : F_X12_strikes_155 fu V = some out) : G E X RX12 cX12_strikes 6 none false (rmD 3) P M [d0, d1, d2, d3, d4, d5] 0 0 155 [] := by
  unfold F_X12_strikes_155 at h
  cases h
  exact r_vret DX12_strikes_155 rfl ⟨Nat.le_refl 0, Nat.le_refl 0⟩ (hp M hR)
theorem S_X12_strikes_149 {E : EN} {X : CX} {P : Option Value → MH → Prop} {ad : AD} {fu : Nat} {out : Int32 × St} {kh : St → Int32 → Int32 → Int32 → RR} {kx155 : St → RR} (hkh : ∀ {V : St} {M : MH} {x1 : Int32} {x2 : Int32} {x3 : Int32} {d4 : Option Value} {d5 : Option Value}, Rep E ad V M → kh V x1 x2 x3 = some out → G E X RX12 cX12_strikes 6 none false (rmD 3) P M [some (.ref (ad 2200 0)), some (.int (x1)), some (.int (x2)), some (.int (x3)), d4, d5] 0 0 33 []) (hkx155 : ∀ {V : St} {M : MH} {d0 : Option Value} {d1 : Option Value} {d2 : Option Value} {d3 : Option Value} {d4 : Option Value} {d5 : Option Value}, Rep E ad V M → kx155 V  = some out → G E X RX12 cX12_strikes 6 none false (rmD 3) P M [d0, d1, d2, d3, d4, d5] 0 0 155 []) (hp : ∀ M, Rep E ad out.2 M → P none M) {V : St} {M : MH} {x1 : Int32} {x2 : Int32} {x3 : Int32} {d4 : Option Value} {d5 : Option Value} (hR : Rep E ad V M) (h : F_X12_strikes_149 kh kx155 fu V x1 x2 x3 = some out) : G E X RX12 cX12_strikes 6 none false (rmD 3) P M [some (.ref (ad 2200 0)), some (.int (x1)), some (.int (x2)), some (.int (x3)), d4, d5] 0 0 149 [] := by
  unfold F_X12_strikes_149 at h
  refine t_iinc (v := -1) (L' := [some (.ref (ad 2200 0)), some (.int (x1)), some (.int (x2)), some (.int (x3 + (-1))), d4, d5]) DX12_strikes_149 rfl ki_m1 (by decide) rfl ?_
  refine r_goto DX12_strikes_152 ?_
  exact hkh hR h
theorem S_X12_strikes_143 {E : EN} {X : CX} {P : Option Value → MH → Prop} {ad : AD} {fu : Nat} {out : Int32 × St} {kh : St → Int32 → Int32 → Int32 → Int32 → RR} {kx149 : St → Int32 → Int32 → Int32 → RR} (hkh : ∀ {V : St} {M : MH} {x1 : Int32} {x2 : Int32} {x3 : Int32} {x4 : Int32} {d5 : Option Value}, Rep E ad V M → kh V x1 x2 x3 x4 = some out → G E X RX12 cX12_strikes 6 none false (rmD 3) P M [some (.ref (ad 2200 0)), some (.int (x1)), some (.int (x2)), some (.int (x3)), some (.int (x4)), d5] 0 0 40 []) (hkx149 : ∀ {V : St} {M : MH} {x1 : Int32} {x2 : Int32} {x3 : Int32} {d4 : Option Value} {d5 : Option Value}, Rep E ad V M → kx149 V x1 x2 x3 = some out → G E X RX12 cX12_strikes 6 none false (rmD 3) P M [some (.ref (ad 2200 0)), some (.int (x1)), some (.int (x2)), some (.int (x3)), d4, d5] 0 0 149 []) (hp : ∀ M, Rep E ad out.2 M → P none M) {V : St} {M : MH} {x1 : Int32} {x2 : Int32} {x3 : Int32} {x4 : Int32} {d5 : Option Value} (hR : Rep E ad V M) (h : F_X12_strikes_143 kh kx149 fu V x1 x2 x3 x4 = some out) : G E X RX12 cX12_strikes 6 none false (rmD 3) P M [some (.ref (ad 2200 0)), some (.int (x1)), some (.int (x2)), some (.int (x3)), some (.int (x4)), d5] 0 0 143 [] := by
  unfold F_X12_strikes_143 at h
  refine t_iinc (v := 1) (L' := [some (.ref (ad 2200 0)), some (.int (x1)), some (.int (x2)), some (.int (x3)), some (.int (x4 + 1)), d5]) DX12_strikes_143 rfl ki_1 (by decide) rfl ?_
  refine r_goto DX12_strikes_146 ?_
  exact hkh hR h
theorem S_X12_strikes_40 {E : EN} {X : CX} {P : Option Value → MH → Prop} {ad : AD} {fu : Nat} {out : Int32 × St} {kh : St → Int32 → Int32 → Int32 → Int32 → RR} {kx149 : St → Int32 → Int32 → Int32 → RR} (hkh : ∀ {V : St} {M : MH} {x1 : Int32} {x2 : Int32} {x3 : Int32} {x4 : Int32} {d5 : Option Value}, Rep E ad V M → kh V x1 x2 x3 x4 = some out → G E X RX12 cX12_strikes 6 none false (rmD 3) P M [some (.ref (ad 2200 0)), some (.int (x1)), some (.int (x2)), some (.int (x3)), some (.int (x4)), d5] 0 0 40 []) (hkx149 : ∀ {V : St} {M : MH} {x1 : Int32} {x2 : Int32} {x3 : Int32} {d4 : Option Value} {d5 : Option Value}, Rep E ad V M → kx149 V x1 x2 x3 = some out → G E X RX12 cX12_strikes 6 none false (rmD 3) P M [some (.ref (ad 2200 0)), some (.int (x1)), some (.int (x2)), some (.int (x3)), d4, d5] 0 0 149 []) (hp : ∀ M, Rep E ad out.2 M → P none M) {V : St} {M : MH} {x1 : Int32} {x2 : Int32} {x3 : Int32} {x4 : Int32} {d5 : Option Value} (hR : Rep E ad V M) (h : F_X12_strikes_40 kh kx149 fu V x1 x2 x3 x4 = some out) : G E X RX12 cX12_strikes 6 none false (rmD 3) P M [some (.ref (ad 2200 0)), some (.int (x1)), some (.int (x2)), some (.int (x3)), some (.int (x4)), d5] 0 0 40 [] := by
  unfold F_X12_strikes_40 at h
  refine r_iload DX12_strikes_40 rfl ?_
  refine r_aload_n DX12_strikes_42 rfl ?_
  refine s_geta DX12_strikes_43 fl_X12_157 hR ct_2200 (one_cnt _) rfl ?_
  refine r_iload_n DX12_strikes_46 rfl ?_
  obtain ⟨hg1, h⟩ := gd_inv h
  refine s_iald DX12_strikes_47 hR ct_2264 (one_cnt _) hg1 ?_
  refine r_icmp_ge DX12_strikes_48 (fun c2 => ?_) (fun c2 => ?_)
  · have h := if_t c2 h
    exact hkx149 hR h
  · have h := if_f c2 h
    refine r_aload_n DX12_strikes_51 rfl ?_
    refine r_iload_n DX12_strikes_52 rfl ?_
    refine r_iload_n DX12_strikes_53 rfl ?_
    refine r_iload_n DX12_strikes_54 rfl ?_
    obtain ⟨r3, V4, hc5, h⟩ := bd_inv h
    refine k_callV (As := [.int (x3), .int (x1), .int (x2)]) (rest := []) (st1 := [.int (r3)]) (w := some (.int r3)) DX12_strikes_55 cv_X12_403 hR ct_2200 (one_cnt _) rfl (C_X12_isForce (out := (r3, V4)) (cxL X) hR hc5) rfl (by decide) (by decide) rfl (Nat.le_of_ble_eq_true rfl) rfl (fun M hR => ?_)
    refine r_if_eq DX12_strikes_58 (fun c6 => ?_) (fun c6 => ?_)
    · have h := if_t c6 h
      exact hkx149 hR h
    · have h := if_f c6 h
      refine r_bipush (v := 12) DX12_strikes_61 kb_12 ?_
      refine r_iload_n DX12_strikes_63 rfl ?_
      refine r_imul DX12_strikes_64 ?_
      refine r_iload DX12_strikes_65 rfl ?_
      refine r_iadd DX12_strikes_67 ?_
      refine t_istore (L' := [some (.ref (ad 2200 0)), some (.int (x1)), some (.int (x2)), some (.int (x3)), some (.int (x4)), some (.int (((12 : Int32) * x3) + x4))]) DX12_strikes_68 (by decide) rfl ?_
      refine r_aload_n DX12_strikes_70 rfl ?_
      refine s_geta DX12_strikes_71 fl_X12_160 hR ct_2200 (one_cnt _) rfl ?_
      refine r_iload DX12_strikes_74 rfl ?_
      obtain ⟨hg7, h⟩ := gd_inv h
      refine s_iald DX12_strikes_76 hR ct_2265 (one_cnt _) hg7 ?_
      refine r_bipush (v := 120) DX12_strikes_77 kb_120 ?_
      refine r_icmp_ne DX12_strikes_79 (fun c8 => ?_) (fun c8 => ?_)
      · have h := if_f c8 h
        exact S_X12_strikes_143 (fun hR h => hkh hR h) (fun hR h => hkx149 hR h) hp hR h
      · have h := if_t c8 h
        refine r_aload_n DX12_strikes_82 rfl ?_
        refine s_geta DX12_strikes_83 fl_X12_175 hR ct_2200 (one_cnt _) rfl ?_
        refine r_iload DX12_strikes_86 rfl ?_
        obtain ⟨hg9, h⟩ := gd_inv h
        refine s_zald DX12_strikes_88 hR ct_2270 (one_cnt _) hg9 ?_
        refine r_if_ne DX12_strikes_89 (fun c10 => ?_) (fun c10 => ?_)
        · have h := if_f c10 h
          exact S_X12_strikes_143 (fun hR h => hkh hR h) (fun hR h => hkx149 hR h) hp hR h
        · have h := if_t c10 h
          refine r_aload_n DX12_strikes_92 rfl ?_
          refine s_geta DX12_strikes_93 fl_X12_169 hR ct_2200 (one_cnt _) rfl ?_
          refine r_iload DX12_strikes_96 rfl ?_
          obtain ⟨hg11, h⟩ := gd_inv h
          refine s_iald DX12_strikes_98 hR ct_2268 (one_cnt _) hg11 ?_
          refine r_iload_n DX12_strikes_99 rfl ?_
          refine r_icmp_ge DX12_strikes_100 (fun c12 => ?_) (fun c12 => ?_)
          · have h := if_t c12 h
            exact S_X12_strikes_143 (fun hR h => hkh hR h) (fun hR h => hkx149 hR h) hp hR h
          · have h := if_f c12 h
            refine r_aload_n DX12_strikes_103 rfl ?_
            refine r_aload_n DX12_strikes_104 rfl ?_
            refine s_geta DX12_strikes_105 fl_X12_169 hR ct_2200 (one_cnt _) rfl ?_
            refine r_iload DX12_strikes_108 rfl ?_
            obtain ⟨hg13, h⟩ := gd_inv h
            refine s_iald DX12_strikes_110 hR ct_2268 (one_cnt _) hg13 ?_
            refine r_iload_n DX12_strikes_111 rfl ?_
            refine r_iload_n DX12_strikes_112 rfl ?_
            obtain ⟨r14, V15, hc16, h⟩ := bd_inv h
            refine k_callV (As := [.int ((V4 2268 (0) (((12 : Int32) * x3) + x4).toNatClampNeg)), .int (x1), .int (x2)]) (rest := []) (st1 := [.int (r14)]) (w := some (.int r14)) DX12_strikes_113 cv_X12_403 hR ct_2200 (one_cnt _) rfl (C_X12_isForce (out := (r14, V15)) (cxL X) hR hc16) rfl (by decide) (by decide) rfl (Nat.le_of_ble_eq_true rfl) rfl (fun M hR => ?_)
            refine r_if_eq DX12_strikes_116 (fun c17 => ?_) (fun c17 => ?_)
            · have h := if_t c17 h
              exact S_X12_strikes_143 (fun hR h => hkh hR h) (fun hR h => hkx149 hR h) hp hR h
            · have h := if_f c17 h
              refine r_aload_n DX12_strikes_119 rfl ?_
              refine s_geta DX12_strikes_120 fl_X12_175 hR ct_2200 (one_cnt _) rfl ?_
              refine r_bipush (v := 12) DX12_strikes_123 kb_12 ?_
              refine r_aload_n DX12_strikes_125 rfl ?_
              refine s_geta DX12_strikes_126 fl_X12_169 hR ct_2200 (one_cnt _) rfl ?_
              refine r_iload DX12_strikes_129 rfl ?_
              obtain ⟨hg18, h⟩ := gd_inv h
              refine s_iald DX12_strikes_131 hR ct_2268 (one_cnt _) hg18 ?_
              refine r_imul DX12_strikes_132 ?_
              refine r_aload_n DX12_strikes_133 rfl ?_
              refine s_geta DX12_strikes_134 fl_X12_172 hR ct_2200 (one_cnt _) rfl ?_
              refine r_iload DX12_strikes_137 rfl ?_
              obtain ⟨hg19, h⟩ := gd_inv h
              refine s_iald DX12_strikes_139 hR ct_2269 (one_cnt _) hg19 ?_
              refine r_iadd DX12_strikes_140 ?_
              refine r_iconst (v := 1) DX12_strikes_141 ki_1 ?_
              obtain ⟨hg20, h⟩ := gd_inv h
              obtain ⟨V21, hv22, h⟩ := bv_inv h
              refine t_zast (by decide) DX12_strikes_142 hR oka_2270 ct_2270 (one_cnt _) hg20 (fun M hR => ?_)
              have hR := hR.cg hv22
              exact S_X12_strikes_143 (fun hR h => hkh hR h) (fun hR h => hkx149 hR h) hp hR h
theorem SL_X12_strikes_40 {E : EN} {X : CX} {P : Option Value → MH → Prop} {ad : AD} {fu : Nat} {out : Int32 × St} {kx149 : St → Int32 → Int32 → Int32 → RR} (hkx149 : ∀ {V : St} {M : MH} {x1 : Int32} {x2 : Int32} {x3 : Int32} {d4 : Option Value} {d5 : Option Value}, Rep E ad V M → kx149 V x1 x2 x3 = some out → G E X RX12 cX12_strikes 6 none false (rmD 3) P M [some (.ref (ad 2200 0)), some (.int (x1)), some (.int (x2)), some (.int (x3)), d4, d5] 0 0 149 []) (hp : ∀ M, Rep E ad out.2 M → P none M) : ∀ (n : Nat) {V : St} {M : MH} {x1 : Int32} {x2 : Int32} {x3 : Int32} {x4 : Int32} {d5 : Option Value}, Rep E ad V M → Lp_X12_strikes_40 kx149 fu n V x1 x2 x3 x4 = some out → G E X RX12 cX12_strikes 6 none false (rmD 3) P M [some (.ref (ad 2200 0)), some (.int (x1)), some (.int (x2)), some (.int (x3)), some (.int (x4)), d5] 0 0 40 [] := by
  intro n
  induction n with
  | zero => intros; rename_i h; cases h
  | succ n ih => exact fun hR h => S_X12_strikes_40 (fun hR h => ih hR h) (fun hR h => hkx149 hR h) hp hR h
theorem S_X12_strikes_33 {E : EN} {X : CX} {P : Option Value → MH → Prop} {ad : AD} {fu : Nat} {out : Int32 × St} {kh : St → Int32 → Int32 → Int32 → RR} {kx155 : St → RR} (hkh : ∀ {V : St} {M : MH} {x1 : Int32} {x2 : Int32} {x3 : Int32} {d4 : Option Value} {d5 : Option Value}, Rep E ad V M → kh V x1 x2 x3 = some out → G E X RX12 cX12_strikes 6 none false (rmD 3) P M [some (.ref (ad 2200 0)), some (.int (x1)), some (.int (x2)), some (.int (x3)), d4, d5] 0 0 33 []) (hkx155 : ∀ {V : St} {M : MH} {d0 : Option Value} {d1 : Option Value} {d2 : Option Value} {d3 : Option Value} {d4 : Option Value} {d5 : Option Value}, Rep E ad V M → kx155 V  = some out → G E X RX12 cX12_strikes 6 none false (rmD 3) P M [d0, d1, d2, d3, d4, d5] 0 0 155 []) (hp : ∀ M, Rep E ad out.2 M → P none M) {V : St} {M : MH} {x1 : Int32} {x2 : Int32} {x3 : Int32} {d4 : Option Value} {d5 : Option Value} (hR : Rep E ad V M) (h : F_X12_strikes_33 kh kx155 fu V x1 x2 x3 = some out) : G E X RX12 cX12_strikes 6 none false (rmD 3) P M [some (.ref (ad 2200 0)), some (.int (x1)), some (.int (x2)), some (.int (x3)), d4, d5] 0 0 33 [] := by
  unfold F_X12_strikes_33 at h
  refine r_iload_n DX12_strikes_33 rfl ?_
  refine r_if_lt DX12_strikes_34 (fun c1 => ?_) (fun c1 => ?_)
  · have h := if_t c1 h
    exact hkx155 hR h
  · have h := if_f c1 h
    refine r_iconst (v := 0) DX12_strikes_37 ki_0 ?_
    refine t_istore (L' := [some (.ref (ad 2200 0)), some (.int (x1)), some (.int (x2)), some (.int (x3)), some (.int ((0 : Int32))), d5]) DX12_strikes_38 (by decide) rfl ?_
    exact SL_X12_strikes_40 (fun hR h => S_X12_strikes_149 (fun hR h => hkh hR h) (fun hR h => hkx155 hR h) hp hR h) hp fu hR h
theorem SL_X12_strikes_33 {E : EN} {X : CX} {P : Option Value → MH → Prop} {ad : AD} {fu : Nat} {out : Int32 × St} {kx155 : St → RR} (hkx155 : ∀ {V : St} {M : MH} {d0 : Option Value} {d1 : Option Value} {d2 : Option Value} {d3 : Option Value} {d4 : Option Value} {d5 : Option Value}, Rep E ad V M → kx155 V  = some out → G E X RX12 cX12_strikes 6 none false (rmD 3) P M [d0, d1, d2, d3, d4, d5] 0 0 155 []) (hp : ∀ M, Rep E ad out.2 M → P none M) : ∀ (n : Nat) {V : St} {M : MH} {x1 : Int32} {x2 : Int32} {x3 : Int32} {d4 : Option Value} {d5 : Option Value}, Rep E ad V M → Lp_X12_strikes_33 kx155 fu n V x1 x2 x3 = some out → G E X RX12 cX12_strikes 6 none false (rmD 3) P M [some (.ref (ad 2200 0)), some (.int (x1)), some (.int (x2)), some (.int (x3)), d4, d5] 0 0 33 [] := by
  intro n
  induction n with
  | zero => intros; rename_i h; cases h
  | succ n ih => exact fun hR h => S_X12_strikes_33 (fun hR h => ih hR h) (fun hR h => hkx155 hR h) hp hR h
theorem S_X12_strikes_26 {E : EN} {X : CX} {P : Option Value → MH → Prop} {ad : AD} {fu : Nat} {out : Int32 × St} (hp : ∀ M, Rep E ad out.2 M → P none M) {V : St} {M : MH} {x1 : Int32} {x2 : Int32} {d3 : Option Value} {d4 : Option Value} {d5 : Option Value} (hR : Rep E ad V M) (h : F_X12_strikes_26 fu V x1 x2 = some out) : G E X RX12 cX12_strikes 6 none false (rmD 3) P M [some (.ref (ad 2200 0)), some (.int (x1)), some (.int (x2)), d3, d4, d5] 0 0 26 [] := by
  unfold F_X12_strikes_26 at h
  refine r_aload_n DX12_strikes_26 rfl ?_
  refine s_geti DX12_strikes_27 fl_X12_394 hR ct_2200 (one_cnt _) rfl ?_
  refine r_iconst (v := 1) DX12_strikes_30 ki_1 ?_
  refine r_isub DX12_strikes_31 ?_
  refine t_istore_n (L' := [some (.ref (ad 2200 0)), some (.int (x1)), some (.int (x2)), some (.int ((V 2258 0 0) - (1 : Int32))), d4, d5]) DX12_strikes_32 (by decide) rfl ?_
  exact SL_X12_strikes_33 (fun hR h => S_X12_strikes_155 hp hR h) hp fu hR h
theorem S_X12_strikes_2 {E : EN} {X : CX} {P : Option Value → MH → Prop} {ad : AD} {fu : Nat} {out : Int32 × St} {kh : St → Int32 → Int32 → Int32 → RR} {kx26 : St → Int32 → Int32 → RR} (hkh : ∀ {V : St} {M : MH} {x1 : Int32} {x2 : Int32} {x3 : Int32} {d4 : Option Value} {d5 : Option Value}, Rep E ad V M → kh V x1 x2 x3 = some out → G E X RX12 cX12_strikes 6 none false (rmD 3) P M [some (.ref (ad 2200 0)), some (.int (x1)), some (.int (x2)), some (.int (x3)), d4, d5] 0 0 2 []) (hkx26 : ∀ {V : St} {M : MH} {x1 : Int32} {x2 : Int32} {d3 : Option Value} {d4 : Option Value} {d5 : Option Value}, Rep E ad V M → kx26 V x1 x2 = some out → G E X RX12 cX12_strikes 6 none false (rmD 3) P M [some (.ref (ad 2200 0)), some (.int (x1)), some (.int (x2)), d3, d4, d5] 0 0 26 []) (hp : ∀ M, Rep E ad out.2 M → P none M) {V : St} {M : MH} {x1 : Int32} {x2 : Int32} {x3 : Int32} {d4 : Option Value} {d5 : Option Value} (hR : Rep E ad V M) (h : F_X12_strikes_2 kh kx26 fu V x1 x2 x3 = some out) : G E X RX12 cX12_strikes 6 none false (rmD 3) P M [some (.ref (ad 2200 0)), some (.int (x1)), some (.int (x2)), some (.int (x3)), d4, d5] 0 0 2 [] := by
  unfold F_X12_strikes_2 at h
  refine r_iload_n DX12_strikes_2 rfl ?_
  refine r_bipush (v := 12) DX12_strikes_3 kb_12 ?_
  refine r_aload_n DX12_strikes_5 rfl ?_
  refine s_geti DX12_strikes_6 fl_X12_394 hR ct_2200 (one_cnt _) rfl ?_
  refine r_imul DX12_strikes_9 ?_
  refine r_icmp_ge DX12_strikes_10 (fun c1 => ?_) (fun c1 => ?_)
  · have h := if_t c1 h
    exact hkx26 hR h
  · have h := if_f c1 h
    refine r_aload_n DX12_strikes_13 rfl ?_
    refine s_geta DX12_strikes_14 fl_X12_175 hR ct_2200 (one_cnt _) rfl ?_
    refine r_iload_n DX12_strikes_17 rfl ?_
    refine r_iconst (v := 0) DX12_strikes_18 ki_0 ?_
    obtain ⟨hg2, h⟩ := gd_inv h
    obtain ⟨V3, hv4, h⟩ := bv_inv h
    refine t_zast (by decide) DX12_strikes_19 hR oka_2270 ct_2270 (one_cnt _) hg2 (fun M hR => ?_)
    have hR := hR.cg hv4
    refine t_iinc (v := 1) (L' := [some (.ref (ad 2200 0)), some (.int (x1)), some (.int (x2)), some (.int (x3 + 1)), d4, d5]) DX12_strikes_20 rfl ki_1 (by decide) rfl ?_
    refine r_goto DX12_strikes_23 ?_
    exact hkh hR h
theorem SL_X12_strikes_2 {E : EN} {X : CX} {P : Option Value → MH → Prop} {ad : AD} {fu : Nat} {out : Int32 × St} {kx26 : St → Int32 → Int32 → RR} (hkx26 : ∀ {V : St} {M : MH} {x1 : Int32} {x2 : Int32} {d3 : Option Value} {d4 : Option Value} {d5 : Option Value}, Rep E ad V M → kx26 V x1 x2 = some out → G E X RX12 cX12_strikes 6 none false (rmD 3) P M [some (.ref (ad 2200 0)), some (.int (x1)), some (.int (x2)), d3, d4, d5] 0 0 26 []) (hp : ∀ M, Rep E ad out.2 M → P none M) : ∀ (n : Nat) {V : St} {M : MH} {x1 : Int32} {x2 : Int32} {x3 : Int32} {d4 : Option Value} {d5 : Option Value}, Rep E ad V M → Lp_X12_strikes_2 kx26 fu n V x1 x2 x3 = some out → G E X RX12 cX12_strikes 6 none false (rmD 3) P M [some (.ref (ad 2200 0)), some (.int (x1)), some (.int (x2)), some (.int (x3)), d4, d5] 0 0 2 [] := by
  intro n
  induction n with
  | zero => intros; rename_i h; cases h
  | succ n ih => exact fun hR h => S_X12_strikes_2 (fun hR h => ih hR h) (fun hR h => hkx26 hR h) hp hR h
theorem S_X12_strikes_0 {E : EN} {X : CX} {P : Option Value → MH → Prop} {ad : AD} {fu : Nat} {out : Int32 × St} (hp : ∀ M, Rep E ad out.2 M → P none M) {V : St} {M : MH} {x1 : Int32} {x2 : Int32} (hR : Rep E ad V M) (h : f_X12_strikes fu V x1 x2 = some out) : G E X RX12 cX12_strikes 6 none false (rmD 3) P M [some (.ref (ad 2200 0)), some (.int (x1)), some (.int (x2)), none, none, none] 0 0 0 [] := by
  unfold f_X12_strikes at h
  refine r_iconst (v := 0) DX12_strikes_0 ki_0 ?_
  refine t_istore_n (L' := [some (.ref (ad 2200 0)), some (.int (x1)), some (.int (x2)), some (.int ((0 : Int32))), none, none]) DX12_strikes_1 (by decide) rfl ?_
  exact SL_X12_strikes_2 (fun hR h => S_X12_strikes_26 hp hR h) hp fu hR h
theorem C_X12_strikes {E : EN} {ad : AD} {fu : Nat} {out : Int32 × St} {V : St} {M : MH} {x1 : Int32} {x2 : Int32} (l : Launch) (hR : Rep E ad V M) (h : f_X12_strikes fu V x1 x2 = some out) : Ct E l yX12_strikes cX12_strikes 6 none (rmD 3) [.ref (ad 2200 0), .int (x1), .int (x2)] M (fun v M => v = none ∧ Rep E ad out.2 M) :=
  Ct.of (own := RX12) (ini := false) (L := [some (.ref (ad 2200 0)), some (.int (x1)), some (.int (x2)), none, none, none]) rfl rfl (fun h => by cases h) rfl (Nat.le_of_ble_eq_true rfl) rfl (fun X _ => S_X12_strikes_0 (fun M hR => ⟨rfl, hR⟩) hR h)
