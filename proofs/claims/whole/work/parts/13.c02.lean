theorem S_X2_holdsUp_41 {E : EN} {X : CX} {P : Option Value → MH → Prop} {ad : AD} {fu : Nat} {out : Int32 × St} (hp : ∀ M, Rep E ad out.2 M → P (some (.int out.1)) M) {V : St} {M : MH} {x0 : Int32} {d1 : Option Value} (hR : Rep E ad V M) (h : F_X2_holdsUp_41 fu V x0 = some out) : G E X RX2 cX2_holdsUp 2 (some .boolean) false (rmD 4) P M [some (rfq ad 1200 (x0)), d1] 0 0 41 [] := by
  unfold F_X2_holdsUp_41 at h
  refine t_aload_n (rfq_or _ _ _) DX2_holdsUp_41 rfl ?_
  obtain ⟨⟨hx4, hi5⟩, h⟩ := gd_inv h
  obtain ⟨r1, V2, hc3, h⟩ := bd_inv h
  refine k_callQ (As := []) (rest := []) (st1 := [.int (r1)]) (w := some (.int r1)) hx4 DX2_holdsUp_42 cv_X2_76 hR ct_1200 hi5 rfl (C_X2_isSound (out := (r1, V2)) (cxL X) hR hc3) rfl (by decide) (by decide) rfl (Nat.le_of_ble_eq_true rfl) rfl (fun M hR => ?_)
  obtain ⟨hz6, h⟩ := gd_inv h
  cases h
  exact r_zret DX2_holdsUp_45 rfl (nz_nar hz6) ⟨Nat.le_refl 0, Nat.le_refl 0⟩ (hp M hR)
theorem S_X2_holdsUp_6 {E : EN} {X : CX} {P : Option Value → MH → Prop} {ad : AD} {fu : Nat} {out : Int32 × St} {kh : St → Int32 → Int32 → RR} {kx41 : St → Int32 → RR} (hkh : ∀ {V : St} {M : MH} {x0 : Int32} {x1 : Int32}, Rep E ad V M → kh V x0 x1 = some out → G E X RX2 cX2_holdsUp 2 (some .boolean) false (rmD 4) P M [some (rfq ad 1200 (x0)), some (.int (x1))] 0 0 6 []) (hkx41 : ∀ {V : St} {M : MH} {x0 : Int32} {d1 : Option Value}, Rep E ad V M → kx41 V x0 = some out → G E X RX2 cX2_holdsUp 2 (some .boolean) false (rmD 4) P M [some (rfq ad 1200 (x0)), d1] 0 0 41 []) (hp : ∀ M, Rep E ad out.2 M → P (some (.int out.1)) M) {V : St} {M : MH} {x0 : Int32} {x1 : Int32} (hR : Rep E ad V M) (h : F_X2_holdsUp_6 kh kx41 fu V x0 x1 = some out) : G E X RX2 cX2_holdsUp 2 (some .boolean) false (rmD 4) P M [some (rfq ad 1200 (x0)), some (.int (x1))] 0 0 6 [] := by
  unfold F_X2_holdsUp_6 at h
  refine r_iload_n DX2_holdsUp_6 rfl ?_
  refine t_aload_n (rfq_or _ _ _) DX2_holdsUp_7 rfl ?_
  obtain ⟨⟨hx1, hi2⟩, h⟩ := gd_inv h
  refine q_geti hx1 DX2_holdsUp_8 fl_X2_42 hR ct_1200 hi2 rfl ?_
  refine r_icmp_ge DX2_holdsUp_11 (fun c3 => ?_) (fun c3 => ?_)
  · have h := if_t c3 h
    exact hkx41 hR h
  · have h := if_f c3 h
    refine t_aload_n (rfq_or _ _ _) DX2_holdsUp_14 rfl ?_
    refine r_iload_n DX2_holdsUp_15 rfl ?_
    refine s_gets0 DX2_holdsUp_16 wd_602 ?_
    refine r_iconst (v := 2) DX2_holdsUp_19 ki_2 ?_
    obtain ⟨hg4, h⟩ := gd_inv h
    refine s_gald0 DX2_holdsUp_20 hg4 ?_
    refine s_gets0 DX2_holdsUp_21 wd_602 ?_
    refine t_aload_n (rfq_or _ _ _) DX2_holdsUp_24 rfl ?_
    refine q_geta hx1 DX2_holdsUp_25 fl_X2_18 hR ct_1200 hi2 rfl ?_
    refine r_iload_n DX2_holdsUp_28 rfl ?_
    obtain ⟨hg5, h⟩ := gd_inv h
    refine s_iald DX2_holdsUp_29 hR ct_1204 (hi2) hg5 ?_
    obtain ⟨hg6, h⟩ := gd_inv h
    refine s_gald0 DX2_holdsUp_30 hg6 ?_
    refine r_isub DX2_holdsUp_31 ?_
    obtain ⟨r7, V8, hc9, h⟩ := bd_inv h
    refine k_callQ (As := [.int (x1), .int ((gT0 ((2 : Int32))) - (gT0 ((V 1204 ((x0).toNatClampNeg) (x1).toNatClampNeg))))]) (rest := []) (st1 := []) (w := none) hx1 DX2_holdsUp_32 cv_X2_72 hR ct_1200 hi2 rfl (C_X2_takeFromCuts (out := (r7, V8)) (cxL X) hR hc9) rfl (by decide) (by decide) rfl (Nat.le_of_ble_eq_true rfl) rfl (fun M hR => ?_)
    refine t_iinc (v := 1) (L' := [some (rfq ad 1200 (x0)), some (.int (x1 + 1))]) DX2_holdsUp_35 rfl ki_1 (by decide) rfl ?_
    refine r_goto DX2_holdsUp_38 ?_
    exact hkh hR h
theorem SL_X2_holdsUp_6 {E : EN} {X : CX} {P : Option Value → MH → Prop} {ad : AD} {fu : Nat} {out : Int32 × St} {kx41 : St → Int32 → RR} (hkx41 : ∀ {V : St} {M : MH} {x0 : Int32} {d1 : Option Value}, Rep E ad V M → kx41 V x0 = some out → G E X RX2 cX2_holdsUp 2 (some .boolean) false (rmD 4) P M [some (rfq ad 1200 (x0)), d1] 0 0 41 []) (hp : ∀ M, Rep E ad out.2 M → P (some (.int out.1)) M) : ∀ (n : Nat) {V : St} {M : MH} {x0 : Int32} {x1 : Int32}, Rep E ad V M → Lp_X2_holdsUp_6 kx41 fu n V x0 x1 = some out → G E X RX2 cX2_holdsUp 2 (some .boolean) false (rmD 4) P M [some (rfq ad 1200 (x0)), some (.int (x1))] 0 0 6 [] := by
  intro n
  induction n with
  | zero => intros; rename_i h; cases h
  | succ n ih => exact fun hR h => S_X2_holdsUp_6 (fun hR h => ih hR h) (fun hR h => hkx41 hR h) hp hR h
theorem S_X2_holdsUp_0 {E : EN} {X : CX} {P : Option Value → MH → Prop} {ad : AD} {fu : Nat} {out : Int32 × St} (hp : ∀ M, Rep E ad out.2 M → P (some (.int out.1)) M) {V : St} {M : MH} {x0 : Int32} (hR : Rep E ad V M) (h : f_X2_holdsUp fu V x0 = some out) : G E X RX2 cX2_holdsUp 2 (some .boolean) false (rmD 4) P M [some (rfq ad 1200 (x0)), none] 0 0 0 [] := by
  unfold f_X2_holdsUp at h
  refine t_aload_n (rfq_or _ _ _) DX2_holdsUp_0 rfl ?_
  obtain ⟨⟨hx4, hi5⟩, h⟩ := gd_inv h
  obtain ⟨r1, V2, hc3, h⟩ := bd_inv h
  refine k_callQ (As := []) (rest := []) (st1 := []) (w := none) hx4 DX2_holdsUp_1 cv_X2_66 hR ct_1200 hi5 rfl (C_X2_findCuts (out := (r1, V2)) (cxL X) hR hc3) rfl (by decide) (by decide) rfl (Nat.le_of_ble_eq_true rfl) rfl (fun M hR => ?_)
  refine r_iconst (v := 0) DX2_holdsUp_4 ki_0 ?_
  refine t_istore_n (L' := [some (rfq ad 1200 (x0)), some (.int ((0 : Int32)))]) DX2_holdsUp_5 (by decide) rfl ?_
  exact SL_X2_holdsUp_6 (fun hR h => S_X2_holdsUp_41 hp hR h) hp fu hR h
theorem C_X2_holdsUp {E : EN} {ad : AD} {fu : Nat} {out : Int32 × St} {V : St} {M : MH} {x0 : Int32} (l : Launch) (hR : Rep E ad V M) (h : f_X2_holdsUp fu V x0 = some out) : Ct E l yX2_holdsUp cX2_holdsUp 2 (some .boolean) (rmD 4) [rfq ad 1200 (x0)] M (fun v M => v = (some (.int out.1)) ∧ Rep E ad out.2 M) :=
  Ct.of (own := RX2) (ini := false) (L := [some (rfq ad 1200 (x0)), none]) rfl rfl (fun h => by cases h) (by simp only [List.all_cons, List.all_nil, rfq_cat]; rfl) (Nat.le_of_ble_eq_true rfl) rfl (fun X _ => S_X2_holdsUp_0 (fun M hR => ⟨rfl, hR⟩) hR h)
theorem S_X11_bears_24 {E : EN} {X : CX} {P : Option Value → MH → Prop} {ad : AD} {fu : Nat} {out : Int32 × St} (hp : ∀ M, Rep E ad out.2 M → P (some (.int out.1)) M) {V : St} {M : MH} {s0 : Int32} {d0 : Option Value} {d1 : Option Value} {d2 : Option Value} (hR : Rep E ad V M) (h : F_X11_bears_24 fu V s0 = some out) : G E X RX11 cX11_bears 3 (some .int) false (rmD 5) P M [d0, d1, d2] 0 0 24 [.int (s0)] := by
  unfold F_X11_bears_24 at h
  cases h
  exact r_iret DX11_bears_24 rfl ⟨Nat.le_refl 0, Nat.le_refl 0⟩ (hp M hR)
theorem S_X11_bears_0 {E : EN} {X : CX} {P : Option Value → MH → Prop} {ad : AD} {fu : Nat} {out : Int32 × St} (hp : ∀ M, Rep E ad out.2 M → P (some (.int out.1)) M) {V : St} {M : MH} {x1 : Int32} (hR : Rep E ad V M) (h : f_X11_bears fu V x1 = some out) : G E X RX11 cX11_bears 3 (some .int) false (rmD 5) P M [some (.ref (ad 2100 0)), some (.int (x1)), none] 0 0 0 [] := by
  unfold f_X11_bears at h
  refine r_aload_n DX11_bears_0 rfl ?_
  refine r_iload_n DX11_bears_1 rfl ?_
  obtain ⟨r1, V2, hc3, h⟩ := bd_inv h
  refine k_callV (As := [.int (x1)]) (rest := []) (st1 := [rfq ad 1200 (r1)]) (w := some (rfq ad 1200 r1)) DX11_bears_2 cv_X11_133 hR ct_2100 (one_cnt _) rfl (C_X11_findDrawing (out := (r1, V2)) (cxL X) hR hc3) rfl (by decide) (by decide) rfl (Nat.le_of_ble_eq_true rfl) rfl (fun M hR => ?_)
  refine t_astore_n (L' := [some (.ref (ad 2100 0)), some (.int (x1)), some (rfq ad 1200 (r1))]) (rfq_or _ _ _) DX11_bears_5 (by decide) rfl ?_
  refine t_aload_n (rfq_or _ _ _) DX11_bears_6 rfl ?_
  refine q_ifnonnull DX11_bears_7 (fun c4 => ?_) (fun c4 => ?_)
  · have h := if_f c4 h
    refine t_aload_n (rfq_or _ _ _) DX11_bears_12 rfl ?_
    obtain ⟨⟨hx8, hi9⟩, h⟩ := gd_inv h
    obtain ⟨r5, V6, hc7, h⟩ := bd_inv h
    refine k_callQ (As := []) (rest := []) (st1 := [.int (r5)]) (w := some (.int r5)) hx8 DX11_bears_13 cv_X11_145 hR ct_1200 hi9 rfl (C_X2_holdsUp (out := (r5, V6)) (cxL X) hR hc7) rfl (by decide) (by decide) rfl (Nat.le_of_ble_eq_true rfl) rfl (fun M hR => ?_)
    refine r_if_eq DX11_bears_16 (fun c10 => ?_) (fun c10 => ?_)
    · have h := if_t c10 h
      refine r_iconst (v := 0) DX11_bears_23 ki_0 ?_
      exact S_X11_bears_24 hp hR h
    · have h := if_f c10 h
      refine r_iconst (v := 1) DX11_bears_19 ki_1 ?_
      refine r_goto DX11_bears_20 ?_
      exact S_X11_bears_24 hp hR h
  · have h := if_t c4 h
    refine r_iconst (v := -1) DX11_bears_10 ki_m1 ?_
    cases h
    exact r_iret DX11_bears_11 rfl ⟨Nat.le_refl 0, Nat.le_refl 0⟩ (hp M hR)
theorem C_X11_bears {E : EN} {ad : AD} {fu : Nat} {out : Int32 × St} {V : St} {M : MH} {x1 : Int32} (l : Launch) (hR : Rep E ad V M) (h : f_X11_bears fu V x1 = some out) : Ct E l yX11_bears cX11_bears 3 (some .int) (rmD 5) [.ref (ad 2100 0), .int (x1)] M (fun v M => v = (some (.int out.1)) ∧ Rep E ad out.2 M) :=
  Ct.of (own := RX11) (ini := false) (L := [some (.ref (ad 2100 0)), some (.int (x1)), none]) rfl rfl (fun h => by cases h) rfl (Nat.le_of_ble_eq_true rfl) rfl (fun X _ => S_X11_bears_0 (fun M hR => ⟨rfl, hR⟩) hR h)
theorem S_X11_bench_0 {E : EN} {X : CX} {P : Option Value → MH → Prop} {ad : AD} {fu : Nat} {out : Int32 × St} (hp : ∀ M, Rep E ad out.2 M → P (some (.int out.1)) M) {V : St} {M : MH} {x1 : Int32} (hR : Rep E ad V M) (h : f_X11_bench fu V x1 = some out) : G E X RX11 cX11_bench 2 (some .boolean) false (rmD 2) P M [some (.ref (ad 2100 0)), some (.int (x1))] 0 0 0 [] := by
  unfold f_X11_bench at h
  refine r_iload_n DX11_bench_0 rfl ?_
  refine r_iconst (v := 1) DX11_bench_1 ki_1 ?_
  refine r_sipush (v := 1000) DX11_bench_2 ks_1000 ?_
  obtain ⟨r1, V2, hc3, h⟩ := bd_inv h
  refine k_callS (As := [.int (x1), .int ((1 : Int32)), .int ((1000 : Int32))]) (rest := []) (st1 := [.int (r1)]) (w := some (.int r1)) DX11_bench_5 cs_X11_111 (C_X11_within (out := (r1, V2)) (cxL X) hR hc3) rfl (by decide) (by decide) rfl (Nat.le_of_ble_eq_true rfl) rfl (fun M hR => ?_)
  refine r_if_ne DX11_bench_8 (fun c4 => ?_) (fun c4 => ?_)
  · have h := if_f c4 h
    refine r_aload_n DX11_bench_13 rfl ?_
    refine r_iload_n DX11_bench_14 rfl ?_
    obtain ⟨V5, hv6, h⟩ := bv_inv h
    refine s_puti DX11_bench_15 fp_X11_13 hR oks_2102 ct_2100 (one_cnt _) rfl rfl rfl (fun M hR => ?_)
    have hR := hR.cg hv6
    refine r_iconst (v := 1) DX11_bench_18 ki_1 ?_
    cases h
    exact r_zret DX11_bench_19 rfl rfl ⟨Nat.le_refl 0, Nat.le_refl 0⟩ (hp M hR)
  · have h := if_t c4 h
    refine r_iconst (v := 0) DX11_bench_11 ki_0 ?_
    cases h
    exact r_zret DX11_bench_12 rfl rfl ⟨Nat.le_refl 0, Nat.le_refl 0⟩ (hp M hR)
theorem C_X11_bench {E : EN} {ad : AD} {fu : Nat} {out : Int32 × St} {V : St} {M : MH} {x1 : Int32} (l : Launch) (hR : Rep E ad V M) (h : f_X11_bench fu V x1 = some out) : Ct E l yX11_bench cX11_bench 2 (some .boolean) (rmD 2) [.ref (ad 2100 0), .int (x1)] M (fun v M => v = (some (.int out.1)) ∧ Rep E ad out.2 M) :=
  Ct.of (own := RX11) (ini := false) (L := [some (.ref (ad 2100 0)), some (.int (x1))]) rfl rfl (fun h => by cases h) rfl (Nat.le_of_ble_eq_true rfl) rfl (fun X _ => S_X11_bench_0 (fun M hR => ⟨rfl, hR⟩) hR h)
theorem S_X11_isLetToSomeMaker_57 {E : EN} {X : CX} {P : Option Value → MH → Prop} {ad : AD} {fu : Nat} {out : Int32 × St} (hp : ∀ M, Rep E ad out.2 M → P (some (.int out.1)) M) {V : St} {M : MH} {d0 : Option Value} {d1 : Option Value} {d2 : Option Value} (hR : Rep E ad V M) (h : F_X11_isLetToSomeMaker_57 fu V = some out) : G E X RX11 cX11_isLetToSomeMaker 3 (some .boolean) false (rmD 6) P M [d0, d1, d2] 0 0 57 [] := by
  unfold F_X11_isLetToSomeMaker_57 at h
  refine r_iconst (v := 0) DX11_isLetToSomeMaker_57 ki_0 ?_
  cases h
  exact r_zret DX11_isLetToSomeMaker_58 rfl rfl ⟨Nat.le_refl 0, Nat.le_refl 0⟩ (hp M hR)
theorem S_X11_isLetToSomeMaker_49 {E : EN} {X : CX} {P : Option Value → MH → Prop} {ad : AD} {fu : Nat} {out : Int32 × St} (hp : ∀ M, Rep E ad out.2 M → P (some (.int out.1)) M) {V : St} {M : MH} {d0 : Option Value} {d1 : Option Value} {d2 : Option Value} (hR : Rep E ad V M) (h : F_X11_isLetToSomeMaker_49 fu V = some out) : G E X RX11 cX11_isLetToSomeMaker 3 (some .boolean) false (rmD 6) P M [d0, d1, d2] 0 0 49 [] := by
  unfold F_X11_isLetToSomeMaker_49 at h
  refine r_iconst (v := 1) DX11_isLetToSomeMaker_49 ki_1 ?_
  cases h
  exact r_zret DX11_isLetToSomeMaker_50 rfl rfl ⟨Nat.le_refl 0, Nat.le_refl 0⟩ (hp M hR)
theorem S_X11_isLetToSomeMaker_2 {E : EN} {X : CX} {P : Option Value → MH → Prop} {ad : AD} {fu : Nat} {out : Int32 × St} {kh : St → Int32 → Int32 → RR} {kx49 : St → RR} {kx57 : St → RR} (hkh : ∀ {V : St} {M : MH} {x1 : Int32} {x2 : Int32}, Rep E ad V M → kh V x1 x2 = some out → G E X RX11 cX11_isLetToSomeMaker 3 (some .boolean) false (rmD 6) P M [some (.ref (ad 2100 0)), some (rfq ad 2000 (x1)), some (.int (x2))] 0 0 2 []) (hkx49 : ∀ {V : St} {M : MH} {d0 : Option Value} {d1 : Option Value} {d2 : Option Value}, Rep E ad V M → kx49 V  = some out → G E X RX11 cX11_isLetToSomeMaker 3 (some .boolean) false (rmD 6) P M [d0, d1, d2] 0 0 49 []) (hkx57 : ∀ {V : St} {M : MH} {d0 : Option Value} {d1 : Option Value} {d2 : Option Value}, Rep E ad V M → kx57 V  = some out → G E X RX11 cX11_isLetToSomeMaker 3 (some .boolean) false (rmD 6) P M [d0, d1, d2] 0 0 57 []) (hp : ∀ M, Rep E ad out.2 M → P (some (.int out.1)) M) {V : St} {M : MH} {x1 : Int32} {x2 : Int32} (hR : Rep E ad V M) (h : F_X11_isLetToSomeMaker_2 kh kx49 kx57 fu V x1 x2 = some out) : G E X RX11 cX11_isLetToSomeMaker 3 (some .boolean) false (rmD 6) P M [some (.ref (ad 2100 0)), some (rfq ad 2000 (x1)), some (.int (x2))] 0 0 2 [] := by
  unfold F_X11_isLetToSomeMaker_2 at h
  refine r_iload_n DX11_isLetToSomeMaker_2 rfl ?_
  refine r_aload_n DX11_isLetToSomeMaker_3 rfl ?_
  refine s_geto DX11_isLetToSomeMaker_4 fl_X11_29 hR ct_2100 (one_cnt _) rfl ?_
  refine s_lsize (Li := 2106) (g := 1600) DX11_isLetToSomeMaker_7 cv_X11_89 hR (by decide) (by decide) (Nat.le_of_ble_eq_true rfl) ?_
  refine r_icmp_ge DX11_isLetToSomeMaker_10 (fun c1 => ?_) (fun c1 => ?_)
  · have h := if_t c1 h
    exact hkx57 hR h
  · have h := if_f c1 h
    refine r_aload_n DX11_isLetToSomeMaker_13 rfl ?_
    refine s_geto DX11_isLetToSomeMaker_14 fl_X11_68 hR ct_2100 (one_cnt _) rfl ?_
    refine r_aload_n DX11_isLetToSomeMaker_17 rfl ?_
    refine s_geti DX11_isLetToSomeMaker_18 fl_X11_7 hR ct_2100 (one_cnt _) rfl ?_
    refine t_aload_n (rfq_or _ _ _) DX11_isLetToSomeMaker_21 rfl ?_
    refine r_aload_n DX11_isLetToSomeMaker_22 rfl ?_
    refine s_geto DX11_isLetToSomeMaker_23 fl_X11_29 hR ct_2100 (one_cnt _) rfl ?_
    refine r_iload_n DX11_isLetToSomeMaker_26 rfl ?_
    obtain ⟨⟨hx2, hi3⟩, h⟩ := gd_inv h
    refine s_lget (Li := 2106) (g := 1600) DX11_isLetToSomeMaker_27 cv_X11_93 hR (by decide) hx2 hi3 (by decide) (by simp only [List.map_cons, List.map_nil, rfq_cat, List.sum_cons, List.sum_nil]; exact Nat.le_of_ble_eq_true rfl) (fun M hR => ?_)
    refine q_cast hx2 DX11_isLetToSomeMaker_30 wd_405 hR ct_1600 hi3 rfl ?_
    obtain ⟨r4, V5, hc6, h⟩ := bd_inv h
    refine k_callV (As := [.int ((V 2101 0 0)), rfq ad 2000 (x1), rfq ad 1600 (x2)]) (rest := []) (st1 := []) (w := none) DX11_isLetToSomeMaker_33 cv_X11_248 hR ct_1400 (one_cnt _) rfl (C_X4_setLetters (out := (r4, V5)) (cxL X) hR hc6) rfl (by decide) (by decide) rfl (Nat.le_of_ble_eq_true rfl) rfl (fun M hR => ?_)
    refine r_aload_n DX11_isLetToSomeMaker_36 rfl ?_
    refine s_geto DX11_isLetToSomeMaker_37 fl_X11_68 hR ct_2100 (one_cnt _) rfl ?_
    refine r_bipush (v := 98) DX11_isLetToSomeMaker_40 kb_98 ?_
    obtain ⟨r7, V8, hc9, h⟩ := bd_inv h
    refine k_callV (As := [.int ((98 : Int32))]) (rest := []) (st1 := [.int (r7)]) (w := some (.int r7)) DX11_isLetToSomeMaker_42 cv_X11_252 hR ct_1400 (one_cnt _) rfl (C_X4_lastNumber (out := (r7, V8)) (cxL X) hR hc9) rfl (by decide) (by decide) rfl (Nat.le_of_ble_eq_true rfl) rfl (fun M hR => ?_)
    refine r_iconst (v := -1) DX11_isLetToSomeMaker_45 ki_m1 ?_
    refine r_icmp_ne DX11_isLetToSomeMaker_46 (fun c10 => ?_) (fun c10 => ?_)
    · have h := if_f c10 h
      refine t_iinc (v := 1) (L' := [some (.ref (ad 2100 0)), some (rfq ad 2000 (x1)), some (.int (x2 + 1))]) DX11_isLetToSomeMaker_51 rfl ki_1 (by decide) rfl ?_
      refine r_goto DX11_isLetToSomeMaker_54 ?_
      exact hkh hR h
    · have h := if_t c10 h
      exact hkx49 hR h
theorem SL_X11_isLetToSomeMaker_2 {E : EN} {X : CX} {P : Option Value → MH → Prop} {ad : AD} {fu : Nat} {out : Int32 × St} {kx49 : St → RR} {kx57 : St → RR} (hkx49 : ∀ {V : St} {M : MH} {d0 : Option Value} {d1 : Option Value} {d2 : Option Value}, Rep E ad V M → kx49 V  = some out → G E X RX11 cX11_isLetToSomeMaker 3 (some .boolean) false (rmD 6) P M [d0, d1, d2] 0 0 49 []) (hkx57 : ∀ {V : St} {M : MH} {d0 : Option Value} {d1 : Option Value} {d2 : Option Value}, Rep E ad V M → kx57 V  = some out → G E X RX11 cX11_isLetToSomeMaker 3 (some .boolean) false (rmD 6) P M [d0, d1, d2] 0 0 57 []) (hp : ∀ M, Rep E ad out.2 M → P (some (.int out.1)) M) : ∀ (n : Nat) {V : St} {M : MH} {x1 : Int32} {x2 : Int32}, Rep E ad V M → Lp_X11_isLetToSomeMaker_2 kx49 kx57 fu n V x1 x2 = some out → G E X RX11 cX11_isLetToSomeMaker 3 (some .boolean) false (rmD 6) P M [some (.ref (ad 2100 0)), some (rfq ad 2000 (x1)), some (.int (x2))] 0 0 2 [] := by
  intro n
  induction n with
  | zero => intros; rename_i h; cases h
  | succ n ih => exact fun hR h => S_X11_isLetToSomeMaker_2 (fun hR h => ih hR h) (fun hR h => hkx49 hR h) (fun hR h => hkx57 hR h) hp hR h
theorem S_X11_isLetToSomeMaker_0 {E : EN} {X : CX} {P : Option Value → MH → Prop} {ad : AD} {fu : Nat} {out : Int32 × St} (hp : ∀ M, Rep E ad out.2 M → P (some (.int out.1)) M) {V : St} {M : MH} {x1 : Int32} (hR : Rep E ad V M) (h : f_X11_isLetToSomeMaker fu V x1 = some out) : G E X RX11 cX11_isLetToSomeMaker 3 (some .boolean) false (rmD 6) P M [some (.ref (ad 2100 0)), some (rfq ad 2000 (x1)), none] 0 0 0 [] := by
  unfold f_X11_isLetToSomeMaker at h
  refine r_iconst (v := 0) DX11_isLetToSomeMaker_0 ki_0 ?_
  refine t_istore_n (L' := [some (.ref (ad 2100 0)), some (rfq ad 2000 (x1)), some (.int ((0 : Int32)))]) DX11_isLetToSomeMaker_1 (by decide) rfl ?_
  exact SL_X11_isLetToSomeMaker_2 (fun hR h => S_X11_isLetToSomeMaker_49 hp hR h) (fun hR h => S_X11_isLetToSomeMaker_57 hp hR h) hp fu hR h
theorem C_X11_isLetToSomeMaker {E : EN} {ad : AD} {fu : Nat} {out : Int32 × St} {V : St} {M : MH} {x1 : Int32} (l : Launch) (hR : Rep E ad V M) (h : f_X11_isLetToSomeMaker fu V x1 = some out) : Ct E l yX11_isLetToSomeMaker cX11_isLetToSomeMaker 3 (some .boolean) (rmD 6) [.ref (ad 2100 0), rfq ad 2000 (x1)] M (fun v M => v = (some (.int out.1)) ∧ Rep E ad out.2 M) :=
  Ct.of (own := RX11) (ini := false) (L := [some (.ref (ad 2100 0)), some (rfq ad 2000 (x1)), none]) rfl rfl (fun h => by cases h) (by simp only [List.all_cons, List.all_nil, rfq_cat]; rfl) (Nat.le_of_ble_eq_true rfl) rfl (fun X _ => S_X11_isLetToSomeMaker_0 (fun M hR => ⟨rfl, hR⟩) hR h)
theorem S_X11_beside_80 {E : EN} {X : CX} {P : Option Value → MH → Prop} {ad : AD} {fu : Nat} {out : Int32 × St} (hp : ∀ M, Rep E ad out.2 M → P (some (.int out.1)) M) {V : St} {M : MH} {x2 : Int32} {d0 : Option Value} {d1 : Option Value} {d3 : Option Value} (hR : Rep E ad V M) (h : F_X11_beside_80 fu V x2 = some out) : G E X RX11 cX11_beside 4 (some .int) false (rmD 7) P M [d0, d1, some (.int (x2)), d3] 0 0 80 [] := by
  unfold F_X11_beside_80 at h
  refine r_iload_n DX11_beside_80 rfl ?_
  cases h
  exact r_iret DX11_beside_81 rfl ⟨Nat.le_refl 0, Nat.le_refl 0⟩ (hp M hR)
theorem S_X11_beside_74 {E : EN} {X : CX} {P : Option Value → MH → Prop} {ad : AD} {fu : Nat} {out : Int32 × St} {kh : St → Int32 → Int32 → RR} {kx80 : St → Int32 → RR} (hkh : ∀ {V : St} {M : MH} {x2 : Int32} {x3 : Int32} {d1 : Option Value}, Rep E ad V M → kh V x2 x3 = some out → G E X RX11 cX11_beside 4 (some .int) false (rmD 7) P M [some (.ref (ad 2100 0)), d1, some (.int (x2)), some (.int (x3))] 0 0 42 []) (hkx80 : ∀ {V : St} {M : MH} {x2 : Int32} {d0 : Option Value} {d1 : Option Value} {d3 : Option Value}, Rep E ad V M → kx80 V x2 = some out → G E X RX11 cX11_beside 4 (some .int) false (rmD 7) P M [d0, d1, some (.int (x2)), d3] 0 0 80 []) (hp : ∀ M, Rep E ad out.2 M → P (some (.int out.1)) M) {V : St} {M : MH} {x2 : Int32} {x3 : Int32} {d1 : Option Value} (hR : Rep E ad V M) (h : F_X11_beside_74 kh kx80 fu V x2 x3 = some out) : G E X RX11 cX11_beside 4 (some .int) false (rmD 7) P M [some (.ref (ad 2100 0)), d1, some (.int (x2)), some (.int (x3))] 0 0 74 [] := by
  unfold F_X11_beside_74 at h
  refine t_iinc (v := 1) (L' := [some (.ref (ad 2100 0)), d1, some (.int (x2)), some (.int (x3 + 1))]) DX11_beside_74 rfl ki_1 (by decide) rfl ?_
  refine r_goto DX11_beside_77 ?_
  exact hkh hR h
theorem S_X11_beside_42 {E : EN} {X : CX} {P : Option Value → MH → Prop} {ad : AD} {fu : Nat} {out : Int32 × St} {kh : St → Int32 → Int32 → RR} {kx80 : St → Int32 → RR} (hkh : ∀ {V : St} {M : MH} {x2 : Int32} {x3 : Int32} {d1 : Option Value}, Rep E ad V M → kh V x2 x3 = some out → G E X RX11 cX11_beside 4 (some .int) false (rmD 7) P M [some (.ref (ad 2100 0)), d1, some (.int (x2)), some (.int (x3))] 0 0 42 []) (hkx80 : ∀ {V : St} {M : MH} {x2 : Int32} {d0 : Option Value} {d1 : Option Value} {d3 : Option Value}, Rep E ad V M → kx80 V x2 = some out → G E X RX11 cX11_beside 4 (some .int) false (rmD 7) P M [d0, d1, some (.int (x2)), d3] 0 0 80 []) (hp : ∀ M, Rep E ad out.2 M → P (some (.int out.1)) M) {V : St} {M : MH} {x2 : Int32} {x3 : Int32} {d1 : Option Value} (hR : Rep E ad V M) (h : F_X11_beside_42 kh kx80 fu V x2 x3 = some out) : G E X RX11 cX11_beside 4 (some .int) false (rmD 7) P M [some (.ref (ad 2100 0)), d1, some (.int (x2)), some (.int (x3))] 0 0 42 [] := by
  unfold F_X11_beside_42 at h
  refine r_iload_n DX11_beside_42 rfl ?_
  refine r_aload_n DX11_beside_43 rfl ?_
  refine s_geto DX11_beside_44 fl_X11_26 hR ct_2100 (one_cnt _) rfl ?_
  refine s_lsize (Li := 2105) (g := 2000) DX11_beside_47 cv_X11_89 hR (by decide) (by decide) (Nat.le_of_ble_eq_true rfl) ?_
  refine r_icmp_ge DX11_beside_50 (fun c1 => ?_) (fun c1 => ?_)
  · have h := if_t c1 h
    exact hkx80 hR h
  · have h := if_f c1 h
    refine r_aload_n DX11_beside_53 rfl ?_
    refine r_aload_n DX11_beside_54 rfl ?_
    refine s_geto DX11_beside_55 fl_X11_26 hR ct_2100 (one_cnt _) rfl ?_
    refine r_iload_n DX11_beside_58 rfl ?_
    obtain ⟨⟨hx2, hi3⟩, h⟩ := gd_inv h
    refine s_lget (Li := 2105) (g := 2000) DX11_beside_59 cv_X11_93 hR (by decide) hx2 hi3 (by decide) (Nat.le_of_ble_eq_true rfl) (fun M hR => ?_)
    refine q_cast hx2 DX11_beside_62 wd_645 hR ct_2000 hi3 rfl ?_
    obtain ⟨r4, V5, hc6, h⟩ := bd_inv h
    refine k_callV (As := [rfq ad 2000 (x3)]) (rest := []) (st1 := [.int (r4)]) (w := some (.int r4)) DX11_beside_65 cv_X11_363 hR ct_2100 (one_cnt _) rfl (C_X11_isLetToSomeMaker (out := (r4, V5)) (cxL X) hR hc6) rfl (by decide) (by decide) rfl (Nat.le_of_ble_eq_true rfl) rfl (fun M hR => ?_)
    refine r_if_eq DX11_beside_68 (fun c7 => ?_) (fun c7 => ?_)
    · have h := if_t c7 h
      exact S_X11_beside_74 (fun hR h => hkh hR h) (fun hR h => hkx80 hR h) hp hR h
    · have h := if_f c7 h
      refine t_iinc (v := 1) (L' := [some (.ref (ad 2100 0)), d1, some (.int (x2 + 1)), some (.int (x3))]) DX11_beside_71 rfl ki_1 (by decide) rfl ?_
      exact S_X11_beside_74 (fun hR h => hkh hR h) (fun hR h => hkx80 hR h) hp hR h
theorem SL_X11_beside_42 {E : EN} {X : CX} {P : Option Value → MH → Prop} {ad : AD} {fu : Nat} {out : Int32 × St} {kx80 : St → Int32 → RR} (hkx80 : ∀ {V : St} {M : MH} {x2 : Int32} {d0 : Option Value} {d1 : Option Value} {d3 : Option Value}, Rep E ad V M → kx80 V x2 = some out → G E X RX11 cX11_beside 4 (some .int) false (rmD 7) P M [d0, d1, some (.int (x2)), d3] 0 0 80 []) (hp : ∀ M, Rep E ad out.2 M → P (some (.int out.1)) M) : ∀ (n : Nat) {V : St} {M : MH} {x2 : Int32} {x3 : Int32} {d1 : Option Value}, Rep E ad V M → Lp_X11_beside_42 kx80 fu n V x2 x3 = some out → G E X RX11 cX11_beside 4 (some .int) false (rmD 7) P M [some (.ref (ad 2100 0)), d1, some (.int (x2)), some (.int (x3))] 0 0 42 [] := by
  intro n
  induction n with
  | zero => intros; rename_i h; cases h
  | succ n ih => exact fun hR h => S_X11_beside_42 (fun hR h => ih hR h) (fun hR h => hkx80 hR h) hp hR h
theorem S_X11_beside_0 {E : EN} {X : CX} {P : Option Value → MH → Prop} {ad : AD} {fu : Nat} {out : Int32 × St} (hp : ∀ M, Rep E ad out.2 M → P (some (.int out.1)) M) {V : St} {M : MH} {x1 : Int32} (hR : Rep E ad V M) (h : f_X11_beside fu V x1 = some out) : G E X RX11 cX11_beside 4 (some .int) false (rmD 7) P M [some (.ref (ad 2100 0)), some (.int (x1)), none, none] 0 0 0 [] := by
  unfold f_X11_beside at h
  refine r_iload_n DX11_beside_0 rfl ?_
  refine r_iconst (v := -1) DX11_beside_1 ki_m1 ?_
  refine r_aload_n DX11_beside_2 rfl ?_
  refine s_geto DX11_beside_3 fl_X11_68 hR ct_2100 (one_cnt _) rfl ?_
  refine s_geto DX11_beside_6 fl_X11_222 hR ct_1400 (one_cnt _) rfl ?_
  refine s_lsize (Li := 1401) (g := 1700) DX11_beside_9 cv_X11_89 hR (by decide) (by decide) (Nat.le_of_ble_eq_true rfl) ?_
  refine r_iconst (v := 1) DX11_beside_12 ki_1 ?_
  refine r_isub DX11_beside_13 ?_
  obtain ⟨r1, V2, hc3, h⟩ := bd_inv h
  refine k_callS (As := [.int (x1), .int ((-1 : Int32)), .int ((V 1401 0 0) - (1 : Int32))]) (rest := []) (st1 := [.int (r1)]) (w := some (.int r1)) DX11_beside_14 cs_X11_111 (C_X11_within (out := (r1, V2)) (cxL X) hR hc3) rfl (by decide) (by decide) rfl (Nat.le_of_ble_eq_true rfl) rfl (fun M hR => ?_)
  refine r_if_ne DX11_beside_17 (fun c4 => ?_) (fun c4 => ?_)
  · have h := if_f c4 h
    refine r_aload_n DX11_beside_22 rfl ?_
    refine s_geto DX11_beside_23 fl_X11_68 hR ct_2100 (one_cnt _) rfl ?_
    refine r_aload_n DX11_beside_26 rfl ?_
    refine s_geti DX11_beside_27 fl_X11_7 hR ct_2100 (one_cnt _) rfl ?_
    refine r_aload_n DX11_beside_30 rfl ?_
    refine s_geti DX11_beside_31 fl_X11_7 hR ct_2100 (one_cnt _) rfl ?_
    refine r_iload_n DX11_beside_34 rfl ?_
    obtain ⟨r5, V6, hc7, h⟩ := bd_inv h
    refine k_callV (As := [.int ((V2 2101 0 0)), .int ((V2 2101 0 0)), .int (x1)]) (rest := []) (st1 := []) (w := none) DX11_beside_35 cv_X11_245 hR ct_1400 (one_cnt _) rfl (C_X4_weigh (out := (r5, V6)) (cxL X) hR hc7) rfl (by decide) (by decide) rfl (Nat.le_of_ble_eq_true rfl) rfl (fun M hR => ?_)
    refine r_iconst (v := 0) DX11_beside_38 ki_0 ?_
    refine t_istore_n (L' := [some (.ref (ad 2100 0)), some (.int (x1)), some (.int ((0 : Int32))), none]) DX11_beside_39 (by decide) rfl ?_
    refine r_iconst (v := 0) DX11_beside_40 ki_0 ?_
    refine t_istore_n (L' := [some (.ref (ad 2100 0)), some (.int (x1)), some (.int ((0 : Int32))), some (.int ((0 : Int32)))]) DX11_beside_41 (by decide) rfl ?_
    exact SL_X11_beside_42 (fun hR h => S_X11_beside_80 hp hR h) hp fu hR h
  · have h := if_t c4 h
    refine r_iconst (v := -1) DX11_beside_20 ki_m1 ?_
    cases h
    exact r_iret DX11_beside_21 rfl ⟨Nat.le_refl 0, Nat.le_refl 0⟩ (hp M hR)
theorem C_X11_beside {E : EN} {ad : AD} {fu : Nat} {out : Int32 × St} {V : St} {M : MH} {x1 : Int32} (l : Launch) (hR : Rep E ad V M) (h : f_X11_beside fu V x1 = some out) : Ct E l yX11_beside cX11_beside 4 (some .int) (rmD 7) [.ref (ad 2100 0), .int (x1)] M (fun v M => v = (some (.int out.1)) ∧ Rep E ad out.2 M) :=
  Ct.of (own := RX11) (ini := false) (L := [some (.ref (ad 2100 0)), some (.int (x1)), none, none]) rfl rfl (fun h => by cases h) rfl (Nat.le_of_ble_eq_true rfl) rfl (fun X _ => S_X11_beside_0 (fun M hR => ⟨rfl, hR⟩) hR h)
theorem S_X11_findPerson_32 {E : EN} {X : CX} {P : Option Value → MH → Prop} {ad : AD} {fu : Nat} {out : Int32 × St} (hp : ∀ M, Rep E ad out.2 M → P (some (rfq ad 1800 out.1)) M) {V : St} {M : MH} {s0 : Int32} {d0 : Option Value} {d1 : Option Value} (hR : Rep E ad V M) (h : F_X11_findPerson_32 fu V s0 = some out) : G E X RX11 cX11_findPerson 2 (some (.object "UtilityBoard$Person")) false (rmD 4) P M [d0, d1] 0 0 32 [rfq ad 1800 (s0)] := by
  unfold F_X11_findPerson_32 at h
  cases h
  exact r_aret DX11_findPerson_32 rfl (Or.inl ⟨_, rfl⟩) (rfq_or _ _ _) ⟨Nat.le_refl 0, Nat.le_refl 0⟩ (hp M hR)
theorem S_X11_findPerson_0 {E : EN} {X : CX} {P : Option Value → MH → Prop} {ad : AD} {fu : Nat} {out : Int32 × St} (hp : ∀ M, Rep E ad out.2 M → P (some (rfq ad 1800 out.1)) M) {V : St} {M : MH} {x1 : Int32} (hR : Rep E ad V M) (h : f_X11_findPerson fu V x1 = some out) : G E X RX11 cX11_findPerson 2 (some (.object "UtilityBoard$Person")) false (rmD 4) P M [some (.ref (ad 2100 0)), some (.int (x1))] 0 0 0 [] := by
  unfold f_X11_findPerson at h
  refine r_iload_n DX11_findPerson_0 rfl ?_
  refine r_iconst (v := 0) DX11_findPerson_1 ki_0 ?_
  refine r_aload_n DX11_findPerson_2 rfl ?_
  refine s_geto DX11_findPerson_3 fl_X11_36 hR ct_2100 (one_cnt _) rfl ?_
  refine s_lsize (Li := 2108) (g := 1800) DX11_findPerson_6 cv_X11_89 hR (by decide) (by decide) (Nat.le_of_ble_eq_true rfl) ?_
  refine r_iconst (v := 1) DX11_findPerson_9 ki_1 ?_
  refine r_isub DX11_findPerson_10 ?_
  obtain ⟨r1, V2, hc3, h⟩ := bd_inv h
  refine k_callS (As := [.int (x1), .int ((0 : Int32)), .int ((V 2108 0 0) - (1 : Int32))]) (rest := []) (st1 := [.int (r1)]) (w := some (.int r1)) DX11_findPerson_11 cs_X11_111 (C_X11_within (out := (r1, V2)) (cxL X) hR hc3) rfl (by decide) (by decide) rfl (Nat.le_of_ble_eq_true rfl) rfl (fun M hR => ?_)
  refine r_if_eq DX11_findPerson_14 (fun c4 => ?_) (fun c4 => ?_)
  · have h := if_t c4 h
    refine q_null (ad := ad) (g := 1800) DX11_findPerson_31 ?_
    exact S_X11_findPerson_32 hp hR h
  · have h := if_f c4 h
    refine r_aload_n DX11_findPerson_17 rfl ?_
    refine s_geto DX11_findPerson_18 fl_X11_36 hR ct_2100 (one_cnt _) rfl ?_
    refine r_iload_n DX11_findPerson_21 rfl ?_
    obtain ⟨⟨hx5, hi6⟩, h⟩ := gd_inv h
    refine s_lget (Li := 2108) (g := 1800) DX11_findPerson_22 cv_X11_93 hR (by decide) hx5 hi6 (by decide) (Nat.le_of_ble_eq_true rfl) (fun M hR => ?_)
    refine q_cast hx5 DX11_findPerson_25 wd_400 hR ct_1800 hi6 rfl ?_
    refine r_goto DX11_findPerson_28 ?_
    exact S_X11_findPerson_32 hp hR h
theorem C_X11_findPerson {E : EN} {ad : AD} {fu : Nat} {out : Int32 × St} {V : St} {M : MH} {x1 : Int32} (l : Launch) (hR : Rep E ad V M) (h : f_X11_findPerson fu V x1 = some out) : Ct E l yX11_findPerson cX11_findPerson 2 (some (.object "UtilityBoard$Person")) (rmD 4) [.ref (ad 2100 0), .int (x1)] M (fun v M => v = (some (rfq ad 1800 out.1)) ∧ Rep E ad out.2 M) :=
  Ct.of (own := RX11) (ini := false) (L := [some (.ref (ad 2100 0)), some (.int (x1))]) rfl rfl (fun h => by cases h) rfl (Nat.le_of_ble_eq_true rfl) rfl (fun X _ => S_X11_findPerson_0 (fun M hR => ⟨rfl, hR⟩) hR h)
theorem S_X11_bombed_81 {E : EN} {X : CX} {P : Option Value → MH → Prop} {ad : AD} {fu : Nat} {out : Int32 × St} (hp : ∀ M, Rep E ad out.2 M → P (some (.int out.1)) M) {V : St} {M : MH} {x2 : Int32} {d0 : Option Value} {d1 : Option Value} {d3 : Option Value} {d4 : Option Value} (hR : Rep E ad V M) (h : F_X11_bombed_81 fu V x2 = some out) : G E X RX11 cX11_bombed 5 (some .int) false (rmD 5) P M [d0, d1, some (.int (x2)), d3, d4] 0 0 81 [] := by
  unfold F_X11_bombed_81 at h
  refine r_iload_n DX11_bombed_81 rfl ?_
  cases h
  exact r_iret DX11_bombed_82 rfl ⟨Nat.le_refl 0, Nat.le_refl 0⟩ (hp M hR)
theorem S_X11_bombed_75 {E : EN} {X : CX} {P : Option Value → MH → Prop} {ad : AD} {fu : Nat} {out : Int32 × St} {kh : St → Int32 → Int32 → Int32 → RR} {kx81 : St → Int32 → RR} (hkh : ∀ {V : St} {M : MH} {x1 : Int32} {x2 : Int32} {x3 : Int32} {d4 : Option Value}, Rep E ad V M → kh V x1 x2 x3 = some out → G E X RX11 cX11_bombed 5 (some .int) false (rmD 5) P M [some (.ref (ad 2100 0)), some (.int (x1)), some (.int (x2)), some (.int (x3)), d4] 0 0 14 []) (hkx81 : ∀ {V : St} {M : MH} {x2 : Int32} {d0 : Option Value} {d1 : Option Value} {d3 : Option Value} {d4 : Option Value}, Rep E ad V M → kx81 V x2 = some out → G E X RX11 cX11_bombed 5 (some .int) false (rmD 5) P M [d0, d1, some (.int (x2)), d3, d4] 0 0 81 []) (hp : ∀ M, Rep E ad out.2 M → P (some (.int out.1)) M) {V : St} {M : MH} {x1 : Int32} {x2 : Int32} {x3 : Int32} {d4 : Option Value} (hR : Rep E ad V M) (h : F_X11_bombed_75 kh kx81 fu V x1 x2 x3 = some out) : G E X RX11 cX11_bombed 5 (some .int) false (rmD 5) P M [some (.ref (ad 2100 0)), some (.int (x1)), some (.int (x2)), some (.int (x3)), d4] 0 0 75 [] := by
  unfold F_X11_bombed_75 at h
  refine t_iinc (v := 1) (L' := [some (.ref (ad 2100 0)), some (.int (x1)), some (.int (x2)), some (.int (x3 + 1)), d4]) DX11_bombed_75 rfl ki_1 (by decide) rfl ?_
  refine r_goto DX11_bombed_78 ?_
  exact hkh hR h
theorem S_X11_bombed_14 {E : EN} {X : CX} {P : Option Value → MH → Prop} {ad : AD} {fu : Nat} {out : Int32 × St} {kh : St → Int32 → Int32 → Int32 → RR} {kx81 : St → Int32 → RR} (hkh : ∀ {V : St} {M : MH} {x1 : Int32} {x2 : Int32} {x3 : Int32} {d4 : Option Value}, Rep E ad V M → kh V x1 x2 x3 = some out → G E X RX11 cX11_bombed 5 (some .int) false (rmD 5) P M [some (.ref (ad 2100 0)), some (.int (x1)), some (.int (x2)), some (.int (x3)), d4] 0 0 14 []) (hkx81 : ∀ {V : St} {M : MH} {x2 : Int32} {d0 : Option Value} {d1 : Option Value} {d3 : Option Value} {d4 : Option Value}, Rep E ad V M → kx81 V x2 = some out → G E X RX11 cX11_bombed 5 (some .int) false (rmD 5) P M [d0, d1, some (.int (x2)), d3, d4] 0 0 81 []) (hp : ∀ M, Rep E ad out.2 M → P (some (.int out.1)) M) {V : St} {M : MH} {x1 : Int32} {x2 : Int32} {x3 : Int32} {d4 : Option Value} (hR : Rep E ad V M) (h : F_X11_bombed_14 kh kx81 fu V x1 x2 x3 = some out) : G E X RX11 cX11_bombed 5 (some .int) false (rmD 5) P M [some (.ref (ad 2100 0)), some (.int (x1)), some (.int (x2)), some (.int (x3)), d4] 0 0 14 [] := by
  unfold F_X11_bombed_14 at h
  refine r_iload_n DX11_bombed_14 rfl ?_
  refine r_aload_n DX11_bombed_15 rfl ?_
  refine s_geto DX11_bombed_16 fl_X11_39 hR ct_2100 (one_cnt _) rfl ?_
  refine s_lsize (Li := 2109) (g := 1100) DX11_bombed_19 cv_X11_89 hR (by decide) (by decide) (Nat.le_of_ble_eq_true rfl) ?_
  refine r_icmp_ge DX11_bombed_22 (fun c1 => ?_) (fun c1 => ?_)
  · have h := if_t c1 h
    exact hkx81 hR h
  · have h := if_f c1 h
    refine r_aload_n DX11_bombed_25 rfl ?_
    refine s_geto DX11_bombed_26 fl_X11_39 hR ct_2100 (one_cnt _) rfl ?_
    refine r_iload_n DX11_bombed_29 rfl ?_
    obtain ⟨⟨hx2, hi3⟩, h⟩ := gd_inv h
    refine s_lget (Li := 2109) (g := 1100) DX11_bombed_30 cv_X11_93 hR (by decide) hx2 hi3 (by decide) (Nat.le_of_ble_eq_true rfl) (fun M hR => ?_)
    refine q_cast hx2 DX11_bombed_33 wd_1135 hR ct_1100 hi3 rfl ?_
    refine t_astore (L' := [some (.ref (ad 2100 0)), some (.int (x1)), some (.int (x2)), some (.int (x3)), some (rfq ad 1100 (x3))]) (rfq_or _ _ _) DX11_bombed_36 (by decide) rfl ?_
    refine t_aload (rfq_or _ _ _) DX11_bombed_38 rfl ?_
    refine q_geti hx2 DX11_bombed_40 fl_X11_307 hR ct_1100 hi3 rfl ?_
    refine r_if_eq DX11_bombed_43 (fun c4 => ?_) (fun c4 => ?_)
    · have h := if_t c4 h
      exact S_X11_bombed_75 (fun hR h => hkh hR h) (fun hR h => hkx81 hR h) hp hR h
    · have h := if_f c4 h
      refine t_aload (rfq_or _ _ _) DX11_bombed_46 rfl ?_
      refine q_geti hx2 DX11_bombed_48 fl_X11_317 hR ct_1100 hi3 rfl ?_
      refine r_iload_n DX11_bombed_51 rfl ?_
      refine r_icmp_ne DX11_bombed_52 (fun c5 => ?_) (fun c5 => ?_)
      · have h := if_f c5 h
        exact S_X11_bombed_75 (fun hR h => hkh hR h) (fun hR h => hkx81 hR h) hp hR h
      · have h := if_t c5 h
        refine t_aload (rfq_or _ _ _) DX11_bombed_55 rfl ?_
        refine q_geti hx2 DX11_bombed_57 fl_X11_320 hR ct_1100 hi3 rfl ?_
        refine r_bipush (v := 99) DX11_bombed_60 kb_99 ?_
        refine r_icmp_eq DX11_bombed_62 (fun c6 => ?_) (fun c6 => ?_)
        · have h := if_t c6 h
          exact S_X11_bombed_75 (fun hR h => hkh hR h) (fun hR h => hkx81 hR h) hp hR h
        · have h := if_f c6 h
          refine t_aload (rfq_or _ _ _) DX11_bombed_65 rfl ?_
          refine r_bipush (v := 99) DX11_bombed_67 kb_99 ?_
          obtain ⟨V7, hv8, h⟩ := bv_inv h
          refine q_puti hx2 DX11_bombed_69 fp_X11_320 hR oks_1104 ct_1100 hi3 rfl rfl rfl (fun M hR => ?_)
          have hR := hR.cg hv8
          refine t_iinc (v := 1) (L' := [some (.ref (ad 2100 0)), some (.int (x1)), some (.int (x2 + 1)), some (.int (x3)), some (rfq ad 1100 (x3))]) DX11_bombed_72 rfl ki_1 (by decide) rfl ?_
          exact S_X11_bombed_75 (fun hR h => hkh hR h) (fun hR h => hkx81 hR h) hp hR h
theorem SL_X11_bombed_14 {E : EN} {X : CX} {P : Option Value → MH → Prop} {ad : AD} {fu : Nat} {out : Int32 × St} {kx81 : St → Int32 → RR} (hkx81 : ∀ {V : St} {M : MH} {x2 : Int32} {d0 : Option Value} {d1 : Option Value} {d3 : Option Value} {d4 : Option Value}, Rep E ad V M → kx81 V x2 = some out → G E X RX11 cX11_bombed 5 (some .int) false (rmD 5) P M [d0, d1, some (.int (x2)), d3, d4] 0 0 81 []) (hp : ∀ M, Rep E ad out.2 M → P (some (.int out.1)) M) : ∀ (n : Nat) {V : St} {M : MH} {x1 : Int32} {x2 : Int32} {x3 : Int32} {d4 : Option Value}, Rep E ad V M → Lp_X11_bombed_14 kx81 fu n V x1 x2 x3 = some out → G E X RX11 cX11_bombed 5 (some .int) false (rmD 5) P M [some (.ref (ad 2100 0)), some (.int (x1)), some (.int (x2)), some (.int (x3)), d4] 0 0 14 [] := by
  intro n
  induction n with
  | zero => intros; rename_i h; cases h
  | succ n ih => exact fun hR h => S_X11_bombed_14 (fun hR h => ih hR h) (fun hR h => hkx81 hR h) hp hR h
theorem S_X11_bombed_0 {E : EN} {X : CX} {P : Option Value → MH → Prop} {ad : AD} {fu : Nat} {out : Int32 × St} (hp : ∀ M, Rep E ad out.2 M → P (some (.int out.1)) M) {V : St} {M : MH} {x1 : Int32} (hR : Rep E ad V M) (h : f_X11_bombed fu V x1 = some out) : G E X RX11 cX11_bombed 5 (some .int) false (rmD 5) P M [some (.ref (ad 2100 0)), some (.int (x1)), none, none, none] 0 0 0 [] := by
  unfold f_X11_bombed at h
  refine r_aload_n DX11_bombed_0 rfl ?_
  refine r_iload_n DX11_bombed_1 rfl ?_
  obtain ⟨r1, V2, hc3, h⟩ := bd_inv h
  refine k_callV (As := [.int (x1)]) (rest := []) (st1 := [rfq ad 1800 (r1)]) (w := some (rfq ad 1800 r1)) DX11_bombed_2 cv_X11_287 hR ct_2100 (one_cnt _) rfl (C_X11_findPerson (out := (r1, V2)) (cxL X) hR hc3) rfl (by decide) (by decide) rfl (Nat.le_of_ble_eq_true rfl) rfl (fun M hR => ?_)
  refine q_ifnonnull DX11_bombed_5 (fun c4 => ?_) (fun c4 => ?_)
  · have h := if_f c4 h
    refine r_iconst (v := 0) DX11_bombed_10 ki_0 ?_
    refine t_istore_n (L' := [some (.ref (ad 2100 0)), some (.int (x1)), some (.int ((0 : Int32))), none, none]) DX11_bombed_11 (by decide) rfl ?_
    refine r_iconst (v := 0) DX11_bombed_12 ki_0 ?_
    refine t_istore_n (L' := [some (.ref (ad 2100 0)), some (.int (x1)), some (.int ((0 : Int32))), some (.int ((0 : Int32))), none]) DX11_bombed_13 (by decide) rfl ?_
    exact SL_X11_bombed_14 (fun hR h => S_X11_bombed_81 hp hR h) hp fu hR h
  · have h := if_t c4 h
    refine r_iconst (v := -1) DX11_bombed_8 ki_m1 ?_
    cases h
    exact r_iret DX11_bombed_9 rfl ⟨Nat.le_refl 0, Nat.le_refl 0⟩ (hp M hR)
theorem C_X11_bombed {E : EN} {ad : AD} {fu : Nat} {out : Int32 × St} {V : St} {M : MH} {x1 : Int32} (l : Launch) (hR : Rep E ad V M) (h : f_X11_bombed fu V x1 = some out) : Ct E l yX11_bombed cX11_bombed 5 (some .int) (rmD 5) [.ref (ad 2100 0), .int (x1)] M (fun v M => v = (some (.int out.1)) ∧ Rep E ad out.2 M) :=
  Ct.of (own := RX11) (ini := false) (L := [some (.ref (ad 2100 0)), some (.int (x1)), none, none, none]) rfl rfl (fun h => by cases h) rfl (Nat.le_of_ble_eq_true rfl) rfl (fun X _ => S_X11_bombed_0 (fun M hR => ⟨rfl, hR⟩) hR h)
theorem S_X11_numberOnTape_44 {E : EN} {X : CX} {P : Option Value → MH → Prop} {ad : AD} {fu : Nat} {out : Int32 × St} (hp : ∀ M, Rep E ad out.2 M → P (some (.int out.1)) M) {V : St} {M : MH} {x2 : Int32} {d0 : Option Value} {d1 : Option Value} {d3 : Option Value} (hR : Rep E ad V M) (h : F_X11_numberOnTape_44 fu V x2 = some out) : G E X RX11 cX11_numberOnTape 4 (some .int) false (rmD 1) P M [d0, d1, some (.int (x2)), d3] 0 0 44 [] := by
  unfold F_X11_numberOnTape_44 at h
  refine r_iload_n DX11_numberOnTape_44 rfl ?_
  cases h
  exact r_iret DX11_numberOnTape_45 rfl ⟨Nat.le_refl 0, Nat.le_refl 0⟩ (hp M hR)
theorem S_X11_numberOnTape_6 {E : EN} {X : CX} {P : Option Value → MH → Prop} {ad : AD} {fu : Nat} {out : Int32 × St} {kh : St → Int32 → Int32 → Int32 → RR} {kx44 : St → Int32 → RR} (hkh : ∀ {V : St} {M : MH} {x1 : Int32} {x2 : Int32} {x3 : Int32}, Rep E ad V M → kh V x1 x2 x3 = some out → G E X RX11 cX11_numberOnTape 4 (some .int) false (rmD 1) P M [some (.ref (ad 2100 0)), some (.int (x1)), some (.int (x2)), some (.int (x3))] 0 0 6 []) (hkx44 : ∀ {V : St} {M : MH} {x2 : Int32} {d0 : Option Value} {d1 : Option Value} {d3 : Option Value}, Rep E ad V M → kx44 V x2 = some out → G E X RX11 cX11_numberOnTape 4 (some .int) false (rmD 1) P M [d0, d1, some (.int (x2)), d3] 0 0 44 []) (hp : ∀ M, Rep E ad out.2 M → P (some (.int out.1)) M) {V : St} {M : MH} {x1 : Int32} {x2 : Int32} {x3 : Int32} (hR : Rep E ad V M) (h : F_X11_numberOnTape_6 kh kx44 fu V x1 x2 x3 = some out) : G E X RX11 cX11_numberOnTape 4 (some .int) false (rmD 1) P M [some (.ref (ad 2100 0)), some (.int (x1)), some (.int (x2)), some (.int (x3))] 0 0 6 [] := by
  unfold F_X11_numberOnTape_6 at h
  refine r_iload_n DX11_numberOnTape_6 rfl ?_
  refine r_iconst (v := 4) DX11_numberOnTape_7 ki_4 ?_
  refine r_iload_n DX11_numberOnTape_8 rfl ?_
  refine r_imul DX11_numberOnTape_9 ?_
  refine r_iconst (v := 4) DX11_numberOnTape_10 ki_4 ?_
  refine r_iadd DX11_numberOnTape_11 ?_
  refine r_icmp_ge DX11_numberOnTape_12 (fun c1 => ?_) (fun c1 => ?_)
  · have h := if_t c1 h
    exact hkx44 hR h
  · have h := if_f c1 h
    refine r_iload_n DX11_numberOnTape_15 rfl ?_
    refine r_sipush (v := 400) DX11_numberOnTape_16 ks_400 ?_
    refine r_icmp_ge DX11_numberOnTape_19 (fun c2 => ?_) (fun c2 => ?_)
    · have h := if_t c2 h
      exact hkx44 hR h
    · have h := if_f c2 h
      refine r_iload_n DX11_numberOnTape_22 rfl ?_
      refine r_bipush (v := 8) DX11_numberOnTape_23 kb_8 ?_
      refine r_ishl DX11_numberOnTape_25 ?_
      refine r_aload_n DX11_numberOnTape_26 rfl ?_
      refine s_geta DX11_numberOnTape_27 fl_X11_51 hR ct_2100 (one_cnt _) rfl ?_
      refine r_iload_n DX11_numberOnTape_30 rfl ?_
      obtain ⟨hg3, h⟩ := gd_inv h
      refine s_bald DX11_numberOnTape_31 hR ct_2113 (two_cnt _) hg3 ?_
      refine r_sipush (v := 255) DX11_numberOnTape_32 ks_255 ?_
      refine r_iand DX11_numberOnTape_35 ?_
      refine r_ior DX11_numberOnTape_36 ?_
      refine t_istore_n (L' := [some (.ref (ad 2100 0)), some (.int (x1)), some (.int ((x2 <<< ((8 : Int32) &&& 31)) ||| ((V 2113 (0) (x3).toNatClampNeg) &&& (255 : Int32)))), some (.int (x3))]) DX11_numberOnTape_37 (by decide) rfl ?_
      refine t_iinc (v := 1) (L' := [some (.ref (ad 2100 0)), some (.int (x1)), some (.int ((x2 <<< ((8 : Int32) &&& 31)) ||| ((V 2113 (0) (x3).toNatClampNeg) &&& (255 : Int32)))), some (.int (x3 + 1))]) DX11_numberOnTape_38 rfl ki_1 (by decide) rfl ?_
      refine r_goto DX11_numberOnTape_41 ?_
      exact hkh hR h
theorem SL_X11_numberOnTape_6 {E : EN} {X : CX} {P : Option Value → MH → Prop} {ad : AD} {fu : Nat} {out : Int32 × St} {kx44 : St → Int32 → RR} (hkx44 : ∀ {V : St} {M : MH} {x2 : Int32} {d0 : Option Value} {d1 : Option Value} {d3 : Option Value}, Rep E ad V M → kx44 V x2 = some out → G E X RX11 cX11_numberOnTape 4 (some .int) false (rmD 1) P M [d0, d1, some (.int (x2)), d3] 0 0 44 []) (hp : ∀ M, Rep E ad out.2 M → P (some (.int out.1)) M) : ∀ (n : Nat) {V : St} {M : MH} {x1 : Int32} {x2 : Int32} {x3 : Int32}, Rep E ad V M → Lp_X11_numberOnTape_6 kx44 fu n V x1 x2 x3 = some out → G E X RX11 cX11_numberOnTape 4 (some .int) false (rmD 1) P M [some (.ref (ad 2100 0)), some (.int (x1)), some (.int (x2)), some (.int (x3))] 0 0 6 [] := by
  intro n
  induction n with
  | zero => intros; rename_i h; cases h
  | succ n ih => exact fun hR h => S_X11_numberOnTape_6 (fun hR h => ih hR h) (fun hR h => hkx44 hR h) hp hR h
theorem S_X11_numberOnTape_0 {E : EN} {X : CX} {P : Option Value → MH → Prop} {ad : AD} {fu : Nat} {out : Int32 × St} (hp : ∀ M, Rep E ad out.2 M → P (some (.int out.1)) M) {V : St} {M : MH} {x1 : Int32} (hR : Rep E ad V M) (h : f_X11_numberOnTape fu V x1 = some out) : G E X RX11 cX11_numberOnTape 4 (some .int) false (rmD 1) P M [some (.ref (ad 2100 0)), some (.int (x1)), none, none] 0 0 0 [] := by
  unfold f_X11_numberOnTape at h
  refine r_iconst (v := 0) DX11_numberOnTape_0 ki_0 ?_
  refine t_istore_n (L' := [some (.ref (ad 2100 0)), some (.int (x1)), some (.int ((0 : Int32))), none]) DX11_numberOnTape_1 (by decide) rfl ?_
  refine r_iconst (v := 4) DX11_numberOnTape_2 ki_4 ?_
  refine r_iload_n DX11_numberOnTape_3 rfl ?_
  refine r_imul DX11_numberOnTape_4 ?_
  refine t_istore_n (L' := [some (.ref (ad 2100 0)), some (.int (x1)), some (.int ((0 : Int32))), some (.int ((4 : Int32) * x1))]) DX11_numberOnTape_5 (by decide) rfl ?_
  exact SL_X11_numberOnTape_6 (fun hR h => S_X11_numberOnTape_44 hp hR h) hp fu hR h
theorem C_X11_numberOnTape {E : EN} {ad : AD} {fu : Nat} {out : Int32 × St} {V : St} {M : MH} {x1 : Int32} (l : Launch) (hR : Rep E ad V M) (h : f_X11_numberOnTape fu V x1 = some out) : Ct E l yX11_numberOnTape cX11_numberOnTape 4 (some .int) (rmD 1) [.ref (ad 2100 0), .int (x1)] M (fun v M => v = (some (.int out.1)) ∧ Rep E ad out.2 M) :=
  Ct.of (own := RX11) (ini := false) (L := [some (.ref (ad 2100 0)), some (.int (x1)), none, none]) rfl rfl (fun h => by cases h) rfl (Nat.le_of_ble_eq_true rfl) rfl (fun X _ => S_X11_numberOnTape_0 (fun M hR => ⟨rfl, hR⟩) hR h)
theorem S_X11_firstWrong_129 {E : EN} {X : CX} {P : Option Value → MH → Prop} {ad : AD} {fu : Nat} {out : Int32 × St} (hp : ∀ M, Rep E ad out.2 M → P (some (.int out.1)) M) {V : St} {M : MH} {s0 : Int32} {d0 : Option Value} {d1 : Option Value} {d2 : Option Value} {d3 : Option Value} {d4 : Option Value} {d5 : Option Value} {d6 : Option Value} {d7 : Option Value} (hR : Rep E ad V M) (h : F_X11_firstWrong_129 fu V s0 = some out) : G E X RX11 cX11_firstWrong 8 (some .int) false (rmD 4) P M [d0, d1, d2, d3, d4, d5, d6, d7] 0 0 129 [.int (s0)] := by
  unfold F_X11_firstWrong_129 at h
  cases h
  exact r_iret DX11_firstWrong_129 rfl ⟨Nat.le_refl 0, Nat.le_refl 0⟩ (hp M hR)
theorem S_X11_firstWrong_119 {E : EN} {X : CX} {P : Option Value → MH → Prop} {ad : AD} {fu : Nat} {out : Int32 × St} (hp : ∀ M, Rep E ad out.2 M → P (some (.int out.1)) M) {V : St} {M : MH} {x1 : Int32} {x2 : Int32} {d0 : Option Value} {d3 : Option Value} {d4 : Option Value} {d5 : Option Value} {d6 : Option Value} {d7 : Option Value} (hR : Rep E ad V M) (h : F_X11_firstWrong_119 fu V x1 x2 = some out) : G E X RX11 cX11_firstWrong 8 (some .int) false (rmD 4) P M [d0, some (.int (x1)), some (.int (x2)), d3, d4, d5, d6, d7] 0 0 119 [] := by
  unfold F_X11_firstWrong_119 at h
  refine r_iload_n DX11_firstWrong_119 rfl ?_
  refine r_iload_n DX11_firstWrong_120 rfl ?_
  refine r_icmp_ge DX11_firstWrong_121 (fun c1 => ?_) (fun c1 => ?_)
  · have h := if_t c1 h
    refine r_iconst (v := -1) DX11_firstWrong_128 ki_m1 ?_
    exact S_X11_firstWrong_129 hp hR h
  · have h := if_f c1 h
    refine r_iload_n DX11_firstWrong_124 rfl ?_
    refine r_goto DX11_firstWrong_125 ?_
    exact S_X11_firstWrong_129 hp hR h
theorem S_X11_firstWrong_113 {E : EN} {X : CX} {P : Option Value → MH → Prop} {ad : AD} {fu : Nat} {out : Int32 × St} {kh : St → Int32 → Int32 → Int32 → RR} {kx96 : St → Int32 → RR} {kx119 : St → Int32 → Int32 → RR} (hkh : ∀ {V : St} {M : MH} {x1 : Int32} {x2 : Int32} {x3 : Int32} {d4 : Option Value} {d5 : Option Value} {d6 : Option Value} {d7 : Option Value}, Rep E ad V M → kh V x1 x2 x3 = some out → G E X RX11 cX11_firstWrong 8 (some .int) false (rmD 4) P M [some (.ref (ad 2100 0)), some (.int (x1)), some (.int (x2)), some (.int (x3)), d4, d5, d6, d7] 0 0 4 []) (hkx96 : ∀ {V : St} {M : MH} {x2 : Int32} {d0 : Option Value} {d1 : Option Value} {d3 : Option Value} {d4 : Option Value} {d5 : Option Value} {d6 : Option Value} {d7 : Option Value}, Rep E ad V M → kx96 V x2 = some out → G E X RX11 cX11_firstWrong 8 (some .int) false (rmD 4) P M [d0, d1, some (.int (x2)), d3, d4, d5, d6, d7] 0 0 96 []) (hkx119 : ∀ {V : St} {M : MH} {x1 : Int32} {x2 : Int32} {d0 : Option Value} {d3 : Option Value} {d4 : Option Value} {d5 : Option Value} {d6 : Option Value} {d7 : Option Value}, Rep E ad V M → kx119 V x1 x2 = some out → G E X RX11 cX11_firstWrong 8 (some .int) false (rmD 4) P M [d0, some (.int (x1)), some (.int (x2)), d3, d4, d5, d6, d7] 0 0 119 []) (hp : ∀ M, Rep E ad out.2 M → P (some (.int out.1)) M) {V : St} {M : MH} {x1 : Int32} {x2 : Int32} {x3 : Int32} {d4 : Option Value} {d5 : Option Value} {d6 : Option Value} {d7 : Option Value} (hR : Rep E ad V M) (h : F_X11_firstWrong_113 kh kx96 kx119 fu V x1 x2 x3 = some out) : G E X RX11 cX11_firstWrong 8 (some .int) false (rmD 4) P M [some (.ref (ad 2100 0)), some (.int (x1)), some (.int (x2)), some (.int (x3)), d4, d5, d6, d7] 0 0 113 [] := by
  unfold F_X11_firstWrong_113 at h
  refine t_iinc (v := 1) (L' := [some (.ref (ad 2100 0)), some (.int (x1)), some (.int (x2)), some (.int (x3 + 1)), d4, d5, d6, d7]) DX11_firstWrong_113 rfl ki_1 (by decide) rfl ?_
  refine r_goto DX11_firstWrong_116 ?_
  exact hkh hR h
theorem S_X11_firstWrong_107 {E : EN} {X : CX} {P : Option Value → MH → Prop} {ad : AD} {fu : Nat} {out : Int32 × St} {kh : St → Int32 → Int32 → Int32 → Int32 → RR} {kx96 : St → Int32 → RR} {kx113 : St → Int32 → Int32 → Int32 → RR} (hkh : ∀ {V : St} {M : MH} {x1 : Int32} {x2 : Int32} {x3 : Int32} {x4 : Int32} {d5 : Option Value} {d6 : Option Value} {d7 : Option Value}, Rep E ad V M → kh V x1 x2 x3 x4 = some out → G E X RX11 cX11_firstWrong 8 (some .int) false (rmD 4) P M [some (.ref (ad 2100 0)), some (.int (x1)), some (.int (x2)), some (.int (x3)), some (.int (x4)), d5, d6, d7] 0 0 18 []) (hkx96 : ∀ {V : St} {M : MH} {x2 : Int32} {d0 : Option Value} {d1 : Option Value} {d3 : Option Value} {d4 : Option Value} {d5 : Option Value} {d6 : Option Value} {d7 : Option Value}, Rep E ad V M → kx96 V x2 = some out → G E X RX11 cX11_firstWrong 8 (some .int) false (rmD 4) P M [d0, d1, some (.int (x2)), d3, d4, d5, d6, d7] 0 0 96 []) (hkx113 : ∀ {V : St} {M : MH} {x1 : Int32} {x2 : Int32} {x3 : Int32} {d4 : Option Value} {d5 : Option Value} {d6 : Option Value} {d7 : Option Value}, Rep E ad V M → kx113 V x1 x2 x3 = some out → G E X RX11 cX11_firstWrong 8 (some .int) false (rmD 4) P M [some (.ref (ad 2100 0)), some (.int (x1)), some (.int (x2)), some (.int (x3)), d4, d5, d6, d7] 0 0 113 []) (hp : ∀ M, Rep E ad out.2 M → P (some (.int out.1)) M) {V : St} {M : MH} {x1 : Int32} {x2 : Int32} {x3 : Int32} {x4 : Int32} {d5 : Option Value} {d6 : Option Value} {d7 : Option Value} (hR : Rep E ad V M) (h : F_X11_firstWrong_107 kh kx96 kx113 fu V x1 x2 x3 x4 = some out) : G E X RX11 cX11_firstWrong 8 (some .int) false (rmD 4) P M [some (.ref (ad 2100 0)), some (.int (x1)), some (.int (x2)), some (.int (x3)), some (.int (x4)), d5, d6, d7] 0 0 107 [] := by
  unfold F_X11_firstWrong_107 at h
  refine t_iinc (v := 1) (L' := [some (.ref (ad 2100 0)), some (.int (x1)), some (.int (x2)), some (.int (x3)), some (.int (x4 + 1)), d5, d6, d7]) DX11_firstWrong_107 rfl ki_1 (by decide) rfl ?_
  refine r_goto DX11_firstWrong_110 ?_
  exact hkh hR h
theorem S_X11_firstWrong_96 {E : EN} {X : CX} {P : Option Value → MH → Prop} {ad : AD} {fu : Nat} {out : Int32 × St} (hp : ∀ M, Rep E ad out.2 M → P (some (.int out.1)) M) {V : St} {M : MH} {x2 : Int32} {d0 : Option Value} {d1 : Option Value} {d3 : Option Value} {d4 : Option Value} {d5 : Option Value} {d6 : Option Value} {d7 : Option Value} (hR : Rep E ad V M) (h : F_X11_firstWrong_96 fu V x2 = some out) : G E X RX11 cX11_firstWrong 8 (some .int) false (rmD 4) P M [d0, d1, some (.int (x2)), d3, d4, d5, d6, d7] 0 0 96 [] := by
  unfold F_X11_firstWrong_96 at h
  refine r_iload_n DX11_firstWrong_96 rfl ?_
  cases h
  exact r_iret DX11_firstWrong_97 rfl ⟨Nat.le_refl 0, Nat.le_refl 0⟩ (hp M hR)
theorem S_X11_firstWrong_79 {E : EN} {X : CX} {P : Option Value → MH → Prop} {ad : AD} {fu : Nat} {out : Int32 × St} {kh : St → Int32 → Int32 → Int32 → Int32 → Int32 → Int32 → RR} {kx96 : St → Int32 → RR} {kx107 : St → Int32 → Int32 → Int32 → Int32 → RR} (hkh : ∀ {V : St} {M : MH} {x1 : Int32} {x2 : Int32} {x3 : Int32} {x4 : Int32} {x5 : Int32} {x6 : Int32} {d7 : Option Value}, Rep E ad V M → kh V x1 x2 x3 x4 x5 x6 = some out → G E X RX11 cX11_firstWrong 8 (some .int) false (rmD 4) P M [some (.ref (ad 2100 0)), some (.int (x1)), some (.int (x2)), some (.int (x3)), some (.int (x4)), some (.int (x5)), some (.int (x6)), d7] 0 0 46 []) (hkx96 : ∀ {V : St} {M : MH} {x2 : Int32} {d0 : Option Value} {d1 : Option Value} {d3 : Option Value} {d4 : Option Value} {d5 : Option Value} {d6 : Option Value} {d7 : Option Value}, Rep E ad V M → kx96 V x2 = some out → G E X RX11 cX11_firstWrong 8 (some .int) false (rmD 4) P M [d0, d1, some (.int (x2)), d3, d4, d5, d6, d7] 0 0 96 []) (hkx107 : ∀ {V : St} {M : MH} {x1 : Int32} {x2 : Int32} {x3 : Int32} {x4 : Int32} {d5 : Option Value} {d6 : Option Value} {d7 : Option Value}, Rep E ad V M → kx107 V x1 x2 x3 x4 = some out → G E X RX11 cX11_firstWrong 8 (some .int) false (rmD 4) P M [some (.ref (ad 2100 0)), some (.int (x1)), some (.int (x2)), some (.int (x3)), some (.int (x4)), d5, d6, d7] 0 0 107 []) (hp : ∀ M, Rep E ad out.2 M → P (some (.int out.1)) M) {V : St} {M : MH} {x1 : Int32} {x2 : Int32} {x3 : Int32} {x4 : Int32} {x5 : Int32} {x6 : Int32} {s0 : Int32} {d7 : Option Value} (hR : Rep E ad V M) (h : F_X11_firstWrong_79 kh kx96 kx107 fu V x1 x2 x3 x4 x5 x6 s0 = some out) : G E X RX11 cX11_firstWrong 8 (some .int) false (rmD 4) P M [some (.ref (ad 2100 0)), some (.int (x1)), some (.int (x2)), some (.int (x3)), some (.int (x4)), some (.int (x5)), some (.int (x6)), d7] 0 0 79 [.int (s0)] := by
  unfold F_X11_firstWrong_79 at h
  refine t_istore (L' := [some (.ref (ad 2100 0)), some (.int (x1)), some (.int (x2)), some (.int (x3)), some (.int (x4)), some (.int (x5)), some (.int (x6)), some (.int (s0))]) DX11_firstWrong_79 (by decide) rfl ?_
  refine r_iload_n DX11_firstWrong_81 rfl ?_
  refine r_iload_n DX11_firstWrong_82 rfl ?_
  refine r_icmp_ge DX11_firstWrong_83 (fun c1 => ?_) (fun c1 => ?_)
  · have h := if_t c1 h
    exact hkx96 hR h
  · have h := if_f c1 h
    refine r_aload_n DX11_firstWrong_86 rfl ?_
    refine r_iload_n DX11_firstWrong_87 rfl ?_
    obtain ⟨r2, V3, hc4, h⟩ := bd_inv h
    refine k_callV (As := [.int (x2)]) (rest := []) (st1 := [.int (r2)]) (w := some (.int r2)) DX11_firstWrong_88 cv_X11_395 hR ct_2100 (one_cnt _) rfl (C_X11_numberOnTape (out := (r2, V3)) (cxL X) hR hc4) rfl (by decide) (by decide) rfl (Nat.le_of_ble_eq_true rfl) rfl (fun M hR => ?_)
    refine r_iload DX11_firstWrong_91 rfl ?_
    refine r_icmp_eq DX11_firstWrong_93 (fun c5 => ?_) (fun c5 => ?_)
    · have h := if_t c5 h
      refine t_iinc (v := 1) (L' := [some (.ref (ad 2100 0)), some (.int (x1)), some (.int (x2 + 1)), some (.int (x3)), some (.int (x4)), some (.int (x5)), some (.int (x6)), some (.int (s0))]) DX11_firstWrong_98 rfl ki_1 (by decide) rfl ?_
      refine t_iinc (v := 1) (L' := [some (.ref (ad 2100 0)), some (.int (x1)), some (.int (x2 + 1)), some (.int (x3)), some (.int (x4)), some (.int (x5)), some (.int (x6 + 1)), some (.int (s0))]) DX11_firstWrong_101 rfl ki_1 (by decide) rfl ?_
      refine r_goto DX11_firstWrong_104 ?_
      exact hkh hR h
    · have h := if_f c5 h
      exact hkx96 hR h
theorem S_X11_firstWrong_46 {E : EN} {X : CX} {P : Option Value → MH → Prop} {ad : AD} {fu : Nat} {out : Int32 × St} {kh : St → Int32 → Int32 → Int32 → Int32 → Int32 → Int32 → RR} {kx96 : St → Int32 → RR} {kx107 : St → Int32 → Int32 → Int32 → Int32 → RR} (hkh : ∀ {V : St} {M : MH} {x1 : Int32} {x2 : Int32} {x3 : Int32} {x4 : Int32} {x5 : Int32} {x6 : Int32} {d7 : Option Value}, Rep E ad V M → kh V x1 x2 x3 x4 x5 x6 = some out → G E X RX11 cX11_firstWrong 8 (some .int) false (rmD 4) P M [some (.ref (ad 2100 0)), some (.int (x1)), some (.int (x2)), some (.int (x3)), some (.int (x4)), some (.int (x5)), some (.int (x6)), d7] 0 0 46 []) (hkx96 : ∀ {V : St} {M : MH} {x2 : Int32} {d0 : Option Value} {d1 : Option Value} {d3 : Option Value} {d4 : Option Value} {d5 : Option Value} {d6 : Option Value} {d7 : Option Value}, Rep E ad V M → kx96 V x2 = some out → G E X RX11 cX11_firstWrong 8 (some .int) false (rmD 4) P M [d0, d1, some (.int (x2)), d3, d4, d5, d6, d7] 0 0 96 []) (hkx107 : ∀ {V : St} {M : MH} {x1 : Int32} {x2 : Int32} {x3 : Int32} {x4 : Int32} {d5 : Option Value} {d6 : Option Value} {d7 : Option Value}, Rep E ad V M → kx107 V x1 x2 x3 x4 = some out → G E X RX11 cX11_firstWrong 8 (some .int) false (rmD 4) P M [some (.ref (ad 2100 0)), some (.int (x1)), some (.int (x2)), some (.int (x3)), some (.int (x4)), d5, d6, d7] 0 0 107 []) (hp : ∀ M, Rep E ad out.2 M → P (some (.int out.1)) M) {V : St} {M : MH} {x1 : Int32} {x2 : Int32} {x3 : Int32} {x4 : Int32} {x5 : Int32} {x6 : Int32} {d7 : Option Value} (hR : Rep E ad V M) (h : F_X11_firstWrong_46 kh kx96 kx107 fu V x1 x2 x3 x4 x5 x6 = some out) : G E X RX11 cX11_firstWrong 8 (some .int) false (rmD 4) P M [some (.ref (ad 2100 0)), some (.int (x1)), some (.int (x2)), some (.int (x3)), some (.int (x4)), some (.int (x5)), some (.int (x6)), d7] 0 0 46 [] := by
  unfold F_X11_firstWrong_46 at h
  refine r_iload DX11_firstWrong_46 rfl ?_
  refine r_if_le DX11_firstWrong_48 (fun c1 => ?_) (fun c1 => ?_)
  · have h := if_t c1 h
    exact hkx107 hR h
  · have h := if_f c1 h
    refine r_iload DX11_firstWrong_51 rfl ?_
    refine r_iconst (v := 3) DX11_firstWrong_53 ki_3 ?_
    refine r_icmp_ge DX11_firstWrong_54 (fun c2 => ?_) (fun c2 => ?_)
    · have h := if_t c2 h
      exact hkx107 hR h
    · have h := if_f c2 h
      refine r_iload DX11_firstWrong_57 rfl ?_
      refine r_if_ne DX11_firstWrong_59 (fun c3 => ?_) (fun c3 => ?_)
      · have h := if_f c3 h
        refine r_iload DX11_firstWrong_66 rfl ?_
        refine r_iconst (v := 1) DX11_firstWrong_68 ki_1 ?_
        refine r_icmp_ne DX11_firstWrong_69 (fun c4 => ?_) (fun c4 => ?_)
        · have h := if_f c4 h
          refine r_iload DX11_firstWrong_77 rfl ?_
          exact S_X11_firstWrong_79 (fun hR h => hkh hR h) (fun hR h => hkx96 hR h) (fun hR h => hkx107 hR h) hp hR h
        · have h := if_t c4 h
          refine r_iload DX11_firstWrong_72 rfl ?_
          refine r_goto DX11_firstWrong_74 ?_
          exact S_X11_firstWrong_79 (fun hR h => hkh hR h) (fun hR h => hkx96 hR h) (fun hR h => hkx107 hR h) hp hR h
      · have h := if_t c3 h
        refine r_iload_n DX11_firstWrong_62 rfl ?_
        refine r_goto DX11_firstWrong_63 ?_
        exact S_X11_firstWrong_79 (fun hR h => hkh hR h) (fun hR h => hkx96 hR h) (fun hR h => hkx107 hR h) hp hR h
theorem SL_X11_firstWrong_46 {E : EN} {X : CX} {P : Option Value → MH → Prop} {ad : AD} {fu : Nat} {out : Int32 × St} {kx96 : St → Int32 → RR} {kx107 : St → Int32 → Int32 → Int32 → Int32 → RR} (hkx96 : ∀ {V : St} {M : MH} {x2 : Int32} {d0 : Option Value} {d1 : Option Value} {d3 : Option Value} {d4 : Option Value} {d5 : Option Value} {d6 : Option Value} {d7 : Option Value}, Rep E ad V M → kx96 V x2 = some out → G E X RX11 cX11_firstWrong 8 (some .int) false (rmD 4) P M [d0, d1, some (.int (x2)), d3, d4, d5, d6, d7] 0 0 96 []) (hkx107 : ∀ {V : St} {M : MH} {x1 : Int32} {x2 : Int32} {x3 : Int32} {x4 : Int32} {d5 : Option Value} {d6 : Option Value} {d7 : Option Value}, Rep E ad V M → kx107 V x1 x2 x3 x4 = some out → G E X RX11 cX11_firstWrong 8 (some .int) false (rmD 4) P M [some (.ref (ad 2100 0)), some (.int (x1)), some (.int (x2)), some (.int (x3)), some (.int (x4)), d5, d6, d7] 0 0 107 []) (hp : ∀ M, Rep E ad out.2 M → P (some (.int out.1)) M) : ∀ (n : Nat) {V : St} {M : MH} {x1 : Int32} {x2 : Int32} {x3 : Int32} {x4 : Int32} {x5 : Int32} {x6 : Int32} {d7 : Option Value}, Rep E ad V M → Lp_X11_firstWrong_46 kx96 kx107 fu n V x1 x2 x3 x4 x5 x6 = some out → G E X RX11 cX11_firstWrong 8 (some .int) false (rmD 4) P M [some (.ref (ad 2100 0)), some (.int (x1)), some (.int (x2)), some (.int (x3)), some (.int (x4)), some (.int (x5)), some (.int (x6)), d7] 0 0 46 [] := by
  intro n
  induction n with
  | zero => intros; rename_i h; cases h
  | succ n ih => exact fun hR h => S_X11_firstWrong_46 (fun hR h => ih hR h) (fun hR h => hkx96 hR h) (fun hR h => hkx107 hR h) hp hR h
theorem S_X11_firstWrong_18 {E : EN} {X : CX} {P : Option Value → MH → Prop} {ad : AD} {fu : Nat} {out : Int32 × St} {kh : St → Int32 → Int32 → Int32 → Int32 → RR} {kx96 : St → Int32 → RR} {kx113 : St → Int32 → Int32 → Int32 → RR} (hkh : ∀ {V : St} {M : MH} {x1 : Int32} {x2 : Int32} {x3 : Int32} {x4 : Int32} {d5 : Option Value} {d6 : Option Value} {d7 : Option Value}, Rep E ad V M → kh V x1 x2 x3 x4 = some out → G E X RX11 cX11_firstWrong 8 (some .int) false (rmD 4) P M [some (.ref (ad 2100 0)), some (.int (x1)), some (.int (x2)), some (.int (x3)), some (.int (x4)), d5, d6, d7] 0 0 18 []) (hkx96 : ∀ {V : St} {M : MH} {x2 : Int32} {d0 : Option Value} {d1 : Option Value} {d3 : Option Value} {d4 : Option Value} {d5 : Option Value} {d6 : Option Value} {d7 : Option Value}, Rep E ad V M → kx96 V x2 = some out → G E X RX11 cX11_firstWrong 8 (some .int) false (rmD 4) P M [d0, d1, some (.int (x2)), d3, d4, d5, d6, d7] 0 0 96 []) (hkx113 : ∀ {V : St} {M : MH} {x1 : Int32} {x2 : Int32} {x3 : Int32} {d4 : Option Value} {d5 : Option Value} {d6 : Option Value} {d7 : Option Value}, Rep E ad V M → kx113 V x1 x2 x3 = some out → G E X RX11 cX11_firstWrong 8 (some .int) false (rmD 4) P M [some (.ref (ad 2100 0)), some (.int (x1)), some (.int (x2)), some (.int (x3)), d4, d5, d6, d7] 0 0 113 []) (hp : ∀ M, Rep E ad out.2 M → P (some (.int out.1)) M) {V : St} {M : MH} {x1 : Int32} {x2 : Int32} {x3 : Int32} {x4 : Int32} {d5 : Option Value} {d6 : Option Value} {d7 : Option Value} (hR : Rep E ad V M) (h : F_X11_firstWrong_18 kh kx96 kx113 fu V x1 x2 x3 x4 = some out) : G E X RX11 cX11_firstWrong 8 (some .int) false (rmD 4) P M [some (.ref (ad 2100 0)), some (.int (x1)), some (.int (x2)), some (.int (x3)), some (.int (x4)), d5, d6, d7] 0 0 18 [] := by
  unfold F_X11_firstWrong_18 at h
  refine r_iload DX11_firstWrong_18 rfl ?_
  refine r_iconst (v := 2) DX11_firstWrong_20 ki_2 ?_
  refine r_icmp_ge DX11_firstWrong_21 (fun c1 => ?_) (fun c1 => ?_)
  · have h := if_t c1 h
    exact hkx113 hR h
  · have h := if_f c1 h
    refine r_aload_n DX11_firstWrong_24 rfl ?_
    refine s_geto DX11_firstWrong_25 fl_X11_26 hR ct_2100 (one_cnt _) rfl ?_
    refine r_iload_n DX11_firstWrong_28 rfl ?_
    obtain ⟨⟨hx2, hi3⟩, h⟩ := gd_inv h
    refine s_lget (Li := 2105) (g := 2000) DX11_firstWrong_29 cv_X11_93 hR (by decide) hx2 hi3 (by decide) (Nat.le_of_ble_eq_true rfl) (fun M hR => ?_)
    refine q_cast hx2 DX11_firstWrong_32 wd_645 hR ct_2000 hi3 rfl ?_
    refine q_geta hx2 DX11_firstWrong_35 fl_X11_260 hR ct_2000 hi3 rfl ?_
    refine r_iload DX11_firstWrong_38 rfl ?_
    obtain ⟨hg4, h⟩ := gd_inv h
    refine s_iald DX11_firstWrong_40 hR ct_2006 (hi3) hg4 ?_
    refine t_istore (L' := [some (.ref (ad 2100 0)), some (.int (x1)), some (.int (x2)), some (.int (x3)), some (.int (x4)), some (.int ((V 2006 ((x3).toNatClampNeg) (x4).toNatClampNeg))), d6, d7]) DX11_firstWrong_41 (by decide) rfl ?_
    refine r_iconst (v := 0) DX11_firstWrong_43 ki_0 ?_
    refine t_istore (L' := [some (.ref (ad 2100 0)), some (.int (x1)), some (.int (x2)), some (.int (x3)), some (.int (x4)), some (.int ((V 2006 ((x3).toNatClampNeg) (x4).toNatClampNeg))), some (.int ((0 : Int32))), d7]) DX11_firstWrong_44 (by decide) rfl ?_
    exact SL_X11_firstWrong_46 (fun hR h => hkx96 hR h) (fun hR h => S_X11_firstWrong_107 (fun hR h => hkh hR h) (fun hR h => hkx96 hR h) (fun hR h => hkx113 hR h) hp hR h) hp fu hR h
theorem SL_X11_firstWrong_18 {E : EN} {X : CX} {P : Option Value → MH → Prop} {ad : AD} {fu : Nat} {out : Int32 × St} {kx96 : St → Int32 → RR} {kx113 : St → Int32 → Int32 → Int32 → RR} (hkx96 : ∀ {V : St} {M : MH} {x2 : Int32} {d0 : Option Value} {d1 : Option Value} {d3 : Option Value} {d4 : Option Value} {d5 : Option Value} {d6 : Option Value} {d7 : Option Value}, Rep E ad V M → kx96 V x2 = some out → G E X RX11 cX11_firstWrong 8 (some .int) false (rmD 4) P M [d0, d1, some (.int (x2)), d3, d4, d5, d6, d7] 0 0 96 []) (hkx113 : ∀ {V : St} {M : MH} {x1 : Int32} {x2 : Int32} {x3 : Int32} {d4 : Option Value} {d5 : Option Value} {d6 : Option Value} {d7 : Option Value}, Rep E ad V M → kx113 V x1 x2 x3 = some out → G E X RX11 cX11_firstWrong 8 (some .int) false (rmD 4) P M [some (.ref (ad 2100 0)), some (.int (x1)), some (.int (x2)), some (.int (x3)), d4, d5, d6, d7] 0 0 113 []) (hp : ∀ M, Rep E ad out.2 M → P (some (.int out.1)) M) : ∀ (n : Nat) {V : St} {M : MH} {x1 : Int32} {x2 : Int32} {x3 : Int32} {x4 : Int32} {d5 : Option Value} {d6 : Option Value} {d7 : Option Value}, Rep E ad V M → Lp_X11_firstWrong_18 kx96 kx113 fu n V x1 x2 x3 x4 = some out → G E X RX11 cX11_firstWrong 8 (some .int) false (rmD 4) P M [some (.ref (ad 2100 0)), some (.int (x1)), some (.int (x2)), some (.int (x3)), some (.int (x4)), d5, d6, d7] 0 0 18 [] := by
  intro n
  induction n with
  | zero => intros; rename_i h; cases h
  | succ n ih => exact fun hR h => S_X11_firstWrong_18 (fun hR h => ih hR h) (fun hR h => hkx96 hR h) (fun hR h => hkx113 hR h) hp hR h
theorem S_X11_firstWrong_4 {E : EN} {X : CX} {P : Option Value → MH → Prop} {ad : AD} {fu : Nat} {out : Int32 × St} {kh : St → Int32 → Int32 → Int32 → RR} {kx96 : St → Int32 → RR} {kx119 : St → Int32 → Int32 → RR} (hkh : ∀ {V : St} {M : MH} {x1 : Int32} {x2 : Int32} {x3 : Int32} {d4 : Option Value} {d5 : Option Value} {d6 : Option Value} {d7 : Option Value}, Rep E ad V M → kh V x1 x2 x3 = some out → G E X RX11 cX11_firstWrong 8 (some .int) false (rmD 4) P M [some (.ref (ad 2100 0)), some (.int (x1)), some (.int (x2)), some (.int (x3)), d4, d5, d6, d7] 0 0 4 []) (hkx96 : ∀ {V : St} {M : MH} {x2 : Int32} {d0 : Option Value} {d1 : Option Value} {d3 : Option Value} {d4 : Option Value} {d5 : Option Value} {d6 : Option Value} {d7 : Option Value}, Rep E ad V M → kx96 V x2 = some out → G E X RX11 cX11_firstWrong 8 (some .int) false (rmD 4) P M [d0, d1, some (.int (x2)), d3, d4, d5, d6, d7] 0 0 96 []) (hkx119 : ∀ {V : St} {M : MH} {x1 : Int32} {x2 : Int32} {d0 : Option Value} {d3 : Option Value} {d4 : Option Value} {d5 : Option Value} {d6 : Option Value} {d7 : Option Value}, Rep E ad V M → kx119 V x1 x2 = some out → G E X RX11 cX11_firstWrong 8 (some .int) false (rmD 4) P M [d0, some (.int (x1)), some (.int (x2)), d3, d4, d5, d6, d7] 0 0 119 []) (hp : ∀ M, Rep E ad out.2 M → P (some (.int out.1)) M) {V : St} {M : MH} {x1 : Int32} {x2 : Int32} {x3 : Int32} {d4 : Option Value} {d5 : Option Value} {d6 : Option Value} {d7 : Option Value} (hR : Rep E ad V M) (h : F_X11_firstWrong_4 kh kx96 kx119 fu V x1 x2 x3 = some out) : G E X RX11 cX11_firstWrong 8 (some .int) false (rmD 4) P M [some (.ref (ad 2100 0)), some (.int (x1)), some (.int (x2)), some (.int (x3)), d4, d5, d6, d7] 0 0 4 [] := by
  unfold F_X11_firstWrong_4 at h
  refine r_iload_n DX11_firstWrong_4 rfl ?_
  refine r_aload_n DX11_firstWrong_5 rfl ?_
  refine s_geto DX11_firstWrong_6 fl_X11_26 hR ct_2100 (one_cnt _) rfl ?_
  refine s_lsize (Li := 2105) (g := 2000) DX11_firstWrong_9 cv_X11_89 hR (by decide) (by decide) (Nat.le_of_ble_eq_true rfl) ?_
  refine r_icmp_ge DX11_firstWrong_12 (fun c1 => ?_) (fun c1 => ?_)
  · have h := if_t c1 h
    exact hkx119 hR h
  · have h := if_f c1 h
    refine r_iconst (v := 0) DX11_firstWrong_15 ki_0 ?_
    refine t_istore (L' := [some (.ref (ad 2100 0)), some (.int (x1)), some (.int (x2)), some (.int (x3)), some (.int ((0 : Int32))), d5, d6, d7]) DX11_firstWrong_16 (by decide) rfl ?_
    exact SL_X11_firstWrong_18 (fun hR h => hkx96 hR h) (fun hR h => S_X11_firstWrong_113 (fun hR h => hkh hR h) (fun hR h => hkx96 hR h) (fun hR h => hkx119 hR h) hp hR h) hp fu hR h
theorem SL_X11_firstWrong_4 {E : EN} {X : CX} {P : Option Value → MH → Prop} {ad : AD} {fu : Nat} {out : Int32 × St} {kx96 : St → Int32 → RR} {kx119 : St → Int32 → Int32 → RR} (hkx96 : ∀ {V : St} {M : MH} {x2 : Int32} {d0 : Option Value} {d1 : Option Value} {d3 : Option Value} {d4 : Option Value} {d5 : Option Value} {d6 : Option Value} {d7 : Option Value}, Rep E ad V M → kx96 V x2 = some out → G E X RX11 cX11_firstWrong 8 (some .int) false (rmD 4) P M [d0, d1, some (.int (x2)), d3, d4, d5, d6, d7] 0 0 96 []) (hkx119 : ∀ {V : St} {M : MH} {x1 : Int32} {x2 : Int32} {d0 : Option Value} {d3 : Option Value} {d4 : Option Value} {d5 : Option Value} {d6 : Option Value} {d7 : Option Value}, Rep E ad V M → kx119 V x1 x2 = some out → G E X RX11 cX11_firstWrong 8 (some .int) false (rmD 4) P M [d0, some (.int (x1)), some (.int (x2)), d3, d4, d5, d6, d7] 0 0 119 []) (hp : ∀ M, Rep E ad out.2 M → P (some (.int out.1)) M) : ∀ (n : Nat) {V : St} {M : MH} {x1 : Int32} {x2 : Int32} {x3 : Int32} {d4 : Option Value} {d5 : Option Value} {d6 : Option Value} {d7 : Option Value}, Rep E ad V M → Lp_X11_firstWrong_4 kx96 kx119 fu n V x1 x2 x3 = some out → G E X RX11 cX11_firstWrong 8 (some .int) false (rmD 4) P M [some (.ref (ad 2100 0)), some (.int (x1)), some (.int (x2)), some (.int (x3)), d4, d5, d6, d7] 0 0 4 [] := by
  intro n
  induction n with
  | zero => intros; rename_i h; cases h
  | succ n ih => exact fun hR h => S_X11_firstWrong_4 (fun hR h => ih hR h) (fun hR h => hkx96 hR h) (fun hR h => hkx119 hR h) hp hR h
theorem S_X11_firstWrong_0 {E : EN} {X : CX} {P : Option Value → MH → Prop} {ad : AD} {fu : Nat} {out : Int32 × St} (hp : ∀ M, Rep E ad out.2 M → P (some (.int out.1)) M) {V : St} {M : MH} {x1 : Int32} (hR : Rep E ad V M) (h : f_X11_firstWrong fu V x1 = some out) : G E X RX11 cX11_firstWrong 8 (some .int) false (rmD 4) P M [some (.ref (ad 2100 0)), some (.int (x1)), none, none, none, none, none, none] 0 0 0 [] := by
  unfold f_X11_firstWrong at h
  refine r_iconst (v := 0) DX11_firstWrong_0 ki_0 ?_
  refine t_istore_n (L' := [some (.ref (ad 2100 0)), some (.int (x1)), some (.int ((0 : Int32))), none, none, none, none, none]) DX11_firstWrong_1 (by decide) rfl ?_
  refine r_iconst (v := 0) DX11_firstWrong_2 ki_0 ?_
  refine t_istore_n (L' := [some (.ref (ad 2100 0)), some (.int (x1)), some (.int ((0 : Int32))), some (.int ((0 : Int32))), none, none, none, none]) DX11_firstWrong_3 (by decide) rfl ?_
  exact SL_X11_firstWrong_4 (fun hR h => S_X11_firstWrong_96 hp hR h) (fun hR h => S_X11_firstWrong_119 hp hR h) hp fu hR h
theorem C_X11_firstWrong {E : EN} {ad : AD} {fu : Nat} {out : Int32 × St} {V : St} {M : MH} {x1 : Int32} (l : Launch) (hR : Rep E ad V M) (h : f_X11_firstWrong fu V x1 = some out) : Ct E l yX11_firstWrong cX11_firstWrong 8 (some .int) (rmD 4) [.ref (ad 2100 0), .int (x1)] M (fun v M => v = (some (.int out.1)) ∧ Rep E ad out.2 M) :=
  Ct.of (own := RX11) (ini := false) (L := [some (.ref (ad 2100 0)), some (.int (x1)), none, none, none, none, none, none]) rfl rfl (fun h => by cases h) rfl (Nat.le_of_ble_eq_true rfl) rfl (fun X _ => S_X11_firstWrong_0 (fun M hR => ⟨rfl, hR⟩) hR h)
theorem S_X11_check_0 {E : EN} {X : CX} {P : Option Value → MH → Prop} {ad : AD} {fu : Nat} {out : Int32 × St} (hp : ∀ M, Rep E ad out.2 M → P (some (.int out.1)) M) {V : St} {M : MH} {x1 : Int32} (hR : Rep E ad V M) (h : f_X11_check fu V x1 = some out) : G E X RX11 cX11_check 2 (some .int) false (rmD 5) P M [some (.ref (ad 2100 0)), some (.int (x1))] 0 0 0 [] := by
  unfold f_X11_check at h
  refine r_iload_n DX11_check_0 rfl ?_
  refine r_iconst (v := 0) DX11_check_1 ki_0 ?_
  refine r_aload_n DX11_check_2 rfl ?_
  refine s_geti DX11_check_3 fl_X11_55 hR ct_2100 (one_cnt _) rfl ?_
  refine r_bipush (v := 12) DX11_check_6 kb_12 ?_
  refine r_idiv DX11_check_8 (by decide) ?_
  obtain ⟨r1, V2, hc3, h⟩ := bd_inv h
  refine k_callS (As := [.int (x1), .int ((0 : Int32)), .int (((V 2114 0 0)) / ((12 : Int32)))]) (rest := []) (st1 := [.int (r1)]) (w := some (.int r1)) DX11_check_9 cs_X11_111 (C_X11_within (out := (r1, V2)) (cxL X) hR hc3) rfl (by decide) (by decide) rfl (Nat.le_of_ble_eq_true rfl) rfl (fun M hR => ?_)
  refine r_if_ne DX11_check_12 (fun c4 => ?_) (fun c4 => ?_)
  · have h := if_f c4 h
    refine r_aload_n DX11_check_18 rfl ?_
    refine r_iconst (v := 0) DX11_check_19 ki_0 ?_
    obtain ⟨V5, hv6, h⟩ := bv_inv h
    refine s_puti DX11_check_20 fp_X11_55 hR oks_2114 ct_2100 (one_cnt _) rfl rfl rfl (fun M hR => ?_)
    have hR := hR.cg hv6
    refine r_aload_n DX11_check_23 rfl ?_
    refine r_iconst (v := 3) DX11_check_24 ki_3 ?_
    refine r_iload_n DX11_check_25 rfl ?_
    refine r_imul DX11_check_26 ?_
    obtain ⟨r7, V8, hc9, h⟩ := bd_inv h
    refine k_callV (As := [.int ((3 : Int32) * x1)]) (rest := []) (st1 := [.int (r7)]) (w := some (.int r7)) DX11_check_27 cv_X11_367 hR ct_2100 (one_cnt _) rfl (C_X11_firstWrong (out := (r7, V8)) (cxL X) hR hc9) rfl (by decide) (by decide) rfl (Nat.le_of_ble_eq_true rfl) rfl (fun M hR => ?_)
    cases h
    exact r_iret DX11_check_30 rfl ⟨Nat.le_refl 0, Nat.le_refl 0⟩ (hp M hR)
  · have h := if_t c4 h
    refine r_bipush (v := -2) DX11_check_15 kb_m2 ?_
    cases h
    exact r_iret DX11_check_17 rfl ⟨Nat.le_refl 0, Nat.le_refl 0⟩ (hp M hR)
theorem C_X11_check {E : EN} {ad : AD} {fu : Nat} {out : Int32 × St} {V : St} {M : MH} {x1 : Int32} (l : Launch) (hR : Rep E ad V M) (h : f_X11_check fu V x1 = some out) : Ct E l yX11_check cX11_check 2 (some .int) (rmD 5) [.ref (ad 2100 0), .int (x1)] M (fun v M => v = (some (.int out.1)) ∧ Rep E ad out.2 M) :=
  Ct.of (own := RX11) (ini := false) (L := [some (.ref (ad 2100 0)), some (.int (x1))]) rfl rfl (fun h => by cases h) rfl (Nat.le_of_ble_eq_true rfl) rfl (fun X _ => S_X11_check_0 (fun M hR => ⟨rfl, hR⟩) hR h)
theorem S_X11_closeDockets_56 {E : EN} {X : CX} {P : Option Value → MH → Prop} {ad : AD} {fu : Nat} {out : Int32 × St} (hp : ∀ M, Rep E ad out.2 M → P none M) {V : St} {M : MH} {d0 : Option Value} {d1 : Option Value} {d2 : Option Value} {d3 : Option Value} {d4 : Option Value} (hR : Rep E ad V M) (h : F_X11_closeDockets_56 fu V = some out) : G E X RX11 cX11_closeDockets 5 none false (rmD 4) P M [d0, d1, d2, d3, d4] 0 0 56 [] := by
  unfold F_X11_closeDockets_56 at h
  cases h
  exact r_vret DX11_closeDockets_56 rfl ⟨Nat.le_refl 0, Nat.le_refl 0⟩ (hp M hR)
theorem S_X11_closeDockets_50 {E : EN} {X : CX} {P : Option Value → MH → Prop} {ad : AD} {fu : Nat} {out : Int32 × St} {kh : St → Int32 → Int32 → Int32 → RR} {kx56 : St → RR} (hkh : ∀ {V : St} {M : MH} {x1 : Int32} {x2 : Int32} {x3 : Int32} {d4 : Option Value}, Rep E ad V M → kh V x1 x2 x3 = some out → G E X RX11 cX11_closeDockets 5 none false (rmD 4) P M [some (.ref (ad 2100 0)), some (.int (x1)), some (.int (x2)), some (.int (x3)), d4] 0 0 2 []) (hkx56 : ∀ {V : St} {M : MH} {d0 : Option Value} {d1 : Option Value} {d2 : Option Value} {d3 : Option Value} {d4 : Option Value}, Rep E ad V M → kx56 V  = some out → G E X RX11 cX11_closeDockets 5 none false (rmD 4) P M [d0, d1, d2, d3, d4] 0 0 56 []) (hp : ∀ M, Rep E ad out.2 M → P none M) {V : St} {M : MH} {x1 : Int32} {x2 : Int32} {x3 : Int32} {d4 : Option Value} (hR : Rep E ad V M) (h : F_X11_closeDockets_50 kh kx56 fu V x1 x2 x3 = some out) : G E X RX11 cX11_closeDockets 5 none false (rmD 4) P M [some (.ref (ad 2100 0)), some (.int (x1)), some (.int (x2)), some (.int (x3)), d4] 0 0 50 [] := by
  unfold F_X11_closeDockets_50 at h
  refine t_iinc (v := 1) (L' := [some (.ref (ad 2100 0)), some (.int (x1)), some (.int (x2)), some (.int (x3 + 1)), d4]) DX11_closeDockets_50 rfl ki_1 (by decide) rfl ?_
  refine r_goto DX11_closeDockets_53 ?_
  exact hkh hR h
theorem S_X11_closeDockets_2 {E : EN} {X : CX} {P : Option Value → MH → Prop} {ad : AD} {fu : Nat} {out : Int32 × St} {kh : St → Int32 → Int32 → Int32 → RR} {kx56 : St → RR} (hkh : ∀ {V : St} {M : MH} {x1 : Int32} {x2 : Int32} {x3 : Int32} {d4 : Option Value}, Rep E ad V M → kh V x1 x2 x3 = some out → G E X RX11 cX11_closeDockets 5 none false (rmD 4) P M [some (.ref (ad 2100 0)), some (.int (x1)), some (.int (x2)), some (.int (x3)), d4] 0 0 2 []) (hkx56 : ∀ {V : St} {M : MH} {d0 : Option Value} {d1 : Option Value} {d2 : Option Value} {d3 : Option Value} {d4 : Option Value}, Rep E ad V M → kx56 V  = some out → G E X RX11 cX11_closeDockets 5 none false (rmD 4) P M [d0, d1, d2, d3, d4] 0 0 56 []) (hp : ∀ M, Rep E ad out.2 M → P none M) {V : St} {M : MH} {x1 : Int32} {x2 : Int32} {x3 : Int32} {d4 : Option Value} (hR : Rep E ad V M) (h : F_X11_closeDockets_2 kh kx56 fu V x1 x2 x3 = some out) : G E X RX11 cX11_closeDockets 5 none false (rmD 4) P M [some (.ref (ad 2100 0)), some (.int (x1)), some (.int (x2)), some (.int (x3)), d4] 0 0 2 [] := by
  unfold F_X11_closeDockets_2 at h
  refine r_iload_n DX11_closeDockets_2 rfl ?_
  refine r_aload_n DX11_closeDockets_3 rfl ?_
  refine s_geto DX11_closeDockets_4 fl_X11_39 hR ct_2100 (one_cnt _) rfl ?_
  refine s_lsize (Li := 2109) (g := 1100) DX11_closeDockets_7 cv_X11_89 hR (by decide) (by decide) (Nat.le_of_ble_eq_true rfl) ?_
  refine r_icmp_ge DX11_closeDockets_10 (fun c1 => ?_) (fun c1 => ?_)
  · have h := if_t c1 h
    exact hkx56 hR h
  · have h := if_f c1 h
    refine r_aload_n DX11_closeDockets_13 rfl ?_
    refine s_geto DX11_closeDockets_14 fl_X11_39 hR ct_2100 (one_cnt _) rfl ?_
    refine r_iload_n DX11_closeDockets_17 rfl ?_
    obtain ⟨⟨hx2, hi3⟩, h⟩ := gd_inv h
    refine s_lget (Li := 2109) (g := 1100) DX11_closeDockets_18 cv_X11_93 hR (by decide) hx2 hi3 (by decide) (Nat.le_of_ble_eq_true rfl) (fun M hR => ?_)
    refine q_cast hx2 DX11_closeDockets_21 wd_1135 hR ct_1100 hi3 rfl ?_
    refine t_astore (L' := [some (.ref (ad 2100 0)), some (.int (x1)), some (.int (x2)), some (.int (x3)), some (rfq ad 1100 (x3))]) (rfq_or _ _ _) DX11_closeDockets_24 (by decide) rfl ?_
    refine t_aload (rfq_or _ _ _) DX11_closeDockets_26 rfl ?_
    refine q_geti hx2 DX11_closeDockets_28 fl_X11_317 hR ct_1100 hi3 rfl ?_
    refine r_iload_n DX11_closeDockets_31 rfl ?_
    refine r_icmp_ne DX11_closeDockets_32 (fun c4 => ?_) (fun c4 => ?_)
    · have h := if_f c4 h
      exact S_X11_closeDockets_50 (fun hR h => hkh hR h) (fun hR h => hkx56 hR h) hp hR h
    · have h := if_t c4 h
      refine t_aload (rfq_or _ _ _) DX11_closeDockets_35 rfl ?_
      refine q_geti hx2 DX11_closeDockets_37 fl_X11_310 hR ct_1100 hi3 rfl ?_
      refine r_iload_n DX11_closeDockets_40 rfl ?_
      refine r_icmp_ne DX11_closeDockets_41 (fun c5 => ?_) (fun c5 => ?_)
      · have h := if_f c5 h
        exact S_X11_closeDockets_50 (fun hR h => hkh hR h) (fun hR h => hkx56 hR h) hp hR h
      · have h := if_t c5 h
        refine t_aload (rfq_or _ _ _) DX11_closeDockets_44 rfl ?_
        refine r_iconst (v := 0) DX11_closeDockets_46 ki_0 ?_
        obtain ⟨V6, hv7, h⟩ := bv_inv h
        refine q_puti hx2 DX11_closeDockets_47 fp_X11_307 hR oks_1105 ct_1100 hi3 rfl rfl rfl (fun M hR => ?_)
        have hR := hR.cg hv7
        exact S_X11_closeDockets_50 (fun hR h => hkh hR h) (fun hR h => hkx56 hR h) hp hR h
theorem SL_X11_closeDockets_2 {E : EN} {X : CX} {P : Option Value → MH → Prop} {ad : AD} {fu : Nat} {out : Int32 × St} {kx56 : St → RR} (hkx56 : ∀ {V : St} {M : MH} {d0 : Option Value} {d1 : Option Value} {d2 : Option Value} {d3 : Option Value} {d4 : Option Value}, Rep E ad V M → kx56 V  = some out → G E X RX11 cX11_closeDockets 5 none false (rmD 4) P M [d0, d1, d2, d3, d4] 0 0 56 []) (hp : ∀ M, Rep E ad out.2 M → P none M) : ∀ (n : Nat) {V : St} {M : MH} {x1 : Int32} {x2 : Int32} {x3 : Int32} {d4 : Option Value}, Rep E ad V M → Lp_X11_closeDockets_2 kx56 fu n V x1 x2 x3 = some out → G E X RX11 cX11_closeDockets 5 none false (rmD 4) P M [some (.ref (ad 2100 0)), some (.int (x1)), some (.int (x2)), some (.int (x3)), d4] 0 0 2 [] := by
  intro n
  induction n with
  | zero => intros; rename_i h; cases h
  | succ n ih => exact fun hR h => S_X11_closeDockets_2 (fun hR h => ih hR h) (fun hR h => hkx56 hR h) hp hR h
theorem S_X11_closeDockets_0 {E : EN} {X : CX} {P : Option Value → MH → Prop} {ad : AD} {fu : Nat} {out : Int32 × St} (hp : ∀ M, Rep E ad out.2 M → P none M) {V : St} {M : MH} {x1 : Int32} {x2 : Int32} (hR : Rep E ad V M) (h : f_X11_closeDockets fu V x1 x2 = some out) : G E X RX11 cX11_closeDockets 5 none false (rmD 4) P M [some (.ref (ad 2100 0)), some (.int (x1)), some (.int (x2)), none, none] 0 0 0 [] := by
  unfold f_X11_closeDockets at h
  refine r_iconst (v := 0) DX11_closeDockets_0 ki_0 ?_
  refine t_istore_n (L' := [some (.ref (ad 2100 0)), some (.int (x1)), some (.int (x2)), some (.int ((0 : Int32))), none]) DX11_closeDockets_1 (by decide) rfl ?_
  exact SL_X11_closeDockets_2 (fun hR h => S_X11_closeDockets_56 hp hR h) hp fu hR h
theorem C_X11_closeDockets {E : EN} {ad : AD} {fu : Nat} {out : Int32 × St} {V : St} {M : MH} {x1 : Int32} {x2 : Int32} (l : Launch) (hR : Rep E ad V M) (h : f_X11_closeDockets fu V x1 x2 = some out) : Ct E l yX11_closeDockets cX11_closeDockets 5 none (rmD 4) [.ref (ad 2100 0), .int (x1), .int (x2)] M (fun v M => v = none ∧ Rep E ad out.2 M) :=
  Ct.of (own := RX11) (ini := false) (L := [some (.ref (ad 2100 0)), some (.int (x1)), some (.int (x2)), none, none]) rfl rfl (fun h => by cases h) rfl (Nat.le_of_ble_eq_true rfl) rfl (fun X _ => S_X11_closeDockets_0 (fun M hR => ⟨rfl, hR⟩) hR h)
theorem S_X11_plainCount_0 {E : EN} {X : CX} {P : Option Value → MH → Prop} {ad : AD} {fu : Nat} {out : Int32 × St} (hp : ∀ M, Rep E ad out.2 M → P (some (.int out.1)) M) {V : St} {M : MH} {x1 : Int32} (hR : Rep E ad V M) (h : f_X11_plainCount fu V x1 = some out) : G E X RX11 cX11_plainCount 2 (some .int) false (rmD 2) P M [some (.ref (ad 2100 0)), some (.int (x1))] 0 0 0 [] := by
  unfold f_X11_plainCount at h
  refine r_iload_n DX11_plainCount_0 rfl ?_
  by_cases e2 : x1 = 0
  · have h := if_t e2 h
    refine r_table (tgt := 60) DX11_plainCount_1 (Or.inr ⟨by rw [e2]; decide, by rw [e2]; decide, by rw [e2]; rfl⟩) rfl ?_
    refine r_aload_n DX11_plainCount_60 rfl ?_
    refine s_geti DX11_plainCount_61 fl_X11_7 hR ct_2100 (one_cnt _) rfl ?_
    cases h
    exact r_iret DX11_plainCount_64 rfl ⟨Nat.le_refl 0, Nat.le_refl 0⟩ (hp M hR)
  have h := if_f e2 h
  by_cases e3 : x1 = 1
  · have h := if_t e3 h
    refine r_table (tgt := 65) DX11_plainCount_1 (Or.inr ⟨by rw [e3]; decide, by rw [e3]; decide, by rw [e3]; rfl⟩) rfl ?_
    refine r_aload_n DX11_plainCount_65 rfl ?_
    refine s_geto DX11_plainCount_66 fl_X11_19 hR ct_2100 (one_cnt _) rfl ?_
    refine s_lsize (Li := 2103) (g := 1000) DX11_plainCount_69 cv_X11_89 hR (by decide) (by decide) (Nat.le_of_ble_eq_true rfl) ?_
    cases h
    exact r_iret DX11_plainCount_72 rfl ⟨Nat.le_refl 0, Nat.le_refl 0⟩ (hp M hR)
  have h := if_f e3 h
  by_cases e4 : x1 = 2
  · have h := if_t e4 h
    refine r_table (tgt := 73) DX11_plainCount_1 (Or.inr ⟨by rw [e4]; decide, by rw [e4]; decide, by rw [e4]; rfl⟩) rfl ?_
    refine r_aload_n DX11_plainCount_73 rfl ?_
    refine s_geto DX11_plainCount_74 fl_X11_23 hR ct_2100 (one_cnt _) rfl ?_
    refine s_lsize (Li := 2104) (g := 1200) DX11_plainCount_77 cv_X11_89 hR (by decide) (by decide) (Nat.le_of_ble_eq_true rfl) ?_
    cases h
    exact r_iret DX11_plainCount_80 rfl ⟨Nat.le_refl 0, Nat.le_refl 0⟩ (hp M hR)
  have h := if_f e4 h
  by_cases e5 : x1 = 3
  · have h := if_t e5 h
    refine r_table (tgt := 81) DX11_plainCount_1 (Or.inr ⟨by rw [e5]; decide, by rw [e5]; decide, by rw [e5]; rfl⟩) rfl ?_
    refine r_aload_n DX11_plainCount_81 rfl ?_
    refine s_geto DX11_plainCount_82 fl_X11_26 hR ct_2100 (one_cnt _) rfl ?_
    refine s_lsize (Li := 2105) (g := 2000) DX11_plainCount_85 cv_X11_89 hR (by decide) (by decide) (Nat.le_of_ble_eq_true rfl) ?_
    cases h
    exact r_iret DX11_plainCount_88 rfl ⟨Nat.le_refl 0, Nat.le_refl 0⟩ (hp M hR)
  have h := if_f e5 h
  by_cases e6 : x1 = 4
  · have h := if_t e6 h
    refine r_table (tgt := 89) DX11_plainCount_1 (Or.inr ⟨by rw [e6]; decide, by rw [e6]; decide, by rw [e6]; rfl⟩) rfl ?_
    refine r_aload_n DX11_plainCount_89 rfl ?_
    refine s_geto DX11_plainCount_90 fl_X11_29 hR ct_2100 (one_cnt _) rfl ?_
    refine s_lsize (Li := 2106) (g := 1600) DX11_plainCount_93 cv_X11_89 hR (by decide) (by decide) (Nat.le_of_ble_eq_true rfl) ?_
    cases h
    exact r_iret DX11_plainCount_96 rfl ⟨Nat.le_refl 0, Nat.le_refl 0⟩ (hp M hR)
  have h := if_f e6 h
  by_cases e7 : x1 = 5
  · have h := if_t e7 h
    refine r_table (tgt := 97) DX11_plainCount_1 (Or.inr ⟨by rw [e7]; decide, by rw [e7]; decide, by rw [e7]; rfl⟩) rfl ?_
    refine r_aload_n DX11_plainCount_97 rfl ?_
    refine s_geto DX11_plainCount_98 fl_X11_68 hR ct_2100 (one_cnt _) rfl ?_
    refine s_geto DX11_plainCount_101 fl_X11_222 hR ct_1400 (one_cnt _) rfl ?_
    refine s_lsize (Li := 1401) (g := 1700) DX11_plainCount_104 cv_X11_89 hR (by decide) (by decide) (Nat.le_of_ble_eq_true rfl) ?_
    cases h
    exact r_iret DX11_plainCount_107 rfl ⟨Nat.le_refl 0, Nat.le_refl 0⟩ (hp M hR)
  have h := if_f e7 h
  by_cases e8 : x1 = 6
  · have h := if_t e8 h
    refine r_table (tgt := 108) DX11_plainCount_1 (Or.inr ⟨by rw [e8]; decide, by rw [e8]; decide, by rw [e8]; rfl⟩) rfl ?_
    refine r_aload_n DX11_plainCount_108 rfl ?_
    refine s_geto DX11_plainCount_109 fl_X11_36 hR ct_2100 (one_cnt _) rfl ?_
    refine s_lsize (Li := 2108) (g := 1800) DX11_plainCount_112 cv_X11_89 hR (by decide) (by decide) (Nat.le_of_ble_eq_true rfl) ?_
    cases h
    exact r_iret DX11_plainCount_115 rfl ⟨Nat.le_refl 0, Nat.le_refl 0⟩ (hp M hR)
  have h := if_f e8 h
  by_cases e9 : x1 = 7
  · have h := if_t e9 h
    refine r_table (tgt := 116) DX11_plainCount_1 (Or.inr ⟨by rw [e9]; decide, by rw [e9]; decide, by rw [e9]; rfl⟩) rfl ?_
    refine r_aload_n DX11_plainCount_116 rfl ?_
    refine s_geto DX11_plainCount_117 fl_X11_39 hR ct_2100 (one_cnt _) rfl ?_
    refine s_lsize (Li := 2109) (g := 1100) DX11_plainCount_120 cv_X11_89 hR (by decide) (by decide) (Nat.le_of_ble_eq_true rfl) ?_
    cases h
    exact r_iret DX11_plainCount_123 rfl ⟨Nat.le_refl 0, Nat.le_refl 0⟩ (hp M hR)
  have h := if_f e9 h
  by_cases e10 : x1 = 8
  · have h := if_t e10 h
    refine r_table (tgt := 124) DX11_plainCount_1 (Or.inr ⟨by rw [e10]; decide, by rw [e10]; decide, by rw [e10]; rfl⟩) rfl ?_
    refine r_aload_n DX11_plainCount_124 rfl ?_
    refine s_geto DX11_plainCount_125 fl_X11_42 hR ct_2100 (one_cnt _) rfl ?_
    refine s_lsize (Li := 2110) (g := 1300) DX11_plainCount_128 cv_X11_89 hR (by decide) (by decide) (Nat.le_of_ble_eq_true rfl) ?_
    cases h
    exact r_iret DX11_plainCount_131 rfl ⟨Nat.le_refl 0, Nat.le_refl 0⟩ (hp M hR)
  have h := if_f e10 h
  by_cases e11 : x1 = 9
  · have h := if_t e11 h
    refine r_table (tgt := 132) DX11_plainCount_1 (Or.inr ⟨by rw [e11]; decide, by rw [e11]; decide, by rw [e11]; rfl⟩) rfl ?_
    refine r_aload_n DX11_plainCount_132 rfl ?_
    refine s_geto DX11_plainCount_133 fl_X11_45 hR ct_2100 (one_cnt _) rfl ?_
    refine s_lsize (Li := 2111) (g := 1330) DX11_plainCount_136 cv_X11_89 hR (by decide) (by decide) (Nat.le_of_ble_eq_true rfl) ?_
    cases h
    exact r_iret DX11_plainCount_139 rfl ⟨Nat.le_refl 0, Nat.le_refl 0⟩ (hp M hR)
  have h := if_f e11 h
  by_cases e12 : x1 = 10
  · have h := if_t e12 h
    refine r_table (tgt := 140) DX11_plainCount_1 (Or.inr ⟨by rw [e12]; decide, by rw [e12]; decide, by rw [e12]; rfl⟩) rfl ?_
    refine r_aload_n DX11_plainCount_140 rfl ?_
    refine s_geti DX11_plainCount_141 fl_X11_55 hR ct_2100 (one_cnt _) rfl ?_
    cases h
    exact r_iret DX11_plainCount_144 rfl ⟨Nat.le_refl 0, Nat.le_refl 0⟩ (hp M hR)
  have h := if_f e12 h
  refine r_tabled (tgt := 145) (cs := [0, 1, 2, 3, 4, 5, 6, 7, 8, 9, 10]) DX11_plainCount_1 (by decide) (by decide) (fun z hz => by simp only [List.mem_cons, List.not_mem_nil, or_false] at hz; rcases hz with rfl | rfl | rfl | rfl | rfl | rfl | rfl | rfl | rfl | rfl | rfl <;> first | exact lv_neT e2 rfl | exact lv_neT e3 rfl | exact lv_neT e4 rfl | exact lv_neT e5 rfl | exact lv_neT e6 rfl | exact lv_neT e7 rfl | exact lv_neT e8 rfl | exact lv_neT e9 rfl | exact lv_neT e10 rfl | exact lv_neT e11 rfl | exact lv_neT e12 rfl) rfl ?_
  refine r_iconst (v := -1) DX11_plainCount_145 ki_m1 ?_
  cases h
  exact r_iret DX11_plainCount_146 rfl ⟨Nat.le_refl 0, Nat.le_refl 0⟩ (hp M hR)
theorem C_X11_plainCount {E : EN} {ad : AD} {fu : Nat} {out : Int32 × St} {V : St} {M : MH} {x1 : Int32} (l : Launch) (hR : Rep E ad V M) (h : f_X11_plainCount fu V x1 = some out) : Ct E l yX11_plainCount cX11_plainCount 2 (some .int) (rmD 2) [.ref (ad 2100 0), .int (x1)] M (fun v M => v = (some (.int out.1)) ∧ Rep E ad out.2 M) :=
  Ct.of (own := RX11) (ini := false) (L := [some (.ref (ad 2100 0)), some (.int (x1))]) rfl rfl (fun h => by cases h) rfl (Nat.le_of_ble_eq_true rfl) rfl (fun X _ => S_X11_plainCount_0 (fun M hR => ⟨rfl, hR⟩) hR h)
theorem S_X11_count_0 {E : EN} {X : CX} {P : Option Value → MH → Prop} {ad : AD} {fu : Nat} {out : Int32 × St} (hp : ∀ M, Rep E ad out.2 M → P (some (.int out.1)) M) {V : St} {M : MH} {x1 : Int32} (hR : Rep E ad V M) (h : f_X11_count fu V x1 = some out) : G E X RX11 cX11_count 2 (some .int) false (rmD 4) P M [some (.ref (ad 2100 0)), some (.int (x1))] 0 0 0 [] := by
  unfold f_X11_count at h
  refine r_iload_n DX11_count_0 rfl ?_
  refine r_bipush (v := 20) DX11_count_1 kb_20 ?_
  refine r_bipush (v := 20) DX11_count_3 kb_20 ?_
  refine r_aload_n DX11_count_5 rfl ?_
  refine s_geto DX11_count_6 fl_X11_68 hR ct_2100 (one_cnt _) rfl ?_
  refine s_geto DX11_count_9 fl_X11_222 hR ct_1400 (one_cnt _) rfl ?_
  refine s_lsize (Li := 1401) (g := 1700) DX11_count_12 cv_X11_89 hR (by decide) (by decide) (Nat.le_of_ble_eq_true rfl) ?_
  refine r_iadd DX11_count_15 ?_
  refine r_iconst (v := 1) DX11_count_16 ki_1 ?_
  refine r_isub DX11_count_17 ?_
  obtain ⟨r1, V2, hc3, h⟩ := bd_inv h
  refine k_callS (As := [.int (x1), .int ((20 : Int32)), .int (((20 : Int32) + (V 1401 0 0)) - (1 : Int32))]) (rest := []) (st1 := [.int (r1)]) (w := some (.int r1)) DX11_count_18 cs_X11_111 (C_X11_within (out := (r1, V2)) (cxL X) hR hc3) rfl (by decide) (by decide) rfl (Nat.le_of_ble_eq_true rfl) rfl (fun M hR => ?_)
  refine r_if_eq DX11_count_21 (fun c4 => ?_) (fun c4 => ?_)
  · have h := if_t c4 h
    refine r_iload_n DX11_count_45 rfl ?_
    refine r_bipush (v := 100) DX11_count_46 kb_100 ?_
    refine r_bipush (v := 100) DX11_count_48 kb_100 ?_
    refine r_aload_n DX11_count_50 rfl ?_
    refine s_geto DX11_count_51 fl_X11_26 hR ct_2100 (one_cnt _) rfl ?_
    refine s_lsize (Li := 2105) (g := 2000) DX11_count_54 cv_X11_89 hR (by decide) (by decide) (Nat.le_of_ble_eq_true rfl) ?_
    refine r_iadd DX11_count_57 ?_
    refine r_iconst (v := 1) DX11_count_58 ki_1 ?_
    refine r_isub DX11_count_59 ?_
    obtain ⟨r5, V6, hc7, h⟩ := bd_inv h
    refine k_callS (As := [.int (x1), .int ((100 : Int32)), .int (((100 : Int32) + (V2 2105 0 0)) - (1 : Int32))]) (rest := []) (st1 := [.int (r5)]) (w := some (.int r5)) DX11_count_60 cs_X11_111 (C_X11_within (out := (r5, V6)) (cxL X) hR hc7) rfl (by decide) (by decide) rfl (Nat.le_of_ble_eq_true rfl) rfl (fun M hR => ?_)
    refine r_if_eq DX11_count_63 (fun c8 => ?_) (fun c8 => ?_)
    · have h := if_t c8 h
      refine r_iload_n DX11_count_86 rfl ?_
      refine r_sipush (v := 200) DX11_count_87 ks_200 ?_
      refine r_sipush (v := 200) DX11_count_90 ks_200 ?_
      refine r_aload_n DX11_count_93 rfl ?_
      refine s_geto DX11_count_94 fl_X11_26 hR ct_2100 (one_cnt _) rfl ?_
      refine s_lsize (Li := 2105) (g := 2000) DX11_count_97 cv_X11_89 hR (by decide) (by decide) (Nat.le_of_ble_eq_true rfl) ?_
      refine r_iadd DX11_count_100 ?_
      refine r_iconst (v := 1) DX11_count_101 ki_1 ?_
      refine r_isub DX11_count_102 ?_
      obtain ⟨r9, V10, hc11, h⟩ := bd_inv h
      refine k_callS (As := [.int (x1), .int ((200 : Int32)), .int (((200 : Int32) + (V6 2105 0 0)) - (1 : Int32))]) (rest := []) (st1 := [.int (r9)]) (w := some (.int r9)) DX11_count_103 cs_X11_111 (C_X11_within (out := (r9, V10)) (cxL X) hR hc11) rfl (by decide) (by decide) rfl (Nat.le_of_ble_eq_true rfl) rfl (fun M hR => ?_)
      refine r_if_eq DX11_count_106 (fun c12 => ?_) (fun c12 => ?_)
      · have h := if_t c12 h
        refine r_aload_n DX11_count_130 rfl ?_
        refine r_iload_n DX11_count_131 rfl ?_
        obtain ⟨r13, V14, hc15, h⟩ := bd_inv h
        refine k_callV (As := [.int (x1)]) (rest := []) (st1 := [.int (r13)]) (w := some (.int r13)) DX11_count_132 cv_X11_373 hR ct_2100 (one_cnt _) rfl (C_X11_plainCount (out := (r13, V14)) (cxL X) hR hc15) rfl (by decide) (by decide) rfl (Nat.le_of_ble_eq_true rfl) rfl (fun M hR => ?_)
        cases h
        exact r_iret DX11_count_135 rfl ⟨Nat.le_refl 0, Nat.le_refl 0⟩ (hp M hR)
      · have h := if_f c12 h
        refine r_aload_n DX11_count_109 rfl ?_
        refine s_geto DX11_count_110 fl_X11_26 hR ct_2100 (one_cnt _) rfl ?_
        refine r_iload_n DX11_count_113 rfl ?_
        refine r_sipush (v := 200) DX11_count_114 ks_200 ?_
        refine r_isub DX11_count_117 ?_
        obtain ⟨⟨hx16, hi17⟩, h⟩ := gd_inv h
        refine s_lget (Li := 2105) (g := 2000) DX11_count_118 cv_X11_93 hR (by decide) hx16 hi17 (by decide) (Nat.le_of_ble_eq_true rfl) (fun M hR => ?_)
        refine q_cast hx16 DX11_count_121 wd_645 hR ct_2000 hi17 rfl ?_
        refine q_geta hx16 DX11_count_124 fl_X11_260 hR ct_2000 hi17 rfl ?_
        refine r_iconst (v := 1) DX11_count_127 ki_1 ?_
        obtain ⟨hg18, h⟩ := gd_inv h
        refine s_iald DX11_count_128 hR ct_2006 (hi17) hg18 ?_
        cases h
        exact r_iret DX11_count_129 rfl ⟨Nat.le_refl 0, Nat.le_refl 0⟩ (hp M hR)
    · have h := if_f c8 h
      refine r_aload_n DX11_count_66 rfl ?_
      refine s_geto DX11_count_67 fl_X11_26 hR ct_2100 (one_cnt _) rfl ?_
      refine r_iload_n DX11_count_70 rfl ?_
      refine r_bipush (v := 100) DX11_count_71 kb_100 ?_
      refine r_isub DX11_count_73 ?_
      obtain ⟨⟨hx12, hi13⟩, h⟩ := gd_inv h
      refine s_lget (Li := 2105) (g := 2000) DX11_count_74 cv_X11_93 hR (by decide) hx12 hi13 (by decide) (Nat.le_of_ble_eq_true rfl) (fun M hR => ?_)
      refine q_cast hx12 DX11_count_77 wd_645 hR ct_2000 hi13 rfl ?_
      refine q_geta hx12 DX11_count_80 fl_X11_260 hR ct_2000 hi13 rfl ?_
      refine r_iconst (v := 0) DX11_count_83 ki_0 ?_
      obtain ⟨hg14, h⟩ := gd_inv h
      refine s_iald DX11_count_84 hR ct_2006 (hi13) hg14 ?_
      cases h
      exact r_iret DX11_count_85 rfl ⟨Nat.le_refl 0, Nat.le_refl 0⟩ (hp M hR)
  · have h := if_f c4 h
    refine r_aload_n DX11_count_24 rfl ?_
    refine s_geto DX11_count_25 fl_X11_68 hR ct_2100 (one_cnt _) rfl ?_
    refine s_geto DX11_count_28 fl_X11_222 hR ct_1400 (one_cnt _) rfl ?_
    refine r_iload_n DX11_count_31 rfl ?_
    refine r_bipush (v := 20) DX11_count_32 kb_20 ?_
    refine r_isub DX11_count_34 ?_
    obtain ⟨⟨hx8, hi9⟩, h⟩ := gd_inv h
    refine s_lget (Li := 1401) (g := 1700) DX11_count_35 cv_X11_93 hR (by decide) hx8 hi9 (by decide) (Nat.le_of_ble_eq_true rfl) (fun M hR => ?_)
    refine q_cast hx8 DX11_count_38 wd_974 hR ct_1700 hi9 rfl ?_
    refine q_geti hx8 DX11_count_41 fl_X11_370 hR ct_1700 hi9 rfl ?_
    cases h
    exact r_iret DX11_count_44 rfl ⟨Nat.le_refl 0, Nat.le_refl 0⟩ (hp M hR)
theorem C_X11_count {E : EN} {ad : AD} {fu : Nat} {out : Int32 × St} {V : St} {M : MH} {x1 : Int32} (l : Launch) (hR : Rep E ad V M) (h : f_X11_count fu V x1 = some out) : Ct E l yX11_count cX11_count 2 (some .int) (rmD 4) [.ref (ad 2100 0), .int (x1)] M (fun v M => v = (some (.int out.1)) ∧ Rep E ad out.2 M) :=
  Ct.of (own := RX11) (ini := false) (L := [some (.ref (ad 2100 0)), some (.int (x1))]) rfl rfl (fun h => by cases h) rfl (Nat.le_of_ble_eq_true rfl) rfl (fun X _ => S_X11_count_0 (fun M hR => ⟨rfl, hR⟩) hR h)
theorem S_X11_findThing_32 {E : EN} {X : CX} {P : Option Value → MH → Prop} {ad : AD} {fu : Nat} {out : Int32 × St} (hp : ∀ M, Rep E ad out.2 M → P (some (rfq ad 2000 out.1)) M) {V : St} {M : MH} {s0 : Int32} {d0 : Option Value} {d1 : Option Value} (hR : Rep E ad V M) (h : F_X11_findThing_32 fu V s0 = some out) : G E X RX11 cX11_findThing 2 (some (.object "UtilityBoard$Thing")) false (rmD 4) P M [d0, d1] 0 0 32 [rfq ad 2000 (s0)] := by
  unfold F_X11_findThing_32 at h
  cases h
  exact r_aret DX11_findThing_32 rfl (Or.inl ⟨_, rfl⟩) (rfq_or _ _ _) ⟨Nat.le_refl 0, Nat.le_refl 0⟩ (hp M hR)
theorem S_X11_findThing_0 {E : EN} {X : CX} {P : Option Value → MH → Prop} {ad : AD} {fu : Nat} {out : Int32 × St} (hp : ∀ M, Rep E ad out.2 M → P (some (rfq ad 2000 out.1)) M) {V : St} {M : MH} {x1 : Int32} (hR : Rep E ad V M) (h : f_X11_findThing fu V x1 = some out) : G E X RX11 cX11_findThing 2 (some (.object "UtilityBoard$Thing")) false (rmD 4) P M [some (.ref (ad 2100 0)), some (.int (x1))] 0 0 0 [] := by
  unfold f_X11_findThing at h
  refine r_iload_n DX11_findThing_0 rfl ?_
  refine r_iconst (v := 0) DX11_findThing_1 ki_0 ?_
  refine r_aload_n DX11_findThing_2 rfl ?_
  refine s_geto DX11_findThing_3 fl_X11_26 hR ct_2100 (one_cnt _) rfl ?_
  refine s_lsize (Li := 2105) (g := 2000) DX11_findThing_6 cv_X11_89 hR (by decide) (by decide) (Nat.le_of_ble_eq_true rfl) ?_
  refine r_iconst (v := 1) DX11_findThing_9 ki_1 ?_
  refine r_isub DX11_findThing_10 ?_
  obtain ⟨r1, V2, hc3, h⟩ := bd_inv h
  refine k_callS (As := [.int (x1), .int ((0 : Int32)), .int ((V 2105 0 0) - (1 : Int32))]) (rest := []) (st1 := [.int (r1)]) (w := some (.int r1)) DX11_findThing_11 cs_X11_111 (C_X11_within (out := (r1, V2)) (cxL X) hR hc3) rfl (by decide) (by decide) rfl (Nat.le_of_ble_eq_true rfl) rfl (fun M hR => ?_)
  refine r_if_eq DX11_findThing_14 (fun c4 => ?_) (fun c4 => ?_)
  · have h := if_t c4 h
    refine q_null (ad := ad) (g := 2000) DX11_findThing_31 ?_
    exact S_X11_findThing_32 hp hR h
  · have h := if_f c4 h
    refine r_aload_n DX11_findThing_17 rfl ?_
    refine s_geto DX11_findThing_18 fl_X11_26 hR ct_2100 (one_cnt _) rfl ?_
    refine r_iload_n DX11_findThing_21 rfl ?_
    obtain ⟨⟨hx5, hi6⟩, h⟩ := gd_inv h
    refine s_lget (Li := 2105) (g := 2000) DX11_findThing_22 cv_X11_93 hR (by decide) hx5 hi6 (by decide) (Nat.le_of_ble_eq_true rfl) (fun M hR => ?_)
    refine q_cast hx5 DX11_findThing_25 wd_645 hR ct_2000 hi6 rfl ?_
    refine r_goto DX11_findThing_28 ?_
    exact S_X11_findThing_32 hp hR h
theorem C_X11_findThing {E : EN} {ad : AD} {fu : Nat} {out : Int32 × St} {V : St} {M : MH} {x1 : Int32} (l : Launch) (hR : Rep E ad V M) (h : f_X11_findThing fu V x1 = some out) : Ct E l yX11_findThing cX11_findThing 2 (some (.object "UtilityBoard$Thing")) (rmD 4) [.ref (ad 2100 0), .int (x1)] M (fun v M => v = (some (rfq ad 2000 out.1)) ∧ Rep E ad out.2 M) :=
  Ct.of (own := RX11) (ini := false) (L := [some (.ref (ad 2100 0)), some (.int (x1))]) rfl rfl (fun h => by cases h) rfl (Nat.le_of_ble_eq_true rfl) rfl (fun X _ => S_X11_findThing_0 (fun M hR => ⟨rfl, hR⟩) hR h)
