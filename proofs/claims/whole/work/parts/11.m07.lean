theorem S_X12_maker_64 {E : EN} {X : CX} {P : Option Value → MH → Prop} {ad : AD} {fu : Nat} {out : Int32 × St} (hp : ∀ M, Rep E ad out.2 M → P (some (.int out.1)) M) {V : St} {M : MH} {d0 : Option Value} {d1 : Option Value} {d2 : Option Value} {d3 : Option Value} {d4 : Option Value} {d5 : Option Value} (hR : Rep E ad V M) (h : F_X12_maker_64 fu V = some out) : G E X RX12 cX12_maker 6 (some .int) false (rmD 2) P M [d0, d1, d2, d3, d4, d5] 0 0 64 [] := by
  unfold F_X12_maker_64 at h
  refine r_iconst (v := -1) DX12_maker_64 ki_m1 ?_
  cases h
  exact r_iret DX12_maker_65 rfl ⟨Nat.le_refl 0, Nat.le_refl 0⟩ (hp M hR)
theorem S_X12_maker_0 {E : EN} {X : CX} {P : Option Value → MH → Prop} {ad : AD} {fu : Nat} {out : Int32 × St} (hp : ∀ M, Rep E ad out.2 M → P (some (.int out.1)) M) {V : St} {M : MH} {x1 : Int32} {x2 : Int32} {x3 : Int32} {x4 : Int32} {x5 : Int32} (hR : Rep E ad V M) (h : f_X12_maker fu V x1 x2 x3 x4 x5 = some out) : G E X RX12 cX12_maker 6 (some .int) false (rmD 2) P M [some (.ref (ad 2200 0)), some (.int (x1)), some (.int (x2)), some (.int (x3)), some (.int (x4)), some (.int (x5))] 0 0 0 [] := by
  unfold f_X12_maker at h
  refine r_iload_n DX12_maker_0 rfl ?_
  refine r_iconst (v := 0) DX12_maker_1 ki_0 ?_
  refine r_bipush (v := 7) DX12_maker_2 kb_7 ?_
  obtain ⟨r1, V2, hc3, h⟩ := bd_inv h
  refine k_callS (As := [.int (x1), .int ((0 : Int32)), .int ((7 : Int32))]) (rest := []) (st1 := [.int (r1)]) (w := some (.int r1)) DX12_maker_4 cs_X12_245 (C_X12_in (out := (r1, V2)) (cxL X) hR hc3) rfl (by decide) (by decide) rfl (Nat.le_of_ble_eq_true rfl) rfl (fun M hR => ?_)
  refine r_if_eq DX12_maker_7 (fun c4 => ?_) (fun c4 => ?_)
  · have h := if_t c4 h
    exact S_X12_maker_64 hp hR h
  · have h := if_f c4 h
    refine r_iload_n DX12_maker_10 rfl ?_
    refine r_iconst (v := 1) DX12_maker_11 ki_1 ?_
    refine r_sipush (v := 10000) DX12_maker_12 ks_10000 ?_
    obtain ⟨r5, V6, hc7, h⟩ := bd_inv h
    refine k_callS (As := [.int (x2), .int ((1 : Int32)), .int ((10000 : Int32))]) (rest := []) (st1 := [.int (r5)]) (w := some (.int r5)) DX12_maker_15 cs_X12_245 (C_X12_in (out := (r5, V6)) (cxL X) hR hc7) rfl (by decide) (by decide) rfl (Nat.le_of_ble_eq_true rfl) rfl (fun M hR => ?_)
    refine r_if_eq DX12_maker_18 (fun c8 => ?_) (fun c8 => ?_)
    · have h := if_t c8 h
      exact S_X12_maker_64 hp hR h
    · have h := if_f c8 h
      refine r_iload_n DX12_maker_21 rfl ?_
      refine r_iconst (v := 0) DX12_maker_22 ki_0 ?_
      refine r_sipush (v := 1000) DX12_maker_23 ks_1000 ?_
      obtain ⟨r9, V10, hc11, h⟩ := bd_inv h
      refine k_callS (As := [.int (x3), .int ((0 : Int32)), .int ((1000 : Int32))]) (rest := []) (st1 := [.int (r9)]) (w := some (.int r9)) DX12_maker_26 cs_X12_245 (C_X12_in (out := (r9, V10)) (cxL X) hR hc11) rfl (by decide) (by decide) rfl (Nat.le_of_ble_eq_true rfl) rfl (fun M hR => ?_)
      refine r_if_eq DX12_maker_29 (fun c12 => ?_) (fun c12 => ?_)
      · have h := if_t c12 h
        exact S_X12_maker_64 hp hR h
      · have h := if_f c12 h
        refine r_iload DX12_maker_32 rfl ?_
        refine r_iconst (v := 1) DX12_maker_34 ki_1 ?_
        refine r_bipush (v := 100) DX12_maker_35 kb_100 ?_
        obtain ⟨r13, V14, hc15, h⟩ := bd_inv h
        refine k_callS (As := [.int (x4), .int ((1 : Int32)), .int ((100 : Int32))]) (rest := []) (st1 := [.int (r13)]) (w := some (.int r13)) DX12_maker_37 cs_X12_245 (C_X12_in (out := (r13, V14)) (cxL X) hR hc15) rfl (by decide) (by decide) rfl (Nat.le_of_ble_eq_true rfl) rfl (fun M hR => ?_)
        refine r_if_eq DX12_maker_40 (fun c16 => ?_) (fun c16 => ?_)
        · have h := if_t c16 h
          exact S_X12_maker_64 hp hR h
        · have h := if_f c16 h
          refine r_iload DX12_maker_43 rfl ?_
          refine r_iconst (v := 0) DX12_maker_45 ki_0 ?_
          refine r_sipush (v := 10000) DX12_maker_46 ks_10000 ?_
          obtain ⟨r17, V18, hc19, h⟩ := bd_inv h
          refine k_callS (As := [.int (x5), .int ((0 : Int32)), .int ((10000 : Int32))]) (rest := []) (st1 := [.int (r17)]) (w := some (.int r17)) DX12_maker_49 cs_X12_245 (C_X12_in (out := (r17, V18)) (cxL X) hR hc19) rfl (by decide) (by decide) rfl (Nat.le_of_ble_eq_true rfl) rfl (fun M hR => ?_)
          refine r_if_eq DX12_maker_52 (fun c20 => ?_) (fun c20 => ?_)
          · have h := if_t c20 h
            exact S_X12_maker_64 hp hR h
          · have h := if_f c20 h
            refine r_aload_n DX12_maker_55 rfl ?_
            refine s_geti DX12_maker_56 fl_X12_291 hR ct_2200 (one_cnt _) rfl ?_
            refine r_bipush (v := 12) DX12_maker_59 kb_12 ?_
            refine r_icmp_ne DX12_maker_61 (fun c21 => ?_) (fun c21 => ?_)
            · have h := if_f c21 h
              refine r_aload_n DX12_maker_66 rfl ?_
              refine s_geta DX12_maker_67 fl_X12_91 hR ct_2200 (one_cnt _) rfl ?_
              refine r_aload_n DX12_maker_70 rfl ?_
              refine s_geti DX12_maker_71 fl_X12_291 hR ct_2200 (one_cnt _) rfl ?_
              refine r_iload_n DX12_maker_74 rfl ?_
              obtain ⟨hg22, h⟩ := gd_inv h
              obtain ⟨V23, hv24, h⟩ := bv_inv h
              refine s_iast DX12_maker_75 hR oka_2233 ct_2233 (one_cnt _) hg22 (fun M hR => ?_)
              have hR := hR.cg hv24
              refine r_aload_n DX12_maker_76 rfl ?_
              refine s_geta DX12_maker_77 fl_X12_94 hR ct_2200 (one_cnt _) rfl ?_
              refine r_aload_n DX12_maker_80 rfl ?_
              refine s_geti DX12_maker_81 fl_X12_291 hR ct_2200 (one_cnt _) rfl ?_
              refine r_iload_n DX12_maker_84 rfl ?_
              obtain ⟨hg25, h⟩ := gd_inv h
              obtain ⟨V26, hv27, h⟩ := bv_inv h
              refine s_iast DX12_maker_85 hR oka_2234 ct_2234 (one_cnt _) hg25 (fun M hR => ?_)
              have hR := hR.cg hv27
              refine r_aload_n DX12_maker_86 rfl ?_
              refine s_geta DX12_maker_87 fl_X12_97 hR ct_2200 (one_cnt _) rfl ?_
              refine r_aload_n DX12_maker_90 rfl ?_
              refine s_geti DX12_maker_91 fl_X12_291 hR ct_2200 (one_cnt _) rfl ?_
              refine r_iload_n DX12_maker_94 rfl ?_
              obtain ⟨hg28, h⟩ := gd_inv h
              obtain ⟨V29, hv30, h⟩ := bv_inv h
              refine s_iast DX12_maker_95 hR oka_2235 ct_2235 (one_cnt _) hg28 (fun M hR => ?_)
              have hR := hR.cg hv30
              refine r_aload_n DX12_maker_96 rfl ?_
              refine s_geta DX12_maker_97 fl_X12_100 hR ct_2200 (one_cnt _) rfl ?_
              refine r_aload_n DX12_maker_100 rfl ?_
              refine s_geti DX12_maker_101 fl_X12_291 hR ct_2200 (one_cnt _) rfl ?_
              refine r_iload DX12_maker_104 rfl ?_
              obtain ⟨hg31, h⟩ := gd_inv h
              obtain ⟨V32, hv33, h⟩ := bv_inv h
              refine s_iast DX12_maker_106 hR oka_2236 ct_2236 (one_cnt _) hg31 (fun M hR => ?_)
              have hR := hR.cg hv33
              refine r_aload_n DX12_maker_107 rfl ?_
              refine s_geta DX12_maker_108 fl_X12_103 hR ct_2200 (one_cnt _) rfl ?_
              refine r_aload_n DX12_maker_111 rfl ?_
              refine s_geti DX12_maker_112 fl_X12_291 hR ct_2200 (one_cnt _) rfl ?_
              refine r_iload DX12_maker_115 rfl ?_
              obtain ⟨hg34, h⟩ := gd_inv h
              obtain ⟨V35, hv36, h⟩ := bv_inv h
              refine s_iast DX12_maker_117 hR oka_2237 ct_2237 (one_cnt _) hg34 (fun M hR => ?_)
              have hR := hR.cg hv36
              refine r_aload_n DX12_maker_118 rfl ?_
              refine r_aload_n DX12_maker_119 rfl ?_
              refine s_geti DX12_maker_120 fl_X12_291 hR ct_2200 (one_cnt _) rfl ?_
              refine r_iconst (v := 1) DX12_maker_123 ki_1 ?_
              refine r_iadd DX12_maker_124 ?_
              obtain ⟨V37, hv38, h⟩ := bv_inv h
              refine s_puti DX12_maker_125 fp_X12_291 hR oks_2232 ct_2200 (one_cnt _) rfl rfl rfl (fun M hR => ?_)
              have hR := hR.cg hv38
              refine r_aload_n DX12_maker_128 rfl ?_
              refine s_geti DX12_maker_129 fl_X12_291 hR ct_2200 (one_cnt _) rfl ?_
              refine r_iconst (v := 1) DX12_maker_132 ki_1 ?_
              refine r_isub DX12_maker_133 ?_
              cases h
              exact r_iret DX12_maker_134 rfl ⟨Nat.le_refl 0, Nat.le_refl 0⟩ (hp M hR)
            · have h := if_t c21 h
              exact S_X12_maker_64 hp hR h
theorem C_X12_maker {E : EN} {ad : AD} {fu : Nat} {out : Int32 × St} {V : St} {M : MH} {x1 : Int32} {x2 : Int32} {x3 : Int32} {x4 : Int32} {x5 : Int32} (l : Launch) (hR : Rep E ad V M) (h : f_X12_maker fu V x1 x2 x3 x4 x5 = some out) : Ct E l yX12_maker cX12_maker 6 (some .int) (rmD 2) [.ref (ad 2200 0), .int (x1), .int (x2), .int (x3), .int (x4), .int (x5)] M (fun v M => v = (some (.int out.1)) ∧ Rep E ad out.2 M) :=
  Ct.of (own := RX12) (ini := false) (L := [some (.ref (ad 2200 0)), some (.int (x1)), some (.int (x2)), some (.int (x3)), some (.int (x4)), some (.int (x5))]) rfl rfl (fun h => by cases h) rfl (Nat.le_of_ble_eq_true rfl) rfl (fun X _ => S_X12_maker_0 (fun M hR => ⟨rfl, hR⟩) hR h)
theorem S_X12_makes_245 {E : EN} {X : CX} {P : Option Value → MH → Prop} {ad : AD} {fu : Nat} {out : Int32 × St} (hp : ∀ M, Rep E ad out.2 M → P (some (.int out.1)) M) {V : St} {M : MH} {x1 : Int32} {x2 : Int32} {x3 : Int32} {x4 : Int32} {d5 : Option Value} {d6 : Option Value} (hR : Rep E ad V M) (h : F_X12_makes_245 fu V x1 x2 x3 x4 = some out) : G E X RX12 cX12_makes 7 (some .int) false (rmD 5) P M [some (.ref (ad 2200 0)), some (.int (x1)), some (.int (x2)), some (.int (x3)), some (.int (x4)), d5, d6] 0 0 245 [] := by
  unfold F_X12_makes_245 at h
  refine r_aload_n DX12_makes_245 rfl ?_
  refine s_geta DX12_makes_246 fl_X12_109 hR ct_2200 (one_cnt _) rfl ?_
  refine r_iload_n DX12_makes_249 rfl ?_
  refine r_aload_n DX12_makes_250 rfl ?_
  refine s_geta DX12_makes_251 fl_X12_109 hR ct_2200 (one_cnt _) rfl ?_
  refine r_iload_n DX12_makes_254 rfl ?_
  obtain ⟨hg1, h⟩ := gd_inv h
  refine s_iald DX12_makes_255 hR ct_2239 (one_cnt _) hg1 ?_
  refine r_iload_n DX12_makes_256 rfl ?_
  refine r_iadd DX12_makes_257 ?_
  obtain ⟨hg2, h⟩ := gd_inv h
  obtain ⟨V3, hv4, h⟩ := bv_inv h
  refine s_iast DX12_makes_258 hR oka_2239 ct_2239 (one_cnt _) hg2 (fun M hR => ?_)
  have hR := hR.cg hv4
  refine r_iload DX12_makes_259 rfl ?_
  refine r_if_eq DX12_makes_261 (fun c5 => ?_) (fun c5 => ?_)
  · have h := if_t c5 h
    refine r_aload_n DX12_makes_336 rfl ?_
    refine s_geta DX12_makes_337 fl_X12_58 hR ct_2200 (one_cnt _) rfl ?_
    refine r_iload_n DX12_makes_340 rfl ?_
    refine r_aload_n DX12_makes_341 rfl ?_
    refine s_geta DX12_makes_342 fl_X12_58 hR ct_2200 (one_cnt _) rfl ?_
    refine r_iload_n DX12_makes_345 rfl ?_
    obtain ⟨hg6, h⟩ := gd_inv h
    refine s_iald DX12_makes_346 hR ct_2221 (one_cnt _) hg6 ?_
    refine r_iload_n DX12_makes_347 rfl ?_
    refine r_iadd DX12_makes_348 ?_
    obtain ⟨hg7, h⟩ := gd_inv h
    obtain ⟨V8, hv9, h⟩ := bv_inv h
    refine s_iast DX12_makes_349 hR oka_2221 ct_2221 (one_cnt _) hg7 (fun M hR => ?_)
    have hR := hR.cg hv9
    refine r_aload_n DX12_makes_350 rfl ?_
    refine s_geta DX12_makes_351 fl_X12_61 hR ct_2200 (one_cnt _) rfl ?_
    refine r_iload_n DX12_makes_354 rfl ?_
    obtain ⟨hg10, h⟩ := gd_inv h
    refine s_iald DX12_makes_355 hR ct_2222 (one_cnt _) hg10 ?_
    refine r_aload_n DX12_makes_356 rfl ?_
    refine s_geta DX12_makes_357 fl_X12_58 hR ct_2200 (one_cnt _) rfl ?_
    refine r_iload_n DX12_makes_360 rfl ?_
    obtain ⟨hg11, h⟩ := gd_inv h
    refine s_iald DX12_makes_361 hR ct_2221 (one_cnt _) hg11 ?_
    refine r_iadd DX12_makes_362 ?_
    cases h
    exact r_iret DX12_makes_363 rfl ⟨Nat.le_refl 0, Nat.le_refl 0⟩ (hp M hR)
  · have h := if_f c5 h
    refine r_aload_n DX12_makes_264 rfl ?_
    refine s_geta DX12_makes_265 fl_X12_61 hR ct_2200 (one_cnt _) rfl ?_
    refine r_iload_n DX12_makes_268 rfl ?_
    refine r_aload_n DX12_makes_269 rfl ?_
    refine s_geta DX12_makes_270 fl_X12_61 hR ct_2200 (one_cnt _) rfl ?_
    refine r_iload_n DX12_makes_273 rfl ?_
    obtain ⟨hg12, h⟩ := gd_inv h
    refine s_iald DX12_makes_274 hR ct_2222 (one_cnt _) hg12 ?_
    refine r_iload_n DX12_makes_275 rfl ?_
    refine r_iadd DX12_makes_276 ?_
    obtain ⟨hg13, h⟩ := gd_inv h
    obtain ⟨V14, hv15, h⟩ := bv_inv h
    refine s_iast DX12_makes_277 hR oka_2222 ct_2222 (one_cnt _) hg13 (fun M hR => ?_)
    have hR := hR.cg hv15
    refine r_aload_n DX12_makes_278 rfl ?_
    refine s_geta DX12_makes_279 fl_X12_185 hR ct_2200 (one_cnt _) rfl ?_
    refine r_sipush (v := 15000) DX12_makes_282 ks_15000 ?_
    refine r_iload_n DX12_makes_285 rfl ?_
    refine r_imul DX12_makes_286 ?_
    refine r_sipush (v := 500) DX12_makes_287 ks_500 ?_
    refine r_iload_n DX12_makes_290 rfl ?_
    refine r_imul DX12_makes_291 ?_
    refine r_iadd DX12_makes_292 ?_
    refine r_aload_n DX12_makes_293 rfl ?_
    refine s_geti DX12_makes_294 fl_X12_400 hR ct_2200 (one_cnt _) rfl ?_
    refine r_iadd DX12_makes_297 ?_
    refine r_aload_n DX12_makes_298 rfl ?_
    refine s_geta DX12_makes_299 fl_X12_185 hR ct_2200 (one_cnt _) rfl ?_
    refine r_sipush (v := 15000) DX12_makes_302 ks_15000 ?_
    refine r_iload_n DX12_makes_305 rfl ?_
    refine r_imul DX12_makes_306 ?_
    refine r_sipush (v := 500) DX12_makes_307 ks_500 ?_
    refine r_iload_n DX12_makes_310 rfl ?_
    refine r_imul DX12_makes_311 ?_
    refine r_iadd DX12_makes_312 ?_
    refine r_aload_n DX12_makes_313 rfl ?_
    refine s_geti DX12_makes_314 fl_X12_400 hR ct_2200 (one_cnt _) rfl ?_
    refine r_iadd DX12_makes_317 ?_
    obtain ⟨hg16, h⟩ := gd_inv h
    refine s_iald DX12_makes_318 hR ct_2275 (one_cnt _) hg16 ?_
    refine r_iload_n DX12_makes_319 rfl ?_
    refine r_iadd DX12_makes_320 ?_
    obtain ⟨hg17, h⟩ := gd_inv h
    obtain ⟨V18, hv19, h⟩ := bv_inv h
    refine s_iast DX12_makes_321 hR oka_2275 ct_2275 (one_cnt _) hg17 (fun M hR => ?_)
    have hR := hR.cg hv19
    refine r_aload_n DX12_makes_322 rfl ?_
    refine s_geta DX12_makes_323 fl_X12_61 hR ct_2200 (one_cnt _) rfl ?_
    refine r_iload_n DX12_makes_326 rfl ?_
    obtain ⟨hg20, h⟩ := gd_inv h
    refine s_iald DX12_makes_327 hR ct_2222 (one_cnt _) hg20 ?_
    refine r_aload_n DX12_makes_328 rfl ?_
    refine s_geta DX12_makes_329 fl_X12_58 hR ct_2200 (one_cnt _) rfl ?_
    refine r_iload_n DX12_makes_332 rfl ?_
    obtain ⟨hg21, h⟩ := gd_inv h
    refine s_iald DX12_makes_333 hR ct_2221 (one_cnt _) hg21 ?_
    refine r_iadd DX12_makes_334 ?_
    cases h
    exact r_iret DX12_makes_335 rfl ⟨Nat.le_refl 0, Nat.le_refl 0⟩ (hp M hR)
theorem S_X12_makes_219 {E : EN} {X : CX} {P : Option Value → MH → Prop} {ad : AD} {fu : Nat} {out : Int32 × St} (hp : ∀ M, Rep E ad out.2 M → P (some (.int out.1)) M) {V : St} {M : MH} {d0 : Option Value} {d1 : Option Value} {d2 : Option Value} {d3 : Option Value} {d4 : Option Value} {d5 : Option Value} {d6 : Option Value} (hR : Rep E ad V M) (h : F_X12_makes_219 fu V = some out) : G E X RX12 cX12_makes 7 (some .int) false (rmD 5) P M [d0, d1, d2, d3, d4, d5, d6] 0 0 219 [] := by
  unfold F_X12_makes_219 at h
  refine r_bipush (v := -5) DX12_makes_219 kb_m5 ?_
  cases h
  exact r_iret DX12_makes_221 rfl ⟨Nat.le_refl 0, Nat.le_refl 0⟩ (hp M hR)
theorem S_X12_makes_178 {E : EN} {X : CX} {P : Option Value → MH → Prop} {ad : AD} {fu : Nat} {out : Int32 × St} (hp : ∀ M, Rep E ad out.2 M → P (some (.int out.1)) M) {V : St} {M : MH} {x1 : Int32} {x2 : Int32} {x3 : Int32} {x4 : Int32} {x5 : Int32} {x6 : Int32} (hR : Rep E ad V M) (h : F_X12_makes_178 fu V x1 x2 x3 x4 x5 x6 = some out) : G E X RX12 cX12_makes 7 (some .int) false (rmD 5) P M [some (.ref (ad 2200 0)), some (.int (x1)), some (.int (x2)), some (.int (x3)), some (.int (x4)), some (.int (x5)), some (.int (x6))] 0 0 178 [] := by
  unfold F_X12_makes_178 at h
  refine r_aload_n DX12_makes_178 rfl ?_
  refine s_geta DX12_makes_179 fl_X12_109 hR ct_2200 (one_cnt _) rfl ?_
  refine r_iload_n DX12_makes_182 rfl ?_
  obtain ⟨hg1, h⟩ := gd_inv h
  refine s_iald DX12_makes_183 hR ct_2239 (one_cnt _) hg1 ?_
  refine r_iload_n DX12_makes_184 rfl ?_
  refine r_iadd DX12_makes_185 ?_
  refine r_aload_n DX12_makes_186 rfl ?_
  refine s_geta DX12_makes_187 fl_X12_94 hR ct_2200 (one_cnt _) rfl ?_
  refine r_iload_n DX12_makes_190 rfl ?_
  obtain ⟨hg2, h⟩ := gd_inv h
  refine s_iald DX12_makes_191 hR ct_2234 (one_cnt _) hg2 ?_
  refine r_icmp_gt DX12_makes_192 (fun c3 => ?_) (fun c3 => ?_)
  · have h := if_t c3 h
    exact S_X12_makes_219 hp hR h
  · have h := if_f c3 h
    refine r_aload_n DX12_makes_195 rfl ?_
    refine s_geta DX12_makes_196 fl_X12_109 hR ct_2200 (one_cnt _) rfl ?_
    refine r_iload_n DX12_makes_199 rfl ?_
    obtain ⟨hg4, h⟩ := gd_inv h
    refine s_iald DX12_makes_200 hR ct_2239 (one_cnt _) hg4 ?_
    refine r_iload_n DX12_makes_201 rfl ?_
    refine r_iadd DX12_makes_202 ?_
    refine r_aload_n DX12_makes_203 rfl ?_
    refine s_geta DX12_makes_204 fl_X12_97 hR ct_2200 (one_cnt _) rfl ?_
    refine r_iload_n DX12_makes_207 rfl ?_
    obtain ⟨hg5, h⟩ := gd_inv h
    refine s_iald DX12_makes_208 hR ct_2235 (one_cnt _) hg5 ?_
    refine r_aload_n DX12_makes_209 rfl ?_
    refine s_geta DX12_makes_210 fl_X12_100 hR ct_2200 (one_cnt _) rfl ?_
    refine r_iload_n DX12_makes_213 rfl ?_
    obtain ⟨hg6, h⟩ := gd_inv h
    refine s_iald DX12_makes_214 hR ct_2236 (one_cnt _) hg6 ?_
    refine r_imul DX12_makes_215 ?_
    refine r_icmp_le DX12_makes_216 (fun c7 => ?_) (fun c7 => ?_)
    · have h := if_t c7 h
      refine r_iload DX12_makes_222 rfl ?_
      refine r_iconst (v := -1) DX12_makes_224 ki_m1 ?_
      refine r_icmp_eq DX12_makes_225 (fun c8 => ?_) (fun c8 => ?_)
      · have h := if_t c8 h
        exact S_X12_makes_245 hp hR h
      · have h := if_f c8 h
        refine r_aload_n DX12_makes_228 rfl ?_
        refine s_geta DX12_makes_229 fl_X12_106 hR ct_2200 (one_cnt _) rfl ?_
        refine r_iload DX12_makes_232 rfl ?_
        refine r_aload_n DX12_makes_234 rfl ?_
        refine s_geta DX12_makes_235 fl_X12_106 hR ct_2200 (one_cnt _) rfl ?_
        refine r_iload DX12_makes_238 rfl ?_
        obtain ⟨hg9, h⟩ := gd_inv h
        refine s_iald DX12_makes_240 hR ct_2238 (one_cnt _) hg9 ?_
        refine r_iload DX12_makes_241 rfl ?_
        refine r_isub DX12_makes_243 ?_
        obtain ⟨hg10, h⟩ := gd_inv h
        obtain ⟨V11, hv12, h⟩ := bv_inv h
        refine s_iast DX12_makes_244 hR oka_2238 ct_2238 (one_cnt _) hg10 (fun M hR => ?_)
        have hR := hR.cg hv12
        exact S_X12_makes_245 hp hR h
    · have h := if_f c7 h
      exact S_X12_makes_219 hp hR h
theorem S_X12_makes_155 {E : EN} {X : CX} {P : Option Value → MH → Prop} {ad : AD} {fu : Nat} {out : Int32 × St} (hp : ∀ M, Rep E ad out.2 M → P (some (.int out.1)) M) {V : St} {M : MH} {x1 : Int32} {x2 : Int32} {x3 : Int32} {x4 : Int32} {x5 : Int32} {s0 : Int32} {d6 : Option Value} (hR : Rep E ad V M) (h : F_X12_makes_155 fu V x1 x2 x3 x4 x5 s0 = some out) : G E X RX12 cX12_makes 7 (some .int) false (rmD 5) P M [some (.ref (ad 2200 0)), some (.int (x1)), some (.int (x2)), some (.int (x3)), some (.int (x4)), some (.int (x5)), d6] 0 0 155 [.int (s0)] := by
  unfold F_X12_makes_155 at h
  refine t_istore (L' := [some (.ref (ad 2200 0)), some (.int (x1)), some (.int (x2)), some (.int (x3)), some (.int (x4)), some (.int (x5)), some (.int (s0))]) DX12_makes_155 (by decide) rfl ?_
  refine r_iload DX12_makes_157 rfl ?_
  refine r_iconst (v := -1) DX12_makes_159 ki_m1 ?_
  refine r_icmp_eq DX12_makes_160 (fun c1 => ?_) (fun c1 => ?_)
  · have h := if_t c1 h
    exact S_X12_makes_178 hp hR h
  · have h := if_f c1 h
    refine r_iload DX12_makes_163 rfl ?_
    refine r_aload_n DX12_makes_165 rfl ?_
    refine s_geta DX12_makes_166 fl_X12_106 hR ct_2200 (one_cnt _) rfl ?_
    refine r_iload DX12_makes_169 rfl ?_
    obtain ⟨hg2, h⟩ := gd_inv h
    refine s_iald DX12_makes_171 hR ct_2238 (one_cnt _) hg2 ?_
    refine r_icmp_le DX12_makes_172 (fun c3 => ?_) (fun c3 => ?_)
    · have h := if_t c3 h
      exact S_X12_makes_178 hp hR h
    · have h := if_f c3 h
      refine r_bipush (v := -4) DX12_makes_175 kb_m4 ?_
      cases h
      exact r_iret DX12_makes_177 rfl ⟨Nat.le_refl 0, Nat.le_refl 0⟩ (hp M hR)
theorem S_X12_makes_130 {E : EN} {X : CX} {P : Option Value → MH → Prop} {ad : AD} {fu : Nat} {out : Int32 × St} (hp : ∀ M, Rep E ad out.2 M → P (some (.int out.1)) M) {V : St} {M : MH} {x1 : Int32} {x2 : Int32} {x3 : Int32} {x4 : Int32} {s0 : Int32} {d5 : Option Value} {d6 : Option Value} (hR : Rep E ad V M) (h : F_X12_makes_130 fu V x1 x2 x3 x4 s0 = some out) : G E X RX12 cX12_makes 7 (some .int) false (rmD 5) P M [some (.ref (ad 2200 0)), some (.int (x1)), some (.int (x2)), some (.int (x3)), some (.int (x4)), d5, d6] 0 0 130 [.int (s0)] := by
  unfold F_X12_makes_130 at h
  refine t_istore (L' := [some (.ref (ad 2200 0)), some (.int (x1)), some (.int (x2)), some (.int (x3)), some (.int (x4)), some (.int (s0)), d6]) DX12_makes_130 (by decide) rfl ?_
  refine r_iload DX12_makes_132 rfl ?_
  refine r_iconst (v := -1) DX12_makes_134 ki_m1 ?_
  refine r_icmp_ne DX12_makes_135 (fun c1 => ?_) (fun c1 => ?_)
  · have h := if_f c1 h
    refine r_iload_n DX12_makes_142 rfl ?_
    refine r_aload_n DX12_makes_143 rfl ?_
    refine s_geta DX12_makes_144 fl_X12_52 hR ct_2200 (one_cnt _) rfl ?_
    refine r_iload_n DX12_makes_147 rfl ?_
    obtain ⟨hg2, h⟩ := gd_inv h
    refine s_iald DX12_makes_148 hR ct_2219 (one_cnt _) hg2 ?_
    refine r_imul DX12_makes_149 ?_
    refine r_bipush (v := 36) DX12_makes_150 kb_36 ?_
    obtain ⟨r3, V4, hc5, h⟩ := bd_inv h
    refine k_callS (As := [.int (x3 * (V 2219 (0) (x2).toNatClampNeg)), .int ((36 : Int32))]) (rest := []) (st1 := [.int (r3)]) (w := some (.int r3)) DX12_makes_152 cs_X12_437 (C_X12_up (out := (r3, V4)) (cxL X) hR hc5) rfl (by decide) (by decide) rfl (Nat.le_of_ble_eq_true rfl) rfl (fun M hR => ?_)
    exact S_X12_makes_155 hp hR h
  · have h := if_t c1 h
    refine r_iconst (v := 0) DX12_makes_138 ki_0 ?_
    refine r_goto DX12_makes_139 ?_
    exact S_X12_makes_155 hp hR h
theorem S_X12_makes_106 {E : EN} {X : CX} {P : Option Value → MH → Prop} {ad : AD} {fu : Nat} {out : Int32 × St} (hp : ∀ M, Rep E ad out.2 M → P (some (.int out.1)) M) {V : St} {M : MH} {x1 : Int32} {x2 : Int32} {x3 : Int32} {x4 : Int32} {d5 : Option Value} {d6 : Option Value} (hR : Rep E ad V M) (h : F_X12_makes_106 fu V x1 x2 x3 x4 = some out) : G E X RX12 cX12_makes 7 (some .int) false (rmD 5) P M [some (.ref (ad 2200 0)), some (.int (x1)), some (.int (x2)), some (.int (x3)), some (.int (x4)), d5, d6] 0 0 106 [] := by
  unfold F_X12_makes_106 at h
  refine r_aload_n DX12_makes_106 rfl ?_
  refine s_geta DX12_makes_107 fl_X12_43 hR ct_2200 (one_cnt _) rfl ?_
  refine r_iload_n DX12_makes_110 rfl ?_
  obtain ⟨hg1, h⟩ := gd_inv h
  refine s_iald DX12_makes_111 hR ct_2216 (one_cnt _) hg1 ?_
  refine r_if_ne DX12_makes_112 (fun c2 => ?_) (fun c2 => ?_)
  · have h := if_f c2 h
    refine r_iconst (v := -1) DX12_makes_129 ki_m1 ?_
    exact S_X12_makes_130 hp hR h
  · have h := if_t c2 h
    refine r_bipush (v := 20) DX12_makes_115 kb_20 ?_
    refine r_iload_n DX12_makes_117 rfl ?_
    refine r_imul DX12_makes_118 ?_
    refine r_aload_n DX12_makes_119 rfl ?_
    refine s_geta DX12_makes_120 fl_X12_46 hR ct_2200 (one_cnt _) rfl ?_
    refine r_iload_n DX12_makes_123 rfl ?_
    obtain ⟨hg3, h⟩ := gd_inv h
    refine s_iald DX12_makes_124 hR ct_2217 (one_cnt _) hg3 ?_
    refine r_iadd DX12_makes_125 ?_
    refine r_goto DX12_makes_126 ?_
    exact S_X12_makes_130 hp hR h
theorem S_X12_makes_55 {E : EN} {X : CX} {P : Option Value → MH → Prop} {ad : AD} {fu : Nat} {out : Int32 × St} (hp : ∀ M, Rep E ad out.2 M → P (some (.int out.1)) M) {V : St} {M : MH} {d0 : Option Value} {d1 : Option Value} {d2 : Option Value} {d3 : Option Value} {d4 : Option Value} {d5 : Option Value} {d6 : Option Value} (hR : Rep E ad V M) (h : F_X12_makes_55 fu V = some out) : G E X RX12 cX12_makes 7 (some .int) false (rmD 5) P M [d0, d1, d2, d3, d4, d5, d6] 0 0 55 [] := by
  unfold F_X12_makes_55 at h
  refine r_iconst (v := -1) DX12_makes_55 ki_m1 ?_
  cases h
  exact r_iret DX12_makes_56 rfl ⟨Nat.le_refl 0, Nat.le_refl 0⟩ (hp M hR)
theorem S_X12_makes_47 {E : EN} {X : CX} {P : Option Value → MH → Prop} {ad : AD} {fu : Nat} {out : Int32 × St} (hp : ∀ M, Rep E ad out.2 M → P (some (.int out.1)) M) {V : St} {M : MH} {x1 : Int32} {x2 : Int32} {x3 : Int32} {x4 : Int32} {s0 : Int32} {d5 : Option Value} {d6 : Option Value} (hR : Rep E ad V M) (h : F_X12_makes_47 fu V x1 x2 x3 x4 s0 = some out) : G E X RX12 cX12_makes 7 (some .int) false (rmD 5) P M [some (.ref (ad 2200 0)), some (.int (x1)), some (.int (x2)), some (.int (x3)), some (.int (x4)), d5, d6] 0 0 47 [.int (s0)] := by
  unfold F_X12_makes_47 at h
  refine r_iload_n DX12_makes_47 rfl ?_
  refine r_iadd DX12_makes_48 ?_
  refine r_ldcw (v := 1000000) DX12_makes_49 ck_X12_297 ?_
  refine r_icmp_le DX12_makes_52 (fun c1 => ?_) (fun c1 => ?_)
  · have h := if_t c1 h
    refine r_aload_n DX12_makes_57 rfl ?_
    refine r_bipush (v := 98) DX12_makes_58 kb_98 ?_
    refine r_iload_n DX12_makes_60 rfl ?_
    refine r_iload_n DX12_makes_61 rfl ?_
    refine r_aload_n DX12_makes_62 rfl ?_
    refine s_geti DX12_makes_63 fl_X12_400 hR ct_2200 (one_cnt _) rfl ?_
    refine r_aload_n DX12_makes_66 rfl ?_
    refine s_geti DX12_makes_67 fl_X12_400 hR ct_2200 (one_cnt _) rfl ?_
    obtain ⟨r2, V3, hc4, h⟩ := bd_inv h
    refine k_callV (As := [.int ((98 : Int32)), .int (x2), .int (x1), .int ((V 2201 0 0)), .int ((V 2201 0 0))]) (rest := []) (st1 := [.int (r2)]) (w := some (.int r2)) DX12_makes_70 cv_X12_433 hR ct_2200 (one_cnt _) rfl (C_X12_isSome (out := (r2, V3)) (cxL X) hR hc4) rfl (by decide) (by decide) rfl (Nat.le_of_ble_eq_true rfl) rfl (fun M hR => ?_)
    refine r_if_eq DX12_makes_73 (fun c5 => ?_) (fun c5 => ?_)
    · have h := if_t c5 h
      refine r_iload DX12_makes_79 rfl ?_
      refine r_if_eq DX12_makes_81 (fun c6 => ?_) (fun c6 => ?_)
      · have h := if_t c6 h
        exact S_X12_makes_106 hp hR h
      · have h := if_f c6 h
        refine r_aload_n DX12_makes_84 rfl ?_
        refine r_bipush (v := 109) DX12_makes_85 kb_109 ?_
        refine r_iload_n DX12_makes_87 rfl ?_
        refine r_iload_n DX12_makes_88 rfl ?_
        refine r_aload_n DX12_makes_89 rfl ?_
        refine s_geti DX12_makes_90 fl_X12_400 hR ct_2200 (one_cnt _) rfl ?_
        refine r_aload_n DX12_makes_93 rfl ?_
        refine s_geti DX12_makes_94 fl_X12_400 hR ct_2200 (one_cnt _) rfl ?_
        obtain ⟨r7, V8, hc9, h⟩ := bd_inv h
        refine k_callV (As := [.int ((109 : Int32)), .int (x2), .int (x1), .int ((V3 2201 0 0)), .int ((V3 2201 0 0))]) (rest := []) (st1 := [.int (r7)]) (w := some (.int r7)) DX12_makes_97 cv_X12_433 hR ct_2200 (one_cnt _) rfl (C_X12_isSome (out := (r7, V8)) (cxL X) hR hc9) rfl (by decide) (by decide) rfl (Nat.le_of_ble_eq_true rfl) rfl (fun M hR => ?_)
        refine r_if_ne DX12_makes_100 (fun c10 => ?_) (fun c10 => ?_)
        · have h := if_f c10 h
          exact S_X12_makes_106 hp hR h
        · have h := if_t c10 h
          refine r_bipush (v := -3) DX12_makes_103 kb_m3 ?_
          cases h
          exact r_iret DX12_makes_105 rfl ⟨Nat.le_refl 0, Nat.le_refl 0⟩ (hp M hR)
    · have h := if_f c5 h
      refine r_bipush (v := -2) DX12_makes_76 kb_m2 ?_
      cases h
      exact r_iret DX12_makes_78 rfl ⟨Nat.le_refl 0, Nat.le_refl 0⟩ (hp M hR)
  · have h := if_f c1 h
    exact S_X12_makes_55 hp hR h
theorem S_X12_makes_0 {E : EN} {X : CX} {P : Option Value → MH → Prop} {ad : AD} {fu : Nat} {out : Int32 × St} (hp : ∀ M, Rep E ad out.2 M → P (some (.int out.1)) M) {V : St} {M : MH} {x1 : Int32} {x2 : Int32} {x3 : Int32} {x4 : Int32} (hR : Rep E ad V M) (h : f_X12_makes fu V x1 x2 x3 x4 = some out) : G E X RX12 cX12_makes 7 (some .int) false (rmD 5) P M [some (.ref (ad 2200 0)), some (.int (x1)), some (.int (x2)), some (.int (x3)), some (.int (x4)), none, none] 0 0 0 [] := by
  unfold f_X12_makes at h
  refine r_aload_n DX12_makes_0 rfl ?_
  refine r_iload_n DX12_makes_1 rfl ?_
  obtain ⟨r1, V2, hc3, h⟩ := bd_inv h
  refine k_callV (As := [.int (x1)]) (rest := []) (st1 := [.int (r1)]) (w := some (.int r1)) DX12_makes_2 cv_X12_294 hR ct_2200 (one_cnt _) rfl (C_X12_isMaker (out := (r1, V2)) (cxL X) hR hc3) rfl (by decide) (by decide) rfl (Nat.le_of_ble_eq_true rfl) rfl (fun M hR => ?_)
  refine r_if_eq DX12_makes_5 (fun c4 => ?_) (fun c4 => ?_)
  · have h := if_t c4 h
    exact S_X12_makes_55 hp hR h
  · have h := if_f c4 h
    refine r_aload_n DX12_makes_8 rfl ?_
    refine r_iload_n DX12_makes_9 rfl ?_
    obtain ⟨r5, V6, hc7, h⟩ := bd_inv h
    refine k_callV (As := [.int (x2)]) (rest := []) (st1 := [.int (r5)]) (w := some (.int r5)) DX12_makes_10 cv_X12_271 hR ct_2200 (one_cnt _) rfl (C_X12_isThing (out := (r5, V6)) (cxL X) hR hc7) rfl (by decide) (by decide) rfl (Nat.le_of_ble_eq_true rfl) rfl (fun M hR => ?_)
    refine r_if_eq DX12_makes_13 (fun c8 => ?_) (fun c8 => ?_)
    · have h := if_t c8 h
      exact S_X12_makes_55 hp hR h
    · have h := if_f c8 h
      refine r_iload_n DX12_makes_16 rfl ?_
      refine r_iconst (v := 1) DX12_makes_17 ki_1 ?_
      refine r_sipush (v := 10000) DX12_makes_18 ks_10000 ?_
      obtain ⟨r9, V10, hc11, h⟩ := bd_inv h
      refine k_callS (As := [.int (x3), .int ((1 : Int32)), .int ((10000 : Int32))]) (rest := []) (st1 := [.int (r9)]) (w := some (.int r9)) DX12_makes_21 cs_X12_245 (C_X12_in (out := (r9, V10)) (cxL X) hR hc11) rfl (by decide) (by decide) rfl (Nat.le_of_ble_eq_true rfl) rfl (fun M hR => ?_)
      refine r_if_eq DX12_makes_24 (fun c12 => ?_) (fun c12 => ?_)
      · have h := if_t c12 h
        exact S_X12_makes_55 hp hR h
      · have h := if_f c12 h
        refine r_iload DX12_makes_27 rfl ?_
        refine r_if_eq DX12_makes_29 (fun c13 => ?_) (fun c13 => ?_)
        · have h := if_t c13 h
          refine r_aload_n DX12_makes_41 rfl ?_
          refine s_geta DX12_makes_42 fl_X12_58 hR ct_2200 (one_cnt _) rfl ?_
          refine r_iload_n DX12_makes_45 rfl ?_
          obtain ⟨hg14, h⟩ := gd_inv h
          refine s_iald DX12_makes_46 hR ct_2221 (one_cnt _) hg14 ?_
          exact S_X12_makes_47 hp hR h
        · have h := if_f c13 h
          refine r_aload_n DX12_makes_32 rfl ?_
          refine s_geta DX12_makes_33 fl_X12_61 hR ct_2200 (one_cnt _) rfl ?_
          refine r_iload_n DX12_makes_36 rfl ?_
          obtain ⟨hg15, h⟩ := gd_inv h
          refine s_iald DX12_makes_37 hR ct_2222 (one_cnt _) hg15 ?_
          refine r_goto DX12_makes_38 ?_
          exact S_X12_makes_47 hp hR h
theorem C_X12_makes {E : EN} {ad : AD} {fu : Nat} {out : Int32 × St} {V : St} {M : MH} {x1 : Int32} {x2 : Int32} {x3 : Int32} {x4 : Int32} (l : Launch) (hR : Rep E ad V M) (h : f_X12_makes fu V x1 x2 x3 x4 = some out) : Ct E l yX12_makes cX12_makes 7 (some .int) (rmD 5) [.ref (ad 2200 0), .int (x1), .int (x2), .int (x3), .int (x4)] M (fun v M => v = (some (.int out.1)) ∧ Rep E ad out.2 M) :=
  Ct.of (own := RX12) (ini := false) (L := [some (.ref (ad 2200 0)), some (.int (x1)), some (.int (x2)), some (.int (x3)), some (.int (x4)), none, none]) rfl rfl (fun h => by cases h) rfl (Nat.le_of_ble_eq_true rfl) rfl (fun X _ => S_X12_makes_0 (fun M hR => ⟨rfl, hR⟩) hR h)
theorem S_X12_named_18 {E : EN} {X : CX} {P : Option Value → MH → Prop} {ad : AD} {fu : Nat} {out : Int32 × St} (hp : ∀ M, Rep E ad out.2 M → P (some (.int out.1)) M) {V : St} {M : MH} {d0 : Option Value} {d1 : Option Value} {d2 : Option Value} (hR : Rep E ad V M) (h : F_X12_named_18 fu V = some out) : G E X RX12 cX12_named 3 (some .boolean) false (rmD 2) P M [d0, d1, d2] 0 0 18 [] := by
  unfold F_X12_named_18 at h
  refine r_iconst (v := 0) DX12_named_18 ki_0 ?_
  cases h
  exact r_zret DX12_named_19 rfl rfl ⟨Nat.le_refl 0, Nat.le_refl 0⟩ (hp M hR)
theorem S_X12_named_0 {E : EN} {X : CX} {P : Option Value → MH → Prop} {ad : AD} {fu : Nat} {out : Int32 × St} (hp : ∀ M, Rep E ad out.2 M → P (some (.int out.1)) M) {V : St} {M : MH} {x1 : Int32} {x2 : Int32} (hR : Rep E ad V M) (h : f_X12_named fu V x1 x2 = some out) : G E X RX12 cX12_named 3 (some .boolean) false (rmD 2) P M [some (.ref (ad 2200 0)), some (.int (x1)), some (.int (x2))] 0 0 0 [] := by
  unfold f_X12_named at h
  refine r_aload_n DX12_named_0 rfl ?_
  refine r_iload_n DX12_named_1 rfl ?_
  obtain ⟨r1, V2, hc3, h⟩ := bd_inv h
  refine k_callV (As := [.int (x1)]) (rest := []) (st1 := [.int (r1)]) (w := some (.int r1)) DX12_named_2 cv_X12_294 hR ct_2200 (one_cnt _) rfl (C_X12_isMaker (out := (r1, V2)) (cxL X) hR hc3) rfl (by decide) (by decide) rfl (Nat.le_of_ble_eq_true rfl) rfl (fun M hR => ?_)
  refine r_if_eq DX12_named_5 (fun c4 => ?_) (fun c4 => ?_)
  · have h := if_t c4 h
    exact S_X12_named_18 hp hR h
  · have h := if_f c4 h
    refine r_aload_n DX12_named_8 rfl ?_
    refine s_geta DX12_named_9 fl_X12_112 hR ct_2200 (one_cnt _) rfl ?_
    refine r_iload_n DX12_named_12 rfl ?_
    obtain ⟨hg5, h⟩ := gd_inv h
    refine s_zald DX12_named_13 hR ct_2240 (one_cnt _) hg5 ?_
    refine r_iload_n DX12_named_14 rfl ?_
    refine r_icmp_ne DX12_named_15 (fun c6 => ?_) (fun c6 => ?_)
    · have h := if_f c6 h
      refine r_aload_n DX12_named_20 rfl ?_
      refine s_geta DX12_named_21 fl_X12_112 hR ct_2200 (one_cnt _) rfl ?_
      refine r_iload_n DX12_named_24 rfl ?_
      refine r_iload_n DX12_named_25 rfl ?_
      obtain ⟨hg7, h⟩ := gd_inv h
      obtain ⟨hz8, h⟩ := gd_inv h
      obtain ⟨V9, hv10, h⟩ := bv_inv h
      refine t_zast hz8 DX12_named_26 hR oka_2240 ct_2240 (one_cnt _) hg7 (fun M hR => ?_)
      have hR := hR.cg hv10
      refine r_iconst (v := 1) DX12_named_27 ki_1 ?_
      cases h
      exact r_zret DX12_named_28 rfl rfl ⟨Nat.le_refl 0, Nat.le_refl 0⟩ (hp M hR)
    · have h := if_t c6 h
      exact S_X12_named_18 hp hR h
theorem C_X12_named {E : EN} {ad : AD} {fu : Nat} {out : Int32 × St} {V : St} {M : MH} {x1 : Int32} {x2 : Int32} (l : Launch) (hR : Rep E ad V M) (h : f_X12_named fu V x1 x2 = some out) : Ct E l yX12_named cX12_named 3 (some .boolean) (rmD 2) [.ref (ad 2200 0), .int (x1), .int (x2)] M (fun v M => v = (some (.int out.1)) ∧ Rep E ad out.2 M) :=
  Ct.of (own := RX12) (ini := false) (L := [some (.ref (ad 2200 0)), some (.int (x1)), some (.int (x2))]) rfl rfl (fun h => by cases h) rfl (Nat.le_of_ble_eq_true rfl) rfl (fun X _ => S_X12_named_0 (fun M hR => ⟨rfl, hR⟩) hR h)
theorem S_X12_needs_55 {E : EN} {X : CX} {P : Option Value → MH → Prop} {ad : AD} {fu : Nat} {out : Int32 × St} (hp : ∀ M, Rep E ad out.2 M → P (some (.int out.1)) M) {V : St} {M : MH} {s0 : Int32} {d0 : Option Value} {d1 : Option Value} {d2 : Option Value} {d3 : Option Value} {d4 : Option Value} (hR : Rep E ad V M) (h : F_X12_needs_55 fu V s0 = some out) : G E X RX12 cX12_needs 5 (some .int) false (rmD 3) P M [d0, d1, d2, d3, d4] 0 0 55 [.int (s0)] := by
  unfold F_X12_needs_55 at h
  cases h
  exact r_iret DX12_needs_55 rfl ⟨Nat.le_refl 0, Nat.le_refl 0⟩ (hp M hR)
theorem S_X12_needs_31 {E : EN} {X : CX} {P : Option Value → MH → Prop} {ad : AD} {fu : Nat} {out : Int32 × St} (hp : ∀ M, Rep E ad out.2 M → P (some (.int out.1)) M) {V : St} {M : MH} {d0 : Option Value} {d1 : Option Value} {d2 : Option Value} {d3 : Option Value} {d4 : Option Value} (hR : Rep E ad V M) (h : F_X12_needs_31 fu V = some out) : G E X RX12 cX12_needs 5 (some .int) false (rmD 3) P M [d0, d1, d2, d3, d4] 0 0 31 [] := by
  unfold F_X12_needs_31 at h
  refine r_iconst (v := -1) DX12_needs_31 ki_m1 ?_
  cases h
  exact r_iret DX12_needs_32 rfl ⟨Nat.le_refl 0, Nat.le_refl 0⟩ (hp M hR)
theorem S_X12_needs_0 {E : EN} {X : CX} {P : Option Value → MH → Prop} {ad : AD} {fu : Nat} {out : Int32 × St} (hp : ∀ M, Rep E ad out.2 M → P (some (.int out.1)) M) {V : St} {M : MH} {x1 : Int32} {x2 : Int32} {x3 : Int32} (hR : Rep E ad V M) (h : f_X12_needs fu V x1 x2 x3 = some out) : G E X RX12 cX12_needs 5 (some .int) false (rmD 3) P M [some (.ref (ad 2200 0)), some (.int (x1)), some (.int (x2)), some (.int (x3)), none] 0 0 0 [] := by
  unfold f_X12_needs at h
  refine r_aload_n DX12_needs_0 rfl ?_
  refine r_iload_n DX12_needs_1 rfl ?_
  obtain ⟨r1, V2, hc3, h⟩ := bd_inv h
  refine k_callV (As := [.int (x1)]) (rest := []) (st1 := [.int (r1)]) (w := some (.int r1)) DX12_needs_2 cv_X12_467 hR ct_2200 (one_cnt _) rfl (C_X12_areTold (out := (r1, V2)) (cxL X) hR hc3) rfl (by decide) (by decide) rfl (Nat.le_of_ble_eq_true rfl) rfl (fun M hR => ?_)
  refine r_if_eq DX12_needs_5 (fun c4 => ?_) (fun c4 => ?_)
  · have h := if_t c4 h
    exact S_X12_needs_31 hp hR h
  · have h := if_f c4 h
    refine r_iload_n DX12_needs_8 rfl ?_
    refine r_if_le DX12_needs_9 (fun c5 => ?_) (fun c5 => ?_)
    · have h := if_t c5 h
      exact S_X12_needs_31 hp hR h
    · have h := if_f c5 h
      refine r_iload_n DX12_needs_12 rfl ?_
      refine r_iload_n DX12_needs_13 rfl ?_
      refine r_iconst (v := -1) DX12_needs_14 ki_m1 ?_
      refine r_ixor DX12_needs_15 ?_
      refine r_iand DX12_needs_16 ?_
      refine r_if_ne DX12_needs_17 (fun c6 => ?_) (fun c6 => ?_)
      · have h := if_f c6 h
        exact S_X12_needs_31 hp hR h
      · have h := if_t c6 h
        refine r_iload_n DX12_needs_20 rfl ?_
        refine r_iconst (v := 1) DX12_needs_21 ki_1 ?_
        refine r_ldcw (v := 100000) DX12_needs_22 ck_X12_257 ?_
        obtain ⟨r7, V8, hc9, h⟩ := bd_inv h
        refine k_callS (As := [.int (x3), .int ((1 : Int32)), .int ((100000 : Int32))]) (rest := []) (st1 := [.int (r7)]) (w := some (.int r7)) DX12_needs_25 cs_X12_245 (C_X12_in (out := (r7, V8)) (cxL X) hR hc9) rfl (by decide) (by decide) rfl (Nat.le_of_ble_eq_true rfl) rfl (fun M hR => ?_)
        refine r_if_ne DX12_needs_28 (fun c10 => ?_) (fun c10 => ?_)
        · have h := if_f c10 h
          refine r_aload_n DX12_needs_33 rfl ?_
          refine r_iload_n DX12_needs_34 rfl ?_
          refine r_iload_n DX12_needs_35 rfl ?_
          refine r_iload_n DX12_needs_36 rfl ?_
          obtain ⟨r11, V12, hc13, h⟩ := bd_inv h
          refine k_callV (As := [.int (x1), .int (x2), .int (x3)]) (rest := []) (st1 := [.int (r11)]) (w := some (.int r11)) DX12_needs_37 cv_X12_470 hR ct_2200 (one_cnt _) rfl (C_X12_neededBy (out := (r11, V12)) (cxL X) hR hc13) rfl (by decide) (by decide) rfl (Nat.le_of_ble_eq_true rfl) rfl (fun M hR => ?_)
          refine t_istore (L' := [some (.ref (ad 2200 0)), some (.int (x1)), some (.int (x2)), some (.int (x3)), some (.int (r11))]) DX12_needs_40 (by decide) rfl ?_
          refine r_iload DX12_needs_42 rfl ?_
          refine r_iconst (v := -1) DX12_needs_44 ki_m1 ?_
          refine r_icmp_ne DX12_needs_45 (fun c14 => ?_) (fun c14 => ?_)
          · have h := if_f c14 h
            refine r_iload DX12_needs_53 rfl ?_
            exact S_X12_needs_55 hp hR h
          · have h := if_t c14 h
            refine r_bipush (v := -2) DX12_needs_48 kb_m2 ?_
            refine r_goto DX12_needs_50 ?_
            exact S_X12_needs_55 hp hR h
        · have h := if_t c10 h
          exact S_X12_needs_31 hp hR h
theorem C_X12_needs {E : EN} {ad : AD} {fu : Nat} {out : Int32 × St} {V : St} {M : MH} {x1 : Int32} {x2 : Int32} {x3 : Int32} (l : Launch) (hR : Rep E ad V M) (h : f_X12_needs fu V x1 x2 x3 = some out) : Ct E l yX12_needs cX12_needs 5 (some .int) (rmD 3) [.ref (ad 2200 0), .int (x1), .int (x2), .int (x3)] M (fun v M => v = (some (.int out.1)) ∧ Rep E ad out.2 M) :=
  Ct.of (own := RX12) (ini := false) (L := [some (.ref (ad 2200 0)), some (.int (x1)), some (.int (x2)), some (.int (x3)), none]) rfl rfl (fun h => by cases h) rfl (Nat.le_of_ble_eq_true rfl) rfl (fun X _ => S_X12_needs_0 (fun M hR => ⟨rfl, hR⟩) hR h)
theorem S_X12_number_182 {E : EN} {X : CX} {P : Option Value → MH → Prop} {ad : AD} {fu : Nat} {out : Int32 × St} (hp : ∀ M, Rep E ad out.2 M → P (some (.int out.1)) M) {V : St} {M : MH} {s0 : Int32} {d0 : Option Value} {d1 : Option Value} {d2 : Option Value} {d3 : Option Value} {d4 : Option Value} {d5 : Option Value} (hR : Rep E ad V M) (h : F_X12_number_182 fu V s0 = some out) : G E X RX12 cX12_number 6 (some .int) false (rmD 6) P M [d0, d1, d2, d3, d4, d5] 0 0 182 [.int (s0)] := by
  unfold F_X12_number_182 at h
  cases h
  exact r_iret DX12_number_182 rfl ⟨Nat.le_refl 0, Nat.le_refl 0⟩ (hp M hR)
theorem S_X12_number_165 {E : EN} {X : CX} {P : Option Value → MH → Prop} {ad : AD} {fu : Nat} {out : Int32 × St} (hp : ∀ M, Rep E ad out.2 M → P (some (.int out.1)) M) {V : St} {M : MH} {x2 : Int32} {x3 : Int32} {x4 : Int32} {x5 : Int32} {s0 : Int32} {d0 : Option Value} {d1 : Option Value} (hR : Rep E ad V M) (h : F_X12_number_165 fu V x2 x3 x4 x5 s0 = some out) : G E X RX12 cX12_number 6 (some .int) false (rmD 6) P M [d0, d1, some (.int (x2)), some (.int (x3)), some (.int (x4)), some (.int (x5))] 0 0 165 [.int (s0), .ref (ad 2200 0)] := by
  unfold F_X12_number_165 at h
  refine r_iload_n DX12_number_165 rfl ?_
  refine r_iload_n DX12_number_166 rfl ?_
  refine r_iload DX12_number_167 rfl ?_
  refine r_iload DX12_number_169 rfl ?_
  obtain ⟨r1, V2, hc3, h⟩ := bd_inv h
  refine k_callV (As := [.int (s0), .int (x2), .int (x3), .int (x4), .int (x5)]) (rest := []) (st1 := [.int (r1)]) (w := some (.int r1)) DX12_number_171 cv_X12_433 hR ct_2200 (one_cnt _) rfl (C_X12_isSome (out := (r1, V2)) (cxL X) hR hc3) rfl (by decide) (by decide) rfl (Nat.le_of_ble_eq_true rfl) rfl (fun M hR => ?_)
  refine r_if_eq DX12_number_174 (fun c4 => ?_) (fun c4 => ?_)
  · have h := if_t c4 h
    refine r_iconst (v := 0) DX12_number_181 ki_0 ?_
    exact S_X12_number_182 hp hR h
  · have h := if_f c4 h
    refine r_iconst (v := 1) DX12_number_177 ki_1 ?_
    refine r_goto DX12_number_178 ?_
    exact S_X12_number_182 hp hR h
theorem S_X12_number_68 {E : EN} {X : CX} {P : Option Value → MH → Prop} {ad : AD} {fu : Nat} {out : Int32 × St} (hp : ∀ M, Rep E ad out.2 M → P (some (.int out.1)) M) {V : St} {M : MH} {x1 : Int32} {x2 : Int32} {x3 : Int32} {x4 : Int32} {x5 : Int32} (hR : Rep E ad V M) (h : F_X12_number_68 fu V x1 x2 x3 x4 x5 = some out) : G E X RX12 cX12_number 6 (some .int) false (rmD 6) P M [some (.ref (ad 2200 0)), some (.int (x1)), some (.int (x2)), some (.int (x3)), some (.int (x4)), some (.int (x5))] 0 0 68 [] := by
  unfold F_X12_number_68 at h
  refine r_iload_n DX12_number_68 rfl ?_
  by_cases e5 : x1 = 0
  · have h := if_t e5 h
    refine r_table (tgt := 100) DX12_number_69 (Or.inr ⟨by rw [e5]; decide, by rw [e5]; decide, by rw [e5]; rfl⟩) rfl ?_
    refine r_aload_n DX12_number_100 rfl ?_
    refine r_bipush (v := 112) DX12_number_101 kb_112 ?_
    refine r_iload_n DX12_number_103 rfl ?_
    refine r_iload_n DX12_number_104 rfl ?_
    refine r_iload DX12_number_105 rfl ?_
    refine r_iload DX12_number_107 rfl ?_
    obtain ⟨r2, V3, hc4, h⟩ := bd_inv h
    refine k_callV (As := [.int ((112 : Int32)), .int (x2), .int (x3), .int (x4), .int (x5)]) (rest := []) (st1 := [.int (r2)]) (w := some (.int r2)) DX12_number_109 cv_X12_430 hR ct_2200 (one_cnt _) rfl (C_X12_orNothing (out := (r2, V3)) (cxL X) hR hc4) rfl (by decide) (by decide) rfl (Nat.le_of_ble_eq_true rfl) rfl (fun M hR => ?_)
    cases h
    exact r_iret DX12_number_112 rfl ⟨Nat.le_refl 0, Nat.le_refl 0⟩ (hp M hR)
  have h := if_f e5 h
  by_cases e9 : x1 = 1
  · have h := if_t e9 h
    refine r_table (tgt := 113) DX12_number_69 (Or.inr ⟨by rw [e9]; decide, by rw [e9]; decide, by rw [e9]; rfl⟩) rfl ?_
    refine r_aload_n DX12_number_113 rfl ?_
    refine r_bipush (v := 99) DX12_number_114 kb_99 ?_
    refine r_iload_n DX12_number_116 rfl ?_
    refine r_iload_n DX12_number_117 rfl ?_
    refine r_iload DX12_number_118 rfl ?_
    refine r_iload DX12_number_120 rfl ?_
    obtain ⟨r6, V7, hc8, h⟩ := bd_inv h
    refine k_callV (As := [.int ((99 : Int32)), .int (x2), .int (x3), .int (x4), .int (x5)]) (rest := []) (st1 := [.int (r6)]) (w := some (.int r6)) DX12_number_122 cv_X12_420 hR ct_2200 (one_cnt _) rfl (C_X12_numberBy (out := (r6, V7)) (cxL X) hR hc8) rfl (by decide) (by decide) rfl (Nat.le_of_ble_eq_true rfl) rfl (fun M hR => ?_)
    cases h
    exact r_iret DX12_number_125 rfl ⟨Nat.le_refl 0, Nat.le_refl 0⟩ (hp M hR)
  have h := if_f e9 h
  by_cases e13 : x1 = 2
  · have h := if_t e13 h
    refine r_table (tgt := 126) DX12_number_69 (Or.inr ⟨by rw [e13]; decide, by rw [e13]; decide, by rw [e13]; rfl⟩) rfl ?_
    refine r_aload_n DX12_number_126 rfl ?_
    refine r_bipush (v := 103) DX12_number_127 kb_103 ?_
    refine r_iload_n DX12_number_129 rfl ?_
    refine r_iload_n DX12_number_130 rfl ?_
    refine r_iload DX12_number_131 rfl ?_
    refine r_iload DX12_number_133 rfl ?_
    obtain ⟨r10, V11, hc12, h⟩ := bd_inv h
    refine k_callV (As := [.int ((103 : Int32)), .int (x2), .int (x3), .int (x4), .int (x5)]) (rest := []) (st1 := [.int (r10)]) (w := some (.int r10)) DX12_number_135 cv_X12_430 hR ct_2200 (one_cnt _) rfl (C_X12_orNothing (out := (r10, V11)) (cxL X) hR hc12) rfl (by decide) (by decide) rfl (Nat.le_of_ble_eq_true rfl) rfl (fun M hR => ?_)
    cases h
    exact r_iret DX12_number_138 rfl ⟨Nat.le_refl 0, Nat.le_refl 0⟩ (hp M hR)
  have h := if_f e13 h
  by_cases e17 : x1 = 3
  · have h := if_t e17 h
    refine r_table (tgt := 139) DX12_number_69 (Or.inr ⟨by rw [e17]; decide, by rw [e17]; decide, by rw [e17]; rfl⟩) rfl ?_
    refine r_aload_n DX12_number_139 rfl ?_
    refine r_bipush (v := 100) DX12_number_140 kb_100 ?_
    refine r_iload_n DX12_number_142 rfl ?_
    refine r_iload_n DX12_number_143 rfl ?_
    refine r_iload DX12_number_144 rfl ?_
    refine r_iload DX12_number_146 rfl ?_
    obtain ⟨r14, V15, hc16, h⟩ := bd_inv h
    refine k_callV (As := [.int ((100 : Int32)), .int (x2), .int (x3), .int (x4), .int (x5)]) (rest := []) (st1 := [.int (r14)]) (w := some (.int r14)) DX12_number_148 cv_X12_430 hR ct_2200 (one_cnt _) rfl (C_X12_orNothing (out := (r14, V15)) (cxL X) hR hc16) rfl (by decide) (by decide) rfl (Nat.le_of_ble_eq_true rfl) rfl (fun M hR => ?_)
    cases h
    exact r_iret DX12_number_151 rfl ⟨Nat.le_refl 0, Nat.le_refl 0⟩ (hp M hR)
  have h := if_f e17 h
  refine r_tabled (tgt := 152) (cs := [0, 1, 2, 3]) DX12_number_69 (by decide) (by decide) (fun z hz => by simp only [List.mem_cons, List.not_mem_nil, or_false] at hz; rcases hz with rfl | rfl | rfl | rfl <;> first | exact lv_neT e5 rfl | exact lv_neT e9 rfl | exact lv_neT e13 rfl | exact lv_neT e17 rfl) rfl ?_
  refine r_aload_n DX12_number_152 rfl ?_
  refine r_iload_n DX12_number_153 rfl ?_
  refine r_iconst (v := 4) DX12_number_154 ki_4 ?_
  refine r_icmp_ne DX12_number_155 (fun c18 => ?_) (fun c18 => ?_)
  · have h := if_f c18 h
    refine r_bipush (v := 98) DX12_number_163 kb_98 ?_
    exact S_X12_number_165 hp hR h
  · have h := if_t c18 h
    refine r_bipush (v := 109) DX12_number_158 kb_109 ?_
    refine r_goto DX12_number_160 ?_
    exact S_X12_number_165 hp hR h
theorem S_X12_number_66 {E : EN} {X : CX} {P : Option Value → MH → Prop} {ad : AD} {fu : Nat} {out : Int32 × St} (hp : ∀ M, Rep E ad out.2 M → P (some (.int out.1)) M) {V : St} {M : MH} {d0 : Option Value} {d1 : Option Value} {d2 : Option Value} {d3 : Option Value} {d4 : Option Value} {d5 : Option Value} (hR : Rep E ad V M) (h : F_X12_number_66 fu V = some out) : G E X RX12 cX12_number 6 (some .int) false (rmD 6) P M [d0, d1, d2, d3, d4, d5] 0 0 66 [] := by
  unfold F_X12_number_66 at h
  refine r_iconst (v := -1) DX12_number_66 ki_m1 ?_
  cases h
  exact r_iret DX12_number_67 rfl ⟨Nat.le_refl 0, Nat.le_refl 0⟩ (hp M hR)
theorem S_X12_number_40 {E : EN} {X : CX} {P : Option Value → MH → Prop} {ad : AD} {fu : Nat} {out : Int32 × St} (hp : ∀ M, Rep E ad out.2 M → P (some (.int out.1)) M) {V : St} {M : MH} {x1 : Int32} {x2 : Int32} {x3 : Int32} {x4 : Int32} {x5 : Int32} (hR : Rep E ad V M) (h : F_X12_number_40 fu V x1 x2 x3 x4 x5 = some out) : G E X RX12 cX12_number 6 (some .int) false (rmD 6) P M [some (.ref (ad 2200 0)), some (.int (x1)), some (.int (x2)), some (.int (x3)), some (.int (x4)), some (.int (x5))] 0 0 40 [] := by
  unfold F_X12_number_40 at h
  refine r_iload_n DX12_number_40 rfl ?_
  refine r_iconst (v := 2) DX12_number_41 ki_2 ?_
  refine r_icmp_ne DX12_number_42 (fun c1 => ?_) (fun c1 => ?_)
  · have h := if_f c1 h
    refine r_aload_n DX12_number_58 rfl ?_
    refine r_iload_n DX12_number_59 rfl ?_
    obtain ⟨r2, V3, hc4, h⟩ := bd_inv h
    refine k_callV (As := [.int (x2)]) (rest := []) (st1 := [.int (r2)]) (w := some (.int r2)) DX12_number_60 cv_X12_271 hR ct_2200 (one_cnt _) rfl (C_X12_isThing (out := (r2, V3)) (cxL X) hR hc4) rfl (by decide) (by decide) rfl (Nat.le_of_ble_eq_true rfl) rfl (fun M hR => ?_)
    refine r_if_ne DX12_number_63 (fun c5 => ?_) (fun c5 => ?_)
    · have h := if_f c5 h
      exact S_X12_number_68 hp hR h
    · have h := if_t c5 h
      exact S_X12_number_66 hp hR h
  · have h := if_t c1 h
    refine r_iload_n DX12_number_45 rfl ?_
    refine r_iconst (v := -1) DX12_number_46 ki_m1 ?_
    refine r_icmp_ne DX12_number_47 (fun c5 => ?_) (fun c5 => ?_)
    · have h := if_f c5 h
      exact S_X12_number_66 hp hR h
    · have h := if_t c5 h
      refine r_iload_n DX12_number_50 rfl ?_
      refine r_iconst (v := -1) DX12_number_51 ki_m1 ?_
      refine r_icmp_eq DX12_number_52 (fun c6 => ?_) (fun c6 => ?_)
      · have h := if_t c6 h
        exact S_X12_number_68 hp hR h
      · have h := if_f c6 h
        refine r_goto DX12_number_55 ?_
        exact S_X12_number_66 hp hR h
theorem S_X12_number_38 {E : EN} {X : CX} {P : Option Value → MH → Prop} {ad : AD} {fu : Nat} {out : Int32 × St} (hp : ∀ M, Rep E ad out.2 M → P (some (.int out.1)) M) {V : St} {M : MH} {d0 : Option Value} {d1 : Option Value} {d2 : Option Value} {d3 : Option Value} {d4 : Option Value} {d5 : Option Value} (hR : Rep E ad V M) (h : F_X12_number_38 fu V = some out) : G E X RX12 cX12_number 6 (some .int) false (rmD 6) P M [d0, d1, d2, d3, d4, d5] 0 0 38 [] := by
  unfold F_X12_number_38 at h
  refine r_iconst (v := -1) DX12_number_38 ki_m1 ?_
  cases h
  exact r_iret DX12_number_39 rfl ⟨Nat.le_refl 0, Nat.le_refl 0⟩ (hp M hR)
theorem S_X12_number_0 {E : EN} {X : CX} {P : Option Value → MH → Prop} {ad : AD} {fu : Nat} {out : Int32 × St} (hp : ∀ M, Rep E ad out.2 M → P (some (.int out.1)) M) {V : St} {M : MH} {x1 : Int32} {x2 : Int32} {x3 : Int32} {x4 : Int32} {x5 : Int32} (hR : Rep E ad V M) (h : f_X12_number fu V x1 x2 x3 x4 x5 = some out) : G E X RX12 cX12_number 6 (some .int) false (rmD 6) P M [some (.ref (ad 2200 0)), some (.int (x1)), some (.int (x2)), some (.int (x3)), some (.int (x4)), some (.int (x5))] 0 0 0 [] := by
  unfold f_X12_number at h
  refine r_iload_n DX12_number_0 rfl ?_
  refine r_iconst (v := 0) DX12_number_1 ki_0 ?_
  refine r_iconst (v := 5) DX12_number_2 ki_5 ?_
  obtain ⟨r1, V2, hc3, h⟩ := bd_inv h
  refine k_callS (As := [.int (x1), .int ((0 : Int32)), .int ((5 : Int32))]) (rest := []) (st1 := [.int (r1)]) (w := some (.int r1)) DX12_number_3 cs_X12_245 (C_X12_in (out := (r1, V2)) (cxL X) hR hc3) rfl (by decide) (by decide) rfl (Nat.le_of_ble_eq_true rfl) rfl (fun M hR => ?_)
  refine r_if_eq DX12_number_6 (fun c4 => ?_) (fun c4 => ?_)
  · have h := if_t c4 h
    exact S_X12_number_38 hp hR h
  · have h := if_f c4 h
    refine r_iload DX12_number_9 rfl ?_
    obtain ⟨r5, V6, hc7, h⟩ := bd_inv h
    refine k_callS (As := [.int (x4)]) (rest := []) (st1 := [.int (r5)]) (w := some (.int r5)) DX12_number_11 cs_X12_391 (C_X12_isWeek (out := (r5, V6)) (cxL X) hR hc7) rfl (by decide) (by decide) rfl (Nat.le_of_ble_eq_true rfl) rfl (fun M hR => ?_)
    refine r_if_eq DX12_number_14 (fun c8 => ?_) (fun c8 => ?_)
    · have h := if_t c8 h
      exact S_X12_number_38 hp hR h
    · have h := if_f c8 h
      refine r_iload DX12_number_17 rfl ?_
      obtain ⟨r9, V10, hc11, h⟩ := bd_inv h
      refine k_callS (As := [.int (x5)]) (rest := []) (st1 := [.int (r9)]) (w := some (.int r9)) DX12_number_19 cs_X12_391 (C_X12_isWeek (out := (r9, V10)) (cxL X) hR hc11) rfl (by decide) (by decide) rfl (Nat.le_of_ble_eq_true rfl) rfl (fun M hR => ?_)
      refine r_if_eq DX12_number_22 (fun c12 => ?_) (fun c12 => ?_)
      · have h := if_t c12 h
        exact S_X12_number_38 hp hR h
      · have h := if_f c12 h
        refine r_iload_n DX12_number_25 rfl ?_
        refine r_iconst (v := -1) DX12_number_26 ki_m1 ?_
        refine r_icmp_eq DX12_number_27 (fun c13 => ?_) (fun c13 => ?_)
        · have h := if_t c13 h
          exact S_X12_number_40 hp hR h
        · have h := if_f c13 h
          refine r_aload_n DX12_number_30 rfl ?_
          refine r_iload_n DX12_number_31 rfl ?_
          obtain ⟨r14, V15, hc16, h⟩ := bd_inv h
          refine k_callV (As := [.int (x3)]) (rest := []) (st1 := [.int (r14)]) (w := some (.int r14)) DX12_number_32 cv_X12_294 hR ct_2200 (one_cnt _) rfl (C_X12_isMaker (out := (r14, V15)) (cxL X) hR hc16) rfl (by decide) (by decide) rfl (Nat.le_of_ble_eq_true rfl) rfl (fun M hR => ?_)
          refine r_if_ne DX12_number_35 (fun c17 => ?_) (fun c17 => ?_)
          · have h := if_f c17 h
            exact S_X12_number_40 hp hR h
          · have h := if_t c17 h
            exact S_X12_number_38 hp hR h
theorem C_X12_number {E : EN} {ad : AD} {fu : Nat} {out : Int32 × St} {V : St} {M : MH} {x1 : Int32} {x2 : Int32} {x3 : Int32} {x4 : Int32} {x5 : Int32} (l : Launch) (hR : Rep E ad V M) (h : f_X12_number fu V x1 x2 x3 x4 x5 = some out) : Ct E l yX12_number cX12_number 6 (some .int) (rmD 6) [.ref (ad 2200 0), .int (x1), .int (x2), .int (x3), .int (x4), .int (x5)] M (fun v M => v = (some (.int out.1)) ∧ Rep E ad out.2 M) :=
  Ct.of (own := RX12) (ini := false) (L := [some (.ref (ad 2200 0)), some (.int (x1)), some (.int (x2)), some (.int (x3)), some (.int (x4)), some (.int (x5))]) rfl rfl (fun h => by cases h) rfl (Nat.le_of_ble_eq_true rfl) rfl (fun X _ => S_X12_number_0 (fun M hR => ⟨rfl, hR⟩) hR h)
theorem S_X12_wrong_0 {E : EN} {X : CX} {P : Option Value → MH → Prop} {ad : AD} {fu : Nat} {out : Int32 × St} (hp : ∀ M, Rep E ad out.2 M → P (some (.int out.1)) M) {V : St} {M : MH} {x1 : Int32} {x2 : Int32} (hR : Rep E ad V M) (h : f_X12_wrong fu V x1 x2 = some out) : G E X RX12 cX12_wrong 3 (some .boolean) false (rmD 1) P M [some (.ref (ad 2200 0)), some (.int (x1)), some (.int (x2))] 0 0 0 [] := by
  unfold f_X12_wrong at h
  refine r_aload_n DX12_wrong_0 rfl ?_
  refine r_sipush (v := -1000) DX12_wrong_1 ks_m1000 ?_
  refine r_iload_n DX12_wrong_4 rfl ?_
  refine r_imul DX12_wrong_5 ?_
  refine r_iload_n DX12_wrong_6 rfl ?_
  refine r_isub DX12_wrong_7 ?_
  obtain ⟨V1, hv2, h⟩ := bv_inv h
  refine s_puti DX12_wrong_8 fp_X12_312 hR oks_2245 ct_2200 (one_cnt _) rfl rfl rfl (fun M hR => ?_)
  have hR := hR.cg hv2
  refine r_iconst (v := 0) DX12_wrong_11 ki_0 ?_
  cases h
  exact r_zret DX12_wrong_12 rfl rfl ⟨Nat.le_refl 0, Nat.le_refl 0⟩ (hp M hR)
theorem C_X12_wrong {E : EN} {ad : AD} {fu : Nat} {out : Int32 × St} {V : St} {M : MH} {x1 : Int32} {x2 : Int32} (l : Launch) (hR : Rep E ad V M) (h : f_X12_wrong fu V x1 x2 = some out) : Ct E l yX12_wrong cX12_wrong 3 (some .boolean) (rmD 1) [.ref (ad 2200 0), .int (x1), .int (x2)] M (fun v M => v = (some (.int out.1)) ∧ Rep E ad out.2 M) :=
  Ct.of (own := RX12) (ini := false) (L := [some (.ref (ad 2200 0)), some (.int (x1)), some (.int (x2))]) rfl rfl (fun h => by cases h) rfl (Nat.le_of_ble_eq_true rfl) rfl (fun X _ => S_X12_wrong_0 (fun M hR => ⟨rfl, hR⟩) hR h)
theorem S_X12_opens_0 {E : EN} {X : CX} {P : Option Value → MH → Prop} {ad : AD} {fu : Nat} {out : Int32 × St} (hp : ∀ M, Rep E ad out.2 M → P (some (.int out.1)) M) {V : St} {M : MH} {x1 : Int32} (hR : Rep E ad V M) (h : f_X12_opens fu V x1 = some out) : G E X RX12 cX12_opens 2 (some .boolean) false (rmD 2) P M [some (.ref (ad 2200 0)), some (.int (x1))] 0 0 0 [] := by
  unfold f_X12_opens at h
  refine r_aload_n DX12_opens_0 rfl ?_
  refine s_geti DX12_opens_1 fl_X12_329 hR ct_2200 (one_cnt _) rfl ?_
  refine r_bipush (v := 6) DX12_opens_4 kb_6 ?_
  refine r_icmp_ne DX12_opens_6 (fun c1 => ?_) (fun c1 => ?_)
  · have h := if_f c1 h
    refine r_aload_n DX12_opens_19 rfl ?_
    refine r_aload_n DX12_opens_20 rfl ?_
    refine s_geti DX12_opens_21 fl_X12_329 hR ct_2200 (one_cnt _) rfl ?_
    refine r_iconst (v := 1) DX12_opens_24 ki_1 ?_
    refine r_iadd DX12_opens_25 ?_
    obtain ⟨V2, hv3, h⟩ := bv_inv h
    refine s_puti DX12_opens_26 fp_X12_329 hR oks_2247 ct_2200 (one_cnt _) rfl rfl rfl (fun M hR => ?_)
    have hR := hR.cg hv3
    refine r_aload_n DX12_opens_29 rfl ?_
    refine s_geta DX12_opens_30 fl_X12_123 hR ct_2200 (one_cnt _) rfl ?_
    refine r_aload_n DX12_opens_33 rfl ?_
    refine s_geti DX12_opens_34 fl_X12_332 hR ct_2200 (one_cnt _) rfl ?_
    refine r_ldcw (v := 1048576) DX12_opens_37 ck_X12_328 ?_
    refine r_iload_n DX12_opens_40 rfl ?_
    refine r_imul DX12_opens_41 ?_
    obtain ⟨hg4, h⟩ := gd_inv h
    obtain ⟨V5, hv6, h⟩ := bv_inv h
    refine s_iast DX12_opens_42 hR oka_2252 ct_2252 (one_cnt _) hg4 (fun M hR => ?_)
    have hR := hR.cg hv6
    refine r_aload_n DX12_opens_43 rfl ?_
    refine r_aload_n DX12_opens_44 rfl ?_
    refine s_geti DX12_opens_45 fl_X12_332 hR ct_2200 (one_cnt _) rfl ?_
    refine r_iconst (v := 1) DX12_opens_48 ki_1 ?_
    refine r_iadd DX12_opens_49 ?_
    obtain ⟨V7, hv8, h⟩ := bv_inv h
    refine s_puti DX12_opens_50 fp_X12_332 hR oks_2249 ct_2200 (one_cnt _) rfl rfl rfl (fun M hR => ?_)
    have hR := hR.cg hv8
    refine r_aload_n DX12_opens_53 rfl ?_
    refine r_aload_n DX12_opens_54 rfl ?_
    refine s_geti DX12_opens_55 fl_X12_302 hR ct_2200 (one_cnt _) rfl ?_
    refine r_iconst (v := 1) DX12_opens_58 ki_1 ?_
    refine r_iadd DX12_opens_59 ?_
    obtain ⟨V9, hv10, h⟩ := bv_inv h
    refine s_puti DX12_opens_60 fp_X12_302 hR oks_2243 ct_2200 (one_cnt _) rfl rfl rfl (fun M hR => ?_)
    have hR := hR.cg hv10
    refine r_iconst (v := 1) DX12_opens_63 ki_1 ?_
    cases h
    exact r_zret DX12_opens_64 rfl rfl ⟨Nat.le_refl 0, Nat.le_refl 0⟩ (hp M hR)
  · have h := if_t c1 h
    refine r_aload_n DX12_opens_9 rfl ?_
    refine r_iconst (v := 5) DX12_opens_10 ki_5 ?_
    refine r_aload_n DX12_opens_11 rfl ?_
    refine s_geti DX12_opens_12 fl_X12_302 hR ct_2200 (one_cnt _) rfl ?_
    obtain ⟨r11, V12, hc13, h⟩ := bd_inv h
    refine k_callV (As := [.int ((5 : Int32)), .int ((V 2243 0 0))]) (rest := []) (st1 := [.int (r11)]) (w := some (.int r11)) DX12_opens_15 cv_X12_315 hR ct_2200 (one_cnt _) rfl (C_X12_wrong (out := (r11, V12)) (cxL X) hR hc13) rfl (by decide) (by decide) rfl (Nat.le_of_ble_eq_true rfl) rfl (fun M hR => ?_)
    obtain ⟨hz14, h⟩ := gd_inv h
    cases h
    exact r_zret DX12_opens_18 rfl (nz_nar hz14) ⟨Nat.le_refl 0, Nat.le_refl 0⟩ (hp M hR)
theorem C_X12_opens {E : EN} {ad : AD} {fu : Nat} {out : Int32 × St} {V : St} {M : MH} {x1 : Int32} (l : Launch) (hR : Rep E ad V M) (h : f_X12_opens fu V x1 = some out) : Ct E l yX12_opens cX12_opens 2 (some .boolean) (rmD 2) [.ref (ad 2200 0), .int (x1)] M (fun v M => v = (some (.int out.1)) ∧ Rep E ad out.2 M) :=
  Ct.of (own := RX12) (ini := false) (L := [some (.ref (ad 2200 0)), some (.int (x1))]) rfl rfl (fun h => by cases h) rfl (Nat.le_of_ble_eq_true rfl) rfl (fun X _ => S_X12_opens_0 (fun M hR => ⟨rfl, hR⟩) hR h)
theorem S_X12_readsNumber_108 {E : EN} {X : CX} {P : Option Value → MH → Prop} {ad : AD} {fu : Nat} {out : Int32 × St} (hp : ∀ M, Rep E ad out.2 M → P (some (.int out.1)) M) {V : St} {M : MH} {s0 : Int32} {d0 : Option Value} {d1 : Option Value} {d2 : Option Value} (hR : Rep E ad V M) (h : F_X12_readsNumber_108 fu V s0 = some out) : G E X RX12 cX12_readsNumber 3 (some .boolean) false (rmD 3) P M [d0, d1, d2] 0 0 108 [.int (s0)] := by
  unfold F_X12_readsNumber_108 at h
  obtain ⟨hz1, h⟩ := gd_inv h
  cases h
  exact r_zret DX12_readsNumber_108 rfl (nz_nar hz1) ⟨Nat.le_refl 0, Nat.le_refl 0⟩ (hp M hR)
theorem S_X12_readsNumber_103 {E : EN} {X : CX} {P : Option Value → MH → Prop} {ad : AD} {fu : Nat} {out : Int32 × St} (hp : ∀ M, Rep E ad out.2 M → P (some (.int out.1)) M) {V : St} {M : MH} {d0 : Option Value} {d1 : Option Value} {d2 : Option Value} (hR : Rep E ad V M) (h : F_X12_readsNumber_103 fu V = some out) : G E X RX12 cX12_readsNumber 3 (some .boolean) false (rmD 3) P M [d0, d1, d2] 0 0 103 [] := by
  unfold F_X12_readsNumber_103 at h
  refine r_iconst (v := 1) DX12_readsNumber_103 ki_1 ?_
  refine r_goto DX12_readsNumber_104 ?_
  exact S_X12_readsNumber_108 hp hR h
theorem S_X12_readsNumber_86 {E : EN} {X : CX} {P : Option Value → MH → Prop} {ad : AD} {fu : Nat} {out : Int32 × St} (hp : ∀ M, Rep E ad out.2 M → P (some (.int out.1)) M) {V : St} {M : MH} {x1 : Int32} {x2 : Int32} (hR : Rep E ad V M) (h : F_X12_readsNumber_86 fu V x1 x2 = some out) : G E X RX12 cX12_readsNumber 3 (some .boolean) false (rmD 3) P M [some (.ref (ad 2200 0)), some (.int (x1)), some (.int (x2))] 0 0 86 [] := by
  unfold F_X12_readsNumber_86 at h
  refine r_aload_n DX12_readsNumber_86 rfl ?_
  refine s_geti DX12_readsNumber_87 fl_X12_318 hR ct_2200 (one_cnt _) rfl ?_
  refine r_iload_n DX12_readsNumber_90 rfl ?_
  refine r_icmp_le DX12_readsNumber_91 (fun c1 => ?_) (fun c1 => ?_)
  · have h := if_t c1 h
    exact S_X12_readsNumber_103 hp hR h
  · have h := if_f c1 h
    refine r_aload_n DX12_readsNumber_94 rfl ?_
    refine r_iconst (v := 3) DX12_readsNumber_95 ki_3 ?_
    refine r_iload_n DX12_readsNumber_96 rfl ?_
    obtain ⟨r2, V3, hc4, h⟩ := bd_inv h
    refine k_callV (As := [.int ((3 : Int32)), .int (x2)]) (rest := []) (st1 := [.int (r2)]) (w := some (.int r2)) DX12_readsNumber_97 cv_X12_315 hR ct_2200 (one_cnt _) rfl (C_X12_wrong (out := (r2, V3)) (cxL X) hR hc4) rfl (by decide) (by decide) rfl (Nat.le_of_ble_eq_true rfl) rfl (fun M hR => ?_)
    refine r_if_eq DX12_readsNumber_100 (fun c5 => ?_) (fun c5 => ?_)
    · have h := if_t c5 h
      refine r_iconst (v := 0) DX12_readsNumber_107 ki_0 ?_
      exact S_X12_readsNumber_108 hp hR h
    · have h := if_f c5 h
      exact S_X12_readsNumber_103 hp hR h
theorem S_X12_readsNumber_44 {E : EN} {X : CX} {P : Option Value → MH → Prop} {ad : AD} {fu : Nat} {out : Int32 × St} (hp : ∀ M, Rep E ad out.2 M → P (some (.int out.1)) M) {V : St} {M : MH} {d1 : Option Value} {d2 : Option Value} (hR : Rep E ad V M) (h : F_X12_readsNumber_44 fu V = some out) : G E X RX12 cX12_readsNumber 3 (some .boolean) false (rmD 3) P M [some (.ref (ad 2200 0)), d1, d2] 0 0 44 [] := by
  unfold F_X12_readsNumber_44 at h
  refine r_aload_n DX12_readsNumber_44 rfl ?_
  refine r_iconst (v := 2) DX12_readsNumber_45 ki_2 ?_
  refine r_aload_n DX12_readsNumber_46 rfl ?_
  refine s_geti DX12_readsNumber_47 fl_X12_302 hR ct_2200 (one_cnt _) rfl ?_
  obtain ⟨r1, V2, hc3, h⟩ := bd_inv h
  refine k_callV (As := [.int ((2 : Int32)), .int ((V 2243 0 0))]) (rest := []) (st1 := [.int (r1)]) (w := some (.int r1)) DX12_readsNumber_50 cv_X12_315 hR ct_2200 (one_cnt _) rfl (C_X12_wrong (out := (r1, V2)) (cxL X) hR hc3) rfl (by decide) (by decide) rfl (Nat.le_of_ble_eq_true rfl) rfl (fun M hR => ?_)
  obtain ⟨hz4, h⟩ := gd_inv h
  cases h
  exact r_zret DX12_readsNumber_53 rfl (nz_nar hz4) ⟨Nat.le_refl 0, Nat.le_refl 0⟩ (hp M hR)
theorem S_X12_readsNumber_27 {E : EN} {X : CX} {P : Option Value → MH → Prop} {ad : AD} {fu : Nat} {out : Int32 × St} {kh : St → Int32 → Int32 → RR} {kx44 : St → RR} {kx86 : St → Int32 → Int32 → RR} (hkh : ∀ {V : St} {M : MH} {x1 : Int32} {x2 : Int32}, Rep E ad V M → kh V x1 x2 = some out → G E X RX12 cX12_readsNumber 3 (some .boolean) false (rmD 3) P M [some (.ref (ad 2200 0)), some (.int (x1)), some (.int (x2))] 0 0 27 []) (hkx44 : ∀ {V : St} {M : MH} {d1 : Option Value} {d2 : Option Value}, Rep E ad V M → kx44 V  = some out → G E X RX12 cX12_readsNumber 3 (some .boolean) false (rmD 3) P M [some (.ref (ad 2200 0)), d1, d2] 0 0 44 []) (hkx86 : ∀ {V : St} {M : MH} {x1 : Int32} {x2 : Int32}, Rep E ad V M → kx86 V x1 x2 = some out → G E X RX12 cX12_readsNumber 3 (some .boolean) false (rmD 3) P M [some (.ref (ad 2200 0)), some (.int (x1)), some (.int (x2))] 0 0 86 []) (hp : ∀ M, Rep E ad out.2 M → P (some (.int out.1)) M) {V : St} {M : MH} {x1 : Int32} {x2 : Int32} (hR : Rep E ad V M) (h : F_X12_readsNumber_27 kh kx44 kx86 fu V x1 x2 = some out) : G E X RX12 cX12_readsNumber 3 (some .boolean) false (rmD 3) P M [some (.ref (ad 2200 0)), some (.int (x1)), some (.int (x2))] 0 0 27 [] := by
  unfold F_X12_readsNumber_27 at h
  refine r_aload_n DX12_readsNumber_27 rfl ?_
  obtain ⟨r1, V2, hc3, h⟩ := bd_inv h
  refine k_callV (As := []) (rest := []) (st1 := [.int (r1)]) (w := some (.int r1)) DX12_readsNumber_28 cv_X12_321 hR ct_2200 (one_cnt _) rfl (C_X12_isDigit (out := (r1, V2)) (cxL X) hR hc3) rfl (by decide) (by decide) rfl (Nat.le_of_ble_eq_true rfl) rfl (fun M hR => ?_)
  refine r_if_eq DX12_readsNumber_31 (fun c4 => ?_) (fun c4 => ?_)
  · have h := if_t c4 h
    exact hkx86 hR h
  · have h := if_f c4 h
    refine r_aload_n DX12_readsNumber_34 rfl ?_
    refine s_geti DX12_readsNumber_35 fl_X12_302 hR ct_2200 (one_cnt _) rfl ?_
    refine r_iload_n DX12_readsNumber_38 rfl ?_
    refine r_iconst (v := 5) DX12_readsNumber_39 ki_5 ?_
    refine r_iadd DX12_readsNumber_40 ?_
    refine r_icmp_ne DX12_readsNumber_41 (fun c5 => ?_) (fun c5 => ?_)
    · have h := if_f c5 h
      refine r_aload_n DX12_readsNumber_54 rfl ?_
      refine r_bipush (v := 10) DX12_readsNumber_55 kb_10 ?_
      refine r_aload_n DX12_readsNumber_57 rfl ?_
      refine s_geti DX12_readsNumber_58 fl_X12_318 hR ct_2200 (one_cnt _) rfl ?_
      refine r_imul DX12_readsNumber_61 ?_
      refine r_aload_n DX12_readsNumber_62 rfl ?_
      obtain ⟨r6, V7, hc8, h⟩ := bd_inv h
      refine k_callV (As := []) (rest := [.int ((10 : Int32) * (V2 2246 0 0)), .ref (ad 2200 0)]) (st1 := [.int (r6), .int ((10 : Int32) * (V2 2246 0 0)), .ref (ad 2200 0)]) (w := some (.int r6)) DX12_readsNumber_63 cv_X12_308 hR ct_2200 (one_cnt _) rfl (C_X12_here (out := (r6, V7)) (cxL X) hR hc8) rfl (by decide) (by decide) rfl (Nat.le_of_ble_eq_true rfl) rfl (fun M hR => ?_)
      refine r_iadd DX12_readsNumber_66 ?_
      refine r_bipush (v := 48) DX12_readsNumber_67 kb_48 ?_
      refine r_isub DX12_readsNumber_69 ?_
      obtain ⟨V9, hv10, h⟩ := bv_inv h
      refine s_puti DX12_readsNumber_70 fp_X12_318 hR oks_2246 ct_2200 (one_cnt _) rfl rfl rfl (fun M hR => ?_)
      have hR := hR.cg hv10
      refine r_aload_n DX12_readsNumber_73 rfl ?_
      refine r_aload_n DX12_readsNumber_74 rfl ?_
      refine s_geti DX12_readsNumber_75 fl_X12_302 hR ct_2200 (one_cnt _) rfl ?_
      refine r_iconst (v := 1) DX12_readsNumber_78 ki_1 ?_
      refine r_iadd DX12_readsNumber_79 ?_
      obtain ⟨V11, hv12, h⟩ := bv_inv h
      refine s_puti DX12_readsNumber_80 fp_X12_302 hR oks_2243 ct_2200 (one_cnt _) rfl rfl rfl (fun M hR => ?_)
      have hR := hR.cg hv12
      refine r_goto DX12_readsNumber_83 ?_
      exact hkh hR h
    · have h := if_t c5 h
      exact hkx44 hR h
theorem SL_X12_readsNumber_27 {E : EN} {X : CX} {P : Option Value → MH → Prop} {ad : AD} {fu : Nat} {out : Int32 × St} {kx44 : St → RR} {kx86 : St → Int32 → Int32 → RR} (hkx44 : ∀ {V : St} {M : MH} {d1 : Option Value} {d2 : Option Value}, Rep E ad V M → kx44 V  = some out → G E X RX12 cX12_readsNumber 3 (some .boolean) false (rmD 3) P M [some (.ref (ad 2200 0)), d1, d2] 0 0 44 []) (hkx86 : ∀ {V : St} {M : MH} {x1 : Int32} {x2 : Int32}, Rep E ad V M → kx86 V x1 x2 = some out → G E X RX12 cX12_readsNumber 3 (some .boolean) false (rmD 3) P M [some (.ref (ad 2200 0)), some (.int (x1)), some (.int (x2))] 0 0 86 []) (hp : ∀ M, Rep E ad out.2 M → P (some (.int out.1)) M) : ∀ (n : Nat) {V : St} {M : MH} {x1 : Int32} {x2 : Int32}, Rep E ad V M → Lp_X12_readsNumber_27 kx44 kx86 fu n V x1 x2 = some out → G E X RX12 cX12_readsNumber 3 (some .boolean) false (rmD 3) P M [some (.ref (ad 2200 0)), some (.int (x1)), some (.int (x2))] 0 0 27 [] := by
  intro n
  induction n with
  | zero => intros; rename_i h; cases h
  | succ n ih => exact fun hR h => S_X12_readsNumber_27 (fun hR h => ih hR h) (fun hR h => hkx44 hR h) (fun hR h => hkx86 hR h) hp hR h
theorem S_X12_readsNumber_0 {E : EN} {X : CX} {P : Option Value → MH → Prop} {ad : AD} {fu : Nat} {out : Int32 × St} (hp : ∀ M, Rep E ad out.2 M → P (some (.int out.1)) M) {V : St} {M : MH} {x1 : Int32} (hR : Rep E ad V M) (h : f_X12_readsNumber fu V x1 = some out) : G E X RX12 cX12_readsNumber 3 (some .boolean) false (rmD 3) P M [some (.ref (ad 2200 0)), some (.int (x1)), none] 0 0 0 [] := by
  unfold f_X12_readsNumber at h
  refine r_aload_n DX12_readsNumber_0 rfl ?_
  refine s_geti DX12_readsNumber_1 fl_X12_302 hR ct_2200 (one_cnt _) rfl ?_
  refine t_istore_n (L' := [some (.ref (ad 2200 0)), some (.int (x1)), some (.int ((V 2243 0 0)))]) DX12_readsNumber_4 (by decide) rfl ?_
  refine r_aload_n DX12_readsNumber_5 rfl ?_
  refine r_iconst (v := 0) DX12_readsNumber_6 ki_0 ?_
  obtain ⟨V1, hv2, h⟩ := bv_inv h
  refine s_puti DX12_readsNumber_7 fp_X12_318 hR oks_2246 ct_2200 (one_cnt _) rfl rfl rfl (fun M hR => ?_)
  have hR := hR.cg hv2
  refine r_aload_n DX12_readsNumber_10 rfl ?_
  obtain ⟨r3, V4, hc5, h⟩ := bd_inv h
  refine k_callV (As := []) (rest := []) (st1 := [.int (r3)]) (w := some (.int r3)) DX12_readsNumber_11 cv_X12_321 hR ct_2200 (one_cnt _) rfl (C_X12_isDigit (out := (r3, V4)) (cxL X) hR hc5) rfl (by decide) (by decide) rfl (Nat.le_of_ble_eq_true rfl) rfl (fun M hR => ?_)
  refine r_if_ne DX12_readsNumber_14 (fun c6 => ?_) (fun c6 => ?_)
  · have h := if_f c6 h
    exact SL_X12_readsNumber_27 (fun hR h => S_X12_readsNumber_44 hp hR h) (fun hR h => S_X12_readsNumber_86 hp hR h) hp fu hR h
  · have h := if_t c6 h
    refine r_aload_n DX12_readsNumber_17 rfl ?_
    refine r_iconst (v := 1) DX12_readsNumber_18 ki_1 ?_
    refine r_aload_n DX12_readsNumber_19 rfl ?_
    refine s_geti DX12_readsNumber_20 fl_X12_302 hR ct_2200 (one_cnt _) rfl ?_
    obtain ⟨r7, V8, hc9, h⟩ := bd_inv h
    refine k_callV (As := [.int ((1 : Int32)), .int ((V4 2243 0 0))]) (rest := []) (st1 := [.int (r7)]) (w := some (.int r7)) DX12_readsNumber_23 cv_X12_315 hR ct_2200 (one_cnt _) rfl (C_X12_wrong (out := (r7, V8)) (cxL X) hR hc9) rfl (by decide) (by decide) rfl (Nat.le_of_ble_eq_true rfl) rfl (fun M hR => ?_)
    obtain ⟨hz10, h⟩ := gd_inv h
    cases h
    exact r_zret DX12_readsNumber_26 rfl (nz_nar hz10) ⟨Nat.le_refl 0, Nat.le_refl 0⟩ (hp M hR)
theorem C_X12_readsNumber {E : EN} {ad : AD} {fu : Nat} {out : Int32 × St} {V : St} {M : MH} {x1 : Int32} (l : Launch) (hR : Rep E ad V M) (h : f_X12_readsNumber fu V x1 = some out) : Ct E l yX12_readsNumber cX12_readsNumber 3 (some .boolean) (rmD 3) [.ref (ad 2200 0), .int (x1)] M (fun v M => v = (some (.int out.1)) ∧ Rep E ad out.2 M) :=
  Ct.of (own := RX12) (ini := false) (L := [some (.ref (ad 2200 0)), some (.int (x1)), none]) rfl rfl (fun h => by cases h) rfl (Nat.le_of_ble_eq_true rfl) rfl (fun X _ => S_X12_readsNumber_0 (fun M hR => ⟨rfl, hR⟩) hR h)
theorem S_X12_readsFactor_20 {E : EN} {X : CX} {P : Option Value → MH → Prop} {ad : AD} {fu : Nat} {out : Int32 × St} (hp : ∀ M, Rep E ad out.2 M → P (some (.int out.1)) M) {V : St} {M : MH} {d1 : Option Value} (hR : Rep E ad V M) (h : F_X12_readsFactor_20 fu V = some out) : G E X RX12 cX12_readsFactor 2 (some .boolean) false (rmD 4) P M [some (.ref (ad 2200 0)), d1] 0 0 20 [] := by
  unfold F_X12_readsFactor_20 at h
  refine r_aload_n DX12_readsFactor_20 rfl ?_
  obtain ⟨r1, V2, hc3, h⟩ := bd_inv h
  refine k_callV (As := []) (rest := []) (st1 := [.int (r1)]) (w := some (.int r1)) DX12_readsFactor_21 cv_X12_321 hR ct_2200 (one_cnt _) rfl (C_X12_isDigit (out := (r1, V2)) (cxL X) hR hc3) rfl (by decide) (by decide) rfl (Nat.le_of_ble_eq_true rfl) rfl (fun M hR => ?_)
  refine r_if_eq DX12_readsFactor_24 (fun c4 => ?_) (fun c4 => ?_)
  · have h := if_t c4 h
    refine r_aload_n DX12_readsFactor_50 rfl ?_
    obtain ⟨r5, V6, hc7, h⟩ := bd_inv h
    refine k_callV (As := []) (rest := []) (st1 := [.int (r5)]) (w := some (.int r5)) DX12_readsFactor_51 cv_X12_308 hR ct_2200 (one_cnt _) rfl (C_X12_here (out := (r5, V6)) (cxL X) hR hc7) rfl (by decide) (by decide) rfl (Nat.le_of_ble_eq_true rfl) rfl (fun M hR => ?_)
    obtain ⟨r8, V9, hc10, h⟩ := bd_inv h
    refine k_callS (As := [.int (r5)]) (rest := []) (st1 := [.int (r8)]) (w := some (.int r8)) DX12_readsFactor_54 cs_X12_348 (C_X12_factOf (out := (r8, V9)) (cxL X) hR hc10) rfl (by decide) (by decide) rfl (Nat.le_of_ble_eq_true rfl) rfl (fun M hR => ?_)
    refine t_istore_n (L' := [some (.ref (ad 2200 0)), some (.int (r8))]) DX12_readsFactor_57 (by decide) rfl ?_
    refine r_iload_n DX12_readsFactor_58 rfl ?_
    refine r_iconst (v := -1) DX12_readsFactor_59 ki_m1 ?_
    refine r_icmp_ne DX12_readsFactor_60 (fun c11 => ?_) (fun c11 => ?_)
    · have h := if_f c11 h
      refine r_aload_n DX12_readsFactor_73 rfl ?_
      refine r_iconst (v := 1) DX12_readsFactor_74 ki_1 ?_
      refine r_iload_n DX12_readsFactor_75 rfl ?_
      obtain ⟨r12, V13, hc14, h⟩ := bd_inv h
      refine k_callV (As := [.int ((1 : Int32)), .int (r8)]) (rest := []) (st1 := []) (w := none) DX12_readsFactor_76 cv_X12_338 hR ct_2200 (one_cnt _) rfl (C_X12_says (out := (r12, V13)) (cxL X) hR hc14) rfl (by decide) (by decide) rfl (Nat.le_of_ble_eq_true rfl) rfl (fun M hR => ?_)
      refine r_aload_n DX12_readsFactor_79 rfl ?_
      refine r_aload_n DX12_readsFactor_80 rfl ?_
      refine s_geti DX12_readsFactor_81 fl_X12_302 hR ct_2200 (one_cnt _) rfl ?_
      refine r_iconst (v := 1) DX12_readsFactor_84 ki_1 ?_
      refine r_iadd DX12_readsFactor_85 ?_
      obtain ⟨V15, hv16, h⟩ := bv_inv h
      refine s_puti DX12_readsFactor_86 fp_X12_302 hR oks_2243 ct_2200 (one_cnt _) rfl rfl rfl (fun M hR => ?_)
      have hR := hR.cg hv16
      refine r_iconst (v := 1) DX12_readsFactor_89 ki_1 ?_
      cases h
      exact r_zret DX12_readsFactor_90 rfl rfl ⟨Nat.le_refl 0, Nat.le_refl 0⟩ (hp M hR)
    · have h := if_t c11 h
      refine r_aload_n DX12_readsFactor_63 rfl ?_
      refine r_iconst (v := 1) DX12_readsFactor_64 ki_1 ?_
      refine r_aload_n DX12_readsFactor_65 rfl ?_
      refine s_geti DX12_readsFactor_66 fl_X12_302 hR ct_2200 (one_cnt _) rfl ?_
      obtain ⟨r17, V18, hc19, h⟩ := bd_inv h
      refine k_callV (As := [.int ((1 : Int32)), .int ((V9 2243 0 0))]) (rest := []) (st1 := [.int (r17)]) (w := some (.int r17)) DX12_readsFactor_69 cv_X12_315 hR ct_2200 (one_cnt _) rfl (C_X12_wrong (out := (r17, V18)) (cxL X) hR hc19) rfl (by decide) (by decide) rfl (Nat.le_of_ble_eq_true rfl) rfl (fun M hR => ?_)
      obtain ⟨hz20, h⟩ := gd_inv h
      cases h
      exact r_zret DX12_readsFactor_72 rfl (nz_nar hz20) ⟨Nat.le_refl 0, Nat.le_refl 0⟩ (hp M hR)
  · have h := if_f c4 h
    refine r_aload_n DX12_readsFactor_27 rfl ?_
    refine r_ldcw (v := 99999) DX12_readsFactor_28 ck_X12_344 ?_
    obtain ⟨r11, V12, hc13, h⟩ := bd_inv h
    refine k_callV (As := [.int ((99999 : Int32))]) (rest := []) (st1 := [.int (r11)]) (w := some (.int r11)) DX12_readsFactor_31 cv_X12_345 hR ct_2200 (one_cnt _) rfl (C_X12_readsNumber (out := (r11, V12)) (cxL X) hR hc13) rfl (by decide) (by decide) rfl (Nat.le_of_ble_eq_true rfl) rfl (fun M hR => ?_)
    refine r_if_ne DX12_readsFactor_34 (fun c14 => ?_) (fun c14 => ?_)
    · have h := if_f c14 h
      refine r_aload_n DX12_readsFactor_39 rfl ?_
      refine r_iconst (v := 0) DX12_readsFactor_40 ki_0 ?_
      refine r_aload_n DX12_readsFactor_41 rfl ?_
      refine s_geti DX12_readsFactor_42 fl_X12_318 hR ct_2200 (one_cnt _) rfl ?_
      obtain ⟨r15, V16, hc17, h⟩ := bd_inv h
      refine k_callV (As := [.int ((0 : Int32)), .int ((V12 2246 0 0))]) (rest := []) (st1 := []) (w := none) DX12_readsFactor_45 cv_X12_338 hR ct_2200 (one_cnt _) rfl (C_X12_says (out := (r15, V16)) (cxL X) hR hc17) rfl (by decide) (by decide) rfl (Nat.le_of_ble_eq_true rfl) rfl (fun M hR => ?_)
      refine r_iconst (v := 1) DX12_readsFactor_48 ki_1 ?_
      cases h
      exact r_zret DX12_readsFactor_49 rfl rfl ⟨Nat.le_refl 0, Nat.le_refl 0⟩ (hp M hR)
    · have h := if_t c14 h
      refine r_iconst (v := 0) DX12_readsFactor_37 ki_0 ?_
      cases h
      exact r_zret DX12_readsFactor_38 rfl rfl ⟨Nat.le_refl 0, Nat.le_refl 0⟩ (hp M hR)
theorem S_X12_readsFactor_18 {E : EN} {X : CX} {P : Option Value → MH → Prop} {ad : AD} {fu : Nat} {out : Int32 × St} (hp : ∀ M, Rep E ad out.2 M → P (some (.int out.1)) M) {V : St} {M : MH} {d0 : Option Value} {d1 : Option Value} (hR : Rep E ad V M) (h : F_X12_readsFactor_18 fu V = some out) : G E X RX12 cX12_readsFactor 2 (some .boolean) false (rmD 4) P M [d0, d1] 0 0 18 [] := by
  unfold F_X12_readsFactor_18 at h
  refine r_iconst (v := 0) DX12_readsFactor_18 ki_0 ?_
  cases h
  exact r_zret DX12_readsFactor_19 rfl rfl ⟨Nat.le_refl 0, Nat.le_refl 0⟩ (hp M hR)
theorem S_X12_readsFactor_0 {E : EN} {X : CX} {P : Option Value → MH → Prop} {ad : AD} {fu : Nat} {out : Int32 × St} {kh : St → RR} {kx18 : St → RR} {kx20 : St → RR} (hkh : ∀ {V : St} {M : MH} {d1 : Option Value}, Rep E ad V M → kh V  = some out → G E X RX12 cX12_readsFactor 2 (some .boolean) false (rmD 4) P M [some (.ref (ad 2200 0)), d1] 0 0 0 []) (hkx18 : ∀ {V : St} {M : MH} {d0 : Option Value} {d1 : Option Value}, Rep E ad V M → kx18 V  = some out → G E X RX12 cX12_readsFactor 2 (some .boolean) false (rmD 4) P M [d0, d1] 0 0 18 []) (hkx20 : ∀ {V : St} {M : MH} {d1 : Option Value}, Rep E ad V M → kx20 V  = some out → G E X RX12 cX12_readsFactor 2 (some .boolean) false (rmD 4) P M [some (.ref (ad 2200 0)), d1] 0 0 20 []) (hp : ∀ M, Rep E ad out.2 M → P (some (.int out.1)) M) {V : St} {M : MH} {d1 : Option Value} (hR : Rep E ad V M) (h : F_X12_readsFactor_0 kh kx18 kx20 fu V = some out) : G E X RX12 cX12_readsFactor 2 (some .boolean) false (rmD 4) P M [some (.ref (ad 2200 0)), d1] 0 0 0 [] := by
  unfold F_X12_readsFactor_0 at h
  refine r_aload_n DX12_readsFactor_0 rfl ?_
  obtain ⟨r1, V2, hc3, h⟩ := bd_inv h
  refine k_callV (As := []) (rest := []) (st1 := [.int (r1)]) (w := some (.int r1)) DX12_readsFactor_1 cv_X12_308 hR ct_2200 (one_cnt _) rfl (C_X12_here (out := (r1, V2)) (cxL X) hR hc3) rfl (by decide) (by decide) rfl (Nat.le_of_ble_eq_true rfl) rfl (fun M hR => ?_)
  refine r_bipush (v := 91) DX12_readsFactor_4 kb_91 ?_
  refine r_icmp_ne DX12_readsFactor_6 (fun c4 => ?_) (fun c4 => ?_)
  · have h := if_f c4 h
    exact hkx20 hR h
  · have h := if_t c4 h
    refine r_aload_n DX12_readsFactor_9 rfl ?_
    refine r_bipush (v := 14) DX12_readsFactor_10 kb_14 ?_
    obtain ⟨r5, V6, hc7, h⟩ := bd_inv h
    refine k_callV (As := [.int ((14 : Int32))]) (rest := []) (st1 := [.int (r5)]) (w := some (.int r5)) DX12_readsFactor_12 cv_X12_341 hR ct_2200 (one_cnt _) rfl (C_X12_opens (out := (r5, V6)) (cxL X) hR hc7) rfl (by decide) (by decide) rfl (Nat.le_of_ble_eq_true rfl) rfl (fun M hR => ?_)
    refine r_if_ne DX12_readsFactor_15 (fun c8 => ?_) (fun c8 => ?_)
    · have h := if_f c8 h
      exact hkh hR h
    · have h := if_t c8 h
      exact hkx18 hR h
theorem SL_X12_readsFactor_0 {E : EN} {X : CX} {P : Option Value → MH → Prop} {ad : AD} {fu : Nat} {out : Int32 × St} {kx18 : St → RR} {kx20 : St → RR} (hkx18 : ∀ {V : St} {M : MH} {d0 : Option Value} {d1 : Option Value}, Rep E ad V M → kx18 V  = some out → G E X RX12 cX12_readsFactor 2 (some .boolean) false (rmD 4) P M [d0, d1] 0 0 18 []) (hkx20 : ∀ {V : St} {M : MH} {d1 : Option Value}, Rep E ad V M → kx20 V  = some out → G E X RX12 cX12_readsFactor 2 (some .boolean) false (rmD 4) P M [some (.ref (ad 2200 0)), d1] 0 0 20 []) (hp : ∀ M, Rep E ad out.2 M → P (some (.int out.1)) M) : ∀ (n : Nat) {V : St} {M : MH} {d1 : Option Value}, Rep E ad V M → Lp_X12_readsFactor_0 kx18 kx20 fu n V = some out → G E X RX12 cX12_readsFactor 2 (some .boolean) false (rmD 4) P M [some (.ref (ad 2200 0)), d1] 0 0 0 [] := by
  intro n
  induction n with
  | zero => intros; rename_i h; cases h
  | succ n ih => exact fun hR h => S_X12_readsFactor_0 (fun hR h => ih hR h) (fun hR h => hkx18 hR h) (fun hR h => hkx20 hR h) hp hR h
theorem S_X12_readsFactor_E {E : EN} {X : CX} {P : Option Value → MH → Prop} {ad : AD} {fu : Nat} {out : Int32 × St} (hp : ∀ M, Rep E ad out.2 M → P (some (.int out.1)) M) {V : St} {M : MH} (hR : Rep E ad V M) (h : f_X12_readsFactor fu V = some out) : G E X RX12 cX12_readsFactor 2 (some .boolean) false (rmD 4) P M [some (.ref (ad 2200 0)), none] 0 0 0 [] := by
  unfold f_X12_readsFactor at h
  exact SL_X12_readsFactor_0 (fun hR h => S_X12_readsFactor_18 hp hR h) (fun hR h => S_X12_readsFactor_20 hp hR h) hp fu hR h
theorem C_X12_readsFactor {E : EN} {ad : AD} {fu : Nat} {out : Int32 × St} {V : St} {M : MH} (l : Launch) (hR : Rep E ad V M) (h : f_X12_readsFactor fu V = some out) : Ct E l yX12_readsFactor cX12_readsFactor 2 (some .boolean) (rmD 4) [.ref (ad 2200 0)] M (fun v M => v = (some (.int out.1)) ∧ Rep E ad out.2 M) :=
  Ct.of (own := RX12) (ini := false) (L := [some (.ref (ad 2200 0)), none]) rfl rfl (fun h => by cases h) rfl (Nat.le_of_ble_eq_true rfl) rfl (fun X _ => S_X12_readsFactor_E (fun M hR => ⟨rfl, hR⟩) hR h)
theorem S_X12_sumSign_52 {E : EN} {X : CX} {P : Option Value → MH → Prop} {ad : AD} {fu : Nat} {out : Int32 × St} (hp : ∀ M, Rep E ad out.2 M → P (some (.int out.1)) M) {V : St} {M : MH} {s0 : Int32} {d0 : Option Value} (hR : Rep E ad V M) (h : F_X12_sumSign_52 fu V s0 = some out) : G E X RX12 cX12_sumSign 1 (some .int) false (rmD 1) P M [d0] 0 0 52 [.int (s0)] := by
  unfold F_X12_sumSign_52 at h
  cases h
  exact r_iret DX12_sumSign_52 rfl ⟨Nat.le_refl 0, Nat.le_refl 0⟩ (hp M hR)
theorem S_X12_sumSign_0 {E : EN} {X : CX} {P : Option Value → MH → Prop} {ad : AD} {fu : Nat} {out : Int32 × St} (hp : ∀ M, Rep E ad out.2 M → P (some (.int out.1)) M) {V : St} {M : MH} {x0 : Int32} (hR : Rep E ad V M) (h : f_X12_sumSign fu V x0 = some out) : G E X RX12 cX12_sumSign 1 (some .int) false (rmD 1) P M [some (.int (x0))] 0 0 0 [] := by
  unfold f_X12_sumSign at h
  refine r_iload_n DX12_sumSign_0 rfl ?_
  refine r_bipush (v := 43) DX12_sumSign_1 kb_43 ?_
  refine r_icmp_ne DX12_sumSign_3 (fun c1 => ?_) (fun c1 => ?_)
  · have h := if_f c1 h
    refine r_iload_n DX12_sumSign_10 rfl ?_
    refine r_bipush (v := 45) DX12_sumSign_11 kb_45 ?_
    refine r_icmp_ne DX12_sumSign_13 (fun c2 => ?_) (fun c2 => ?_)
    · have h := if_f c2 h
      refine r_iload_n DX12_sumSign_20 rfl ?_
      refine r_bipush (v := 42) DX12_sumSign_21 kb_42 ?_
      refine r_icmp_ne DX12_sumSign_23 (fun c3 => ?_) (fun c3 => ?_)
      · have h := if_f c3 h
        refine r_iload_n DX12_sumSign_30 rfl ?_
        refine r_bipush (v := 47) DX12_sumSign_31 kb_47 ?_
        refine r_icmp_ne DX12_sumSign_33 (fun c4 => ?_) (fun c4 => ?_)
        · have h := if_f c4 h
          refine r_iload_n DX12_sumSign_40 rfl ?_
          refine r_bipush (v := 37) DX12_sumSign_41 kb_37 ?_
          refine r_icmp_ne DX12_sumSign_43 (fun c5 => ?_) (fun c5 => ?_)
          · have h := if_f c5 h
            refine r_iconst (v := -1) DX12_sumSign_51 ki_m1 ?_
            exact S_X12_sumSign_52 hp hR h
          · have h := if_t c5 h
            refine r_bipush (v := 6) DX12_sumSign_46 kb_6 ?_
            refine r_goto DX12_sumSign_48 ?_
            exact S_X12_sumSign_52 hp hR h
        · have h := if_t c4 h
          refine r_iconst (v := 5) DX12_sumSign_36 ki_5 ?_
          refine r_goto DX12_sumSign_37 ?_
          exact S_X12_sumSign_52 hp hR h
      · have h := if_t c3 h
        refine r_iconst (v := 4) DX12_sumSign_26 ki_4 ?_
        refine r_goto DX12_sumSign_27 ?_
        exact S_X12_sumSign_52 hp hR h
    · have h := if_t c2 h
      refine r_iconst (v := 3) DX12_sumSign_16 ki_3 ?_
      refine r_goto DX12_sumSign_17 ?_
      exact S_X12_sumSign_52 hp hR h
  · have h := if_t c1 h
    refine r_iconst (v := 2) DX12_sumSign_6 ki_2 ?_
    refine r_goto DX12_sumSign_7 ?_
    exact S_X12_sumSign_52 hp hR h
theorem C_X12_sumSign {E : EN} {ad : AD} {fu : Nat} {out : Int32 × St} {V : St} {M : MH} {x0 : Int32} (l : Launch) (hR : Rep E ad V M) (h : f_X12_sumSign fu V x0 = some out) : Ct E l yX12_sumSign cX12_sumSign 1 (some .int) (rmD 1) [.int (x0)] M (fun v M => v = (some (.int out.1)) ∧ Rep E ad out.2 M) :=
  Ct.of (own := RX12) (ini := false) (L := [some (.int (x0))]) rfl rfl (fun h => by cases h) rfl (Nat.le_of_ble_eq_true rfl) rfl (fun X _ => S_X12_sumSign_0 (fun M hR => ⟨rfl, hR⟩) hR h)
theorem S_X12_readsSum_164 {E : EN} {X : CX} {P : Option Value → MH → Prop} {ad : AD} {fu : Nat} {out : Int32 × St} {kh : St → Int32 → RR} {kx82 : St → RR} {kx139 : St → Int32 → RR} (hkh : ∀ {V : St} {M : MH} {x1 : Int32} {d2 : Option Value}, Rep E ad V M → kh V x1 = some out → G E X RX12 cX12_readsSum 3 (some .boolean) false (rmD 5) P M [some (.ref (ad 2200 0)), some (.int (x1)), d2] 0 0 14 []) (hkx82 : ∀ {V : St} {M : MH} {d0 : Option Value} {d1 : Option Value} {d2 : Option Value}, Rep E ad V M → kx82 V  = some out → G E X RX12 cX12_readsSum 3 (some .boolean) false (rmD 5) P M [d0, d1, d2] 0 0 82 []) (hkx139 : ∀ {V : St} {M : MH} {x1 : Int32} {d2 : Option Value}, Rep E ad V M → kx139 V x1 = some out → G E X RX12 cX12_readsSum 3 (some .boolean) false (rmD 5) P M [some (.ref (ad 2200 0)), some (.int (x1)), d2] 0 0 139 []) (hp : ∀ M, Rep E ad out.2 M → P (some (.int out.1)) M) {V : St} {M : MH} {x1 : Int32} {d2 : Option Value} (hR : Rep E ad V M) (h : F_X12_readsSum_164 kh kx82 kx139 fu V x1 = some out) : G E X RX12 cX12_readsSum 3 (some .boolean) false (rmD 5) P M [some (.ref (ad 2200 0)), some (.int (x1)), d2] 0 0 164 [] := by
  unfold F_X12_readsSum_164 at h
  refine r_goto DX12_readsSum_164 ?_
  exact hkh hR h
theorem S_X12_readsSum_139 {E : EN} {X : CX} {P : Option Value → MH → Prop} {ad : AD} {fu : Nat} {out : Int32 × St} (hp : ∀ M, Rep E ad out.2 M → P (some (.int out.1)) M) {V : St} {M : MH} {x1 : Int32} {d2 : Option Value} (hR : Rep E ad V M) (h : F_X12_readsSum_139 fu V x1 = some out) : G E X RX12 cX12_readsSum 3 (some .boolean) false (rmD 5) P M [some (.ref (ad 2200 0)), some (.int (x1)), d2] 0 0 139 [] := by
  unfold F_X12_readsSum_139 at h
  refine r_aload_n DX12_readsSum_139 rfl ?_
  refine r_iload_n DX12_readsSum_140 rfl ?_
  obtain ⟨r1, V2, hc3, h⟩ := bd_inv h
  refine k_callV (As := [.int (x1)]) (rest := []) (st1 := [.int (r1)]) (w := some (.int r1)) DX12_readsSum_141 cv_X12_361 hR ct_2200 (one_cnt _) rfl (C_X12_hasOpenSum (out := (r1, V2)) (cxL X) hR hc3) rfl (by decide) (by decide) rfl (Nat.le_of_ble_eq_true rfl) rfl (fun M hR => ?_)
  refine r_if_eq DX12_readsSum_144 (fun c4 => ?_) (fun c4 => ?_)
  · have h := if_t c4 h
    refine r_aload_n DX12_readsSum_157 rfl ?_
    refine r_iconst (v := 1) DX12_readsSum_158 ki_1 ?_
    obtain ⟨r5, V6, hc7, h⟩ := bd_inv h
    refine k_callV (As := [.int ((1 : Int32))]) (rest := []) (st1 := []) (w := none) DX12_readsSum_159 cv_X12_357 hR ct_2200 (one_cnt _) rfl (C_X12_closesSums (out := (r5, V6)) (cxL X) hR hc7) rfl (by decide) (by decide) rfl (Nat.le_of_ble_eq_true rfl) rfl (fun M hR => ?_)
    refine r_iconst (v := 1) DX12_readsSum_162 ki_1 ?_
    cases h
    exact r_zret DX12_readsSum_163 rfl rfl ⟨Nat.le_refl 0, Nat.le_refl 0⟩ (hp M hR)
  · have h := if_f c4 h
    refine r_aload_n DX12_readsSum_147 rfl ?_
    refine r_iconst (v := 1) DX12_readsSum_148 ki_1 ?_
    refine r_aload_n DX12_readsSum_149 rfl ?_
    refine s_geti DX12_readsSum_150 fl_X12_302 hR ct_2200 (one_cnt _) rfl ?_
    obtain ⟨r8, V9, hc10, h⟩ := bd_inv h
    refine k_callV (As := [.int ((1 : Int32)), .int ((V2 2243 0 0))]) (rest := []) (st1 := [.int (r8)]) (w := some (.int r8)) DX12_readsSum_153 cv_X12_315 hR ct_2200 (one_cnt _) rfl (C_X12_wrong (out := (r8, V9)) (cxL X) hR hc10) rfl (by decide) (by decide) rfl (Nat.le_of_ble_eq_true rfl) rfl (fun M hR => ?_)
    obtain ⟨hz11, h⟩ := gd_inv h
    cases h
    exact r_zret DX12_readsSum_156 rfl (nz_nar hz11) ⟨Nat.le_refl 0, Nat.le_refl 0⟩ (hp M hR)
theorem S_X12_readsSum_82 {E : EN} {X : CX} {P : Option Value → MH → Prop} {ad : AD} {fu : Nat} {out : Int32 × St} (hp : ∀ M, Rep E ad out.2 M → P (some (.int out.1)) M) {V : St} {M : MH} {d0 : Option Value} {d1 : Option Value} {d2 : Option Value} (hR : Rep E ad V M) (h : F_X12_readsSum_82 fu V = some out) : G E X RX12 cX12_readsSum 3 (some .boolean) false (rmD 5) P M [d0, d1, d2] 0 0 82 [] := by
  unfold F_X12_readsSum_82 at h
  refine r_iconst (v := 0) DX12_readsSum_82 ki_0 ?_
  cases h
  exact r_zret DX12_readsSum_83 rfl rfl ⟨Nat.le_refl 0, Nat.le_refl 0⟩ (hp M hR)
theorem S_X12_readsSum_38 {E : EN} {X : CX} {P : Option Value → MH → Prop} {ad : AD} {fu : Nat} {out : Int32 × St} {kh : St → Int32 → RR} {kx82 : St → RR} {kx139 : St → Int32 → RR} (hkh : ∀ {V : St} {M : MH} {x1 : Int32} {d2 : Option Value}, Rep E ad V M → kh V x1 = some out → G E X RX12 cX12_readsSum 3 (some .boolean) false (rmD 5) P M [some (.ref (ad 2200 0)), some (.int (x1)), d2] 0 0 14 []) (hkx82 : ∀ {V : St} {M : MH} {d0 : Option Value} {d1 : Option Value} {d2 : Option Value}, Rep E ad V M → kx82 V  = some out → G E X RX12 cX12_readsSum 3 (some .boolean) false (rmD 5) P M [d0, d1, d2] 0 0 82 []) (hkx139 : ∀ {V : St} {M : MH} {x1 : Int32} {d2 : Option Value}, Rep E ad V M → kx139 V x1 = some out → G E X RX12 cX12_readsSum 3 (some .boolean) false (rmD 5) P M [some (.ref (ad 2200 0)), some (.int (x1)), d2] 0 0 139 []) (hp : ∀ M, Rep E ad out.2 M → P (some (.int out.1)) M) {V : St} {M : MH} {x1 : Int32} {x2 : Int32} {s0 : Int32} (hR : Rep E ad V M) (h : F_X12_readsSum_38 kh kx82 kx139 fu V x1 x2 s0 = some out) : G E X RX12 cX12_readsSum 3 (some .boolean) false (rmD 5) P M [some (.ref (ad 2200 0)), some (.int (x1)), some (.int (x2))] 0 0 38 [.int (s0), .ref (ad 2200 0)] := by
  unfold F_X12_readsSum_38 at h
  obtain ⟨r1, V2, hc3, h⟩ := bd_inv h
  refine k_callV (As := [.int (s0)]) (rest := []) (st1 := []) (w := none) DX12_readsSum_38 cv_X12_357 hR ct_2200 (one_cnt _) rfl (C_X12_closesSums (out := (r1, V2)) (cxL X) hR hc3) rfl (by decide) (by decide) rfl (Nat.le_of_ble_eq_true rfl) rfl (fun M hR => ?_)
  refine r_aload_n DX12_readsSum_41 rfl ?_
  refine s_geta DX12_readsSum_42 fl_X12_123 hR ct_2200 (one_cnt _) rfl ?_
  refine r_aload_n DX12_readsSum_45 rfl ?_
  refine s_geti DX12_readsSum_46 fl_X12_332 hR ct_2200 (one_cnt _) rfl ?_
  refine r_ldcw (v := 1048576) DX12_readsSum_49 ck_X12_328 ?_
  refine r_iload_n DX12_readsSum_52 rfl ?_
  refine r_imul DX12_readsSum_53 ?_
  obtain ⟨hg4, h⟩ := gd_inv h
  obtain ⟨V5, hv6, h⟩ := bv_inv h
  refine s_iast DX12_readsSum_54 hR oka_2252 ct_2252 (one_cnt _) hg4 (fun M hR => ?_)
  have hR := hR.cg hv6
  refine r_aload_n DX12_readsSum_55 rfl ?_
  refine r_aload_n DX12_readsSum_56 rfl ?_
  refine s_geti DX12_readsSum_57 fl_X12_332 hR ct_2200 (one_cnt _) rfl ?_
  refine r_iconst (v := 1) DX12_readsSum_60 ki_1 ?_
  refine r_iadd DX12_readsSum_61 ?_
  obtain ⟨V7, hv8, h⟩ := bv_inv h
  refine s_puti DX12_readsSum_62 fp_X12_332 hR oks_2249 ct_2200 (one_cnt _) rfl rfl rfl (fun M hR => ?_)
  have hR := hR.cg hv8
  refine r_aload_n DX12_readsSum_65 rfl ?_
  refine r_aload_n DX12_readsSum_66 rfl ?_
  refine s_geti DX12_readsSum_67 fl_X12_302 hR ct_2200 (one_cnt _) rfl ?_
  refine r_iconst (v := 1) DX12_readsSum_70 ki_1 ?_
  refine r_iadd DX12_readsSum_71 ?_
  obtain ⟨V9, hv10, h⟩ := bv_inv h
  refine s_puti DX12_readsSum_72 fp_X12_302 hR oks_2243 ct_2200 (one_cnt _) rfl rfl rfl (fun M hR => ?_)
  have hR := hR.cg hv10
  refine r_aload_n DX12_readsSum_75 rfl ?_
  obtain ⟨r11, V12, hc13, h⟩ := bd_inv h
  refine k_callV (As := []) (rest := []) (st1 := [.int (r11)]) (w := some (.int r11)) DX12_readsSum_76 cv_X12_351 hR ct_2200 (one_cnt _) rfl (C_X12_readsFactor (out := (r11, V12)) (cxL X) hR hc13) rfl (by decide) (by decide) rfl (Nat.le_of_ble_eq_true rfl) rfl (fun M hR => ?_)
  refine r_if_ne DX12_readsSum_79 (fun c14 => ?_) (fun c14 => ?_)
  · have h := if_f c14 h
    exact S_X12_readsSum_164 (fun hR h => hkh hR h) (fun hR h => hkx82 hR h) (fun hR h => hkx139 hR h) hp hR h
  · have h := if_t c14 h
    exact hkx82 hR h
theorem S_X12_readsSum_14 {E : EN} {X : CX} {P : Option Value → MH → Prop} {ad : AD} {fu : Nat} {out : Int32 × St} {kh : St → Int32 → RR} {kx82 : St → RR} {kx139 : St → Int32 → RR} (hkh : ∀ {V : St} {M : MH} {x1 : Int32} {d2 : Option Value}, Rep E ad V M → kh V x1 = some out → G E X RX12 cX12_readsSum 3 (some .boolean) false (rmD 5) P M [some (.ref (ad 2200 0)), some (.int (x1)), d2] 0 0 14 []) (hkx82 : ∀ {V : St} {M : MH} {d0 : Option Value} {d1 : Option Value} {d2 : Option Value}, Rep E ad V M → kx82 V  = some out → G E X RX12 cX12_readsSum 3 (some .boolean) false (rmD 5) P M [d0, d1, d2] 0 0 82 []) (hkx139 : ∀ {V : St} {M : MH} {x1 : Int32} {d2 : Option Value}, Rep E ad V M → kx139 V x1 = some out → G E X RX12 cX12_readsSum 3 (some .boolean) false (rmD 5) P M [some (.ref (ad 2200 0)), some (.int (x1)), d2] 0 0 139 []) (hp : ∀ M, Rep E ad out.2 M → P (some (.int out.1)) M) {V : St} {M : MH} {x1 : Int32} {d2 : Option Value} (hR : Rep E ad V M) (h : F_X12_readsSum_14 kh kx82 kx139 fu V x1 = some out) : G E X RX12 cX12_readsSum 3 (some .boolean) false (rmD 5) P M [some (.ref (ad 2200 0)), some (.int (x1)), d2] 0 0 14 [] := by
  unfold F_X12_readsSum_14 at h
  refine r_aload_n DX12_readsSum_14 rfl ?_
  obtain ⟨r1, V2, hc3, h⟩ := bd_inv h
  refine k_callV (As := []) (rest := []) (st1 := [.int (r1)]) (w := some (.int r1)) DX12_readsSum_15 cv_X12_308 hR ct_2200 (one_cnt _) rfl (C_X12_here (out := (r1, V2)) (cxL X) hR hc3) rfl (by decide) (by decide) rfl (Nat.le_of_ble_eq_true rfl) rfl (fun M hR => ?_)
  obtain ⟨r4, V5, hc6, h⟩ := bd_inv h
  refine k_callS (As := [.int (r1)]) (rest := []) (st1 := [.int (r4)]) (w := some (.int r4)) DX12_readsSum_18 cs_X12_354 (C_X12_sumSign (out := (r4, V5)) (cxL X) hR hc6) rfl (by decide) (by decide) rfl (Nat.le_of_ble_eq_true rfl) rfl (fun M hR => ?_)
  refine t_istore_n (L' := [some (.ref (ad 2200 0)), some (.int (x1)), some (.int (r4))]) DX12_readsSum_21 (by decide) rfl ?_
  refine r_iload_n DX12_readsSum_22 rfl ?_
  refine r_iconst (v := -1) DX12_readsSum_23 ki_m1 ?_
  refine r_icmp_eq DX12_readsSum_24 (fun c7 => ?_) (fun c7 => ?_)
  · have h := if_t c7 h
    refine r_aload_n DX12_readsSum_84 rfl ?_
    obtain ⟨r8, V9, hc10, h⟩ := bd_inv h
    refine k_callV (As := []) (rest := []) (st1 := [.int (r8)]) (w := some (.int r8)) DX12_readsSum_85 cv_X12_308 hR ct_2200 (one_cnt _) rfl (C_X12_here (out := (r8, V9)) (cxL X) hR hc10) rfl (by decide) (by decide) rfl (Nat.le_of_ble_eq_true rfl) rfl (fun M hR => ?_)
    refine r_bipush (v := 93) DX12_readsSum_88 kb_93 ?_
    refine r_icmp_ne DX12_readsSum_90 (fun c11 => ?_) (fun c11 => ?_)
    · have h := if_f c11 h
      exact hkx139 hR h
    · have h := if_t c11 h
      refine r_aload_n DX12_readsSum_93 rfl ?_
      refine r_iload_n DX12_readsSum_94 rfl ?_
      obtain ⟨r12, V13, hc14, h⟩ := bd_inv h
      refine k_callV (As := [.int (x1)]) (rest := []) (st1 := [.int (r12)]) (w := some (.int r12)) DX12_readsSum_95 cv_X12_361 hR ct_2200 (one_cnt _) rfl (C_X12_hasOpenSum (out := (r12, V13)) (cxL X) hR hc14) rfl (by decide) (by decide) rfl (Nat.le_of_ble_eq_true rfl) rfl (fun M hR => ?_)
      refine r_if_eq DX12_readsSum_98 (fun c15 => ?_) (fun c15 => ?_)
      · have h := if_t c15 h
        exact hkx139 hR h
      · have h := if_f c15 h
        refine r_aload_n DX12_readsSum_101 rfl ?_
        refine r_iconst (v := 1) DX12_readsSum_102 ki_1 ?_
        obtain ⟨r16, V17, hc18, h⟩ := bd_inv h
        refine k_callV (As := [.int ((1 : Int32))]) (rest := []) (st1 := []) (w := none) DX12_readsSum_103 cv_X12_357 hR ct_2200 (one_cnt _) rfl (C_X12_closesSums (out := (r16, V17)) (cxL X) hR hc18) rfl (by decide) (by decide) rfl (Nat.le_of_ble_eq_true rfl) rfl (fun M hR => ?_)
        refine r_aload_n DX12_readsSum_106 rfl ?_
        refine r_aload_n DX12_readsSum_107 rfl ?_
        refine s_geti DX12_readsSum_108 fl_X12_332 hR ct_2200 (one_cnt _) rfl ?_
        refine r_iconst (v := 1) DX12_readsSum_111 ki_1 ?_
        refine r_isub DX12_readsSum_112 ?_
        obtain ⟨V19, hv20, h⟩ := bv_inv h
        refine s_puti DX12_readsSum_113 fp_X12_332 hR oks_2249 ct_2200 (one_cnt _) rfl rfl rfl (fun M hR => ?_)
        have hR := hR.cg hv20
        refine r_aload_n DX12_readsSum_116 rfl ?_
        refine r_aload_n DX12_readsSum_117 rfl ?_
        refine s_geti DX12_readsSum_118 fl_X12_329 hR ct_2200 (one_cnt _) rfl ?_
        refine r_iconst (v := 1) DX12_readsSum_121 ki_1 ?_
        refine r_isub DX12_readsSum_122 ?_
        obtain ⟨V21, hv22, h⟩ := bv_inv h
        refine s_puti DX12_readsSum_123 fp_X12_329 hR oks_2247 ct_2200 (one_cnt _) rfl rfl rfl (fun M hR => ?_)
        have hR := hR.cg hv22
        refine r_aload_n DX12_readsSum_126 rfl ?_
        refine r_aload_n DX12_readsSum_127 rfl ?_
        refine s_geti DX12_readsSum_128 fl_X12_302 hR ct_2200 (one_cnt _) rfl ?_
        refine r_iconst (v := 1) DX12_readsSum_131 ki_1 ?_
        refine r_iadd DX12_readsSum_132 ?_
        obtain ⟨V23, hv24, h⟩ := bv_inv h
        refine s_puti DX12_readsSum_133 fp_X12_302 hR oks_2243 ct_2200 (one_cnt _) rfl rfl rfl (fun M hR => ?_)
        have hR := hR.cg hv24
        refine r_goto DX12_readsSum_136 ?_
        exact S_X12_readsSum_164 (fun hR h => hkh hR h) (fun hR h => hkx82 hR h) (fun hR h => hkx139 hR h) hp hR h
  · have h := if_f c7 h
    refine r_aload_n DX12_readsSum_27 rfl ?_
    refine r_iload_n DX12_readsSum_28 rfl ?_
    refine r_iconst (v := 4) DX12_readsSum_29 ki_4 ?_
    refine r_icmp_ge DX12_readsSum_30 (fun c11 => ?_) (fun c11 => ?_)
    · have h := if_t c11 h
      refine r_iconst (v := 0) DX12_readsSum_37 ki_0 ?_
      exact S_X12_readsSum_38 (fun hR h => hkh hR h) (fun hR h => hkx82 hR h) (fun hR h => hkx139 hR h) hp hR h
    · have h := if_f c11 h
      refine r_iconst (v := 1) DX12_readsSum_33 ki_1 ?_
      refine r_goto DX12_readsSum_34 ?_
      exact S_X12_readsSum_38 (fun hR h => hkh hR h) (fun hR h => hkx82 hR h) (fun hR h => hkx139 hR h) hp hR h
theorem SL_X12_readsSum_14 {E : EN} {X : CX} {P : Option Value → MH → Prop} {ad : AD} {fu : Nat} {out : Int32 × St} {kx82 : St → RR} {kx139 : St → Int32 → RR} (hkx82 : ∀ {V : St} {M : MH} {d0 : Option Value} {d1 : Option Value} {d2 : Option Value}, Rep E ad V M → kx82 V  = some out → G E X RX12 cX12_readsSum 3 (some .boolean) false (rmD 5) P M [d0, d1, d2] 0 0 82 []) (hkx139 : ∀ {V : St} {M : MH} {x1 : Int32} {d2 : Option Value}, Rep E ad V M → kx139 V x1 = some out → G E X RX12 cX12_readsSum 3 (some .boolean) false (rmD 5) P M [some (.ref (ad 2200 0)), some (.int (x1)), d2] 0 0 139 []) (hp : ∀ M, Rep E ad out.2 M → P (some (.int out.1)) M) : ∀ (n : Nat) {V : St} {M : MH} {x1 : Int32} {d2 : Option Value}, Rep E ad V M → Lp_X12_readsSum_14 kx82 kx139 fu n V x1 = some out → G E X RX12 cX12_readsSum 3 (some .boolean) false (rmD 5) P M [some (.ref (ad 2200 0)), some (.int (x1)), d2] 0 0 14 [] := by
  intro n
  induction n with
  | zero => intros; rename_i h; cases h
  | succ n ih => exact fun hR h => S_X12_readsSum_14 (fun hR h => ih hR h) (fun hR h => hkx82 hR h) (fun hR h => hkx139 hR h) hp hR h
theorem S_X12_readsSum_0 {E : EN} {X : CX} {P : Option Value → MH → Prop} {ad : AD} {fu : Nat} {out : Int32 × St} (hp : ∀ M, Rep E ad out.2 M → P (some (.int out.1)) M) {V : St} {M : MH} (hR : Rep E ad V M) (h : f_X12_readsSum fu V = some out) : G E X RX12 cX12_readsSum 3 (some .boolean) false (rmD 5) P M [some (.ref (ad 2200 0)), none, none] 0 0 0 [] := by
  unfold f_X12_readsSum at h
  refine r_aload_n DX12_readsSum_0 rfl ?_
  refine s_geti DX12_readsSum_1 fl_X12_332 hR ct_2200 (one_cnt _) rfl ?_
  refine t_istore_n (L' := [some (.ref (ad 2200 0)), some (.int ((V 2249 0 0))), none]) DX12_readsSum_4 (by decide) rfl ?_
  refine r_aload_n DX12_readsSum_5 rfl ?_
  obtain ⟨r1, V2, hc3, h⟩ := bd_inv h
  refine k_callV (As := []) (rest := []) (st1 := [.int (r1)]) (w := some (.int r1)) DX12_readsSum_6 cv_X12_351 hR ct_2200 (one_cnt _) rfl (C_X12_readsFactor (out := (r1, V2)) (cxL X) hR hc3) rfl (by decide) (by decide) rfl (Nat.le_of_ble_eq_true rfl) rfl (fun M hR => ?_)
  refine r_if_ne DX12_readsSum_9 (fun c4 => ?_) (fun c4 => ?_)
  · have h := if_f c4 h
    exact SL_X12_readsSum_14 (fun hR h => S_X12_readsSum_82 hp hR h) (fun hR h => S_X12_readsSum_139 hp hR h) hp fu hR h
  · have h := if_t c4 h
    refine r_iconst (v := 0) DX12_readsSum_12 ki_0 ?_
    cases h
    exact r_zret DX12_readsSum_13 rfl rfl ⟨Nat.le_refl 0, Nat.le_refl 0⟩ (hp M hR)
theorem C_X12_readsSum {E : EN} {ad : AD} {fu : Nat} {out : Int32 × St} {V : St} {M : MH} (l : Launch) (hR : Rep E ad V M) (h : f_X12_readsSum fu V = some out) : Ct E l yX12_readsSum cX12_readsSum 3 (some .boolean) (rmD 5) [.ref (ad 2200 0)] M (fun v M => v = (some (.int out.1)) ∧ Rep E ad out.2 M) :=
  Ct.of (own := RX12) (ini := false) (L := [some (.ref (ad 2200 0)), none, none]) rfl rfl (fun h => by cases h) rfl (Nat.le_of_ble_eq_true rfl) rfl (fun X _ => S_X12_readsSum_0 (fun M hR => ⟨rfl, hR⟩) hR h)
