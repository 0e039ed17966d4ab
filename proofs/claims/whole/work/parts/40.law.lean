/-! THE LAW'S WALK: its rows, its cases -/
def Scr (E : EN) (X : CX) (b Ls : Nat) (xs : Nat → Int32) : Prop := va_X b Ls xs (cxS X) (cxS X).heap ∧ b < (cxS X).heap.size ∧ b < E.1
section LAWROWS
variable {E : EN} {X : CX} {own : String} {cc : ByteArray} {nl : Nat} {rt : Option FieldType} {ini : Bool} {rm : Room} {P : Option Value → MH → Prop} {M : MH} {L : List (Option Value)} {kc ks pc pc' tgt : Nat} {st : List Value}
theorem r_sld {b Ls : Nat} {xs : Nat → Int32} {i : Int32} (hX : Scr E X b Ls xs) (hd : Dk cc pc .iaload 1 pc') (hin : vp_in i Ls) (K : G E X own cc nl rt ini rm P M L kc ks pc' (.int (xs i.toNatClampNeg) :: st)) : G E X own cc nl rt ini rm P M L kc ks pc (.int i :: .ref b :: st) := by
  intro C H locs ls ws hP hD hV hS hl
  obtain ⟨hd, rfl⟩ := hd
  exact va_sld C.1 C.2.1 hX.1 hX.2.1 (show ¬ E.1 ≤ b from Nat.not_le.mpr hX.2.2) hS hin hd (K C H locs ls ws hP hD hV hS hl)
theorem r_sclen {b Ls : Nat} {xs : Nat → Int32} (hX : Scr E X b Ls xs) (hd : Dk cc pc .arraylength 1 pc') (K : G E X own cc nl rt ini rm P M L kc ks pc' (.int (nI Ls) :: st)) : G E X own cc nl rt ini rm P M L kc ks pc (.ref b :: st) := by
  intro C H locs ls ws hP hD hV hS hl
  obtain ⟨hd, rfl⟩ := hd
  exact va_slen C.1 C.2.1 hX.1 hX.2.1 (show ¬ E.1 ≤ b from Nat.not_le.mpr hX.2.2) hS hd (K C H locs ls ws hP hD hV hS hl)
theorem r_widen {kc' ks' : Nat} (h1 : kc ≤ kc') (h2 : ks ≤ ks') (K : G E X own cc nl rt ini rm P M L kc' ks' pc st) : G E X own cc nl rt ini rm P M L kc ks pc st := by
  intro C H locs ls ws hP hD hV hS hl
  exact W.widen h1 h2 (K C H locs ls ws hP hD hV hS hl)
theorem lw_at {k j Ls : Nat} (hk : 6 * k + 6 ≤ Ls) (hL : Ls ≤ 3072) (hj : j ≤ 5) : nI (6 * k) + nI j = nI (6 * k + j) ∧ vp_in (nI (6 * k + j)) Ls ∧ (nI (6 * k + j)).toNatClampNeg = 6 * k + j :=
  ⟨nI_add _ _, nI_in (by omega) (by omega), nI_clamp (by omega)⟩
theorem lw_arg {b Ls k j : Nat} {xs : Nat → Int32} {n : Int} {q1 q2 q3 q4 q5 : Nat} {L1 L2 : Option Value} (hX : Scr E X b Ls xs) (hk : 6 * k + 6 ≤ Ls) (hL : Ls ≤ 3072) (hj : j ≤ 5) (hn : Int32.ofInt n = nI j)
    (d0 : Dk cc pc (.aload_n 0) 1 q1) (d1 : Dk cc q1 (.iload_n 3) 1 q2) (d2 : Dk cc q2 (.iconst n) 1 q3) (d3 : Dk cc q3 .iadd 1 q4) (d4 : Dk cc q4 .iaload 1 q5)
    (K : G E X own cc nl rt ini rm P M [some (.ref b), L1, L2, some (.int (nI (6 * k)))] kc ks q5 (.int (xs (6 * k + j)) :: st)) : G E X own cc nl rt ini rm P M [some (.ref b), L1, L2, some (.int (nI (6 * k)))] kc ks pc st := by
  obtain ⟨a1, a2, a3⟩ := lw_at hk hL hj
  refine r_aload_n d0 rfl ?_
  refine r_iload_n d1 rfl ?_
  refine r_iconst d2 hn ?_
  refine r_iadd d3 ?_
  rw [a1]
  refine r_sld hX d4 a2 ?_
  rw [a3]
  exact K
theorem lw_argB {b Ls k j : Nat} {xs : Nat → Int32} {n off off2 : Int} {q1 q2 q3 q4 q5 q6 q7 q8 qz qe : Nat} {L1 L2 : Option Value} (hX : Scr E X b Ls xs) (hk : 6 * k + 6 ≤ Ls) (hL : Ls ≤ 3072) (hj : j ≤ 5) (hn : Int32.ofInt n = nI j)
    (d0 : Dk cc pc (.aload_n 0) 1 q1) (d1 : Dk cc q1 (.iload_n 3) 1 q2) (d2 : Dk cc q2 (.iconst n) 1 q3) (d3 : Dk cc q3 .iadd 1 q4) (d4 : Dk cc q4 .iaload 1 q5)
    (d5 : Db cc q5 (.ifCond .eq off) off q6 qz) (d6 : Dk cc q6 (.iconst 1) 1 q7) (d7 : Db cc q7 (.goto off2) off2 q8 qe) (d8 : Dk cc qz (.iconst 0) 1 qe)
    (K : G E X own cc nl rt ini rm P M [some (.ref b), L1, L2, some (.int (nI (6 * k)))] kc ks qe (.int (if xs (6 * k + j) = 0 then 0 else 1) :: st)) : G E X own cc nl rt ini rm P M [some (.ref b), L1, L2, some (.int (nI (6 * k)))] kc ks pc st := by
  refine lw_arg hX hk hL hj hn d0 d1 d2 d3 d4 ?_
  refine r_if_eq d5 (fun h => ?_) (fun h => ?_)
  · rw [if_pos h] at K
    exact r_iconst (v := 0) d8 (by decide) K
  · rw [if_neg h] at K
    exact r_iconst (v := 1) d6 (by decide) (r_goto d7 K)
theorem lw_obj1 {ad : AD} {V : St} {b1 : Nat} (hR : Rep E ad V M) (hb : ad 2100 0 = b1) : ∃ fs, M b1 = some (.inr (11, fs)) := ⟨_, hb ▸ hR.obj ct_2100 (one_cnt _)⟩
theorem lw_obj2 {ad : AD} {V : St} {b2 : Nat} (hR : Rep E ad V M) (hb : ad 2200 0 = b2) : ∃ fs, M b2 = some (.inr (12, fs)) := ⟨_, hb ▸ hR.obj ct_2200 (one_cnt _)⟩
end LAWROWS
theorem lw_01 (y : Int32) : (if y = 0 then (0 : Int32) else 1) = 0 ∨ (if y = 0 then (0 : Int32) else 1) = 1 := by
  by_cases h : y = 0
  · exact Or.inl (if_pos h)
  · exact Or.inr (if_neg h)
theorem lw_fitA {d c s nl' kc ks : Nat} (h1 : d + 1 ≤ 2048) (h2 : 8 + (nl' + 11) + 60 * d ≤ 84000) (hc : kc + c ≤ 600000) (hs : ks + s ≤ 7302250) : fitR (rmA d c s) nl' room_1 kc ks := ⟨h1, h2, hc, hs⟩
theorem lw_fitD {d nl' kc ks : Nat} (h1 : d + 1 ≤ 2048) (h2 : 8 + (nl' + 11) + 60 * d ≤ 84000) (hc : kc ≤ 600000) (hs : ks ≤ 7302250) : fitR (rmD d) nl' room_1 kc ks := ⟨h1, h2, hc, hs⟩
/-- the law's machine -/
abbrev GL (E : EN) (X : CX) (P : Option Value → MH → Prop) (M : MH) (b b1 b2 k kc ks pc : Nat) (st : List Value) : Prop := G E X "UtilityBoardLaw" code 4 ret false room_1 P M [some (.ref b), some (.ref b1), some (.ref b2), some (.int (nI (6 * k)))] kc ks pc st
theorem LC_0 {E : EN} {X : CX} {P : Option Value → MH → Prop} {ad : AD} {V : St} {M : MH} {fu b b1 b2 Ls k kc ks : Nat} {xs : Nat → Int32} (hfu : 1000000000 ≤ fu) (hX : Scr E X b Ls xs) (hk : 6 * k + 6 ≤ Ls) (hL : Ls ≤ 3072) (hb : ad 2100 0 = b1 ∧ ad 2200 0 = b2) (hR : Rep E ad V M) (hI : Inv k V) (hc : kc + 12 ≤ 600000 ∧ ks + 3009 ≤ 7302250)
    (K : ∀ (ad' : AD) (V' : St) (M' : MH), ad' 2100 0 = b1 ∧ ad' 2200 0 = b2 → Rep E ad' V' M' → Inv (k + 1) V' → GL E X P M' b b1 b2 k (kc + 12) (ks + 3009) 1745 []) : GL E X P M b b1 b2 k kc ks 204 [] := by
  obtain ⟨r, V1, V2, h1, h2, hI2⟩ := P_goes (fu := fu) (Nat.le_trans (by decide) hfu) hI  
  obtain ⟨fs1, hM1⟩ := lw_obj1 hR hb.1
  have hC1 := C_X11_goes (out := (r, V1)) (cxL X) hR h1
  rw [hb.1] at hC1
  refine r_aload_n DL_law_204 rfl ?_
  refine r_callV (As := []) (rest := []) DL_law_205 cv__law_13 hM1 rfl hC1 rfl (lw_fitD (by decide) (by decide) (by omega) (by omega)) rfl (Nat.le_of_ble_eq_true rfl) (fun v1 M1 hp1 => ?_)
  obtain ⟨rfl, hR1⟩ := hp1
  have hb1 := hb
  obtain ⟨fs2, hM2⟩ := lw_obj2 hR1 hb1.2
  have hC2 := C_X12_goes (out := (r, V2)) (cxL X) hR1 h2
  rw [hb1.2] at hC2
  show GL E X P M1 b b1 b2 k (kc + 0) (ks + 0) 208 [.int r]
  refine r_aload_n DL_law_208 rfl ?_
  refine r_callV (As := []) (rest := [.int r]) DL_law_209 cv__law_17 hM2 rfl hC2 rfl (lw_fitD (by decide) (by decide) (by omega) (by omega)) rfl (Nat.le_of_ble_eq_true rfl) (fun v2 M2 hp2 => ?_)
  obtain ⟨rfl, hR2⟩ := hp2
  show GL E X P M2 b b1 b2 k (kc + 0) (ks + 0) 212 [.int r, .int r]
  refine r_icmp_eq DL_law_212 (fun _ => ?_) (fun h => absurd rfl h)
  exact r_widen (by omega) (by omega) (K ad V2 M2 hb1 hR2 hI2)
theorem LC_1 {E : EN} {X : CX} {P : Option Value → MH → Prop} {ad : AD} {V : St} {M : MH} {fu b b1 b2 Ls k kc ks : Nat} {xs : Nat → Int32} (hfu : 1000000000 ≤ fu) (hX : Scr E X b Ls xs) (hk : 6 * k + 6 ≤ Ls) (hL : Ls ≤ 3072) (hb : ad 2100 0 = b1 ∧ ad 2200 0 = b2) (hR : Rep E ad V M) (hI : Inv k V) (hc : kc + 12 ≤ 600000 ∧ ks + 3009 ≤ 7302250)
    (K : ∀ (ad' : AD) (V' : St) (M' : MH), ad' 2100 0 = b1 ∧ ad' 2200 0 = b2 → Rep E ad' V' M' → Inv (k + 1) V' → GL E X P M' b b1 b2 k (kc + 12) (ks + 3009) 1745 []) : GL E X P M b b1 b2 k kc ks 217 [] := by
  obtain ⟨r, V1, V2, h1, h2, hI2⟩ := P_cloth (fu := fu) (Nat.le_trans (by decide) hfu) hI (xs (6 * k + 1)) (xs (6 * k + 2)) (xs (6 * k + 3)) 
  obtain ⟨fs1, hM1⟩ := lw_obj1 hR hb.1
  have hC1 := C_X11_cloth (out := (r, V1)) (cxL X) hR h1
  rw [hb.1] at hC1
  refine r_aload_n DL_law_217 rfl ?_
  refine lw_arg (j := 1) hX hk hL (by decide) (by decide) DL_law_218 DL_law_219 DL_law_220 DL_law_221 DL_law_222 ?_
  refine lw_arg (j := 2) hX hk hL (by decide) (by decide) DL_law_223 DL_law_224 DL_law_225 DL_law_226 DL_law_227 ?_
  refine lw_arg (j := 3) hX hk hL (by decide) (by decide) DL_law_228 DL_law_229 DL_law_230 DL_law_231 DL_law_232 ?_
  refine r_callV (As := [.int (xs (6 * k + 1)), .int (xs (6 * k + 2)), .int (xs (6 * k + 3))]) (rest := []) DL_law_233 cv__law_18 hM1 rfl hC1 rfl (lw_fitA (by decide) (by decide) (by omega) (by omega)) rfl (Nat.le_of_ble_eq_true rfl) (fun v1 M1 hp1 => ?_)
  obtain ⟨rfl, ad1, hq1, hR1⟩ := hp1
  have hb1 : ad1 2100 0 = b1 ∧ ad1 2200 0 = b2 := ⟨hq1.1, hq1.2.trans hb.2⟩
  obtain ⟨fs2, hM2⟩ := lw_obj2 hR1 hb1.2
  have hC2 := C_X12_cloth (out := (r, V2)) (cxL X) hR1 h2
  rw [hb1.2] at hC2
  show GL E X P M1 b b1 b2 k (kc + 2) (ks + 2003) 236 [.int r]
  refine r_aload_n DL_law_236 rfl ?_
  refine lw_arg (j := 1) hX hk hL (by decide) (by decide) DL_law_237 DL_law_238 DL_law_239 DL_law_240 DL_law_241 ?_
  refine lw_arg (j := 2) hX hk hL (by decide) (by decide) DL_law_242 DL_law_243 DL_law_244 DL_law_245 DL_law_246 ?_
  refine lw_arg (j := 3) hX hk hL (by decide) (by decide) DL_law_247 DL_law_248 DL_law_249 DL_law_250 DL_law_251 ?_
  refine r_callV (As := [.int (xs (6 * k + 1)), .int (xs (6 * k + 2)), .int (xs (6 * k + 3))]) (rest := [.int r]) DL_law_252 cv__law_22 hM2 rfl hC2 rfl (lw_fitD (by decide) (by decide) (by omega) (by omega)) rfl (Nat.le_of_ble_eq_true rfl) (fun v2 M2 hp2 => ?_)
  obtain ⟨rfl, hR2⟩ := hp2
  show GL E X P M2 b b1 b2 k (kc + 2) (ks + 2003) 255 [.int r, .int r]
  refine r_icmp_eq DL_law_255 (fun _ => ?_) (fun h => absurd rfl h)
  exact r_widen (by omega) (by omega) (K ad1 V2 M2 hb1 hR2 hI2)
theorem LC_2 {E : EN} {X : CX} {P : Option Value → MH → Prop} {ad : AD} {V : St} {M : MH} {fu b b1 b2 Ls k kc ks : Nat} {xs : Nat → Int32} (hfu : 1000000000 ≤ fu) (hX : Scr E X b Ls xs) (hk : 6 * k + 6 ≤ Ls) (hL : Ls ≤ 3072) (hb : ad 2100 0 = b1 ∧ ad 2200 0 = b2) (hR : Rep E ad V M) (hI : Inv k V) (hc : kc + 12 ≤ 600000 ∧ ks + 3009 ≤ 7302250)
    (K : ∀ (ad' : AD) (V' : St) (M' : MH), ad' 2100 0 = b1 ∧ ad' 2200 0 = b2 → Rep E ad' V' M' → Inv (k + 1) V' → GL E X P M' b b1 b2 k (kc + 12) (ks + 3009) 1745 []) : GL E X P M b b1 b2 k kc ks 260 [] := by
  obtain ⟨r, V1, V2, h1, h2, hI2⟩ := P_drawing (fu := fu) hI (xs (6 * k + 1)) 
  obtain ⟨fs1, hM1⟩ := lw_obj1 hR hb.1
  have hC1 := C_X11_drawing (out := (r, V1)) (cxL X) hR h1
  rw [hb.1] at hC1
  refine r_aload_n DL_law_260 rfl ?_
  refine lw_arg (j := 1) hX hk hL (by decide) (by decide) DL_law_261 DL_law_262 DL_law_263 DL_law_264 DL_law_265 ?_
  refine r_callV (As := [.int (xs (6 * k + 1))]) (rest := []) DL_law_266 cv__law_23 hM1 rfl hC1 rfl (lw_fitA (by decide) (by decide) (by omega) (by omega)) rfl (Nat.le_of_ble_eq_true rfl) (fun v1 M1 hp1 => ?_)
  obtain ⟨rfl, ad1, hq1, hR1⟩ := hp1
  have hb1 : ad1 2100 0 = b1 ∧ ad1 2200 0 = b2 := ⟨hq1.1, hq1.2.trans hb.2⟩
  obtain ⟨fs2, hM2⟩ := lw_obj2 hR1 hb1.2
  have hC2 := C_X12_drawing (out := (r, V2)) (cxL X) hR1 h2
  rw [hb1.2] at hC2
  show GL E X P M1 b b1 b2 k (kc + 12) (ks + 2453) 269 [.int r]
  refine r_aload_n DL_law_269 rfl ?_
  refine lw_arg (j := 1) hX hk hL (by decide) (by decide) DL_law_270 DL_law_271 DL_law_272 DL_law_273 DL_law_274 ?_
  refine r_callV (As := [.int (xs (6 * k + 1))]) (rest := [.int r]) DL_law_275 cv__law_27 hM2 rfl hC2 rfl (lw_fitD (by decide) (by decide) (by omega) (by omega)) rfl (Nat.le_of_ble_eq_true rfl) (fun v2 M2 hp2 => ?_)
  obtain ⟨rfl, hR2⟩ := hp2
  show GL E X P M2 b b1 b2 k (kc + 12) (ks + 2453) 278 [.int r, .int r]
  refine r_icmp_eq DL_law_278 (fun _ => ?_) (fun h => absurd rfl h)
  exact r_widen (by omega) (by omega) (K ad1 V2 M2 hb1 hR2 hI2)
theorem LC_3 {E : EN} {X : CX} {P : Option Value → MH → Prop} {ad : AD} {V : St} {M : MH} {fu b b1 b2 Ls k kc ks : Nat} {xs : Nat → Int32} (hfu : 1000000000 ≤ fu) (hX : Scr E X b Ls xs) (hk : 6 * k + 6 ≤ Ls) (hL : Ls ≤ 3072) (hb : ad 2100 0 = b1 ∧ ad 2200 0 = b2) (hR : Rep E ad V M) (hI : Inv k V) (hc : kc + 12 ≤ 600000 ∧ ks + 3009 ≤ 7302250)
    (K : ∀ (ad' : AD) (V' : St) (M' : MH), ad' 2100 0 = b1 ∧ ad' 2200 0 = b2 → Rep E ad' V' M' → Inv (k + 1) V' → GL E X P M' b b1 b2 k (kc + 12) (ks + 3009) 1745 []) : GL E X P M b b1 b2 k kc ks 283 [] := by
  obtain ⟨r, V1, V2, h1, h2, hI2⟩ := P_stick (fu := fu) hI (xs (6 * k + 1)) (xs (6 * k + 2)) (xs (6 * k + 3)) (xs (6 * k + 4)) 
  obtain ⟨fs1, hM1⟩ := lw_obj1 hR hb.1
  have hC1 := C_X11_stick (out := (r, V1)) (cxL X) hR h1
  rw [hb.1] at hC1
  refine r_aload_n DL_law_283 rfl ?_
  refine lw_arg (j := 1) hX hk hL (by decide) (by decide) DL_law_284 DL_law_285 DL_law_286 DL_law_287 DL_law_288 ?_
  refine lw_arg (j := 2) hX hk hL (by decide) (by decide) DL_law_289 DL_law_290 DL_law_291 DL_law_292 DL_law_293 ?_
  refine lw_arg (j := 3) hX hk hL (by decide) (by decide) DL_law_294 DL_law_295 DL_law_296 DL_law_297 DL_law_298 ?_
  refine lw_arg (j := 4) hX hk hL (by decide) (by decide) DL_law_299 DL_law_300 DL_law_301 DL_law_302 DL_law_303 ?_
  refine r_callV (As := [.int (xs (6 * k + 1)), .int (xs (6 * k + 2)), .int (xs (6 * k + 3)), .int (xs (6 * k + 4))]) (rest := []) DL_law_304 cv__law_28 hM1 rfl hC1 rfl (lw_fitD (by decide) (by decide) (by omega) (by omega)) rfl (Nat.le_of_ble_eq_true rfl) (fun v1 M1 hp1 => ?_)
  obtain ⟨rfl, hR1⟩ := hp1
  have hb1 := hb
  obtain ⟨fs2, hM2⟩ := lw_obj2 hR1 hb1.2
  have hC2 := C_X12_stick (out := (r, V2)) (cxL X) hR1 h2
  rw [hb1.2] at hC2
  show GL E X P M1 b b1 b2 k (kc + 0) (ks + 0) 307 [.int r]
  refine r_aload_n DL_law_307 rfl ?_
  refine lw_arg (j := 1) hX hk hL (by decide) (by decide) DL_law_308 DL_law_309 DL_law_310 DL_law_311 DL_law_312 ?_
  refine lw_arg (j := 2) hX hk hL (by decide) (by decide) DL_law_313 DL_law_314 DL_law_315 DL_law_316 DL_law_317 ?_
  refine lw_arg (j := 3) hX hk hL (by decide) (by decide) DL_law_318 DL_law_319 DL_law_320 DL_law_321 DL_law_322 ?_
  refine lw_arg (j := 4) hX hk hL (by decide) (by decide) DL_law_323 DL_law_324 DL_law_325 DL_law_326 DL_law_327 ?_
  refine r_callV (As := [.int (xs (6 * k + 1)), .int (xs (6 * k + 2)), .int (xs (6 * k + 3)), .int (xs (6 * k + 4))]) (rest := [.int r]) DL_law_328 cv__law_32 hM2 rfl hC2 rfl (lw_fitD (by decide) (by decide) (by omega) (by omega)) rfl (Nat.le_of_ble_eq_true rfl) (fun v2 M2 hp2 => ?_)
  obtain ⟨rfl, hR2⟩ := hp2
  show GL E X P M2 b b1 b2 k (kc + 0) (ks + 0) 331 [.int r, .int r]
  refine r_icmp_eq DL_law_331 (fun _ => ?_) (fun h => absurd rfl h)
  exact r_widen (by omega) (by omega) (K ad V2 M2 hb1 hR2 hI2)
theorem LC_4 {E : EN} {X : CX} {P : Option Value → MH → Prop} {ad : AD} {V : St} {M : MH} {fu b b1 b2 Ls k kc ks : Nat} {xs : Nat → Int32} (hfu : 1000000000 ≤ fu) (hX : Scr E X b Ls xs) (hk : 6 * k + 6 ≤ Ls) (hL : Ls ≤ 3072) (hb : ad 2100 0 = b1 ∧ ad 2200 0 = b2) (hR : Rep E ad V M) (hI : Inv k V) (hc : kc + 12 ≤ 600000 ∧ ks + 3009 ≤ 7302250)
    (K : ∀ (ad' : AD) (V' : St) (M' : MH), ad' 2100 0 = b1 ∧ ad' 2200 0 = b2 → Rep E ad' V' M' → Inv (k + 1) V' → GL E X P M' b b1 b2 k (kc + 12) (ks + 3009) 1745 []) : GL E X P M b b1 b2 k kc ks 336 [] := by
  obtain ⟨r, V1, V2, h1, h2, hI2⟩ := P_load (fu := fu) hI (xs (6 * k + 1)) (xs (6 * k + 2)) (xs (6 * k + 3)) 
  obtain ⟨fs1, hM1⟩ := lw_obj1 hR hb.1
  have hC1 := C_X11_load (out := (r, V1)) (cxL X) hR h1
  rw [hb.1] at hC1
  refine r_aload_n DL_law_336 rfl ?_
  refine lw_arg (j := 1) hX hk hL (by decide) (by decide) DL_law_337 DL_law_338 DL_law_339 DL_law_340 DL_law_341 ?_
  refine lw_arg (j := 2) hX hk hL (by decide) (by decide) DL_law_342 DL_law_343 DL_law_344 DL_law_345 DL_law_346 ?_
  refine lw_arg (j := 3) hX hk hL (by decide) (by decide) DL_law_347 DL_law_348 DL_law_349 DL_law_350 DL_law_351 ?_
  refine r_callV (As := [.int (xs (6 * k + 1)), .int (xs (6 * k + 2)), .int (xs (6 * k + 3))]) (rest := []) DL_law_352 cv__law_33 hM1 rfl hC1 rfl (lw_fitD (by decide) (by decide) (by omega) (by omega)) rfl (Nat.le_of_ble_eq_true rfl) (fun v1 M1 hp1 => ?_)
  obtain ⟨rfl, hR1⟩ := hp1
  have hb1 := hb
  obtain ⟨fs2, hM2⟩ := lw_obj2 hR1 hb1.2
  have hC2 := C_X12_load (out := (r, V2)) (cxL X) hR1 h2
  rw [hb1.2] at hC2
  show GL E X P M1 b b1 b2 k (kc + 0) (ks + 0) 355 [.int r]
  refine r_aload_n DL_law_355 rfl ?_
  refine lw_arg (j := 1) hX hk hL (by decide) (by decide) DL_law_356 DL_law_357 DL_law_358 DL_law_359 DL_law_360 ?_
  refine lw_arg (j := 2) hX hk hL (by decide) (by decide) DL_law_361 DL_law_362 DL_law_363 DL_law_364 DL_law_365 ?_
  refine lw_arg (j := 3) hX hk hL (by decide) (by decide) DL_law_366 DL_law_367 DL_law_368 DL_law_369 DL_law_370 ?_
  refine r_callV (As := [.int (xs (6 * k + 1)), .int (xs (6 * k + 2)), .int (xs (6 * k + 3))]) (rest := [.int r]) DL_law_371 cv__law_37 hM2 rfl hC2 rfl (lw_fitD (by decide) (by decide) (by omega) (by omega)) rfl (Nat.le_of_ble_eq_true rfl) (fun v2 M2 hp2 => ?_)
  obtain ⟨rfl, hR2⟩ := hp2
  show GL E X P M2 b b1 b2 k (kc + 0) (ks + 0) 374 [.int r, .int r]
  refine r_icmp_eq DL_law_374 (fun _ => ?_) (fun h => absurd rfl h)
  exact r_widen (by omega) (by omega) (K ad V2 M2 hb1 hR2 hI2)
theorem LC_5 {E : EN} {X : CX} {P : Option Value → MH → Prop} {ad : AD} {V : St} {M : MH} {fu b b1 b2 Ls k kc ks : Nat} {xs : Nat → Int32} (hfu : 1000000000 ≤ fu) (hX : Scr E X b Ls xs) (hk : 6 * k + 6 ≤ Ls) (hL : Ls ≤ 3072) (hb : ad 2100 0 = b1 ∧ ad 2200 0 = b2) (hR : Rep E ad V M) (hI : Inv k V) (hc : kc + 12 ≤ 600000 ∧ ks + 3009 ≤ 7302250)
    (K : ∀ (ad' : AD) (V' : St) (M' : MH), ad' 2100 0 = b1 ∧ ad' 2200 0 = b2 → Rep E ad' V' M' → Inv (k + 1) V' → GL E X P M' b b1 b2 k (kc + 12) (ks + 3009) 1745 []) : GL E X P M b b1 b2 k kc ks 379 [] := by
  obtain ⟨r, V1, V2, h1, h2, hI2⟩ := P_bears (fu := fu) (Nat.le_trans (by decide) hfu) hI (xs (6 * k + 1)) 
  obtain ⟨fs1, hM1⟩ := lw_obj1 hR hb.1
  have hC1 := C_X11_bears (out := (r, V1)) (cxL X) hR h1
  rw [hb.1] at hC1
  refine r_aload_n DL_law_379 rfl ?_
  refine lw_arg (j := 1) hX hk hL (by decide) (by decide) DL_law_380 DL_law_381 DL_law_382 DL_law_383 DL_law_384 ?_
  refine r_callV (As := [.int (xs (6 * k + 1))]) (rest := []) DL_law_385 cv__law_38 hM1 rfl hC1 rfl (lw_fitD (by decide) (by decide) (by omega) (by omega)) rfl (Nat.le_of_ble_eq_true rfl) (fun v1 M1 hp1 => ?_)
  obtain ⟨rfl, hR1⟩ := hp1
  have hb1 := hb
  obtain ⟨fs2, hM2⟩ := lw_obj2 hR1 hb1.2
  have hC2 := C_X12_bears (out := (r, V2)) (cxL X) hR1 h2
  rw [hb1.2] at hC2
  show GL E X P M1 b b1 b2 k (kc + 0) (ks + 0) 388 [.int r]
  refine r_aload_n DL_law_388 rfl ?_
  refine lw_arg (j := 1) hX hk hL (by decide) (by decide) DL_law_389 DL_law_390 DL_law_391 DL_law_392 DL_law_393 ?_
  refine r_callV (As := [.int (xs (6 * k + 1))]) (rest := [.int r]) DL_law_394 cv__law_41 hM2 rfl hC2 rfl (lw_fitD (by decide) (by decide) (by omega) (by omega)) rfl (Nat.le_of_ble_eq_true rfl) (fun v2 M2 hp2 => ?_)
  obtain ⟨rfl, hR2⟩ := hp2
  show GL E X P M2 b b1 b2 k (kc + 0) (ks + 0) 397 [.int r, .int r]
  refine r_icmp_eq DL_law_397 (fun _ => ?_) (fun h => absurd rfl h)
  exact r_widen (by omega) (by omega) (K ad V2 M2 hb1 hR2 hI2)
theorem LC_6 {E : EN} {X : CX} {P : Option Value → MH → Prop} {ad : AD} {V : St} {M : MH} {fu b b1 b2 Ls k kc ks : Nat} {xs : Nat → Int32} (hfu : 1000000000 ≤ fu) (hX : Scr E X b Ls xs) (hk : 6 * k + 6 ≤ Ls) (hL : Ls ≤ 3072) (hb : ad 2100 0 = b1 ∧ ad 2200 0 = b2) (hR : Rep E ad V M) (hI : Inv k V) (hc : kc + 12 ≤ 600000 ∧ ks + 3009 ≤ 7302250)
    (K : ∀ (ad' : AD) (V' : St) (M' : MH), ad' 2100 0 = b1 ∧ ad' 2200 0 = b2 → Rep E ad' V' M' → Inv (k + 1) V' → GL E X P M' b b1 b2 k (kc + 12) (ks + 3009) 1745 []) : GL E X P M b b1 b2 k kc ks 402 [] := by
  obtain ⟨r, V1, V2, h1, h2, hI2⟩ := P_cheapest (fu := fu) (Nat.le_trans (by decide) hfu) hI (xs (6 * k + 1)) (xs (6 * k + 2)) 
  obtain ⟨fs1, hM1⟩ := lw_obj1 hR hb.1
  have hC1 := C_X11_cheapest (out := (r, V1)) (cxL X) hR h1
  rw [hb.1] at hC1
  refine r_aload_n DL_law_402 rfl ?_
  refine lw_arg (j := 1) hX hk hL (by decide) (by decide) DL_law_403 DL_law_404 DL_law_405 DL_law_406 DL_law_407 ?_
  refine lw_arg (j := 2) hX hk hL (by decide) (by decide) DL_law_408 DL_law_409 DL_law_410 DL_law_411 DL_law_412 ?_
  refine r_callV (As := [.int (xs (6 * k + 1)), .int (xs (6 * k + 2))]) (rest := []) DL_law_413 cv__law_42 hM1 rfl hC1 rfl (lw_fitD (by decide) (by decide) (by omega) (by omega)) rfl (Nat.le_of_ble_eq_true rfl) (fun v1 M1 hp1 => ?_)
  obtain ⟨rfl, hR1⟩ := hp1
  have hb1 := hb
  obtain ⟨fs2, hM2⟩ := lw_obj2 hR1 hb1.2
  have hC2 := C_X12_cheapest (out := (r, V2)) (cxL X) hR1 h2
  rw [hb1.2] at hC2
  show GL E X P M1 b b1 b2 k (kc + 0) (ks + 0) 416 [.int r]
  refine r_aload_n DL_law_416 rfl ?_
  refine lw_arg (j := 1) hX hk hL (by decide) (by decide) DL_law_417 DL_law_418 DL_law_419 DL_law_420 DL_law_421 ?_
  refine lw_arg (j := 2) hX hk hL (by decide) (by decide) DL_law_422 DL_law_423 DL_law_424 DL_law_425 DL_law_426 ?_
  refine r_callV (As := [.int (xs (6 * k + 1)), .int (xs (6 * k + 2))]) (rest := [.int r]) DL_law_427 cv__law_46 hM2 rfl hC2 rfl (lw_fitD (by decide) (by decide) (by omega) (by omega)) rfl (Nat.le_of_ble_eq_true rfl) (fun v2 M2 hp2 => ?_)
  obtain ⟨rfl, hR2⟩ := hp2
  show GL E X P M2 b b1 b2 k (kc + 0) (ks + 0) 430 [.int r, .int r]
  refine r_icmp_eq DL_law_430 (fun _ => ?_) (fun h => absurd rfl h)
  exact r_widen (by omega) (by omega) (K ad V2 M2 hb1 hR2 hI2)
theorem LC_7 {E : EN} {X : CX} {P : Option Value → MH → Prop} {ad : AD} {V : St} {M : MH} {fu b b1 b2 Ls k kc ks : Nat} {xs : Nat → Int32} (hfu : 1000000000 ≤ fu) (hX : Scr E X b Ls xs) (hk : 6 * k + 6 ≤ Ls) (hL : Ls ≤ 3072) (hb : ad 2100 0 = b1 ∧ ad 2200 0 = b2) (hR : Rep E ad V M) (hI : Inv k V) (hc : kc + 12 ≤ 600000 ∧ ks + 3009 ≤ 7302250)
    (K : ∀ (ad' : AD) (V' : St) (M' : MH), ad' 2100 0 = b1 ∧ ad' 2200 0 = b2 → Rep E ad' V' M' → Inv (k + 1) V' → GL E X P M' b b1 b2 k (kc + 12) (ks + 3009) 1745 []) : GL E X P M b b1 b2 k kc ks 435 [] := by
  obtain ⟨r, V1, V2, h1, h2, hI2⟩ := P_thing (fu := fu) hI (xs (6 * k + 1)) (xs (6 * k + 2)) (xs (6 * k + 3)) (xs (6 * k + 4)) 
  obtain ⟨fs1, hM1⟩ := lw_obj1 hR hb.1
  have hC1 := C_X11_thing (out := (r, V1)) (cxL X) hR h1
  rw [hb.1] at hC1
  refine r_aload_n DL_law_435 rfl ?_
  refine lw_arg (j := 1) hX hk hL (by decide) (by decide) DL_law_436 DL_law_437 DL_law_438 DL_law_439 DL_law_440 ?_
  refine lw_arg (j := 2) hX hk hL (by decide) (by decide) DL_law_441 DL_law_442 DL_law_443 DL_law_444 DL_law_445 ?_
  refine lw_arg (j := 3) hX hk hL (by decide) (by decide) DL_law_446 DL_law_447 DL_law_448 DL_law_449 DL_law_450 ?_
  refine lw_arg (j := 4) hX hk hL (by decide) (by decide) DL_law_451 DL_law_452 DL_law_453 DL_law_454 DL_law_455 ?_
  refine r_callV (As := [.int (xs (6 * k + 1)), .int (xs (6 * k + 2)), .int (xs (6 * k + 3)), .int (xs (6 * k + 4))]) (rest := []) DL_law_456 cv__law_47 hM1 rfl hC1 rfl (lw_fitA (by decide) (by decide) (by omega) (by omega)) rfl (Nat.le_of_ble_eq_true rfl) (fun v1 M1 hp1 => ?_)
  obtain ⟨rfl, ad1, hq1, hR1⟩ := hp1
  have hb1 : ad1 2100 0 = b1 ∧ ad1 2200 0 = b2 := ⟨hq1.1, hq1.2.trans hb.2⟩
  obtain ⟨fs2, hM2⟩ := lw_obj2 hR1 hb1.2
  have hC2 := C_X12_thing (out := (r, V2)) (cxL X) hR1 h2
  rw [hb1.2] at hC2
  show GL E X P M1 b b1 b2 k (kc + 5) (ks + 2030) 459 [.int r]
  refine r_aload_n DL_law_459 rfl ?_
  refine lw_arg (j := 1) hX hk hL (by decide) (by decide) DL_law_460 DL_law_461 DL_law_462 DL_law_463 DL_law_464 ?_
  refine lw_arg (j := 2) hX hk hL (by decide) (by decide) DL_law_465 DL_law_466 DL_law_467 DL_law_468 DL_law_469 ?_
  refine lw_arg (j := 3) hX hk hL (by decide) (by decide) DL_law_470 DL_law_471 DL_law_472 DL_law_473 DL_law_474 ?_
  refine lw_arg (j := 4) hX hk hL (by decide) (by decide) DL_law_475 DL_law_476 DL_law_477 DL_law_478 DL_law_479 ?_
  refine r_callV (As := [.int (xs (6 * k + 1)), .int (xs (6 * k + 2)), .int (xs (6 * k + 3)), .int (xs (6 * k + 4))]) (rest := [.int r]) DL_law_480 cv__law_50 hM2 rfl hC2 rfl (lw_fitD (by decide) (by decide) (by omega) (by omega)) rfl (Nat.le_of_ble_eq_true rfl) (fun v2 M2 hp2 => ?_)
  obtain ⟨rfl, hR2⟩ := hp2
  show GL E X P M2 b b1 b2 k (kc + 5) (ks + 2030) 483 [.int r, .int r]
  refine r_icmp_eq DL_law_483 (fun _ => ?_) (fun h => absurd rfl h)
  exact r_widen (by omega) (by omega) (K ad1 V2 M2 hb1 hR2 hI2)
theorem LC_8 {E : EN} {X : CX} {P : Option Value → MH → Prop} {ad : AD} {V : St} {M : MH} {fu b b1 b2 Ls k kc ks : Nat} {xs : Nat → Int32} (hfu : 1000000000 ≤ fu) (hX : Scr E X b Ls xs) (hk : 6 * k + 6 ≤ Ls) (hL : Ls ≤ 3072) (hb : ad 2100 0 = b1 ∧ ad 2200 0 = b2) (hR : Rep E ad V M) (hI : Inv k V) (hc : kc + 12 ≤ 600000 ∧ ks + 3009 ≤ 7302250)
    (K : ∀ (ad' : AD) (V' : St) (M' : MH), ad' 2100 0 = b1 ∧ ad' 2200 0 = b2 → Rep E ad' V' M' → Inv (k + 1) V' → GL E X P M' b b1 b2 k (kc + 12) (ks + 3009) 1745 []) : GL E X P M b b1 b2 k kc ks 488 [] := by
  obtain ⟨r, V1, V2, h1, h2, hI2⟩ := P_piece (fu := fu) hI (xs (6 * k + 1)) (xs (6 * k + 2)) (xs (6 * k + 3)) 
  obtain ⟨fs1, hM1⟩ := lw_obj1 hR hb.1
  have hC1 := C_X11_piece (out := (r, V1)) (cxL X) hR h1
  rw [hb.1] at hC1
  refine r_aload_n DL_law_488 rfl ?_
  refine lw_arg (j := 1) hX hk hL (by decide) (by decide) DL_law_489 DL_law_490 DL_law_491 DL_law_492 DL_law_493 ?_
  refine lw_arg (j := 2) hX hk hL (by decide) (by decide) DL_law_494 DL_law_495 DL_law_496 DL_law_497 DL_law_498 ?_
  refine lw_arg (j := 3) hX hk hL (by decide) (by decide) DL_law_499 DL_law_500 DL_law_501 DL_law_502 DL_law_503 ?_
  refine r_callV (As := [.int (xs (6 * k + 1)), .int (xs (6 * k + 2)), .int (xs (6 * k + 3))]) (rest := []) DL_law_504 cv__law_51 hM1 rfl hC1 rfl (lw_fitD (by decide) (by decide) (by omega) (by omega)) rfl (Nat.le_of_ble_eq_true rfl) (fun v1 M1 hp1 => ?_)
  obtain ⟨rfl, hR1⟩ := hp1
  have hb1 := hb
  obtain ⟨fs2, hM2⟩ := lw_obj2 hR1 hb1.2
  have hC2 := C_X12_piece (out := (r, V2)) (cxL X) hR1 h2
  rw [hb1.2] at hC2
  show GL E X P M1 b b1 b2 k (kc + 0) (ks + 0) 507 [.int r]
  refine r_aload_n DL_law_507 rfl ?_
  refine lw_arg (j := 1) hX hk hL (by decide) (by decide) DL_law_508 DL_law_509 DL_law_510 DL_law_511 DL_law_512 ?_
  refine lw_arg (j := 2) hX hk hL (by decide) (by decide) DL_law_513 DL_law_514 DL_law_515 DL_law_516 DL_law_517 ?_
  refine lw_arg (j := 3) hX hk hL (by decide) (by decide) DL_law_518 DL_law_519 DL_law_520 DL_law_521 DL_law_522 ?_
  refine r_callV (As := [.int (xs (6 * k + 1)), .int (xs (6 * k + 2)), .int (xs (6 * k + 3))]) (rest := [.int r]) DL_law_523 cv__law_54 hM2 rfl hC2 rfl (lw_fitD (by decide) (by decide) (by omega) (by omega)) rfl (Nat.le_of_ble_eq_true rfl) (fun v2 M2 hp2 => ?_)
  obtain ⟨rfl, hR2⟩ := hp2
  show GL E X P M2 b b1 b2 k (kc + 0) (ks + 0) 526 [.int r, .int r]
  refine r_icmp_eq DL_law_526 (fun _ => ?_) (fun h => absurd rfl h)
  exact r_widen (by omega) (by omega) (K ad V2 M2 hb1 hR2 hI2)
theorem LC_9 {E : EN} {X : CX} {P : Option Value → MH → Prop} {ad : AD} {V : St} {M : MH} {fu b b1 b2 Ls k kc ks : Nat} {xs : Nat → Int32} (hfu : 1000000000 ≤ fu) (hX : Scr E X b Ls xs) (hk : 6 * k + 6 ≤ Ls) (hL : Ls ≤ 3072) (hb : ad 2100 0 = b1 ∧ ad 2200 0 = b2) (hR : Rep E ad V M) (hI : Inv k V) (hc : kc + 12 ≤ 600000 ∧ ks + 3009 ≤ 7302250)
    (K : ∀ (ad' : AD) (V' : St) (M' : MH), ad' 2100 0 = b1 ∧ ad' 2200 0 = b2 → Rep E ad' V' M' → Inv (k + 1) V' → GL E X P M' b b1 b2 k (kc + 12) (ks + 3009) 1745 []) : GL E X P M b b1 b2 k kc ks 531 [] := by
  obtain ⟨r, V1, V2, h1, h2, hI2⟩ := P_laid (fu := fu) (Nat.le_trans (by decide) hfu) hI (xs (6 * k + 1)) (xs (6 * k + 2)) (xs (6 * k + 3)) 
  obtain ⟨fs1, hM1⟩ := lw_obj1 hR hb.1
  have hC1 := C_X11_laid (out := (r, V1)) (cxL X) hR h1
  rw [hb.1] at hC1
  refine r_aload_n DL_law_531 rfl ?_
  refine lw_arg (j := 1) hX hk hL (by decide) (by decide) DL_law_532 DL_law_533 DL_law_534 DL_law_535 DL_law_536 ?_
  refine lw_arg (j := 2) hX hk hL (by decide) (by decide) DL_law_537 DL_law_538 DL_law_539 DL_law_540 DL_law_541 ?_
  refine lw_arg (j := 3) hX hk hL (by decide) (by decide) DL_law_542 DL_law_543 DL_law_544 DL_law_545 DL_law_546 ?_
  refine r_callV (As := [.int (xs (6 * k + 1)), .int (xs (6 * k + 2)), .int (xs (6 * k + 3))]) (rest := []) DL_law_547 cv__law_55 hM1 rfl hC1 rfl (lw_fitD (by decide) (by decide) (by omega) (by omega)) rfl (Nat.le_of_ble_eq_true rfl) (fun v1 M1 hp1 => ?_)
  obtain ⟨rfl, hR1⟩ := hp1
  have hb1 := hb
  obtain ⟨fs2, hM2⟩ := lw_obj2 hR1 hb1.2
  have hC2 := C_X12_laid (out := (r, V2)) (cxL X) hR1 h2
  rw [hb1.2] at hC2
  show GL E X P M1 b b1 b2 k (kc + 0) (ks + 0) 550 [.int r]
  refine r_aload_n DL_law_550 rfl ?_
  refine lw_arg (j := 1) hX hk hL (by decide) (by decide) DL_law_551 DL_law_552 DL_law_553 DL_law_554 DL_law_555 ?_
  refine lw_arg (j := 2) hX hk hL (by decide) (by decide) DL_law_556 DL_law_557 DL_law_558 DL_law_559 DL_law_560 ?_
  refine lw_arg (j := 3) hX hk hL (by decide) (by decide) DL_law_561 DL_law_562 DL_law_563 DL_law_564 DL_law_565 ?_
  refine r_callV (As := [.int (xs (6 * k + 1)), .int (xs (6 * k + 2)), .int (xs (6 * k + 3))]) (rest := [.int r]) DL_law_566 cv__law_58 hM2 rfl hC2 rfl (lw_fitD (by decide) (by decide) (by omega) (by omega)) rfl (Nat.le_of_ble_eq_true rfl) (fun v2 M2 hp2 => ?_)
  obtain ⟨rfl, hR2⟩ := hp2
  show GL E X P M2 b b1 b2 k (kc + 0) (ks + 0) 569 [.int r, .int r]
  refine r_icmp_eq DL_law_569 (fun _ => ?_) (fun h => absurd rfl h)
  exact r_widen (by omega) (by omega) (K ad V2 M2 hb1 hR2 hI2)
theorem LC_10 {E : EN} {X : CX} {P : Option Value → MH → Prop} {ad : AD} {V : St} {M : MH} {fu b b1 b2 Ls k kc ks : Nat} {xs : Nat → Int32} (hfu : 1000000000 ≤ fu) (hX : Scr E X b Ls xs) (hk : 6 * k + 6 ≤ Ls) (hL : Ls ≤ 3072) (hb : ad 2100 0 = b1 ∧ ad 2200 0 = b2) (hR : Rep E ad V M) (hI : Inv k V) (hc : kc + 12 ≤ 600000 ∧ ks + 3009 ≤ 7302250)
    (K : ∀ (ad' : AD) (V' : St) (M' : MH), ad' 2100 0 = b1 ∧ ad' 2200 0 = b2 → Rep E ad' V' M' → Inv (k + 1) V' → GL E X P M' b b1 b2 k (kc + 12) (ks + 3009) 1745 []) : GL E X P M b b1 b2 k kc ks 574 [] := by
  obtain ⟨r, V1, V2, h1, h2, hI2⟩ := P_least (fu := fu) (Nat.le_trans (by decide) hfu) hI (xs (6 * k + 1)) (xs (6 * k + 2)) (xs (6 * k + 3)) 
  obtain ⟨fs1, hM1⟩ := lw_obj1 hR hb.1
  have hC1 := C_X11_least (out := (r, V1)) (cxL X) hR h1
  rw [hb.1] at hC1
  refine r_aload_n DL_law_574 rfl ?_
  refine lw_arg (j := 1) hX hk hL (by decide) (by decide) DL_law_575 DL_law_576 DL_law_577 DL_law_578 DL_law_579 ?_
  refine lw_arg (j := 2) hX hk hL (by decide) (by decide) DL_law_580 DL_law_581 DL_law_582 DL_law_583 DL_law_584 ?_
  refine lw_arg (j := 3) hX hk hL (by decide) (by decide) DL_law_585 DL_law_586 DL_law_587 DL_law_588 DL_law_589 ?_
  refine r_callV (As := [.int (xs (6 * k + 1)), .int (xs (6 * k + 2)), .int (xs (6 * k + 3))]) (rest := []) DL_law_590 cv__law_59 hM1 rfl hC1 rfl (lw_fitD (by decide) (by decide) (by omega) (by omega)) rfl (Nat.le_of_ble_eq_true rfl) (fun v1 M1 hp1 => ?_)
  obtain ⟨rfl, hR1⟩ := hp1
  have hb1 := hb
  obtain ⟨fs2, hM2⟩ := lw_obj2 hR1 hb1.2
  have hC2 := C_X12_least (out := (r, V2)) (cxL X) hR1 h2
  rw [hb1.2] at hC2
  show GL E X P M1 b b1 b2 k (kc + 0) (ks + 0) 593 [.int r]
  refine r_aload_n DL_law_593 rfl ?_
  refine lw_arg (j := 1) hX hk hL (by decide) (by decide) DL_law_594 DL_law_595 DL_law_596 DL_law_597 DL_law_598 ?_
  refine lw_arg (j := 2) hX hk hL (by decide) (by decide) DL_law_599 DL_law_600 DL_law_601 DL_law_602 DL_law_603 ?_
  refine lw_arg (j := 3) hX hk hL (by decide) (by decide) DL_law_604 DL_law_605 DL_law_606 DL_law_607 DL_law_608 ?_
  refine r_callV (As := [.int (xs (6 * k + 1)), .int (xs (6 * k + 2)), .int (xs (6 * k + 3))]) (rest := [.int r]) DL_law_609 cv__law_62 hM2 rfl hC2 rfl (lw_fitD (by decide) (by decide) (by omega) (by omega)) rfl (Nat.le_of_ble_eq_true rfl) (fun v2 M2 hp2 => ?_)
  obtain ⟨rfl, hR2⟩ := hp2
  show GL E X P M2 b b1 b2 k (kc + 0) (ks + 0) 612 [.int r, .int r]
  refine r_icmp_eq DL_law_612 (fun _ => ?_) (fun h => absurd rfl h)
  exact r_widen (by omega) (by omega) (K ad V2 M2 hb1 hR2 hI2)
theorem LC_11 {E : EN} {X : CX} {P : Option Value → MH → Prop} {ad : AD} {V : St} {M : MH} {fu b b1 b2 Ls k kc ks : Nat} {xs : Nat → Int32} (hfu : 1000000000 ≤ fu) (hX : Scr E X b Ls xs) (hk : 6 * k + 6 ≤ Ls) (hL : Ls ≤ 3072) (hb : ad 2100 0 = b1 ∧ ad 2200 0 = b2) (hR : Rep E ad V M) (hI : Inv k V) (hc : kc + 12 ≤ 600000 ∧ ks + 3009 ≤ 7302250)
    (K : ∀ (ad' : AD) (V' : St) (M' : MH), ad' 2100 0 = b1 ∧ ad' 2200 0 = b2 → Rep E ad' V' M' → Inv (k + 1) V' → GL E X P M' b b1 b2 k (kc + 12) (ks + 3009) 1745 []) : GL E X P M b b1 b2 k kc ks 617 [] := by
  obtain ⟨r, V1, V2, h1, h2, hI2⟩ := P_maker (fu := fu) (Nat.le_trans (by decide) hfu) hI (xs (6 * k + 1)) (xs (6 * k + 2)) (xs (6 * k + 3)) (xs (6 * k + 4)) (xs (6 * k + 5)) 
  obtain ⟨fs1, hM1⟩ := lw_obj1 hR hb.1
  have hC1 := C_X11_maker (out := (r, V1)) (cxL X) hR h1
  rw [hb.1] at hC1
  refine r_aload_n DL_law_617 rfl ?_
  refine lw_arg (j := 1) hX hk hL (by decide) (by decide) DL_law_618 DL_law_619 DL_law_620 DL_law_621 DL_law_622 ?_
  refine lw_arg (j := 2) hX hk hL (by decide) (by decide) DL_law_623 DL_law_624 DL_law_625 DL_law_626 DL_law_627 ?_
  refine lw_arg (j := 3) hX hk hL (by decide) (by decide) DL_law_628 DL_law_629 DL_law_630 DL_law_631 DL_law_632 ?_
  refine lw_arg (j := 4) hX hk hL (by decide) (by decide) DL_law_633 DL_law_634 DL_law_635 DL_law_636 DL_law_637 ?_
  refine lw_arg (j := 5) hX hk hL (by decide) (by decide) DL_law_638 DL_law_639 DL_law_640 DL_law_641 DL_law_642 ?_
  refine r_callV (As := [.int (xs (6 * k + 1)), .int (xs (6 * k + 2)), .int (xs (6 * k + 3)), .int (xs (6 * k + 4)), .int (xs (6 * k + 5))]) (rest := []) DL_law_643 cv__law_63 hM1 rfl hC1 rfl (lw_fitA (by decide) (by decide) (by omega) (by omega)) rfl (Nat.le_of_ble_eq_true rfl) (fun v1 M1 hp1 => ?_)
  obtain ⟨rfl, ad1, hq1, hR1⟩ := hp1
  have hb1 : ad1 2100 0 = b1 ∧ ad1 2200 0 = b2 := ⟨hq1.1, hq1.2.trans hb.2⟩
  obtain ⟨fs2, hM2⟩ := lw_obj2 hR1 hb1.2
  have hC2 := C_X12_maker (out := (r, V2)) (cxL X) hR1 h2
  rw [hb1.2] at hC2
  show GL E X P M1 b b1 b2 k (kc + 3) (ks + 2028) 646 [.int r]
  refine r_aload_n DL_law_646 rfl ?_
  refine lw_arg (j := 1) hX hk hL (by decide) (by decide) DL_law_647 DL_law_648 DL_law_649 DL_law_650 DL_law_651 ?_
  refine lw_arg (j := 2) hX hk hL (by decide) (by decide) DL_law_652 DL_law_653 DL_law_654 DL_law_655 DL_law_656 ?_
  refine lw_arg (j := 3) hX hk hL (by decide) (by decide) DL_law_657 DL_law_658 DL_law_659 DL_law_660 DL_law_661 ?_
  refine lw_arg (j := 4) hX hk hL (by decide) (by decide) DL_law_662 DL_law_663 DL_law_664 DL_law_665 DL_law_666 ?_
  refine lw_arg (j := 5) hX hk hL (by decide) (by decide) DL_law_667 DL_law_668 DL_law_669 DL_law_670 DL_law_671 ?_
  refine r_callV (As := [.int (xs (6 * k + 1)), .int (xs (6 * k + 2)), .int (xs (6 * k + 3)), .int (xs (6 * k + 4)), .int (xs (6 * k + 5))]) (rest := [.int r]) DL_law_672 cv__law_67 hM2 rfl hC2 rfl (lw_fitD (by decide) (by decide) (by omega) (by omega)) rfl (Nat.le_of_ble_eq_true rfl) (fun v2 M2 hp2 => ?_)
  obtain ⟨rfl, hR2⟩ := hp2
  show GL E X P M2 b b1 b2 k (kc + 3) (ks + 2028) 675 [.int r, .int r]
  refine r_icmp_eq DL_law_675 (fun _ => ?_) (fun h => absurd rfl h)
  exact r_widen (by omega) (by omega) (K ad1 V2 M2 hb1 hR2 hI2)
theorem LC_12 {E : EN} {X : CX} {P : Option Value → MH → Prop} {ad : AD} {V : St} {M : MH} {fu b b1 b2 Ls k kc ks : Nat} {xs : Nat → Int32} (hfu : 1000000000 ≤ fu) (hX : Scr E X b Ls xs) (hk : 6 * k + 6 ≤ Ls) (hL : Ls ≤ 3072) (hb : ad 2100 0 = b1 ∧ ad 2200 0 = b2) (hR : Rep E ad V M) (hI : Inv k V) (hc : kc + 12 ≤ 600000 ∧ ks + 3009 ≤ 7302250)
    (K : ∀ (ad' : AD) (V' : St) (M' : MH), ad' 2100 0 = b1 ∧ ad' 2200 0 = b2 → Rep E ad' V' M' → Inv (k + 1) V' → GL E X P M' b b1 b2 k (kc + 12) (ks + 3009) 1745 []) : GL E X P M b b1 b2 k kc ks 680 [] := by
  obtain ⟨r, V1, V2, h1, h2, hI2⟩ := P_named (fu := fu) hI (xs (6 * k + 1)) (if xs (6 * k + 2) = 0 then 0 else 1) (lw_01 _)
  obtain ⟨fs1, hM1⟩ := lw_obj1 hR hb.1
  have hC1 := C_X11_named (out := (r, V1)) (cxL X) hR h1
  rw [hb.1] at hC1
  refine r_aload_n DL_law_680 rfl ?_
  refine lw_arg (j := 1) hX hk hL (by decide) (by decide) DL_law_681 DL_law_682 DL_law_683 DL_law_684 DL_law_685 ?_
  refine lw_argB (j := 2) hX hk hL (by decide) (by decide) DL_law_686 DL_law_687 DL_law_688 DL_law_689 DL_law_690 DL_law_691 DL_law_694 DL_law_695 DL_law_698 ?_
  refine r_callV (As := [.int (xs (6 * k + 1)), .int (if xs (6 * k + 2) = 0 then 0 else 1)]) (rest := []) DL_law_699 cv__law_68 hM1 rfl hC1 rfl (lw_fitD (by decide) (by decide) (by omega) (by omega)) rfl (Nat.le_of_ble_eq_true rfl) (fun v1 M1 hp1 => ?_)
  obtain ⟨rfl, hR1⟩ := hp1
  have hb1 := hb
  obtain ⟨fs2, hM2⟩ := lw_obj2 hR1 hb1.2
  have hC2 := C_X12_named (out := (r, V2)) (cxL X) hR1 h2
  rw [hb1.2] at hC2
  show GL E X P M1 b b1 b2 k (kc + 0) (ks + 0) 702 [.int r]
  refine r_aload_n DL_law_702 rfl ?_
  refine lw_arg (j := 1) hX hk hL (by decide) (by decide) DL_law_703 DL_law_704 DL_law_705 DL_law_706 DL_law_707 ?_
  refine lw_argB (j := 2) hX hk hL (by decide) (by decide) DL_law_708 DL_law_709 DL_law_710 DL_law_711 DL_law_712 DL_law_713 DL_law_716 DL_law_717 DL_law_720 ?_
  refine r_callV (As := [.int (xs (6 * k + 1)), .int (if xs (6 * k + 2) = 0 then 0 else 1)]) (rest := [.int r]) DL_law_721 cv__law_72 hM2 rfl hC2 rfl (lw_fitD (by decide) (by decide) (by omega) (by omega)) rfl (Nat.le_of_ble_eq_true rfl) (fun v2 M2 hp2 => ?_)
  obtain ⟨rfl, hR2⟩ := hp2
  show GL E X P M2 b b1 b2 k (kc + 0) (ks + 0) 724 [.int r, .int r]
  refine r_icmp_eq DL_law_724 (fun _ => ?_) (fun h => absurd rfl h)
  exact r_widen (by omega) (by omega) (K ad V2 M2 hb1 hR2 hI2)
theorem LC_13 {E : EN} {X : CX} {P : Option Value → MH → Prop} {ad : AD} {V : St} {M : MH} {fu b b1 b2 Ls k kc ks : Nat} {xs : Nat → Int32} (hfu : 1000000000 ≤ fu) (hX : Scr E X b Ls xs) (hk : 6 * k + 6 ≤ Ls) (hL : Ls ≤ 3072) (hb : ad 2100 0 = b1 ∧ ad 2200 0 = b2) (hR : Rep E ad V M) (hI : Inv k V) (hc : kc + 12 ≤ 600000 ∧ ks + 3009 ≤ 7302250)
    (K : ∀ (ad' : AD) (V' : St) (M' : MH), ad' 2100 0 = b1 ∧ ad' 2200 0 = b2 → Rep E ad' V' M' → Inv (k + 1) V' → GL E X P M' b b1 b2 k (kc + 12) (ks + 3009) 1745 []) : GL E X P M b b1 b2 k kc ks 729 [] := by
  obtain ⟨r, V1, V2, h1, h2, hI2⟩ := P_yards (fu := fu) hI (xs (6 * k + 1)) (xs (6 * k + 2)) (xs (6 * k + 3)) 
  obtain ⟨fs1, hM1⟩ := lw_obj1 hR hb.1
  have hC1 := C_X11_yards (out := (r, V1)) (cxL X) hR h1
  rw [hb.1] at hC1
  refine r_aload_n DL_law_729 rfl ?_
  refine lw_arg (j := 1) hX hk hL (by decide) (by decide) DL_law_730 DL_law_731 DL_law_732 DL_law_733 DL_law_734 ?_
  refine lw_arg (j := 2) hX hk hL (by decide) (by decide) DL_law_735 DL_law_736 DL_law_737 DL_law_738 DL_law_739 ?_
  refine lw_arg (j := 3) hX hk hL (by decide) (by decide) DL_law_740 DL_law_741 DL_law_742 DL_law_743 DL_law_744 ?_
  refine r_callV (As := [.int (xs (6 * k + 1)), .int (xs (6 * k + 2)), .int (xs (6 * k + 3))]) (rest := []) DL_law_745 cv__law_73 hM1 rfl hC1 rfl (lw_fitD (by decide) (by decide) (by omega) (by omega)) rfl (Nat.le_of_ble_eq_true rfl) (fun v1 M1 hp1 => ?_)
  obtain ⟨rfl, hR1⟩ := hp1
  have hb1 := hb
  obtain ⟨fs2, hM2⟩ := lw_obj2 hR1 hb1.2
  have hC2 := C_X12_yards (out := (r, V2)) (cxL X) hR1 h2
  rw [hb1.2] at hC2
  show GL E X P M1 b b1 b2 k (kc + 0) (ks + 0) 748 [.int r]
  refine r_aload_n DL_law_748 rfl ?_
  refine lw_arg (j := 1) hX hk hL (by decide) (by decide) DL_law_749 DL_law_750 DL_law_751 DL_law_752 DL_law_753 ?_
  refine lw_arg (j := 2) hX hk hL (by decide) (by decide) DL_law_754 DL_law_755 DL_law_756 DL_law_757 DL_law_758 ?_
  refine lw_arg (j := 3) hX hk hL (by decide) (by decide) DL_law_759 DL_law_760 DL_law_761 DL_law_762 DL_law_763 ?_
  refine r_callV (As := [.int (xs (6 * k + 1)), .int (xs (6 * k + 2)), .int (xs (6 * k + 3))]) (rest := [.int r]) DL_law_764 cv__law_76 hM2 rfl hC2 rfl (lw_fitD (by decide) (by decide) (by omega) (by omega)) rfl (Nat.le_of_ble_eq_true rfl) (fun v2 M2 hp2 => ?_)
  obtain ⟨rfl, hR2⟩ := hp2
  show GL E X P M2 b b1 b2 k (kc + 0) (ks + 0) 767 [.int r, .int r]
  refine r_icmp_eq DL_law_767 (fun _ => ?_) (fun h => absurd rfl h)
  exact r_widen (by omega) (by omega) (K ad V2 M2 hb1 hR2 hI2)
theorem LC_14 {E : EN} {X : CX} {P : Option Value → MH → Prop} {ad : AD} {V : St} {M : MH} {fu b b1 b2 Ls k kc ks : Nat} {xs : Nat → Int32} (hfu : 1000000000 ≤ fu) (hX : Scr E X b Ls xs) (hk : 6 * k + 6 ≤ Ls) (hL : Ls ≤ 3072) (hb : ad 2100 0 = b1 ∧ ad 2200 0 = b2) (hR : Rep E ad V M) (hI : Inv k V) (hc : kc + 12 ≤ 600000 ∧ ks + 3009 ≤ 7302250)
    (K : ∀ (ad' : AD) (V' : St) (M' : MH), ad' 2100 0 = b1 ∧ ad' 2200 0 = b2 → Rep E ad' V' M' → Inv (k + 1) V' → GL E X P M' b b1 b2 k (kc + 12) (ks + 3009) 1745 []) : GL E X P M b b1 b2 k kc ks 772 [] := by
  obtain ⟨r, V1, V2, h1, h2, hI2⟩ := P_feed (fu := fu) (Nat.le_trans (by decide) hfu) hI (xs (6 * k + 1)) (xs (6 * k + 2)) (xs (6 * k + 3)) (xs (6 * k + 4)) (xs (6 * k + 5)) 
  obtain ⟨fs1, hM1⟩ := lw_obj1 hR hb.1
  have hC1 := C_X11_feed (out := (r, V1)) (cxL X) hR h1
  rw [hb.1] at hC1
  refine r_aload_n DL_law_772 rfl ?_
  refine lw_arg (j := 1) hX hk hL (by decide) (by decide) DL_law_773 DL_law_774 DL_law_775 DL_law_776 DL_law_777 ?_
  refine lw_arg (j := 2) hX hk hL (by decide) (by decide) DL_law_778 DL_law_779 DL_law_780 DL_law_781 DL_law_782 ?_
  refine lw_arg (j := 3) hX hk hL (by decide) (by decide) DL_law_783 DL_law_784 DL_law_785 DL_law_786 DL_law_787 ?_
  refine lw_arg (j := 4) hX hk hL (by decide) (by decide) DL_law_788 DL_law_789 DL_law_790 DL_law_791 DL_law_792 ?_
  refine lw_arg (j := 5) hX hk hL (by decide) (by decide) DL_law_793 DL_law_794 DL_law_795 DL_law_796 DL_law_797 ?_
  refine r_callV (As := [.int (xs (6 * k + 1)), .int (xs (6 * k + 2)), .int (xs (6 * k + 3)), .int (xs (6 * k + 4)), .int (xs (6 * k + 5))]) (rest := []) DL_law_798 cv__law_77 hM1 rfl hC1 rfl (lw_fitD (by decide) (by decide) (by omega) (by omega)) rfl (Nat.le_of_ble_eq_true rfl) (fun v1 M1 hp1 => ?_)
  obtain ⟨rfl, hR1⟩ := hp1
  have hb1 := hb
  obtain ⟨fs2, hM2⟩ := lw_obj2 hR1 hb1.2
  have hC2 := C_X12_feed (out := (r, V2)) (cxL X) hR1 h2
  rw [hb1.2] at hC2
  show GL E X P M1 b b1 b2 k (kc + 0) (ks + 0) 801 [.int r]
  refine r_aload_n DL_law_801 rfl ?_
  refine lw_arg (j := 1) hX hk hL (by decide) (by decide) DL_law_802 DL_law_803 DL_law_804 DL_law_805 DL_law_806 ?_
  refine lw_arg (j := 2) hX hk hL (by decide) (by decide) DL_law_807 DL_law_808 DL_law_809 DL_law_810 DL_law_811 ?_
  refine lw_arg (j := 3) hX hk hL (by decide) (by decide) DL_law_812 DL_law_813 DL_law_814 DL_law_815 DL_law_816 ?_
  refine lw_arg (j := 4) hX hk hL (by decide) (by decide) DL_law_817 DL_law_818 DL_law_819 DL_law_820 DL_law_821 ?_
  refine lw_arg (j := 5) hX hk hL (by decide) (by decide) DL_law_822 DL_law_823 DL_law_824 DL_law_825 DL_law_826 ?_
  refine r_callV (As := [.int (xs (6 * k + 1)), .int (xs (6 * k + 2)), .int (xs (6 * k + 3)), .int (xs (6 * k + 4)), .int (xs (6 * k + 5))]) (rest := [.int r]) DL_law_827 cv__law_80 hM2 rfl hC2 rfl (lw_fitD (by decide) (by decide) (by omega) (by omega)) rfl (Nat.le_of_ble_eq_true rfl) (fun v2 M2 hp2 => ?_)
  obtain ⟨rfl, hR2⟩ := hp2
  show GL E X P M2 b b1 b2 k (kc + 0) (ks + 0) 830 [.int r, .int r]
  refine r_icmp_eq DL_law_830 (fun _ => ?_) (fun h => absurd rfl h)
  exact r_widen (by omega) (by omega) (K ad V2 M2 hb1 hR2 hI2)
theorem LC_15 {E : EN} {X : CX} {P : Option Value → MH → Prop} {ad : AD} {V : St} {M : MH} {fu b b1 b2 Ls k kc ks : Nat} {xs : Nat → Int32} (hfu : 1000000000 ≤ fu) (hX : Scr E X b Ls xs) (hk : 6 * k + 6 ≤ Ls) (hL : Ls ≤ 3072) (hb : ad 2100 0 = b1 ∧ ad 2200 0 = b2) (hR : Rep E ad V M) (hI : Inv k V) (hc : kc + 12 ≤ 600000 ∧ ks + 3009 ≤ 7302250)
    (K : ∀ (ad' : AD) (V' : St) (M' : MH), ad' 2100 0 = b1 ∧ ad' 2200 0 = b2 → Rep E ad' V' M' → Inv (k + 1) V' → GL E X P M' b b1 b2 k (kc + 12) (ks + 3009) 1745 []) : GL E X P M b b1 b2 k kc ks 835 [] := by
  obtain ⟨r, V1, V2, h1, h2, hI2⟩ := P_order (fu := fu) (Nat.le_trans (by decide) hfu) hI (xs (6 * k + 1)) (xs (6 * k + 2)) (xs (6 * k + 3)) 
  obtain ⟨fs1, hM1⟩ := lw_obj1 hR hb.1
  have hC1 := C_X11_order (out := (r, V1)) (cxL X) hR h1
  rw [hb.1] at hC1
  refine r_aload_n DL_law_835 rfl ?_
  refine lw_arg (j := 1) hX hk hL (by decide) (by decide) DL_law_836 DL_law_837 DL_law_838 DL_law_839 DL_law_840 ?_
  refine lw_arg (j := 2) hX hk hL (by decide) (by decide) DL_law_841 DL_law_842 DL_law_843 DL_law_844 DL_law_845 ?_
  refine lw_arg (j := 3) hX hk hL (by decide) (by decide) DL_law_846 DL_law_847 DL_law_848 DL_law_849 DL_law_850 ?_
  refine r_callV (As := [.int (xs (6 * k + 1)), .int (xs (6 * k + 2)), .int (xs (6 * k + 3))]) (rest := []) DL_law_851 cv__law_81 hM1 rfl hC1 rfl (lw_fitA (by decide) (by decide) (by omega) (by omega)) rfl (Nat.le_of_ble_eq_true rfl) (fun v1 M1 hp1 => ?_)
  obtain ⟨rfl, ad1, hq1, hR1⟩ := hp1
  have hb1 : ad1 2100 0 = b1 ∧ ad1 2200 0 = b2 := ⟨hq1.1, hq1.2.trans hb.2⟩
  obtain ⟨fs2, hM2⟩ := lw_obj2 hR1 hb1.2
  have hC2 := C_X12_order (out := (r, V2)) (cxL X) hR1 h2
  rw [hb1.2] at hC2
  show GL E X P M1 b b1 b2 k (kc + 7) (ks + 3009) 854 [.int r]
  refine r_aload_n DL_law_854 rfl ?_
  refine lw_arg (j := 1) hX hk hL (by decide) (by decide) DL_law_855 DL_law_856 DL_law_857 DL_law_858 DL_law_859 ?_
  refine lw_arg (j := 2) hX hk hL (by decide) (by decide) DL_law_860 DL_law_861 DL_law_862 DL_law_863 DL_law_864 ?_
  refine lw_arg (j := 3) hX hk hL (by decide) (by decide) DL_law_865 DL_law_866 DL_law_867 DL_law_868 DL_law_869 ?_
  refine r_callV (As := [.int (xs (6 * k + 1)), .int (xs (6 * k + 2)), .int (xs (6 * k + 3))]) (rest := [.int r]) DL_law_870 cv__law_84 hM2 rfl hC2 rfl (lw_fitD (by decide) (by decide) (by omega) (by omega)) rfl (Nat.le_of_ble_eq_true rfl) (fun v2 M2 hp2 => ?_)
  obtain ⟨rfl, hR2⟩ := hp2
  show GL E X P M2 b b1 b2 k (kc + 7) (ks + 3009) 873 [.int r, .int r]
  refine r_icmp_eq DL_law_873 (fun _ => ?_) (fun h => absurd rfl h)
  exact r_widen (by omega) (by omega) (K ad1 V2 M2 hb1 hR2 hI2)
theorem LC_16 {E : EN} {X : CX} {P : Option Value → MH → Prop} {ad : AD} {V : St} {M : MH} {fu b b1 b2 Ls k kc ks : Nat} {xs : Nat → Int32} (hfu : 1000000000 ≤ fu) (hX : Scr E X b Ls xs) (hk : 6 * k + 6 ≤ Ls) (hL : Ls ≤ 3072) (hb : ad 2100 0 = b1 ∧ ad 2200 0 = b2) (hR : Rep E ad V M) (hI : Inv k V) (hc : kc + 12 ≤ 600000 ∧ ks + 3009 ≤ 7302250)
    (K : ∀ (ad' : AD) (V' : St) (M' : MH), ad' 2100 0 = b1 ∧ ad' 2200 0 = b2 → Rep E ad' V' M' → Inv (k + 1) V' → GL E X P M' b b1 b2 k (kc + 12) (ks + 3009) 1745 []) : GL E X P M b b1 b2 k kc ks 878 [] := by
  obtain ⟨r, V1, V2, h1, h2, hI2⟩ := P_number (fu := fu) (Nat.le_trans (by decide) hfu) hI (xs (6 * k + 1)) (xs (6 * k + 2)) (xs (6 * k + 3)) (xs (6 * k + 4)) (xs (6 * k + 5)) 
  obtain ⟨fs1, hM1⟩ := lw_obj1 hR hb.1
  have hC1 := C_X11_number (out := (r, V1)) (cxL X) hR h1
  rw [hb.1] at hC1
  refine r_aload_n DL_law_878 rfl ?_
  refine lw_arg (j := 1) hX hk hL (by decide) (by decide) DL_law_879 DL_law_880 DL_law_881 DL_law_882 DL_law_883 ?_
  refine lw_arg (j := 2) hX hk hL (by decide) (by decide) DL_law_884 DL_law_885 DL_law_886 DL_law_887 DL_law_888 ?_
  refine lw_arg (j := 3) hX hk hL (by decide) (by decide) DL_law_889 DL_law_890 DL_law_891 DL_law_892 DL_law_893 ?_
  refine lw_arg (j := 4) hX hk hL (by decide) (by decide) DL_law_894 DL_law_895 DL_law_896 DL_law_897 DL_law_898 ?_
  refine lw_arg (j := 5) hX hk hL (by decide) (by decide) DL_law_899 DL_law_900 DL_law_901 DL_law_902 DL_law_903 ?_
  refine r_callV (As := [.int (xs (6 * k + 1)), .int (xs (6 * k + 2)), .int (xs (6 * k + 3)), .int (xs (6 * k + 4)), .int (xs (6 * k + 5))]) (rest := []) DL_law_904 cv__law_85 hM1 rfl hC1 rfl (lw_fitD (by decide) (by decide) (by omega) (by omega)) rfl (Nat.le_of_ble_eq_true rfl) (fun v1 M1 hp1 => ?_)
  obtain ⟨rfl, hR1⟩ := hp1
  have hb1 := hb
  obtain ⟨fs2, hM2⟩ := lw_obj2 hR1 hb1.2
  have hC2 := C_X12_number (out := (r, V2)) (cxL X) hR1 h2
  rw [hb1.2] at hC2
  show GL E X P M1 b b1 b2 k (kc + 0) (ks + 0) 907 [.int r]
  refine r_aload_n DL_law_907 rfl ?_
  refine lw_arg (j := 1) hX hk hL (by decide) (by decide) DL_law_908 DL_law_909 DL_law_910 DL_law_911 DL_law_912 ?_
  refine lw_arg (j := 2) hX hk hL (by decide) (by decide) DL_law_913 DL_law_914 DL_law_915 DL_law_916 DL_law_917 ?_
  refine lw_arg (j := 3) hX hk hL (by decide) (by decide) DL_law_918 DL_law_919 DL_law_920 DL_law_921 DL_law_922 ?_
  refine lw_arg (j := 4) hX hk hL (by decide) (by decide) DL_law_923 DL_law_924 DL_law_925 DL_law_926 DL_law_927 ?_
  refine lw_arg (j := 5) hX hk hL (by decide) (by decide) DL_law_928 DL_law_929 DL_law_930 DL_law_931 DL_law_932 ?_
  refine r_callV (As := [.int (xs (6 * k + 1)), .int (xs (6 * k + 2)), .int (xs (6 * k + 3)), .int (xs (6 * k + 4)), .int (xs (6 * k + 5))]) (rest := [.int r]) DL_law_933 cv__law_88 hM2 rfl hC2 rfl (lw_fitD (by decide) (by decide) (by omega) (by omega)) rfl (Nat.le_of_ble_eq_true rfl) (fun v2 M2 hp2 => ?_)
  obtain ⟨rfl, hR2⟩ := hp2
  show GL E X P M2 b b1 b2 k (kc + 0) (ks + 0) 936 [.int r, .int r]
  refine r_icmp_eq DL_law_936 (fun _ => ?_) (fun h => absurd rfl h)
  exact r_widen (by omega) (by omega) (K ad V2 M2 hb1 hR2 hI2)
theorem LC_17 {E : EN} {X : CX} {P : Option Value → MH → Prop} {ad : AD} {V : St} {M : MH} {fu b b1 b2 Ls k kc ks : Nat} {xs : Nat → Int32} (hfu : 1000000000 ≤ fu) (hX : Scr E X b Ls xs) (hk : 6 * k + 6 ≤ Ls) (hL : Ls ≤ 3072) (hb : ad 2100 0 = b1 ∧ ad 2200 0 = b2) (hR : Rep E ad V M) (hI : Inv k V) (hc : kc + 12 ≤ 600000 ∧ ks + 3009 ≤ 7302250)
    (K : ∀ (ad' : AD) (V' : St) (M' : MH), ad' 2100 0 = b1 ∧ ad' 2200 0 = b2 → Rep E ad' V' M' → Inv (k + 1) V' → GL E X P M' b b1 b2 k (kc + 12) (ks + 3009) 1745 []) : GL E X P M b b1 b2 k kc ks 941 [] := by
  obtain ⟨r, V1, V2, h1, h2, hI2⟩ := P_why (fu := fu) (Nat.le_trans (by decide) hfu) hI (xs (6 * k + 1)) (xs (6 * k + 2)) (xs (6 * k + 3)) 
  obtain ⟨fs1, hM1⟩ := lw_obj1 hR hb.1
  have hC1 := C_X11_why (out := (r, V1)) (cxL X) hR h1
  rw [hb.1] at hC1
  refine r_aload_n DL_law_941 rfl ?_
  refine lw_arg (j := 1) hX hk hL (by decide) (by decide) DL_law_942 DL_law_943 DL_law_944 DL_law_945 DL_law_946 ?_
  refine lw_arg (j := 2) hX hk hL (by decide) (by decide) DL_law_947 DL_law_948 DL_law_949 DL_law_950 DL_law_951 ?_
  refine lw_arg (j := 3) hX hk hL (by decide) (by decide) DL_law_952 DL_law_953 DL_law_954 DL_law_955 DL_law_956 ?_
  refine r_callV (As := [.int (xs (6 * k + 1)), .int (xs (6 * k + 2)), .int (xs (6 * k + 3))]) (rest := []) DL_law_957 cv__law_89 hM1 rfl hC1 rfl (lw_fitD (by decide) (by decide) (by omega) (by omega)) rfl (Nat.le_of_ble_eq_true rfl) (fun v1 M1 hp1 => ?_)
  obtain ⟨rfl, hR1⟩ := hp1
  have hb1 := hb
  obtain ⟨fs2, hM2⟩ := lw_obj2 hR1 hb1.2
  have hC2 := C_X12_why (out := (r, V2)) (cxL X) hR1 h2
  rw [hb1.2] at hC2
  show GL E X P M1 b b1 b2 k (kc + 0) (ks + 0) 960 [.int r]
  refine r_aload_n DL_law_960 rfl ?_
  refine lw_arg (j := 1) hX hk hL (by decide) (by decide) DL_law_961 DL_law_962 DL_law_963 DL_law_964 DL_law_965 ?_
  refine lw_arg (j := 2) hX hk hL (by decide) (by decide) DL_law_966 DL_law_967 DL_law_968 DL_law_969 DL_law_970 ?_
  refine lw_arg (j := 3) hX hk hL (by decide) (by decide) DL_law_971 DL_law_972 DL_law_973 DL_law_974 DL_law_975 ?_
  refine r_callV (As := [.int (xs (6 * k + 1)), .int (xs (6 * k + 2)), .int (xs (6 * k + 3))]) (rest := [.int r]) DL_law_976 cv__law_92 hM2 rfl hC2 rfl (lw_fitD (by decide) (by decide) (by omega) (by omega)) rfl (Nat.le_of_ble_eq_true rfl) (fun v2 M2 hp2 => ?_)
  obtain ⟨rfl, hR2⟩ := hp2
  show GL E X P M2 b b1 b2 k (kc + 0) (ks + 0) 979 [.int r, .int r]
  refine r_icmp_eq DL_law_979 (fun _ => ?_) (fun h => absurd rfl h)
  exact r_widen (by omega) (by omega) (K ad V2 M2 hb1 hR2 hI2)
theorem LC_18 {E : EN} {X : CX} {P : Option Value → MH → Prop} {ad : AD} {V : St} {M : MH} {fu b b1 b2 Ls k kc ks : Nat} {xs : Nat → Int32} (hfu : 1000000000 ≤ fu) (hX : Scr E X b Ls xs) (hk : 6 * k + 6 ≤ Ls) (hL : Ls ≤ 3072) (hb : ad 2100 0 = b1 ∧ ad 2200 0 = b2) (hR : Rep E ad V M) (hI : Inv k V) (hc : kc + 12 ≤ 600000 ∧ ks + 3009 ≤ 7302250)
    (K : ∀ (ad' : AD) (V' : St) (M' : MH), ad' 2100 0 = b1 ∧ ad' 2200 0 = b2 → Rep E ad' V' M' → Inv (k + 1) V' → GL E X P M' b b1 b2 k (kc + 12) (ks + 3009) 1745 []) : GL E X P M b b1 b2 k kc ks 984 [] := by
  obtain ⟨r, V1, V2, h1, h2, hI2⟩ := P_makes (fu := fu) (Nat.le_trans (by decide) hfu) (by omega) hI (xs (6 * k + 1)) (xs (6 * k + 2)) (xs (6 * k + 3)) (if xs (6 * k + 4) = 0 then 0 else 1) (lw_01 _)
  obtain ⟨fs1, hM1⟩ := lw_obj1 hR hb.1
  have hC1 := C_X11_makes (out := (r, V1)) (cxL X) hR h1
  rw [hb.1] at hC1
  refine r_aload_n DL_law_984 rfl ?_
  refine lw_arg (j := 1) hX hk hL (by decide) (by decide) DL_law_985 DL_law_986 DL_law_987 DL_law_988 DL_law_989 ?_
  refine lw_arg (j := 2) hX hk hL (by decide) (by decide) DL_law_990 DL_law_991 DL_law_992 DL_law_993 DL_law_994 ?_
  refine lw_arg (j := 3) hX hk hL (by decide) (by decide) DL_law_995 DL_law_996 DL_law_997 DL_law_998 DL_law_999 ?_
  refine lw_argB (j := 4) hX hk hL (by decide) (by decide) DL_law_1000 DL_law_1001 DL_law_1002 DL_law_1003 DL_law_1004 DL_law_1005 DL_law_1008 DL_law_1009 DL_law_1012 ?_
  refine r_callV (As := [.int (xs (6 * k + 1)), .int (xs (6 * k + 2)), .int (xs (6 * k + 3)), .int (if xs (6 * k + 4) = 0 then 0 else 1)]) (rest := []) DL_law_1013 cv__law_93 hM1 rfl hC1 rfl (lw_fitA (by decide) (by decide) (by omega) (by omega)) rfl (Nat.le_of_ble_eq_true rfl) (fun v1 M1 hp1 => ?_)
  obtain ⟨rfl, ad1, hq1, hR1⟩ := hp1
  have hb1 : ad1 2100 0 = b1 ∧ ad1 2200 0 = b2 := ⟨hq1.1, hq1.2.trans hb.2⟩
  obtain ⟨fs2, hM2⟩ := lw_obj2 hR1 hb1.2
  have hC2 := C_X12_makes (out := (r, V2)) (cxL X) hR1 h2
  rw [hb1.2] at hC2
  show GL E X P M1 b b1 b2 k (kc + 2) (ks + 2004) 1016 [.int r]
  refine r_aload_n DL_law_1016 rfl ?_
  refine lw_arg (j := 1) hX hk hL (by decide) (by decide) DL_law_1017 DL_law_1018 DL_law_1019 DL_law_1020 DL_law_1021 ?_
  refine lw_arg (j := 2) hX hk hL (by decide) (by decide) DL_law_1022 DL_law_1023 DL_law_1024 DL_law_1025 DL_law_1026 ?_
  refine lw_arg (j := 3) hX hk hL (by decide) (by decide) DL_law_1027 DL_law_1028 DL_law_1029 DL_law_1030 DL_law_1031 ?_
  refine lw_argB (j := 4) hX hk hL (by decide) (by decide) DL_law_1032 DL_law_1033 DL_law_1034 DL_law_1035 DL_law_1036 DL_law_1037 DL_law_1040 DL_law_1041 DL_law_1044 ?_
  refine r_callV (As := [.int (xs (6 * k + 1)), .int (xs (6 * k + 2)), .int (xs (6 * k + 3)), .int (if xs (6 * k + 4) = 0 then 0 else 1)]) (rest := [.int r]) DL_law_1045 cv__law_97 hM2 rfl hC2 rfl (lw_fitD (by decide) (by decide) (by omega) (by omega)) rfl (Nat.le_of_ble_eq_true rfl) (fun v2 M2 hp2 => ?_)
  obtain ⟨rfl, hR2⟩ := hp2
  show GL E X P M2 b b1 b2 k (kc + 2) (ks + 2004) 1048 [.int r, .int r]
  refine r_icmp_eq DL_law_1048 (fun _ => ?_) (fun h => absurd rfl h)
  exact r_widen (by omega) (by omega) (K ad1 V2 M2 hb1 hR2 hI2)
theorem LC_19 {E : EN} {X : CX} {P : Option Value → MH → Prop} {ad : AD} {V : St} {M : MH} {fu b b1 b2 Ls k kc ks : Nat} {xs : Nat → Int32} (hfu : 1000000000 ≤ fu) (hX : Scr E X b Ls xs) (hk : 6 * k + 6 ≤ Ls) (hL : Ls ≤ 3072) (hb : ad 2100 0 = b1 ∧ ad 2200 0 = b2) (hR : Rep E ad V M) (hI : Inv k V) (hc : kc + 12 ≤ 600000 ∧ ks + 3009 ≤ 7302250)
    (K : ∀ (ad' : AD) (V' : St) (M' : MH), ad' 2100 0 = b1 ∧ ad' 2200 0 = b2 → Rep E ad' V' M' → Inv (k + 1) V' → GL E X P M' b b1 b2 k (kc + 12) (ks + 3009) 1745 []) : GL E X P M b b1 b2 k kc ks 1053 [] := by
  obtain ⟨r, V1, V2, h1, h2, hI2⟩ := P_person (fu := fu) hI (xs (6 * k + 1)) 
  obtain ⟨fs1, hM1⟩ := lw_obj1 hR hb.1
  have hC1 := C_X11_person (out := (r, V1)) (cxL X) hR h1
  rw [hb.1] at hC1
  refine r_aload_n DL_law_1053 rfl ?_
  refine lw_arg (j := 1) hX hk hL (by decide) (by decide) DL_law_1054 DL_law_1055 DL_law_1056 DL_law_1057 DL_law_1058 ?_
  refine r_callV (As := [.int (xs (6 * k + 1))]) (rest := []) DL_law_1059 cv__law_98 hM1 rfl hC1 rfl (lw_fitA (by decide) (by decide) (by omega) (by omega)) rfl (Nat.le_of_ble_eq_true rfl) (fun v1 M1 hp1 => ?_)
  obtain ⟨rfl, ad1, hq1, hR1⟩ := hp1
  have hb1 : ad1 2100 0 = b1 ∧ ad1 2200 0 = b2 := ⟨hq1.1, hq1.2.trans hb.2⟩
  obtain ⟨fs2, hM2⟩ := lw_obj2 hR1 hb1.2
  have hC2 := C_X12_person (out := (r, V2)) (cxL X) hR1 h2
  rw [hb1.2] at hC2
  show GL E X P M1 b b1 b2 k (kc + 2) (ks + 2002) 1062 [.int r]
  refine r_aload_n DL_law_1062 rfl ?_
  refine lw_arg (j := 1) hX hk hL (by decide) (by decide) DL_law_1063 DL_law_1064 DL_law_1065 DL_law_1066 DL_law_1067 ?_
  refine r_callV (As := [.int (xs (6 * k + 1))]) (rest := [.int r]) DL_law_1068 cv__law_101 hM2 rfl hC2 rfl (lw_fitD (by decide) (by decide) (by omega) (by omega)) rfl (Nat.le_of_ble_eq_true rfl) (fun v2 M2 hp2 => ?_)
  obtain ⟨rfl, hR2⟩ := hp2
  show GL E X P M2 b b1 b2 k (kc + 2) (ks + 2002) 1071 [.int r, .int r]
  refine r_icmp_eq DL_law_1071 (fun _ => ?_) (fun h => absurd rfl h)
  exact r_widen (by omega) (by omega) (K ad1 V2 M2 hb1 hR2 hI2)
theorem LC_20 {E : EN} {X : CX} {P : Option Value → MH → Prop} {ad : AD} {V : St} {M : MH} {fu b b1 b2 Ls k kc ks : Nat} {xs : Nat → Int32} (hfu : 1000000000 ≤ fu) (hX : Scr E X b Ls xs) (hk : 6 * k + 6 ≤ Ls) (hL : Ls ≤ 3072) (hb : ad 2100 0 = b1 ∧ ad 2200 0 = b2) (hR : Rep E ad V M) (hI : Inv k V) (hc : kc + 12 ≤ 600000 ∧ ks + 3009 ≤ 7302250)
    (K : ∀ (ad' : AD) (V' : St) (M' : MH), ad' 2100 0 = b1 ∧ ad' 2200 0 = b2 → Rep E ad' V' M' → Inv (k + 1) V' → GL E X P M' b b1 b2 k (kc + 12) (ks + 3009) 1745 []) : GL E X P M b b1 b2 k kc ks 1076 [] := by
  obtain ⟨r, V1, V2, h1, h2, hI2⟩ := P_price (fu := fu) hI (xs (6 * k + 1)) (xs (6 * k + 2)) 
  obtain ⟨fs1, hM1⟩ := lw_obj1 hR hb.1
  have hC1 := C_X11_price (out := (r, V1)) (cxL X) hR h1
  rw [hb.1] at hC1
  refine r_aload_n DL_law_1076 rfl ?_
  refine lw_arg (j := 1) hX hk hL (by decide) (by decide) DL_law_1077 DL_law_1078 DL_law_1079 DL_law_1080 DL_law_1081 ?_
  refine lw_arg (j := 2) hX hk hL (by decide) (by decide) DL_law_1082 DL_law_1083 DL_law_1084 DL_law_1085 DL_law_1086 ?_
  refine r_callV (As := [.int (xs (6 * k + 1)), .int (xs (6 * k + 2))]) (rest := []) DL_law_1087 cv__law_102 hM1 rfl hC1 rfl (lw_fitD (by decide) (by decide) (by omega) (by omega)) rfl (Nat.le_of_ble_eq_true rfl) (fun v1 M1 hp1 => ?_)
  obtain ⟨rfl, hR1⟩ := hp1
  have hb1 := hb
  obtain ⟨fs2, hM2⟩ := lw_obj2 hR1 hb1.2
  have hC2 := C_X12_price (out := (r, V2)) (cxL X) hR1 h2
  rw [hb1.2] at hC2
  show GL E X P M1 b b1 b2 k (kc + 0) (ks + 0) 1090 [.int r]
  refine r_aload_n DL_law_1090 rfl ?_
  refine lw_arg (j := 1) hX hk hL (by decide) (by decide) DL_law_1091 DL_law_1092 DL_law_1093 DL_law_1094 DL_law_1095 ?_
  refine lw_arg (j := 2) hX hk hL (by decide) (by decide) DL_law_1096 DL_law_1097 DL_law_1098 DL_law_1099 DL_law_1100 ?_
  refine r_callV (As := [.int (xs (6 * k + 1)), .int (xs (6 * k + 2))]) (rest := [.int r]) DL_law_1101 cv__law_106 hM2 rfl hC2 rfl (lw_fitD (by decide) (by decide) (by omega) (by omega)) rfl (Nat.le_of_ble_eq_true rfl) (fun v2 M2 hp2 => ?_)
  obtain ⟨rfl, hR2⟩ := hp2
  show GL E X P M2 b b1 b2 k (kc + 0) (ks + 0) 1104 [.int r, .int r]
  refine r_icmp_eq DL_law_1104 (fun _ => ?_) (fun h => absurd rfl h)
  exact r_widen (by omega) (by omega) (K ad V2 M2 hb1 hR2 hI2)
theorem LC_21 {E : EN} {X : CX} {P : Option Value → MH → Prop} {ad : AD} {V : St} {M : MH} {fu b b1 b2 Ls k kc ks : Nat} {xs : Nat → Int32} (hfu : 1000000000 ≤ fu) (hX : Scr E X b Ls xs) (hk : 6 * k + 6 ≤ Ls) (hL : Ls ≤ 3072) (hb : ad 2100 0 = b1 ∧ ad 2200 0 = b2) (hR : Rep E ad V M) (hI : Inv k V) (hc : kc + 12 ≤ 600000 ∧ ks + 3009 ≤ 7302250)
    (K : ∀ (ad' : AD) (V' : St) (M' : MH), ad' 2100 0 = b1 ∧ ad' 2200 0 = b2 → Rep E ad' V' M' → Inv (k + 1) V' → GL E X P M' b b1 b2 k (kc + 12) (ks + 3009) 1745 []) : GL E X P M b b1 b2 k kc ks 1109 [] := by
  obtain ⟨r, V1, V2, h1, h2, hI2⟩ := P_buys (fu := fu) (Nat.le_trans (by decide) hfu) (by omega) hI (xs (6 * k + 1)) (xs (6 * k + 2)) (if xs (6 * k + 3) = 0 then 0 else 1) (lw_01 _)
  obtain ⟨fs1, hM1⟩ := lw_obj1 hR hb.1
  have hC1 := C_X11_buys (out := (r, V1)) (cxL X) hR h1
  rw [hb.1] at hC1
  refine r_aload_n DL_law_1109 rfl ?_
  refine lw_arg (j := 1) hX hk hL (by decide) (by decide) DL_law_1110 DL_law_1111 DL_law_1112 DL_law_1113 DL_law_1114 ?_
  refine lw_arg (j := 2) hX hk hL (by decide) (by decide) DL_law_1115 DL_law_1116 DL_law_1117 DL_law_1118 DL_law_1119 ?_
  refine lw_argB (j := 3) hX hk hL (by decide) (by decide) DL_law_1120 DL_law_1121 DL_law_1122 DL_law_1123 DL_law_1124 DL_law_1125 DL_law_1128 DL_law_1129 DL_law_1132 ?_
  refine r_callV (As := [.int (xs (6 * k + 1)), .int (xs (6 * k + 2)), .int (if xs (6 * k + 3) = 0 then 0 else 1)]) (rest := []) DL_law_1133 cv__law_107 hM1 rfl hC1 rfl (lw_fitA (by decide) (by decide) (by omega) (by omega)) rfl (Nat.le_of_ble_eq_true rfl) (fun v1 M1 hp1 => ?_)
  obtain ⟨rfl, ad1, hq1, hR1⟩ := hp1
  have hb1 : ad1 2100 0 = b1 ∧ ad1 2200 0 = b2 := ⟨hq1.1, hq1.2.trans hb.2⟩
  obtain ⟨fs2, hM2⟩ := lw_obj2 hR1 hb1.2
  have hC2 := C_X12_buys (out := (r, V2)) (cxL X) hR1 h2
  rw [hb1.2] at hC2
  show GL E X P M1 b b1 b2 k (kc + 2) (ks + 2004) 1136 [.int r]
  refine r_aload_n DL_law_1136 rfl ?_
  refine lw_arg (j := 1) hX hk hL (by decide) (by decide) DL_law_1137 DL_law_1138 DL_law_1139 DL_law_1140 DL_law_1141 ?_
  refine lw_arg (j := 2) hX hk hL (by decide) (by decide) DL_law_1142 DL_law_1143 DL_law_1144 DL_law_1145 DL_law_1146 ?_
  refine lw_argB (j := 3) hX hk hL (by decide) (by decide) DL_law_1147 DL_law_1148 DL_law_1149 DL_law_1150 DL_law_1151 DL_law_1152 DL_law_1155 DL_law_1156 DL_law_1159 ?_
  refine r_callV (As := [.int (xs (6 * k + 1)), .int (xs (6 * k + 2)), .int (if xs (6 * k + 3) = 0 then 0 else 1)]) (rest := [.int r]) DL_law_1160 cv__law_111 hM2 rfl hC2 rfl (lw_fitD (by decide) (by decide) (by omega) (by omega)) rfl (Nat.le_of_ble_eq_true rfl) (fun v2 M2 hp2 => ?_)
  obtain ⟨rfl, hR2⟩ := hp2
  show GL E X P M2 b b1 b2 k (kc + 2) (ks + 2004) 1163 [.int r, .int r]
  refine r_icmp_eq DL_law_1163 (fun _ => ?_) (fun h => absurd rfl h)
  exact r_widen (by omega) (by omega) (K ad1 V2 M2 hb1 hR2 hI2)
theorem LC_22 {E : EN} {X : CX} {P : Option Value → MH → Prop} {ad : AD} {V : St} {M : MH} {fu b b1 b2 Ls k kc ks : Nat} {xs : Nat → Int32} (hfu : 1000000000 ≤ fu) (hX : Scr E X b Ls xs) (hk : 6 * k + 6 ≤ Ls) (hL : Ls ≤ 3072) (hb : ad 2100 0 = b1 ∧ ad 2200 0 = b2) (hR : Rep E ad V M) (hI : Inv k V) (hc : kc + 12 ≤ 600000 ∧ ks + 3009 ≤ 7302250)
    (K : ∀ (ad' : AD) (V' : St) (M' : MH), ad' 2100 0 = b1 ∧ ad' 2200 0 = b2 → Rep E ad' V' M' → Inv (k + 1) V' → GL E X P M' b b1 b2 k (kc + 12) (ks + 3009) 1745 []) : GL E X P M b b1 b2 k kc ks 1168 [] := by
  obtain ⟨r, V1, V2, h1, h2, hI2⟩ := P_gone (fu := fu) hI (xs (6 * k + 1)) (xs (6 * k + 2)) 
  obtain ⟨fs1, hM1⟩ := lw_obj1 hR hb.1
  have hC1 := C_X11_gone (out := (r, V1)) (cxL X) hR h1
  rw [hb.1] at hC1
  refine r_aload_n DL_law_1168 rfl ?_
  refine lw_arg (j := 1) hX hk hL (by decide) (by decide) DL_law_1169 DL_law_1170 DL_law_1171 DL_law_1172 DL_law_1173 ?_
  refine lw_arg (j := 2) hX hk hL (by decide) (by decide) DL_law_1174 DL_law_1175 DL_law_1176 DL_law_1177 DL_law_1178 ?_
  refine r_callV (As := [.int (xs (6 * k + 1)), .int (xs (6 * k + 2))]) (rest := []) DL_law_1179 cv__law_112 hM1 rfl hC1 rfl (lw_fitD (by decide) (by decide) (by omega) (by omega)) rfl (Nat.le_of_ble_eq_true rfl) (fun v1 M1 hp1 => ?_)
  obtain ⟨rfl, hR1⟩ := hp1
  have hb1 := hb
  obtain ⟨fs2, hM2⟩ := lw_obj2 hR1 hb1.2
  have hC2 := C_X12_gone (out := (r, V2)) (cxL X) hR1 h2
  rw [hb1.2] at hC2
  show GL E X P M1 b b1 b2 k (kc + 0) (ks + 0) 1182 [.int r]
  refine r_aload_n DL_law_1182 rfl ?_
  refine lw_arg (j := 1) hX hk hL (by decide) (by decide) DL_law_1183 DL_law_1184 DL_law_1185 DL_law_1186 DL_law_1187 ?_
  refine lw_arg (j := 2) hX hk hL (by decide) (by decide) DL_law_1188 DL_law_1189 DL_law_1190 DL_law_1191 DL_law_1192 ?_
  refine r_callV (As := [.int (xs (6 * k + 1)), .int (xs (6 * k + 2))]) (rest := [.int r]) DL_law_1193 cv__law_115 hM2 rfl hC2 rfl (lw_fitD (by decide) (by decide) (by omega) (by omega)) rfl (Nat.le_of_ble_eq_true rfl) (fun v2 M2 hp2 => ?_)
  obtain ⟨rfl, hR2⟩ := hp2
  show GL E X P M2 b b1 b2 k (kc + 0) (ks + 0) 1196 [.int r, .int r]
  refine r_icmp_eq DL_law_1196 (fun _ => ?_) (fun h => absurd rfl h)
  exact r_widen (by omega) (by omega) (K ad V2 M2 hb1 hR2 hI2)
theorem LC_23 {E : EN} {X : CX} {P : Option Value → MH → Prop} {ad : AD} {V : St} {M : MH} {fu b b1 b2 Ls k kc ks : Nat} {xs : Nat → Int32} (hfu : 1000000000 ≤ fu) (hX : Scr E X b Ls xs) (hk : 6 * k + 6 ≤ Ls) (hL : Ls ≤ 3072) (hb : ad 2100 0 = b1 ∧ ad 2200 0 = b2) (hR : Rep E ad V M) (hI : Inv k V) (hc : kc + 12 ≤ 600000 ∧ ks + 3009 ≤ 7302250)
    (K : ∀ (ad' : AD) (V' : St) (M' : MH), ad' 2100 0 = b1 ∧ ad' 2200 0 = b2 → Rep E ad' V' M' → Inv (k + 1) V' → GL E X P M' b b1 b2 k (kc + 12) (ks + 3009) 1745 []) : GL E X P M b b1 b2 k kc ks 1201 [] := by
  obtain ⟨r, V1, V2, h1, h2, hI2⟩ := P_docket (fu := fu) hI (xs (6 * k + 1)) (xs (6 * k + 2)) (xs (6 * k + 3)) (xs (6 * k + 4)) 
  obtain ⟨fs1, hM1⟩ := lw_obj1 hR hb.1
  have hC1 := C_X11_docket (out := (r, V1)) (cxL X) hR h1
  rw [hb.1] at hC1
  refine r_aload_n DL_law_1201 rfl ?_
  refine lw_arg (j := 1) hX hk hL (by decide) (by decide) DL_law_1202 DL_law_1203 DL_law_1204 DL_law_1205 DL_law_1206 ?_
  refine lw_arg (j := 2) hX hk hL (by decide) (by decide) DL_law_1207 DL_law_1208 DL_law_1209 DL_law_1210 DL_law_1211 ?_
  refine lw_arg (j := 3) hX hk hL (by decide) (by decide) DL_law_1212 DL_law_1213 DL_law_1214 DL_law_1215 DL_law_1216 ?_
  refine lw_arg (j := 4) hX hk hL (by decide) (by decide) DL_law_1217 DL_law_1218 DL_law_1219 DL_law_1220 DL_law_1221 ?_
  refine r_callV (As := [.int (xs (6 * k + 1)), .int (xs (6 * k + 2)), .int (xs (6 * k + 3)), .int (xs (6 * k + 4))]) (rest := []) DL_law_1222 cv__law_116 hM1 rfl hC1 rfl (lw_fitA (by decide) (by decide) (by omega) (by omega)) rfl (Nat.le_of_ble_eq_true rfl) (fun v1 M1 hp1 => ?_)
  obtain ⟨rfl, ad1, hq1, hR1⟩ := hp1
  have hb1 : ad1 2100 0 = b1 ∧ ad1 2200 0 = b2 := ⟨hq1.1, hq1.2.trans hb.2⟩
  obtain ⟨fs2, hM2⟩ := lw_obj2 hR1 hb1.2
  have hC2 := C_X12_docket (out := (r, V2)) (cxL X) hR1 h2
  rw [hb1.2] at hC2
  show GL E X P M1 b b1 b2 k (kc + 2) (ks + 2005) 1225 [.int r]
  refine r_aload_n DL_law_1225 rfl ?_
  refine lw_arg (j := 1) hX hk hL (by decide) (by decide) DL_law_1226 DL_law_1227 DL_law_1228 DL_law_1229 DL_law_1230 ?_
  refine lw_arg (j := 2) hX hk hL (by decide) (by decide) DL_law_1231 DL_law_1232 DL_law_1233 DL_law_1234 DL_law_1235 ?_
  refine lw_arg (j := 3) hX hk hL (by decide) (by decide) DL_law_1236 DL_law_1237 DL_law_1238 DL_law_1239 DL_law_1240 ?_
  refine lw_arg (j := 4) hX hk hL (by decide) (by decide) DL_law_1241 DL_law_1242 DL_law_1243 DL_law_1244 DL_law_1245 ?_
  refine r_callV (As := [.int (xs (6 * k + 1)), .int (xs (6 * k + 2)), .int (xs (6 * k + 3)), .int (xs (6 * k + 4))]) (rest := [.int r]) DL_law_1246 cv__law_119 hM2 rfl hC2 rfl (lw_fitD (by decide) (by decide) (by omega) (by omega)) rfl (Nat.le_of_ble_eq_true rfl) (fun v2 M2 hp2 => ?_)
  obtain ⟨rfl, hR2⟩ := hp2
  show GL E X P M2 b b1 b2 k (kc + 2) (ks + 2005) 1249 [.int r, .int r]
  refine r_icmp_eq DL_law_1249 (fun _ => ?_) (fun h => absurd rfl h)
  exact r_widen (by omega) (by omega) (K ad1 V2 M2 hb1 hR2 hI2)
theorem LC_24 {E : EN} {X : CX} {P : Option Value → MH → Prop} {ad : AD} {V : St} {M : MH} {fu b b1 b2 Ls k kc ks : Nat} {xs : Nat → Int32} (hfu : 1000000000 ≤ fu) (hX : Scr E X b Ls xs) (hk : 6 * k + 6 ≤ Ls) (hL : Ls ≤ 3072) (hb : ad 2100 0 = b1 ∧ ad 2200 0 = b2) (hR : Rep E ad V M) (hI : Inv k V) (hc : kc + 12 ≤ 600000 ∧ ks + 3009 ≤ 7302250)
    (K : ∀ (ad' : AD) (V' : St) (M' : MH), ad' 2100 0 = b1 ∧ ad' 2200 0 = b2 → Rep E ad' V' M' → Inv (k + 1) V' → GL E X P M' b b1 b2 k (kc + 12) (ks + 3009) 1745 []) : GL E X P M b b1 b2 k kc ks 1254 [] := by
  obtain ⟨r, V1, V2, h1, h2, hI2⟩ := P_first (fu := fu) (Nat.le_trans (by decide) hfu) hI (xs (6 * k + 1)) (xs (6 * k + 2)) 
  obtain ⟨fs1, hM1⟩ := lw_obj1 hR hb.1
  have hC1 := C_X11_first (out := (r, V1)) (cxL X) hR h1
  rw [hb.1] at hC1
  refine r_aload_n DL_law_1254 rfl ?_
  refine lw_arg (j := 1) hX hk hL (by decide) (by decide) DL_law_1255 DL_law_1256 DL_law_1257 DL_law_1258 DL_law_1259 ?_
  refine lw_arg (j := 2) hX hk hL (by decide) (by decide) DL_law_1260 DL_law_1261 DL_law_1262 DL_law_1263 DL_law_1264 ?_
  refine r_callV (As := [.int (xs (6 * k + 1)), .int (xs (6 * k + 2))]) (rest := []) DL_law_1265 cv__law_120 hM1 rfl hC1 rfl (lw_fitD (by decide) (by decide) (by omega) (by omega)) rfl (Nat.le_of_ble_eq_true rfl) (fun v1 M1 hp1 => ?_)
  obtain ⟨rfl, hR1⟩ := hp1
  have hb1 := hb
  obtain ⟨fs2, hM2⟩ := lw_obj2 hR1 hb1.2
  have hC2 := C_X12_first (out := (r, V2)) (cxL X) hR1 h2
  rw [hb1.2] at hC2
  show GL E X P M1 b b1 b2 k (kc + 0) (ks + 0) 1268 [.int r]
  refine r_aload_n DL_law_1268 rfl ?_
  refine lw_arg (j := 1) hX hk hL (by decide) (by decide) DL_law_1269 DL_law_1270 DL_law_1271 DL_law_1272 DL_law_1273 ?_
  refine lw_arg (j := 2) hX hk hL (by decide) (by decide) DL_law_1274 DL_law_1275 DL_law_1276 DL_law_1277 DL_law_1278 ?_
  refine r_callV (As := [.int (xs (6 * k + 1)), .int (xs (6 * k + 2))]) (rest := [.int r]) DL_law_1279 cv__law_123 hM2 rfl hC2 rfl (lw_fitD (by decide) (by decide) (by omega) (by omega)) rfl (Nat.le_of_ble_eq_true rfl) (fun v2 M2 hp2 => ?_)
  obtain ⟨rfl, hR2⟩ := hp2
  show GL E X P M2 b b1 b2 k (kc + 0) (ks + 0) 1282 [.int r, .int r]
  refine r_icmp_eq DL_law_1282 (fun _ => ?_) (fun h => absurd rfl h)
  exact r_widen (by omega) (by omega) (K ad V2 M2 hb1 hR2 hI2)
theorem LC_25 {E : EN} {X : CX} {P : Option Value → MH → Prop} {ad : AD} {V : St} {M : MH} {fu b b1 b2 Ls k kc ks : Nat} {xs : Nat → Int32} (hfu : 1000000000 ≤ fu) (hX : Scr E X b Ls xs) (hk : 6 * k + 6 ≤ Ls) (hL : Ls ≤ 3072) (hb : ad 2100 0 = b1 ∧ ad 2200 0 = b2) (hR : Rep E ad V M) (hI : Inv k V) (hc : kc + 12 ≤ 600000 ∧ ks + 3009 ≤ 7302250)
    (K : ∀ (ad' : AD) (V' : St) (M' : MH), ad' 2100 0 = b1 ∧ ad' 2200 0 = b2 → Rep E ad' V' M' → Inv (k + 1) V' → GL E X P M' b b1 b2 k (kc + 12) (ks + 3009) 1745 []) : GL E X P M b b1 b2 k kc ks 1287 [] := by
  obtain ⟨r, V1, V2, h1, h2, hI2⟩ := P_waits (fu := fu) (Nat.le_trans (by decide) hfu) hI (xs (6 * k + 1)) (xs (6 * k + 2)) 
  obtain ⟨fs1, hM1⟩ := lw_obj1 hR hb.1
  have hC1 := C_X11_waits (out := (r, V1)) (cxL X) hR h1
  rw [hb.1] at hC1
  refine r_aload_n DL_law_1287 rfl ?_
  refine lw_arg (j := 1) hX hk hL (by decide) (by decide) DL_law_1288 DL_law_1289 DL_law_1290 DL_law_1291 DL_law_1292 ?_
  refine lw_arg (j := 2) hX hk hL (by decide) (by decide) DL_law_1293 DL_law_1294 DL_law_1295 DL_law_1296 DL_law_1297 ?_
  refine r_callV (As := [.int (xs (6 * k + 1)), .int (xs (6 * k + 2))]) (rest := []) DL_law_1298 cv__law_124 hM1 rfl hC1 rfl (lw_fitD (by decide) (by decide) (by omega) (by omega)) rfl (Nat.le_of_ble_eq_true rfl) (fun v1 M1 hp1 => ?_)
  obtain ⟨rfl, hR1⟩ := hp1
  have hb1 := hb
  obtain ⟨fs2, hM2⟩ := lw_obj2 hR1 hb1.2
  have hC2 := C_X12_waits (out := (r, V2)) (cxL X) hR1 h2
  rw [hb1.2] at hC2
  show GL E X P M1 b b1 b2 k (kc + 0) (ks + 0) 1301 [.int r]
  refine r_aload_n DL_law_1301 rfl ?_
  refine lw_arg (j := 1) hX hk hL (by decide) (by decide) DL_law_1302 DL_law_1303 DL_law_1304 DL_law_1305 DL_law_1306 ?_
  refine lw_arg (j := 2) hX hk hL (by decide) (by decide) DL_law_1307 DL_law_1308 DL_law_1309 DL_law_1310 DL_law_1311 ?_
  refine r_callV (As := [.int (xs (6 * k + 1)), .int (xs (6 * k + 2))]) (rest := [.int r]) DL_law_1312 cv__law_127 hM2 rfl hC2 rfl (lw_fitD (by decide) (by decide) (by omega) (by omega)) rfl (Nat.le_of_ble_eq_true rfl) (fun v2 M2 hp2 => ?_)
  obtain ⟨rfl, hR2⟩ := hp2
  show GL E X P M2 b b1 b2 k (kc + 0) (ks + 0) 1315 [.int r, .int r]
  refine r_icmp_eq DL_law_1315 (fun _ => ?_) (fun h => absurd rfl h)
  exact r_widen (by omega) (by omega) (K ad V2 M2 hb1 hR2 hI2)
theorem LC_26 {E : EN} {X : CX} {P : Option Value → MH → Prop} {ad : AD} {V : St} {M : MH} {fu b b1 b2 Ls k kc ks : Nat} {xs : Nat → Int32} (hfu : 1000000000 ≤ fu) (hX : Scr E X b Ls xs) (hk : 6 * k + 6 ≤ Ls) (hL : Ls ≤ 3072) (hb : ad 2100 0 = b1 ∧ ad 2200 0 = b2) (hR : Rep E ad V M) (hI : Inv k V) (hc : kc + 12 ≤ 600000 ∧ ks + 3009 ≤ 7302250)
    (K : ∀ (ad' : AD) (V' : St) (M' : MH), ad' 2100 0 = b1 ∧ ad' 2200 0 = b2 → Rep E ad' V' M' → Inv (k + 1) V' → GL E X P M' b b1 b2 k (kc + 12) (ks + 3009) 1745 []) : GL E X P M b b1 b2 k kc ks 1320 [] := by
  obtain ⟨r, V1, V2, h1, h2, hI2⟩ := P_bombed (fu := fu) (Nat.le_trans (by decide) hfu) hI (xs (6 * k + 1)) 
  obtain ⟨fs1, hM1⟩ := lw_obj1 hR hb.1
  have hC1 := C_X11_bombed (out := (r, V1)) (cxL X) hR h1
  rw [hb.1] at hC1
  refine r_aload_n DL_law_1320 rfl ?_
  refine lw_arg (j := 1) hX hk hL (by decide) (by decide) DL_law_1321 DL_law_1322 DL_law_1323 DL_law_1324 DL_law_1325 ?_
  refine r_callV (As := [.int (xs (6 * k + 1))]) (rest := []) DL_law_1326 cv__law_128 hM1 rfl hC1 rfl (lw_fitD (by decide) (by decide) (by omega) (by omega)) rfl (Nat.le_of_ble_eq_true rfl) (fun v1 M1 hp1 => ?_)
  obtain ⟨rfl, hR1⟩ := hp1
  have hb1 := hb
  obtain ⟨fs2, hM2⟩ := lw_obj2 hR1 hb1.2
  have hC2 := C_X12_bombed (out := (r, V2)) (cxL X) hR1 h2
  rw [hb1.2] at hC2
  show GL E X P M1 b b1 b2 k (kc + 0) (ks + 0) 1329 [.int r]
  refine r_aload_n DL_law_1329 rfl ?_
  refine lw_arg (j := 1) hX hk hL (by decide) (by decide) DL_law_1330 DL_law_1331 DL_law_1332 DL_law_1333 DL_law_1334 ?_
  refine r_callV (As := [.int (xs (6 * k + 1))]) (rest := [.int r]) DL_law_1335 cv__law_131 hM2 rfl hC2 rfl (lw_fitD (by decide) (by decide) (by omega) (by omega)) rfl (Nat.le_of_ble_eq_true rfl) (fun v2 M2 hp2 => ?_)
  obtain ⟨rfl, hR2⟩ := hp2
  show GL E X P M2 b b1 b2 k (kc + 0) (ks + 0) 1338 [.int r, .int r]
  refine r_icmp_eq DL_law_1338 (fun _ => ?_) (fun h => absurd rfl h)
  exact r_widen (by omega) (by omega) (K ad V2 M2 hb1 hR2 hI2)
theorem LC_27 {E : EN} {X : CX} {P : Option Value → MH → Prop} {ad : AD} {V : St} {M : MH} {fu b b1 b2 Ls k kc ks : Nat} {xs : Nat → Int32} (hfu : 1000000000 ≤ fu) (hX : Scr E X b Ls xs) (hk : 6 * k + 6 ≤ Ls) (hL : Ls ≤ 3072) (hb : ad 2100 0 = b1 ∧ ad 2200 0 = b2) (hR : Rep E ad V M) (hI : Inv k V) (hc : kc + 12 ≤ 600000 ∧ ks + 3009 ≤ 7302250)
    (K : ∀ (ad' : AD) (V' : St) (M' : MH), ad' 2100 0 = b1 ∧ ad' 2200 0 = b2 → Rep E ad' V' M' → Inv (k + 1) V' → GL E X P M' b b1 b2 k (kc + 12) (ks + 3009) 1745 []) : GL E X P M b b1 b2 k kc ks 1343 [] := by
  obtain ⟨r, V1, V2, h1, h2, hI2⟩ := P_seen (fu := fu) hI (xs (6 * k + 1)) (xs (6 * k + 2)) (xs (6 * k + 3)) 
  obtain ⟨fs1, hM1⟩ := lw_obj1 hR hb.1
  have hC1 := C_X11_seen (out := (r, V1)) (cxL X) hR h1
  rw [hb.1] at hC1
  refine r_aload_n DL_law_1343 rfl ?_
  refine lw_arg (j := 1) hX hk hL (by decide) (by decide) DL_law_1344 DL_law_1345 DL_law_1346 DL_law_1347 DL_law_1348 ?_
  refine lw_arg (j := 2) hX hk hL (by decide) (by decide) DL_law_1349 DL_law_1350 DL_law_1351 DL_law_1352 DL_law_1353 ?_
  refine lw_arg (j := 3) hX hk hL (by decide) (by decide) DL_law_1354 DL_law_1355 DL_law_1356 DL_law_1357 DL_law_1358 ?_
  refine r_callV (As := [.int (xs (6 * k + 1)), .int (xs (6 * k + 2)), .int (xs (6 * k + 3))]) (rest := []) DL_law_1359 cv__law_132 hM1 rfl hC1 rfl (lw_fitA (by decide) (by decide) (by omega) (by omega)) rfl (Nat.le_of_ble_eq_true rfl) (fun v1 M1 hp1 => ?_)
  obtain ⟨rfl, ad1, hq1, hR1⟩ := hp1
  have hb1 : ad1 2100 0 = b1 ∧ ad1 2200 0 = b2 := ⟨hq1.1, hq1.2.trans hb.2⟩
  obtain ⟨fs2, hM2⟩ := lw_obj2 hR1 hb1.2
  have hC2 := C_X12_seen (out := (r, V2)) (cxL X) hR1 h2
  rw [hb1.2] at hC2
  show GL E X P M1 b b1 b2 k (kc + 2) (ks + 2004) 1362 [.int r]
  refine r_aload_n DL_law_1362 rfl ?_
  refine lw_arg (j := 1) hX hk hL (by decide) (by decide) DL_law_1363 DL_law_1364 DL_law_1365 DL_law_1366 DL_law_1367 ?_
  refine lw_arg (j := 2) hX hk hL (by decide) (by decide) DL_law_1368 DL_law_1369 DL_law_1370 DL_law_1371 DL_law_1372 ?_
  refine lw_arg (j := 3) hX hk hL (by decide) (by decide) DL_law_1373 DL_law_1374 DL_law_1375 DL_law_1376 DL_law_1377 ?_
  refine r_callV (As := [.int (xs (6 * k + 1)), .int (xs (6 * k + 2)), .int (xs (6 * k + 3))]) (rest := [.int r]) DL_law_1378 cv__law_135 hM2 rfl hC2 rfl (lw_fitD (by decide) (by decide) (by omega) (by omega)) rfl (Nat.le_of_ble_eq_true rfl) (fun v2 M2 hp2 => ?_)
  obtain ⟨rfl, hR2⟩ := hp2
  show GL E X P M2 b b1 b2 k (kc + 2) (ks + 2004) 1381 [.int r, .int r]
  refine r_icmp_eq DL_law_1381 (fun _ => ?_) (fun h => absurd rfl h)
  exact r_widen (by omega) (by omega) (K ad1 V2 M2 hb1 hR2 hI2)
theorem LC_28 {E : EN} {X : CX} {P : Option Value → MH → Prop} {ad : AD} {V : St} {M : MH} {fu b b1 b2 Ls k kc ks : Nat} {xs : Nat → Int32} (hfu : 1000000000 ≤ fu) (hX : Scr E X b Ls xs) (hk : 6 * k + 6 ≤ Ls) (hL : Ls ≤ 3072) (hb : ad 2100 0 = b1 ∧ ad 2200 0 = b2) (hR : Rep E ad V M) (hI : Inv k V) (hc : kc + 12 ≤ 600000 ∧ ks + 3009 ≤ 7302250)
    (K : ∀ (ad' : AD) (V' : St) (M' : MH), ad' 2100 0 = b1 ∧ ad' 2200 0 = b2 → Rep E ad' V' M' → Inv (k + 1) V' → GL E X P M' b b1 b2 k (kc + 12) (ks + 3009) 1745 []) : GL E X P M b b1 b2 k kc ks 1386 [] := by
  obtain ⟨r, V1, V2, h1, h2, hI2⟩ := P_falsely (fu := fu) (Nat.le_trans (by decide) hfu) (by omega) hI (xs (6 * k + 1)) 
  obtain ⟨fs1, hM1⟩ := lw_obj1 hR hb.1
  have hC1 := C_X11_falsely (out := (r, V1)) (cxL X) hR h1
  rw [hb.1] at hC1
  refine r_aload_n DL_law_1386 rfl ?_
  refine lw_arg (j := 1) hX hk hL (by decide) (by decide) DL_law_1387 DL_law_1388 DL_law_1389 DL_law_1390 DL_law_1391 ?_
  refine r_callV (As := [.int (xs (6 * k + 1))]) (rest := []) DL_law_1392 cv__law_136 hM1 rfl hC1 rfl (lw_fitD (by decide) (by decide) (by omega) (by omega)) rfl (Nat.le_of_ble_eq_true rfl) (fun v1 M1 hp1 => ?_)
  obtain ⟨rfl, hR1⟩ := hp1
  have hb1 := hb
  obtain ⟨fs2, hM2⟩ := lw_obj2 hR1 hb1.2
  have hC2 := C_X12_falsely (out := (r, V2)) (cxL X) hR1 h2
  rw [hb1.2] at hC2
  show GL E X P M1 b b1 b2 k (kc + 0) (ks + 0) 1395 [.int r]
  refine r_aload_n DL_law_1395 rfl ?_
  refine lw_arg (j := 1) hX hk hL (by decide) (by decide) DL_law_1396 DL_law_1397 DL_law_1398 DL_law_1399 DL_law_1400 ?_
  refine r_callV (As := [.int (xs (6 * k + 1))]) (rest := [.int r]) DL_law_1401 cv__law_139 hM2 rfl hC2 rfl (lw_fitD (by decide) (by decide) (by omega) (by omega)) rfl (Nat.le_of_ble_eq_true rfl) (fun v2 M2 hp2 => ?_)
  obtain ⟨rfl, hR2⟩ := hp2
  show GL E X P M2 b b1 b2 k (kc + 0) (ks + 0) 1404 [.int r, .int r]
  refine r_icmp_eq DL_law_1404 (fun _ => ?_) (fun h => absurd rfl h)
  exact r_widen (by omega) (by omega) (K ad V2 M2 hb1 hR2 hI2)
theorem LC_29 {E : EN} {X : CX} {P : Option Value → MH → Prop} {ad : AD} {V : St} {M : MH} {fu b b1 b2 Ls k kc ks : Nat} {xs : Nat → Int32} (hfu : 1000000000 ≤ fu) (hX : Scr E X b Ls xs) (hk : 6 * k + 6 ≤ Ls) (hL : Ls ≤ 3072) (hb : ad 2100 0 = b1 ∧ ad 2200 0 = b2) (hR : Rep E ad V M) (hI : Inv k V) (hc : kc + 12 ≤ 600000 ∧ ks + 3009 ≤ 7302250)
    (K : ∀ (ad' : AD) (V' : St) (M' : MH), ad' 2100 0 = b1 ∧ ad' 2200 0 = b2 → Rep E ad' V' M' → Inv (k + 1) V' → GL E X P M' b b1 b2 k (kc + 12) (ks + 3009) 1745 []) : GL E X P M b b1 b2 k kc ks 1409 [] := by
  obtain ⟨r, V1, V2, h1, h2, hI2⟩ := P_rubbed (fu := fu) hI (xs (6 * k + 1)) (xs (6 * k + 2)) (if xs (6 * k + 3) = 0 then 0 else 1) (lw_01 _)
  obtain ⟨fs1, hM1⟩ := lw_obj1 hR hb.1
  have hC1 := C_X11_rubbed (out := (r, V1)) (cxL X) hR h1
  rw [hb.1] at hC1
  refine r_aload_n DL_law_1409 rfl ?_
  refine lw_arg (j := 1) hX hk hL (by decide) (by decide) DL_law_1410 DL_law_1411 DL_law_1412 DL_law_1413 DL_law_1414 ?_
  refine lw_arg (j := 2) hX hk hL (by decide) (by decide) DL_law_1415 DL_law_1416 DL_law_1417 DL_law_1418 DL_law_1419 ?_
  refine lw_argB (j := 3) hX hk hL (by decide) (by decide) DL_law_1420 DL_law_1421 DL_law_1422 DL_law_1423 DL_law_1424 DL_law_1425 DL_law_1428 DL_law_1429 DL_law_1432 ?_
  refine r_callV (As := [.int (xs (6 * k + 1)), .int (xs (6 * k + 2)), .int (if xs (6 * k + 3) = 0 then 0 else 1)]) (rest := []) DL_law_1433 cv__law_140 hM1 rfl hC1 rfl (lw_fitA (by decide) (by decide) (by omega) (by omega)) rfl (Nat.le_of_ble_eq_true rfl) (fun v1 M1 hp1 => ?_)
  obtain ⟨rfl, ad1, hq1, hR1⟩ := hp1
  have hb1 : ad1 2100 0 = b1 ∧ ad1 2200 0 = b2 := ⟨hq1.1, hq1.2.trans hb.2⟩
  obtain ⟨fs2, hM2⟩ := lw_obj2 hR1 hb1.2
  have hC2 := C_X12_rubbed (out := (r, V2)) (cxL X) hR1 h2
  rw [hb1.2] at hC2
  show GL E X P M1 b b1 b2 k (kc + 2) (ks + 2004) 1436 [.int r]
  refine r_aload_n DL_law_1436 rfl ?_
  refine lw_arg (j := 1) hX hk hL (by decide) (by decide) DL_law_1437 DL_law_1438 DL_law_1439 DL_law_1440 DL_law_1441 ?_
  refine lw_arg (j := 2) hX hk hL (by decide) (by decide) DL_law_1442 DL_law_1443 DL_law_1444 DL_law_1445 DL_law_1446 ?_
  refine lw_argB (j := 3) hX hk hL (by decide) (by decide) DL_law_1447 DL_law_1448 DL_law_1449 DL_law_1450 DL_law_1451 DL_law_1452 DL_law_1455 DL_law_1456 DL_law_1459 ?_
  refine r_callV (As := [.int (xs (6 * k + 1)), .int (xs (6 * k + 2)), .int (if xs (6 * k + 3) = 0 then 0 else 1)]) (rest := [.int r]) DL_law_1460 cv__law_144 hM2 rfl hC2 rfl (lw_fitD (by decide) (by decide) (by omega) (by omega)) rfl (Nat.le_of_ble_eq_true rfl) (fun v2 M2 hp2 => ?_)
  obtain ⟨rfl, hR2⟩ := hp2
  show GL E X P M2 b b1 b2 k (kc + 2) (ks + 2004) 1463 [.int r, .int r]
  refine r_icmp_eq DL_law_1463 (fun _ => ?_) (fun h => absurd rfl h)
  exact r_widen (by omega) (by omega) (K ad1 V2 M2 hb1 hR2 hI2)
theorem LC_30 {E : EN} {X : CX} {P : Option Value → MH → Prop} {ad : AD} {V : St} {M : MH} {fu b b1 b2 Ls k kc ks : Nat} {xs : Nat → Int32} (hfu : 1000000000 ≤ fu) (hX : Scr E X b Ls xs) (hk : 6 * k + 6 ≤ Ls) (hL : Ls ≤ 3072) (hb : ad 2100 0 = b1 ∧ ad 2200 0 = b2) (hR : Rep E ad V M) (hI : Inv k V) (hc : kc + 12 ≤ 600000 ∧ ks + 3009 ≤ 7302250)
    (K : ∀ (ad' : AD) (V' : St) (M' : MH), ad' 2100 0 = b1 ∧ ad' 2200 0 = b2 → Rep E ad' V' M' → Inv (k + 1) V' → GL E X P M' b b1 b2 k (kc + 12) (ks + 3009) 1745 []) : GL E X P M b b1 b2 k kc ks 1468 [] := by
  obtain ⟨r, V1, V2, h1, h2, hI2⟩ := P_bench (fu := fu) hI (xs (6 * k + 1)) 
  obtain ⟨fs1, hM1⟩ := lw_obj1 hR hb.1
  have hC1 := C_X11_bench (out := (r, V1)) (cxL X) hR h1
  rw [hb.1] at hC1
  refine r_aload_n DL_law_1468 rfl ?_
  refine lw_arg (j := 1) hX hk hL (by decide) (by decide) DL_law_1469 DL_law_1470 DL_law_1471 DL_law_1472 DL_law_1473 ?_
  refine r_callV (As := [.int (xs (6 * k + 1))]) (rest := []) DL_law_1474 cv__law_145 hM1 rfl hC1 rfl (lw_fitD (by decide) (by decide) (by omega) (by omega)) rfl (Nat.le_of_ble_eq_true rfl) (fun v1 M1 hp1 => ?_)
  obtain ⟨rfl, hR1⟩ := hp1
  have hb1 := hb
  obtain ⟨fs2, hM2⟩ := lw_obj2 hR1 hb1.2
  have hC2 := C_X12_bench (out := (r, V2)) (cxL X) hR1 h2
  rw [hb1.2] at hC2
  show GL E X P M1 b b1 b2 k (kc + 0) (ks + 0) 1477 [.int r]
  refine r_aload_n DL_law_1477 rfl ?_
  refine lw_arg (j := 1) hX hk hL (by decide) (by decide) DL_law_1478 DL_law_1479 DL_law_1480 DL_law_1481 DL_law_1482 ?_
  refine r_callV (As := [.int (xs (6 * k + 1))]) (rest := [.int r]) DL_law_1483 cv__law_149 hM2 rfl hC2 rfl (lw_fitD (by decide) (by decide) (by omega) (by omega)) rfl (Nat.le_of_ble_eq_true rfl) (fun v2 M2 hp2 => ?_)
  obtain ⟨rfl, hR2⟩ := hp2
  show GL E X P M2 b b1 b2 k (kc + 0) (ks + 0) 1486 [.int r, .int r]
  refine r_icmp_eq DL_law_1486 (fun _ => ?_) (fun h => absurd rfl h)
  exact r_widen (by omega) (by omega) (K ad V2 M2 hb1 hR2 hI2)
theorem LC_31 {E : EN} {X : CX} {P : Option Value → MH → Prop} {ad : AD} {V : St} {M : MH} {fu b b1 b2 Ls k kc ks : Nat} {xs : Nat → Int32} (hfu : 1000000000 ≤ fu) (hX : Scr E X b Ls xs) (hk : 6 * k + 6 ≤ Ls) (hL : Ls ≤ 3072) (hb : ad 2100 0 = b1 ∧ ad 2200 0 = b2) (hR : Rep E ad V M) (hI : Inv k V) (hc : kc + 12 ≤ 600000 ∧ ks + 3009 ≤ 7302250)
    (K : ∀ (ad' : AD) (V' : St) (M' : MH), ad' 2100 0 = b1 ∧ ad' 2200 0 = b2 → Rep E ad' V' M' → Inv (k + 1) V' → GL E X P M' b b1 b2 k (kc + 12) (ks + 3009) 1745 []) : GL E X P M b b1 b2 k kc ks 1491 [] := by
  obtain ⟨r, V1, V2, h1, h2, hI2⟩ := P_isTrue (fu := fu) (Nat.le_trans (by decide) hfu) hI (xs (6 * k + 1)) (xs (6 * k + 2)) 
  obtain ⟨fs1, hM1⟩ := lw_obj1 hR hb.1
  have hC1 := C_X11_isTrue (out := (r, V1)) (cxL X) hR h1
  rw [hb.1] at hC1
  refine r_aload_n DL_law_1491 rfl ?_
  refine lw_arg (j := 1) hX hk hL (by decide) (by decide) DL_law_1492 DL_law_1493 DL_law_1494 DL_law_1495 DL_law_1496 ?_
  refine lw_arg (j := 2) hX hk hL (by decide) (by decide) DL_law_1497 DL_law_1498 DL_law_1499 DL_law_1500 DL_law_1501 ?_
  refine r_callV (As := [.int (xs (6 * k + 1)), .int (xs (6 * k + 2))]) (rest := []) DL_law_1502 cv__law_150 hM1 rfl hC1 rfl (lw_fitD (by decide) (by decide) (by omega) (by omega)) rfl (Nat.le_of_ble_eq_true rfl) (fun v1 M1 hp1 => ?_)
  obtain ⟨rfl, hR1⟩ := hp1
  have hb1 := hb
  obtain ⟨fs2, hM2⟩ := lw_obj2 hR1 hb1.2
  have hC2 := C_X12_isTrue (out := (r, V2)) (cxL X) hR1 h2
  rw [hb1.2] at hC2
  show GL E X P M1 b b1 b2 k (kc + 0) (ks + 0) 1505 [.int r]
  refine r_aload_n DL_law_1505 rfl ?_
  refine lw_arg (j := 1) hX hk hL (by decide) (by decide) DL_law_1506 DL_law_1507 DL_law_1508 DL_law_1509 DL_law_1510 ?_
  refine lw_arg (j := 2) hX hk hL (by decide) (by decide) DL_law_1511 DL_law_1512 DL_law_1513 DL_law_1514 DL_law_1515 ?_
  refine r_callV (As := [.int (xs (6 * k + 1)), .int (xs (6 * k + 2))]) (rest := [.int r]) DL_law_1516 cv__law_153 hM2 rfl hC2 rfl (lw_fitD (by decide) (by decide) (by omega) (by omega)) rfl (Nat.le_of_ble_eq_true rfl) (fun v2 M2 hp2 => ?_)
  obtain ⟨rfl, hR2⟩ := hp2
  show GL E X P M2 b b1 b2 k (kc + 0) (ks + 0) 1519 [.int r, .int r]
  refine r_icmp_eq DL_law_1519 (fun _ => ?_) (fun h => absurd rfl h)
  exact r_widen (by omega) (by omega) (K ad V2 M2 hb1 hR2 hI2)
theorem LC_32 {E : EN} {X : CX} {P : Option Value → MH → Prop} {ad : AD} {V : St} {M : MH} {fu b b1 b2 Ls k kc ks : Nat} {xs : Nat → Int32} (hfu : 1000000000 ≤ fu) (hX : Scr E X b Ls xs) (hk : 6 * k + 6 ≤ Ls) (hL : Ls ≤ 3072) (hb : ad 2100 0 = b1 ∧ ad 2200 0 = b2) (hR : Rep E ad V M) (hI : Inv k V) (hc : kc + 12 ≤ 600000 ∧ ks + 3009 ≤ 7302250)
    (K : ∀ (ad' : AD) (V' : St) (M' : MH), ad' 2100 0 = b1 ∧ ad' 2200 0 = b2 → Rep E ad' V' M' → Inv (k + 1) V' → GL E X P M' b b1 b2 k (kc + 12) (ks + 3009) 1745 []) : GL E X P M b b1 b2 k kc ks 1524 [] := by
  obtain ⟨r, V1, V2, h1, h2, hI2⟩ := P_needs (fu := fu) (Nat.le_trans (by decide) hfu) hI (xs (6 * k + 1)) (xs (6 * k + 2)) (xs (6 * k + 3)) 
  obtain ⟨fs1, hM1⟩ := lw_obj1 hR hb.1
  have hC1 := C_X11_needs (out := (r, V1)) (cxL X) hR h1
  rw [hb.1] at hC1
  refine r_aload_n DL_law_1524 rfl ?_
  refine lw_arg (j := 1) hX hk hL (by decide) (by decide) DL_law_1525 DL_law_1526 DL_law_1527 DL_law_1528 DL_law_1529 ?_
  refine lw_arg (j := 2) hX hk hL (by decide) (by decide) DL_law_1530 DL_law_1531 DL_law_1532 DL_law_1533 DL_law_1534 ?_
  refine lw_arg (j := 3) hX hk hL (by decide) (by decide) DL_law_1535 DL_law_1536 DL_law_1537 DL_law_1538 DL_law_1539 ?_
  refine r_callV (As := [.int (xs (6 * k + 1)), .int (xs (6 * k + 2)), .int (xs (6 * k + 3))]) (rest := []) DL_law_1540 cv__law_154 hM1 rfl hC1 rfl (lw_fitD (by decide) (by decide) (by omega) (by omega)) rfl (Nat.le_of_ble_eq_true rfl) (fun v1 M1 hp1 => ?_)
  obtain ⟨rfl, hR1⟩ := hp1
  have hb1 := hb
  obtain ⟨fs2, hM2⟩ := lw_obj2 hR1 hb1.2
  have hC2 := C_X12_needs (out := (r, V2)) (cxL X) hR1 h2
  rw [hb1.2] at hC2
  show GL E X P M1 b b1 b2 k (kc + 0) (ks + 0) 1543 [.int r]
  refine r_aload_n DL_law_1543 rfl ?_
  refine lw_arg (j := 1) hX hk hL (by decide) (by decide) DL_law_1544 DL_law_1545 DL_law_1546 DL_law_1547 DL_law_1548 ?_
  refine lw_arg (j := 2) hX hk hL (by decide) (by decide) DL_law_1549 DL_law_1550 DL_law_1551 DL_law_1552 DL_law_1553 ?_
  refine lw_arg (j := 3) hX hk hL (by decide) (by decide) DL_law_1554 DL_law_1555 DL_law_1556 DL_law_1557 DL_law_1558 ?_
  refine r_callV (As := [.int (xs (6 * k + 1)), .int (xs (6 * k + 2)), .int (xs (6 * k + 3))]) (rest := [.int r]) DL_law_1559 cv__law_157 hM2 rfl hC2 rfl (lw_fitD (by decide) (by decide) (by omega) (by omega)) rfl (Nat.le_of_ble_eq_true rfl) (fun v2 M2 hp2 => ?_)
  obtain ⟨rfl, hR2⟩ := hp2
  show GL E X P M2 b b1 b2 k (kc + 0) (ks + 0) 1562 [.int r, .int r]
  refine r_icmp_eq DL_law_1562 (fun _ => ?_) (fun h => absurd rfl h)
  exact r_widen (by omega) (by omega) (K ad V2 M2 hb1 hR2 hI2)
theorem LC_33 {E : EN} {X : CX} {P : Option Value → MH → Prop} {ad : AD} {V : St} {M : MH} {fu b b1 b2 Ls k kc ks : Nat} {xs : Nat → Int32} (hfu : 1000000000 ≤ fu) (hX : Scr E X b Ls xs) (hk : 6 * k + 6 ≤ Ls) (hL : Ls ≤ 3072) (hb : ad 2100 0 = b1 ∧ ad 2200 0 = b2) (hR : Rep E ad V M) (hI : Inv k V) (hc : kc + 12 ≤ 600000 ∧ ks + 3009 ≤ 7302250)
    (K : ∀ (ad' : AD) (V' : St) (M' : MH), ad' 2100 0 = b1 ∧ ad' 2200 0 = b2 → Rep E ad' V' M' → Inv (k + 1) V' → GL E X P M' b b1 b2 k (kc + 12) (ks + 3009) 1745 []) : GL E X P M b b1 b2 k kc ks 1567 [] := by
  obtain ⟨r, V1, V2, h1, h2, hI2⟩ := P_fewest (fu := fu) (Nat.le_trans (by decide) hfu) hI (xs (6 * k + 1)) (xs (6 * k + 2)) (xs (6 * k + 3)) 
  obtain ⟨fs1, hM1⟩ := lw_obj1 hR hb.1
  have hC1 := C_X11_fewest (out := (r, V1)) (cxL X) hR h1
  rw [hb.1] at hC1
  refine r_aload_n DL_law_1567 rfl ?_
  refine lw_arg (j := 1) hX hk hL (by decide) (by decide) DL_law_1568 DL_law_1569 DL_law_1570 DL_law_1571 DL_law_1572 ?_
  refine lw_arg (j := 2) hX hk hL (by decide) (by decide) DL_law_1573 DL_law_1574 DL_law_1575 DL_law_1576 DL_law_1577 ?_
  refine lw_arg (j := 3) hX hk hL (by decide) (by decide) DL_law_1578 DL_law_1579 DL_law_1580 DL_law_1581 DL_law_1582 ?_
  refine r_callV (As := [.int (xs (6 * k + 1)), .int (xs (6 * k + 2)), .int (xs (6 * k + 3))]) (rest := []) DL_law_1583 cv__law_158 hM1 rfl hC1 rfl (lw_fitD (by decide) (by decide) (by omega) (by omega)) rfl (Nat.le_of_ble_eq_true rfl) (fun v1 M1 hp1 => ?_)
  obtain ⟨rfl, hR1⟩ := hp1
  have hb1 := hb
  obtain ⟨fs2, hM2⟩ := lw_obj2 hR1 hb1.2
  have hC2 := C_X12_fewest (out := (r, V2)) (cxL X) hR1 h2
  rw [hb1.2] at hC2
  show GL E X P M1 b b1 b2 k (kc + 0) (ks + 0) 1586 [.int r]
  refine r_aload_n DL_law_1586 rfl ?_
  refine lw_arg (j := 1) hX hk hL (by decide) (by decide) DL_law_1587 DL_law_1588 DL_law_1589 DL_law_1590 DL_law_1591 ?_
  refine lw_arg (j := 2) hX hk hL (by decide) (by decide) DL_law_1592 DL_law_1593 DL_law_1594 DL_law_1595 DL_law_1596 ?_
  refine lw_arg (j := 3) hX hk hL (by decide) (by decide) DL_law_1597 DL_law_1598 DL_law_1599 DL_law_1600 DL_law_1601 ?_
  refine r_callV (As := [.int (xs (6 * k + 1)), .int (xs (6 * k + 2)), .int (xs (6 * k + 3))]) (rest := [.int r]) DL_law_1602 cv__law_161 hM2 rfl hC2 rfl (lw_fitD (by decide) (by decide) (by omega) (by omega)) rfl (Nat.le_of_ble_eq_true rfl) (fun v2 M2 hp2 => ?_)
  obtain ⟨rfl, hR2⟩ := hp2
  show GL E X P M2 b b1 b2 k (kc + 0) (ks + 0) 1605 [.int r, .int r]
  refine r_icmp_eq DL_law_1605 (fun _ => ?_) (fun h => absurd rfl h)
  exact r_widen (by omega) (by omega) (K ad V2 M2 hb1 hR2 hI2)
theorem LC_34 {E : EN} {X : CX} {P : Option Value → MH → Prop} {ad : AD} {V : St} {M : MH} {fu b b1 b2 Ls k kc ks : Nat} {xs : Nat → Int32} (hfu : 1000000000 ≤ fu) (hX : Scr E X b Ls xs) (hk : 6 * k + 6 ≤ Ls) (hL : Ls ≤ 3072) (hb : ad 2100 0 = b1 ∧ ad 2200 0 = b2) (hR : Rep E ad V M) (hI : Inv k V) (hc : kc + 12 ≤ 600000 ∧ ks + 3009 ≤ 7302250)
    (K : ∀ (ad' : AD) (V' : St) (M' : MH), ad' 2100 0 = b1 ∧ ad' 2200 0 = b2 → Rep E ad' V' M' → Inv (k + 1) V' → GL E X P M' b b1 b2 k (kc + 12) (ks + 3009) 1745 []) : GL E X P M b b1 b2 k kc ks 1610 [] := by
  obtain ⟨r, V1, V2, h1, h2, hI2⟩ := P_loses (fu := fu) (Nat.le_trans (by decide) hfu) hI (xs (6 * k + 1)) (xs (6 * k + 2)) 
  obtain ⟨fs1, hM1⟩ := lw_obj1 hR hb.1
  have hC1 := C_X11_loses (out := (r, V1)) (cxL X) hR h1
  rw [hb.1] at hC1
  refine r_aload_n DL_law_1610 rfl ?_
  refine lw_arg (j := 1) hX hk hL (by decide) (by decide) DL_law_1611 DL_law_1612 DL_law_1613 DL_law_1614 DL_law_1615 ?_
  refine lw_arg (j := 2) hX hk hL (by decide) (by decide) DL_law_1616 DL_law_1617 DL_law_1618 DL_law_1619 DL_law_1620 ?_
  refine r_callV (As := [.int (xs (6 * k + 1)), .int (xs (6 * k + 2))]) (rest := []) DL_law_1621 cv__law_162 hM1 rfl hC1 rfl (lw_fitD (by decide) (by decide) (by omega) (by omega)) rfl (Nat.le_of_ble_eq_true rfl) (fun v1 M1 hp1 => ?_)
  obtain ⟨rfl, hR1⟩ := hp1
  have hb1 := hb
  obtain ⟨fs2, hM2⟩ := lw_obj2 hR1 hb1.2
  have hC2 := C_X12_loses (out := (r, V2)) (cxL X) hR1 h2
  rw [hb1.2] at hC2
  show GL E X P M1 b b1 b2 k (kc + 0) (ks + 0) 1624 [.int r]
  refine r_aload_n DL_law_1624 rfl ?_
  refine lw_arg (j := 1) hX hk hL (by decide) (by decide) DL_law_1625 DL_law_1626 DL_law_1627 DL_law_1628 DL_law_1629 ?_
  refine lw_arg (j := 2) hX hk hL (by decide) (by decide) DL_law_1630 DL_law_1631 DL_law_1632 DL_law_1633 DL_law_1634 ?_
  refine r_callV (As := [.int (xs (6 * k + 1)), .int (xs (6 * k + 2))]) (rest := [.int r]) DL_law_1635 cv__law_165 hM2 rfl hC2 rfl (lw_fitD (by decide) (by decide) (by omega) (by omega)) rfl (Nat.le_of_ble_eq_true rfl) (fun v2 M2 hp2 => ?_)
  obtain ⟨rfl, hR2⟩ := hp2
  show GL E X P M2 b b1 b2 k (kc + 0) (ks + 0) 1638 [.int r, .int r]
  refine r_icmp_eq DL_law_1638 (fun _ => ?_) (fun h => absurd rfl h)
  exact r_widen (by omega) (by omega) (K ad V2 M2 hb1 hR2 hI2)
theorem LC_35 {E : EN} {X : CX} {P : Option Value → MH → Prop} {ad : AD} {V : St} {M : MH} {fu b b1 b2 Ls k kc ks : Nat} {xs : Nat → Int32} (hfu : 1000000000 ≤ fu) (hX : Scr E X b Ls xs) (hk : 6 * k + 6 ≤ Ls) (hL : Ls ≤ 3072) (hb : ad 2100 0 = b1 ∧ ad 2200 0 = b2) (hR : Rep E ad V M) (hI : Inv k V) (hc : kc + 12 ≤ 600000 ∧ ks + 3009 ≤ 7302250)
    (K : ∀ (ad' : AD) (V' : St) (M' : MH), ad' 2100 0 = b1 ∧ ad' 2200 0 = b2 → Rep E ad' V' M' → Inv (k + 1) V' → GL E X P M' b b1 b2 k (kc + 12) (ks + 3009) 1745 []) : GL E X P M b b1 b2 k kc ks 1643 [] := by
  obtain ⟨r, V1, V2, h1, h2, hI2⟩ := P_beside (fu := fu) (Nat.le_trans (by decide) hfu) hI (xs (6 * k + 1)) 
  obtain ⟨fs1, hM1⟩ := lw_obj1 hR hb.1
  have hC1 := C_X11_beside (out := (r, V1)) (cxL X) hR h1
  rw [hb.1] at hC1
  refine r_aload_n DL_law_1643 rfl ?_
  refine lw_arg (j := 1) hX hk hL (by decide) (by decide) DL_law_1644 DL_law_1645 DL_law_1646 DL_law_1647 DL_law_1648 ?_
  refine r_callV (As := [.int (xs (6 * k + 1))]) (rest := []) DL_law_1649 cv__law_166 hM1 rfl hC1 rfl (lw_fitD (by decide) (by decide) (by omega) (by omega)) rfl (Nat.le_of_ble_eq_true rfl) (fun v1 M1 hp1 => ?_)
  obtain ⟨rfl, hR1⟩ := hp1
  have hb1 := hb
  obtain ⟨fs2, hM2⟩ := lw_obj2 hR1 hb1.2
  have hC2 := C_X12_beside (out := (r, V2)) (cxL X) hR1 h2
  rw [hb1.2] at hC2
  show GL E X P M1 b b1 b2 k (kc + 0) (ks + 0) 1652 [.int r]
  refine r_aload_n DL_law_1652 rfl ?_
  refine lw_arg (j := 1) hX hk hL (by decide) (by decide) DL_law_1653 DL_law_1654 DL_law_1655 DL_law_1656 DL_law_1657 ?_
  refine r_callV (As := [.int (xs (6 * k + 1))]) (rest := [.int r]) DL_law_1658 cv__law_169 hM2 rfl hC2 rfl (lw_fitD (by decide) (by decide) (by omega) (by omega)) rfl (Nat.le_of_ble_eq_true rfl) (fun v2 M2 hp2 => ?_)
  obtain ⟨rfl, hR2⟩ := hp2
  show GL E X P M2 b b1 b2 k (kc + 0) (ks + 0) 1661 [.int r, .int r]
  refine r_icmp_eq DL_law_1661 (fun _ => ?_) (fun h => absurd rfl h)
  exact r_widen (by omega) (by omega) (K ad V2 M2 hb1 hR2 hI2)
theorem LC_36 {E : EN} {X : CX} {P : Option Value → MH → Prop} {ad : AD} {V : St} {M : MH} {fu b b1 b2 Ls k kc ks : Nat} {xs : Nat → Int32} (hfu : 1000000000 ≤ fu) (hX : Scr E X b Ls xs) (hk : 6 * k + 6 ≤ Ls) (hL : Ls ≤ 3072) (hb : ad 2100 0 = b1 ∧ ad 2200 0 = b2) (hR : Rep E ad V M) (hI : Inv k V) (hc : kc + 12 ≤ 600000 ∧ ks + 3009 ≤ 7302250)
    (K : ∀ (ad' : AD) (V' : St) (M' : MH), ad' 2100 0 = b1 ∧ ad' 2200 0 = b2 → Rep E ad' V' M' → Inv (k + 1) V' → GL E X P M' b b1 b2 k (kc + 12) (ks + 3009) 1745 []) : GL E X P M b b1 b2 k kc ks 1666 [] := by
  obtain ⟨r, V1, V2, h1, h2, hI2⟩ := P_check (fu := fu) (Nat.le_trans (by decide) hfu) hI (xs (6 * k + 1)) 
  obtain ⟨fs1, hM1⟩ := lw_obj1 hR hb.1
  have hC1 := C_X11_check (out := (r, V1)) (cxL X) hR h1
  rw [hb.1] at hC1
  refine r_aload_n DL_law_1666 rfl ?_
  refine lw_arg (j := 1) hX hk hL (by decide) (by decide) DL_law_1667 DL_law_1668 DL_law_1669 DL_law_1670 DL_law_1671 ?_
  refine r_callV (As := [.int (xs (6 * k + 1))]) (rest := []) DL_law_1672 cv__law_170 hM1 rfl hC1 rfl (lw_fitD (by decide) (by decide) (by omega) (by omega)) rfl (Nat.le_of_ble_eq_true rfl) (fun v1 M1 hp1 => ?_)
  obtain ⟨rfl, hR1⟩ := hp1
  have hb1 := hb
  obtain ⟨fs2, hM2⟩ := lw_obj2 hR1 hb1.2
  have hC2 := C_X12_check (out := (r, V2)) (cxL X) hR1 h2
  rw [hb1.2] at hC2
  show GL E X P M1 b b1 b2 k (kc + 0) (ks + 0) 1675 [.int r]
  refine r_aload_n DL_law_1675 rfl ?_
  refine lw_arg (j := 1) hX hk hL (by decide) (by decide) DL_law_1676 DL_law_1677 DL_law_1678 DL_law_1679 DL_law_1680 ?_
  refine r_callV (As := [.int (xs (6 * k + 1))]) (rest := [.int r]) DL_law_1681 cv__law_173 hM2 rfl hC2 rfl (lw_fitD (by decide) (by decide) (by omega) (by omega)) rfl (Nat.le_of_ble_eq_true rfl) (fun v2 M2 hp2 => ?_)
  obtain ⟨rfl, hR2⟩ := hp2
  show GL E X P M2 b b1 b2 k (kc + 0) (ks + 0) 1684 [.int r, .int r]
  refine r_icmp_eq DL_law_1684 (fun _ => ?_) (fun h => absurd rfl h)
  exact r_widen (by omega) (by omega) (K ad V2 M2 hb1 hR2 hI2)
theorem LC_37 {E : EN} {X : CX} {P : Option Value → MH → Prop} {ad : AD} {V : St} {M : MH} {fu b b1 b2 Ls k kc ks : Nat} {xs : Nat → Int32} (hfu : 1000000000 ≤ fu) (hX : Scr E X b Ls xs) (hk : 6 * k + 6 ≤ Ls) (hL : Ls ≤ 3072) (hb : ad 2100 0 = b1 ∧ ad 2200 0 = b2) (hR : Rep E ad V M) (hI : Inv k V) (hc : kc + 12 ≤ 600000 ∧ ks + 3009 ≤ 7302250)
    (K : ∀ (ad' : AD) (V' : St) (M' : MH), ad' 2100 0 = b1 ∧ ad' 2200 0 = b2 → Rep E ad' V' M' → Inv (k + 1) V' → GL E X P M' b b1 b2 k (kc + 12) (ks + 3009) 1745 []) : GL E X P M b b1 b2 k kc ks 1689 [] := by
  obtain ⟨r, V1, V2, h1, h2, hI2⟩ := P_look (fu := fu) hI (xs (6 * k + 1)) (xs (6 * k + 2)) 
  obtain ⟨fs1, hM1⟩ := lw_obj1 hR hb.1
  have hC1 := C_X11_look (out := (r, V1)) (cxL X) hR h1
  rw [hb.1] at hC1
  refine r_aload_n DL_law_1689 rfl ?_
  refine lw_arg (j := 1) hX hk hL (by decide) (by decide) DL_law_1690 DL_law_1691 DL_law_1692 DL_law_1693 DL_law_1694 ?_
  refine lw_arg (j := 2) hX hk hL (by decide) (by decide) DL_law_1695 DL_law_1696 DL_law_1697 DL_law_1698 DL_law_1699 ?_
  refine r_callV (As := [.int (xs (6 * k + 1)), .int (xs (6 * k + 2))]) (rest := []) DL_law_1700 cv__law_174 hM1 rfl hC1 rfl (lw_fitD (by decide) (by decide) (by omega) (by omega)) rfl (Nat.le_of_ble_eq_true rfl) (fun v1 M1 hp1 => ?_)
  obtain ⟨rfl, hR1⟩ := hp1
  have hb1 := hb
  obtain ⟨fs2, hM2⟩ := lw_obj2 hR1 hb1.2
  have hC2 := C_X12_look (out := (r, V2)) (cxL X) hR1 h2
  rw [hb1.2] at hC2
  show GL E X P M1 b b1 b2 k (kc + 0) (ks + 0) 1703 [.int r]
  refine r_aload_n DL_law_1703 rfl ?_
  refine lw_arg (j := 1) hX hk hL (by decide) (by decide) DL_law_1704 DL_law_1705 DL_law_1706 DL_law_1707 DL_law_1708 ?_
  refine lw_arg (j := 2) hX hk hL (by decide) (by decide) DL_law_1709 DL_law_1710 DL_law_1711 DL_law_1712 DL_law_1713 ?_
  refine r_callV (As := [.int (xs (6 * k + 1)), .int (xs (6 * k + 2))]) (rest := [.int r]) DL_law_1714 cv__law_177 hM2 rfl hC2 rfl (lw_fitD (by decide) (by decide) (by omega) (by omega)) rfl (Nat.le_of_ble_eq_true rfl) (fun v2 M2 hp2 => ?_)
  obtain ⟨rfl, hR2⟩ := hp2
  show GL E X P M2 b b1 b2 k (kc + 0) (ks + 0) 1717 [.int r, .int r]
  refine r_icmp_eq DL_law_1717 (fun _ => ?_) (fun h => absurd rfl h)
  exact r_widen (by omega) (by omega) (K ad V2 M2 hb1 hR2 hI2)
theorem LC_38 {E : EN} {X : CX} {P : Option Value → MH → Prop} {ad : AD} {V : St} {M : MH} {fu b b1 b2 Ls k kc ks : Nat} {xs : Nat → Int32} (hfu : 1000000000 ≤ fu) (hX : Scr E X b Ls xs) (hk : 6 * k + 6 ≤ Ls) (hL : Ls ≤ 3072) (hb : ad 2100 0 = b1 ∧ ad 2200 0 = b2) (hR : Rep E ad V M) (hI : Inv k V) (hc : kc + 12 ≤ 600000 ∧ ks + 3009 ≤ 7302250)
    (K : ∀ (ad' : AD) (V' : St) (M' : MH), ad' 2100 0 = b1 ∧ ad' 2200 0 = b2 → Rep E ad' V' M' → Inv (k + 1) V' → GL E X P M' b b1 b2 k (kc + 12) (ks + 3009) 1745 []) : GL E X P M b b1 b2 k kc ks 1722 [] := by
  obtain ⟨r, V1, V2, h1, h2, hI2⟩ := P_count (fu := fu) hI (xs (6 * k + 1)) 
  obtain ⟨fs1, hM1⟩ := lw_obj1 hR hb.1
  have hC1 := C_X11_count (out := (r, V1)) (cxL X) hR h1
  rw [hb.1] at hC1
  refine r_aload_n DL_law_1722 rfl ?_
  refine lw_arg (j := 1) hX hk hL (by decide) (by decide) DL_law_1723 DL_law_1724 DL_law_1725 DL_law_1726 DL_law_1727 ?_
  refine r_callV (As := [.int (xs (6 * k + 1))]) (rest := []) DL_law_1728 cv__law_178 hM1 rfl hC1 rfl (lw_fitD (by decide) (by decide) (by omega) (by omega)) rfl (Nat.le_of_ble_eq_true rfl) (fun v1 M1 hp1 => ?_)
  obtain ⟨rfl, hR1⟩ := hp1
  have hb1 := hb
  obtain ⟨fs2, hM2⟩ := lw_obj2 hR1 hb1.2
  have hC2 := C_X12_count (out := (r, V2)) (cxL X) hR1 h2
  rw [hb1.2] at hC2
  show GL E X P M1 b b1 b2 k (kc + 0) (ks + 0) 1731 [.int r]
  refine r_aload_n DL_law_1731 rfl ?_
  refine lw_arg (j := 1) hX hk hL (by decide) (by decide) DL_law_1732 DL_law_1733 DL_law_1734 DL_law_1735 DL_law_1736 ?_
  refine r_callV (As := [.int (xs (6 * k + 1))]) (rest := [.int r]) DL_law_1737 cv__law_181 hM2 rfl hC2 rfl (lw_fitD (by decide) (by decide) (by omega) (by omega)) rfl (Nat.le_of_ble_eq_true rfl) (fun v2 M2 hp2 => ?_)
  obtain ⟨rfl, hR2⟩ := hp2
  show GL E X P M2 b b1 b2 k (kc + 0) (ks + 0) 1740 [.int r, .int r]
  refine r_icmp_eq DL_law_1740 (fun _ => ?_) (fun h => absurd rfl h)
  exact r_widen (by omega) (by omega) (K ad V2 M2 hb1 hR2 hI2)
