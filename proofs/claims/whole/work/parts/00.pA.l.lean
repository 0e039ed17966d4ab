/-! the reference's reader of conditions, whole -/
theorem bd_then {m : RR} {A B : St → RR} : bd (bd m fun _ V => some (1, V)) (fun r V => if r = 0 then A V else B V) = bd m fun _ V => B V := by
  cases m with
  | none => rfl
  | some q => rfl
theorem opN_cm {j : Nat} (h : j = 60 ∨ j = 61 ∨ j = 62) : opN j ≤ 9 ∧ 7 ≤ opN j := by rcases h with z | z | z <;> subst z <;> decide
theorem rd_R {fu n : Nat} {T : Nat → Int32} (hfu : 1000 ≤ fu) : ∀ (m o : Nat), 1 ≤ o → o ≤ 6 → (bnd 1 o ≤ m → okRP fu n T (fun p => sp (hN T n) m 1 p o) o) ∧ (bnd 0 o ≤ m → okRC fu n T (fun p => sp (hN T n) m 0 p o) o) := by
  intro m
  induction m with
  | zero =>
    intro o _ _
    refine ⟨fun hb => ?_, fun hb => ?_⟩
    · unfold bnd at hb; simp at hb
    · unfold bnd at hb; simp at hb
  | succ m ih =>
    intro o ho1 ho6
    refine ⟨fun hb => ?_, fun hb => ?_⟩
    · intro U p c w N hR hcp hwp hp hwn htp hN'
      have hn := hR.1.1.1
      have hle := hN_le (p := p) hR.1.1
      have hh := here_R (fu := fu) hR.1 (by omega) hR.2.1
      obtain ⟨N, rfl⟩ : ∃ N2, N = N2 + 1 := ⟨N - 1, by omega⟩
      show (∀ f, sp (hN T n) (m + 1) 1 p o = .inl f → _) ∧ (∀ a d, sp (hN T n) (m + 1) 1 p o = .inr (a, d) → _)
      rw [sp]
      by_cases hA : hN T n p = 33 ∨ hN T n p = 40
      · rw [if_pos hA]
        have hpn : p < n := (hN_lt hR.1.1).mp (by omega)
        have hun0 : RCn fu (N + 1) U = F_X12_readsCondition_58 (Lp_X12_readsCondition_40 (F_X12_readsCondition_81 fu) (F_X12_readsCondition_90 fu) (F_X12_readsCondition_143 fu) (F_X12_readsCondition_170 fu) fu N) (F_X12_readsCondition_81 fu) (F_X12_readsCondition_90 fu) (F_X12_readsCondition_143 fu) (F_X12_readsCondition_170 fu) fu U := by
          rw [RCn, Lp_X12_readsCondition_40, F_X12_readsCondition_40, hh, bd_some]
          by_cases z : hN T n p = 33
          · rw [if_pos (show hI (hN T n p) = 33 by rw [hI_33 hle]; exact z)]
          · rw [if_neg (show ¬ hI (hN T n p) = 33 by rw [hI_33 hle]; exact z), hh, bd_some, if_pos (show hI (hN T n p) = 40 by rw [hI_40 hle]; omega)]
        by_cases ho : o < 6
        · rw [if_pos ho]
          by_cases hB : hN T n p = 40
          · rw [if_pos hB]
            obtain ⟨s1, s2, s3, s4, s5⟩ := opens_R (fu := fu) (what := 13) hR (by omega) ho
            have hF1 : Fr rfw U (opV2 U p o w 13) := Fr.weak s3 (by decide)
            have hrec := (ih (o + 1) (by omega) (by omega)).2 (by unfold bnd at hb ⊢; simp at hb ⊢; omega)
            obtain ⟨r1, r2⟩ := hrec (opV2 U p o w 13) (p + 1) c (w + 1) N s2 (by omega) (by omega) (by omega) (fun i hi => by
              by_cases z : i = w
              · subst z; exact ⟨_, by omega, s4⟩
              · rw [s5 i (by omega)]; exact hwn i (by omega)) (by omega) s4 (by omega)
            simp only [] at r1 r2
            have hun : RCn fu (N + 1) U = RCn fu N (opV2 U p o w 13) := by
              rw [hun0, F_X12_readsCondition_58, hh, bd_some, if_neg (show ¬ hI (hN T n p) = 33 by rw [hI_33 hle]; omega), F_X12_readsCondition_75, show f_X12_opens fu U 13 = _ from s1, bd_some, if_neg (by decide)]
              rfl
            rw [hun]
            cases hr : sp (hN T n) m 0 (p + 1) (o + 1) with
            | inl f0 =>
              obtain ⟨U', q1, q2, q3⟩ := r1 f0 hr
              exact ⟨fun f hf => ⟨U', q1, hF1.trans q2, by rw [q3]; exact Sum.inl.inj hf⟩, fun a d hf => (by cases hf)⟩
            | inr v =>
              obtain ⟨a, d⟩ := v
              obtain ⟨U', c2, w', N2, M, z1, z2, z3, z4, z5, z6, z7, z8, z9, U2, y1, y2, y3, y4, y5, y6, y7, y8, y9⟩ := r2 a d hr
              have hle1 := hN_le (p := a) hR.1.1
              have hh1 := here_R (fu := fu) z5.1 (by omega) z5.2.1
              obtain ⟨M, rfl⟩ : ∃ M', M = M' + 1 := ⟨M - 1, by omega⟩
              rw [z1]
              simp only [thn]
              by_cases hc : hN T n a = 41
              · rw [if_pos hc]
                have han : a < n := (hN_lt hR.1.1).mp (by omega)
                have hw0 : ¬ nI w = 0 := nI_ne0 (by have := htp.1; omega) (by omega)
                have hstep : RAn fu N2 (M + 1) U' = REn fu fu N2 M (setV (setV (setV U2 2249 0 0 (nI w)) 2247 0 0 (nI o)) 2243 0 0 (nI (a + 1))) := by
                  rw [RAn, Lp_X12_readsCondition_92, F_X12_readsCondition_92, hh1, bd_some, if_pos (show hI (hN T n a) = 41 by rw [hI_41 hle1]; exact hc), y1, bd_some, y3.2.2.2.2, show nI (w + 1) - 1 = nI w from nI_pred w, bv_eq, setV_fn (show 2247 ≠ 2249 by decide), y3.2.2.1, show nI (o + 1) - 1 = nI o from nI_pred o, bv_eq, setV_fn (show 2243 ≠ 2247 by decide), setV_fn (show 2243 ≠ 2249 by decide), y3.2.1, nI_1, bv_eq, setV_fn (show 2249 ≠ 2243 by decide), setV_fn (show 2249 ≠ 2247 by decide), setV_at, if_pos (show 0 = 0 ∧ 0 = 0 from ⟨rfl, rfl⟩), if_neg hw0]
                  rfl
                refine ⟨fun f hf => (by cases hf), fun a' d' hf => ?_⟩
                obtain ⟨rfl, rfl⟩ := inr2 hf
                have hF3 : Fr rfw U2 (setV (setV (setV U2 2249 0 0 (nI w)) 2247 0 0 (nI o)) 2243 0 0 (nI (a + 1))) := (((Fr.refl _ U2).set (by decide)).set (by decide)).set (by decide)
                have hU51 : ∀ k, (setV (setV (setV U2 2249 0 0 (nI w)) 2247 0 0 (nI o)) 2243 0 0 (nI (a + 1))) 2251 0 k = U2 2251 0 k := fun k => by rw [setV_fn (by decide), setV_fn (by decide), setV_fn (by decide)]
                refine ⟨_, c2, fu, N2, M, hstep, by omega, by omega, by omega, (hF1.trans y2).trans hF3, ⟨y3.1.fr hF3 (by decide), by rw [setV_at, if_pos ⟨rfl, rfl⟩], by rw [setV_fn (by decide), setV_at, if_pos ⟨rfl, rfl⟩], by rw [setV_fn (by decide), setV_fn (by decide), setV_fn (by decide)]; exact y3.2.2.2.1, by rw [setV_fn (by decide), setV_fn (by decide), setV_at, if_pos ⟨rfl, rfl⟩]⟩, by omega, by omega, y6, by omega, fun k k1 k2 => ?_, fun i hi => ?_, y8.cg (fun k _ _ => hU51 k), y9⟩
                · rw [hU51 k, y4 k k1 k2, s3 2251 (by decide)]
                · rw [setV_fn (by decide), setV_fn (by decide), setV_fn (by decide), y5 i (by omega)]; exact s5 i hi
              · rw [if_neg hc]
                have hstep : RAn fu N2 (M + 1) U' = some (0, setV U' 2245 0 0 (flt 1 a)) := by
                  rw [RAn, Lp_X12_readsCondition_92, F_X12_readsCondition_92, hh1, bd_some, if_neg (show ¬ hI (hN T n a) = 41 by rw [hI_41 hle1]; exact hc), F_X12_readsCondition_152, hh1, bd_some, if_neg (show ¬ hI (hN T n a) = 38 by rw [hI_38 hle1]; exact z6), hh1, bd_some, if_neg (show ¬ hI (hN T n a) = 124 by rw [hI_124 hle1]; exact z7), F_X12_readsCondition_170, z5.2.1, show f_X12_wrong fu U' 1 (nI a) = _ from wrong_R, bd_some, gd_t (.inl rfl)]
                rw [hstep]
                exact ⟨fun f hf => ⟨_, rfl, (hF1.trans z4).set (by decide), by rw [setV_at, if_pos ⟨rfl, rfl⟩]; exact Sum.inl.inj hf⟩, fun a d hf => (by cases hf)⟩
          · rw [if_neg hB]
            obtain ⟨s1, s2, s3, s4, s5⟩ := opens_R (fu := fu) (what := 10) hR (by omega) ho
            have hF1 : Fr rfw U (opV2 U p o w 10) := Fr.weak s3 (by decide)
            have hrec := (ih (o + 1) (by omega) (by omega)).1 (by unfold bnd at hb ⊢; simp at hb ⊢; omega)
            obtain ⟨r1, r2⟩ := hrec (opV2 U p o w 10) (p + 1) c (w + 1) N s2 (by omega) (by omega) (by omega) (fun i hi => by
              by_cases z : i = w
              · subst z; exact ⟨_, by omega, s4⟩
              · rw [s5 i (by omega)]; exact hwn i (by omega)) ⟨by omega, 1048576 * 10, by omega, s4, by omega⟩ (by omega)
            simp only [] at r1 r2
            have hun : RCn fu (N + 1) U = RCn fu N (opV2 U p o w 10) := by
              rw [hun0, F_X12_readsCondition_58, hh, bd_some, if_pos (show hI (hN T n p) = 33 by rw [hI_33 hle]; omega), F_X12_readsCondition_75, show f_X12_opens fu U 10 = _ from s1, bd_some, if_neg (by decide)]
              rfl
            rw [hun]
            cases hr : sp (hN T n) m 1 (p + 1) (o + 1) with
            | inl f0 =>
              obtain ⟨U', q1, q2, q3⟩ := r1 f0 hr
              exact ⟨fun f hf => ⟨U', q1, hF1.trans q2, by rw [q3]; exact Sum.inl.inj hf⟩, fun a d hf => (by cases hf)⟩
            | inr v =>
              obtain ⟨a, d⟩ := v
              obtain ⟨U1, c', E, N1, M, q1, qE, qN, qM, q3, q4, q5, q6, q7, q8, q9, q10, q11, qB⟩ := r2 a d hr
              obtain ⟨E, rfl⟩ : ∃ E', E = E' + 1 := ⟨E - 1, by omega⟩
              obtain ⟨U3, t1, t2, t3, t4, t5, t6⟩ := ends_1 (fu := fu) (E := E) (N := N1) (M := M) q4 (by omega) (by omega) (by rw [q10 w (by omega)]; exact s4)
              simp only [thn]
              refine ⟨fun f hf => (by cases hf), fun a' d' hf => ?_⟩
              obtain ⟨rfl, rfl⟩ := inr2 hf
              have hC' : RFf U3 c c' [d] := q11.cg (fun k k1 k2 => t4 k (by omega) k2)
              have hcw : sdV U3 c' = 10485760 := by unfold sdV; rw [t6, nI_clamp (by omega)]
              refine ⟨U3, c' + 1, E, N1, M, by rw [q1, t1], by omega, qN, qM, (hF1.trans q3).trans t2, t3, by omega, q6, by omega, by omega, fun k k1 k2 => ?_, fun i hi => ?_, ⟨hC'.1.nt hcw, hC'.2.app (fun k k1 k2 => ?_)⟩, isB_nt qB⟩
              · rw [t4 k k1 (by omega), q9 k k1 k2, s3 2251 (by decide)]
              · rw [t5 i hi, q10 i (by omega)]; exact s5 i hi
              · have : k = c' := by omega
                subst this; rw [t6]; exact nI_pos (by omega)
        · rw [if_neg ho]
          have e6 : o = 6 := by omega
          subst e6
          refine ⟨fun f hf => ⟨setV U 2245 0 0 (flt 5 p), ?_, (Fr.refl _ U).set (by decide), by rw [setV_at, if_pos ⟨rfl, rfl⟩]; exact Sum.inl.inj hf⟩, fun a d hf => (by cases hf)⟩
          rw [hun0, F_X12_readsCondition_58, hh, bd_some]
          by_cases z : hI (hN T n p) = 33
          · rw [if_pos z, F_X12_readsCondition_75, show f_X12_opens fu U 10 = _ from opens_6 (what := 10) hR, bd_some, if_pos rfl, F_X12_readsCondition_81]
          · rw [if_neg z, F_X12_readsCondition_75, show f_X12_opens fu U 13 = _ from opens_6 (what := 13) hR, bd_some, if_pos rfl, F_X12_readsCondition_81]
      · rw [if_neg hA]
        have hm2 : bnd 2 o ≤ m := by unfold bnd at hb ⊢; simp at hb ⊢; omega
        obtain ⟨r1, r2⟩ := readsSum_R (fu := fu) hfu ho1 ho6 hm2 hR hcp hwp hp hwn htp.ok
        have hun0 : RCn fu (N + 1) U = bd (f_X12_readsCompared fu U) fun r9 V10 => if r9 = 0 then F_X12_readsCondition_90 fu V10 else RAn fu N fu V10 := by
          rw [RCn, Lp_X12_readsCondition_40, F_X12_readsCondition_40, hh, bd_some, if_neg (show ¬ hI (hN T n p) = 33 by rw [hI_33 hle]; omega), hh, bd_some, if_neg (show ¬ hI (hN T n p) = 40 by rw [hI_40 hle]; omega)]
          rfl
        rw [hun0]
        cases hr : sp (hN T n) m 2 p o with
        | inl f0 =>
          obtain ⟨U', q1, q2, q3⟩ := r1 f0 hr
          refine ⟨fun f hf => ⟨U', ?_, q2, by rw [q3]; exact Sum.inl.inj hf⟩, fun a d hf => (by cases hf)⟩
          rw [f_X12_readsCompared, q1, bd_some, if_pos rfl, bd_some, if_pos rfl, F_X12_readsCondition_90]
        | inr v =>
          obtain ⟨a, d1⟩ := v
          obtain ⟨U1, c', q1, q2, q3, q4, q5, q6, q7, q8, q9, q10⟩ := r2 a d1 hr
          have hle1 := hN_le (p := a) hR.1.1
          have hh1 := here_R (fu := fu) q3.1 (by omega) q3.2.1
          simp only [thn]
          by_cases hc : hN T n a = 60 ∨ hN T n a = 61 ∨ hN T n a = 62
          · rw [if_pos hc]
            have han : a < n := (hN_lt hR.1.1).mp (by omega)
            have hoc := opN_cm hc
            have hcmp : f_X12_readsCompared fu U = F_X12_readsCompared_52 fu U1 (nI (opN (hN T n a))) := by
              rw [f_X12_readsCompared, q1, bd_some, if_neg (by decide), hh1, bd_some]
              rcases hc with z | z | z
              · rw [if_pos (show hI (hN T n a) = 60 by rw [hI_60 hle1]; exact z), z]; rfl
              · rw [if_neg (show ¬ hI (hN T n a) = 60 by rw [hI_60 hle1]; omega), hh1, bd_some, if_neg (show ¬ hI (hN T n a) = 62 by rw [hI_62 hle1]; omega), hh1, bd_some, if_pos (show hI (hN T n a) = 61 by rw [hI_61 hle1]; exact z), z]; rfl
              · rw [if_neg (show ¬ hI (hN T n a) = 60 by rw [hI_60 hle1]; omega), hh1, bd_some, if_pos (show hI (hN T n a) = 62 by rw [hI_62 hle1]; exact z), z]; rfl
            have hne : ¬ nI (opN (hN T n a)) = -1 := fun z => by
              have q := nI_pos (n := opN (hN T n a)) (by omega)
              rw [z] at q; exact q (by decide)
            have hF2 : Fr rfw U (setV U1 2243 0 0 (nI (a + 1))) := q2.set (by decide)
            have hR2 : RQ (setV U1 2243 0 0 (nI (a + 1))) T n (a + 1) o c' w := ⟨hR.1.fr hF2 (by decide), by rw [setV_at, if_pos ⟨rfl, rfl⟩], by rw [setV_fn (by decide)]; exact q3.2.2.1, by rw [setV_fn (by decide)]; exact q3.2.2.2.1, by rw [setV_fn (by decide)]; exact q3.2.2.2.2⟩
            have hW2 : agW U (setV U1 2243 0 0 (nI (a + 1))) w := fun i hi => by rw [setV_fn (by decide)]; exact q9 i hi
            obtain ⟨t1, t2⟩ := readsSum_R (fu := fu) hfu ho1 ho6 hm2 hR2 (by omega) (by omega) (by omega) (hwn.cg hW2) (htp.ok.cg hW2)
            have h52 : F_X12_readsCompared_52 fu U1 (nI (opN (hN T n a))) = bd (f_X12_readsSum fu (setV U1 2243 0 0 (nI (a + 1)))) fun r4 V5 => if r4 = 0 then (some (0, V5)) else (bd (f_X12_says fu V5 (nI (opN (hN T n a))) (0)) fun r8 V9 => bd (f_X12_endsPiece fu V9) fun r11 V12 => some (1, V12)) := by
              rw [F_X12_readsCompared_52, if_neg hne, q3.2.1, nI_1, bv_eq]
            rw [hcmp, h52]
            cases hr2 : sp (hN T n) m 2 (a + 1) o with
            | inl f0 =>
              obtain ⟨U', z1, z2, z3⟩ := t1 f0 hr2
              refine ⟨fun f hf => ⟨U', ?_, hF2.trans z2, by rw [z3]; exact Sum.inl.inj hf⟩, fun a d hf => (by cases hf)⟩
              rw [z1, bd_some, if_pos rfl, bd_some, if_pos rfl, F_X12_readsCondition_90]
            | inr v =>
              obtain ⟨b, d2⟩ := v
              obtain ⟨U2, c2, z1, z2, z3, z4, z5, z6, z7, z8, z9, z10⟩ := t2 b d2 hr2
              have hsy := says_R (fu := fu) (op := opN (hN T n a)) (v := 0) (U := U2) (by omega) z3.2.2.2.1
              rw [Nat.add_zero (1048576 * opN (hN T n a)), nI_0] at hsy
              refine ⟨fun f hf => (by cases hf), fun a' d' hf => ?_⟩
              obtain ⟨rfl, rfl⟩ := inr2 hf
              have hF3 : Fr rfw U (syV U2 c2 (1048576 * opN (hN T n a))) := (hF2.trans z2).trans (Fr.weak (syV_fr _ _ _) (by decide))
              have hag : agS U2 (syV U2 c2 (1048576 * opN (hN T n a))) 0 c2 := fun k _ k2 => syV_old (by omega)
              have hagA : agS U1 U2 0 c' := fun k k1 k2 => by rw [z8 k k1 k2, setV_fn (by decide)]
              have hC1 : RFf U2 c c' [d1] := q10.cg (fun k k1 k2 => hagA k (by omega) k2)
              have hC2 : RFf (syV U2 c2 (1048576 * opN (hN T n a))) c c2 [d2, d1] := (hC1.app z10).cg (fun k k1 k2 => hag k (by omega) k2)
              have hcw : sdV (syV U2 c2 (1048576 * opN (hN T n a))) c2 = 1048576 * opN (hN T n a) := syV_cw (by omega)
              refine ⟨syV U2 c2 (1048576 * opN (hN T n a)), c2 + 1, fu, N, fu, ?_, by omega, by omega, by omega, hF3, ⟨hR.1.fr hF3 (by decide), by rw [syV_fr U2 c2 _ 2243 (by decide)]; exact z3.2.1, by rw [syV_fr U2 c2 _ 2247 (by decide)]; exact z3.2.2.1, syV_sz, by rw [syV_fr U2 c2 _ 2249 (by decide)]; exact z3.2.2.2.2⟩, by omega, z5, by omega, by omega, fun k k1 k2 => by rw [hag k k1 (by omega), hagA k k1 (by omega)]; exact q8 k k1 k2, fun i hi => by rw [syV_fr U2 c2 _ 2252 (by decide), z9 i hi]; exact hW2 i hi, ⟨hC2.1.cmp hcw hc, hC2.2.app (fun k k1 k2 => ?_)⟩, isB_cm⟩
              · rw [z1, bd_some, if_neg (by decide), hsy, bd_some, bd_then]
                rfl
              · have : k = c2 := by omega
                subst this; rw [syV_new]; exact nI_pos (by omega)
          · rw [if_neg hc]
            have hcmp : f_X12_readsCompared fu U = some (0, setV U1 2245 0 0 (flt 1 a)) := by
              rw [f_X12_readsCompared, q1, bd_some, if_neg (by decide), hh1, bd_some, if_neg (show ¬ hI (hN T n a) = 60 by rw [hI_60 hle1]; omega), hh1, bd_some, if_neg (show ¬ hI (hN T n a) = 62 by rw [hI_62 hle1]; omega), hh1, bd_some, if_neg (show ¬ hI (hN T n a) = 61 by rw [hI_61 hle1]; omega), F_X12_readsCompared_52, if_pos rfl, q3.2.1, show f_X12_wrong fu U1 1 (nI a) = _ from wrong_R, bd_some, gd_t (.inl rfl)]
            rw [hcmp, bd_some, if_pos rfl, F_X12_readsCondition_90]
            exact ⟨fun f hf => ⟨_, rfl, q2.set (by decide), by rw [setV_at, if_pos ⟨rfl, rfl⟩]; exact Sum.inl.inj hf⟩, fun a d hf => (by cases hf)⟩
    · intro U p c w N hR hcp hwp hp hwn hw1 h13 hN'
      have hn := hR.1.1.1
      have hrc := (ih o ho1 ho6).1 (by unfold bnd at hb ⊢; simp at hb ⊢; omega)
      obtain ⟨i1, i2⟩ := cnd_R (fu := fu) hfu hrc 200 p c c p w N (fun _ => some 2) none none U (by omega) hN' hR hwn ⟨hw1, ⟨1048576 * 13, by omega, h13, by omega⟩, fun q e => (by cases e), fun q e => (by cases e), .inl rfl⟩ h13 hp (Nat.le_refl _) (Nat.le_refl _) hcp (by omega) (by show w + 0 + 0 ≤ p; omega) QRf.nil (fun k k1 k2 => by omega)
      show (∀ f, sp (hN T n) (m + 1) 0 p o = .inl f → _) ∧ (∀ a d, sp (hN T n) (m + 1) 0 p o = .inr (a, d) → _)
      rw [sp]
      exact ⟨i1, i2⟩
