/-! the class's reader, whole -/
theorem inr2 {a a' : Nat} {d d' : Den} (h : (Sum.inr (a, d) : PR) = .inr (a', d')) : a = a' ∧ d = d' := by
  have := Sum.inr.inj h
  simp only [Prod.mk.injEq] at this
  exact this
theorem rd_C {fu n : Nat} {T : Nat → Int32} (hfu : 1000 ≤ fu) : ∀ (m mode o : Nat), mode ≤ 3 → 1 ≤ o → o ≤ 6 → bnd mode o ≤ m → okR fu n T (g_rd fu m mode) (fun p => sp (hN T n) m mode p o) mode o := by
  intro m
  induction m with
  | zero =>
    intro mode o _ _ _ hb
    unfold bnd at hb
    exfalso
    repeat' split at hb
    all_goals omega
  | succ m ih =>
    intro mode o hm ho1 ho6 hb V p s ht e1 e7 hsp hp
    have hn := ht.1.1
    have hle := hN_le (p := p) ht.1
    have hh := here_C (fu := fu) ht (by omega) e1
    rcases (show mode = 0 ∨ mode = 1 ∨ mode = 2 ∨ mode = 3 by omega) with rfl | rfl | rfl | rfl
    · -- a condition
      have hrc := ih 1 o (by omega) ho1 ho6 (by unfold bnd at hb ⊢; simp at hb ⊢; omega)
      obtain ⟨i1, i2⟩ := cnd_C (fu := fu) hfu hrc 200 fu 0 p s s p s (fun _ => some 2) V (by omega) (by omega) (by omega) hp (Nat.le_refl _) (Nat.le_refl _) (Nat.le_refl _) hsp (by omega) ht e1 e7 QC.nil (fun k k1 k2 => by omega) (fun k k1 k2 => by omega)
      have hun : g_rd fu (m + 1) 0 V (nI o) = Lp_X9_readCondition_13 (g_rd fu m 1) (F_X9_readCondition_30 (g_rd fu m 1) fu) (F_X9_readCondition_70 (g_rd fu m 1) fu) (F_X9_readCondition_108 (g_rd fu m 1) fu) fu fu V (nI o) (nI s) (nI s) (nI 0) := by
        rw [g_rd, fb_X9_readCondition, e7, nI_0]
      rw [hun]
      show (∀ f, sp (hN T n) (m + 1) 0 p o = .inl f → _) ∧ (∀ a d, sp (hN T n) (m + 1) 0 p o = .inr (a, d) → _)
      rw [sp]
      refine ⟨i1, fun a d hf => ?_⟩
      obtain ⟨V', e, z1, z2, z3, z4, z5, z6, z7, z8, z9, z10⟩ := i2 a d hf
      exact ⟨V', e, z1, z2, z3, z4, z5, z6, z7, by omega, z9, z10⟩
    · -- a piece
      show (∀ f, sp (hN T n) (m + 1) 1 p o = .inl f → _) ∧ (∀ a d, sp (hN T n) (m + 1) 1 p o = .inr (a, d) → _)
      rw [sp]
      have hg : g_rd fu (m + 1) 1 V (nI o) = fb_X9_readPiece (g_rd fu m 0) (g_rd fu m 1) (g_rd fu m 2) fu V (nI o) := rfl
      by_cases hA : hN T n p = 33 ∨ hN T n p = 40
      · rw [if_pos hA]
        have hpn : p < n := (hN_lt ht.1).mp (by omega)
        have hun : g_rd fu (m + 1) 1 V (nI o) = F_X9_readPiece_17 (g_rd fu m 0) (g_rd fu m 1) (g_rd fu m 2) fu V (nI o) (hI (hN T n p)) := by
          rw [hg, fb_X9_readPiece, hh, bd_some]
          by_cases z : hN T n p = 33
          · rw [if_pos (show hI (hN T n p) = 33 by rw [hI_33 hle]; exact z)]
          · rw [if_neg (show ¬ hI (hN T n p) = 33 by rw [hI_33 hle]; exact z), if_pos (show hI (hN T n p) = 40 by rw [hI_40 hle]; omega)]
        rw [hun]
        by_cases ho : o < 6
        · rw [if_pos ho]
          have h6 : nI o < 6 := nI_lt (b := 6) ho (by omega)
          have hF1 : Fr rdw V (setV V 1910 0 0 (nI (p + 1))) := (Fr.refl _ V).set (by decide)
          have ht1 := ht.fr hF1 (by decide)
          have e11 : setV V 1910 0 0 (nI (p + 1)) 1910 0 0 = nI (p + 1) := by rw [setV_at, if_pos ⟨rfl, rfl⟩]
          have e71 : setV V 1910 0 0 (nI (p + 1)) 1907 0 0 = nI s := by rw [setV_fn (by decide)]; exact e7
          have ag1 : agV V (setV V 1910 0 0 (nI (p + 1))) 0 s := fun k _ _ => by rw [setV_fn (by decide)]
          by_cases hB : hN T n p = 40
          · rw [if_pos hB]
            have hrc := ih 0 (o + 1) (by omega) (by omega) (by omega) (by unfold bnd at hb ⊢; simp at hb ⊢; omega)
            obtain ⟨r1, r2⟩ := hrc (setV V 1910 0 0 (nI (p + 1))) (p + 1) s ht1 e11 e71 (by omega) (by omega)
            have hun2 : F_X9_readPiece_17 (g_rd fu m 0) (g_rd fu m 1) (g_rd fu m 2) fu V (nI o) (hI (hN T n p)) = bd (g_rd fu m 0 (setV V 1910 0 0 (nI (p + 1))) (nI (o + 1))) fun r8 V9 => if r8 = 0 then (F_X9_readPiece_68 (g_rd fu m 0) (g_rd fu m 1) (g_rd fu m 2) fu V9) else (bd (f_X9_take fu V9 (nI 41)) fun r12 V13 => if r12 = 0 then (F_X9_readPiece_68 (g_rd fu m 0) (g_rd fu m 1) (g_rd fu m 2) fu V13) else (F_X9_readPiece_69 (g_rd fu m 0) (g_rd fu m 1) (g_rd fu m 2) fu V13 (1))) := by
              rw [F_X9_readPiece_17, if_pos h6, e1, nI_1, bv_eq, if_pos (show hI (hN T n p) = 40 by rw [hI_40 hle]; exact hB), nI_1]; rfl
            rw [hun2]
            simp only [] at r1 r2
            cases hr : sp (hN T n) m 0 (p + 1) (o + 1) with
            | inl f0 =>
              obtain ⟨V', q1, q2, q3⟩ := r1 f0 hr
              refine ⟨fun f hf => ⟨V', ?_, hF1.trans q2, by rw [q3]; exact Sum.inl.inj hf⟩, fun a d hf => (by cases hf)⟩
              rw [q1, bd_some, if_pos rfl, F_X9_readPiece_68, F_X9_readPiece_69, gd_t (.inl rfl)]
            | inr w =>
              obtain ⟨a, d⟩ := w
              obtain ⟨V1, e, q1, q2, q3, q4, q5, q6, q7, q8, q9, q10⟩ := r2 a d hr
              have hF2 : Fr rdw V V1 := hF1.trans q2
              have htk := take_C (fu := fu) (c := 41) (ht.fr hF2 (by decide)) q6 (by omega) q3
              rw [q1, bd_some, if_neg (by decide), htk]
              simp only [thn]
              by_cases hc : hN T n a = 41
              · rw [if_pos hc, if_pos hc, bd_some, if_neg (by decide), F_X9_readPiece_69, gd_t (.inr rfl)]
                have han : a < n := (hN_lt ht.1).mp (by omega)
                refine ⟨fun f hf => (by cases hf), fun a' d' hf => ?_⟩
                obtain ⟨rfl, rfl⟩ := inr2 hf
                exact ⟨_, e, rfl, hF2.set (by decide), by rw [setV_at, if_pos ⟨rfl, rfl⟩], by rw [setV_fn (by decide)]; exact q4, by omega, by omega, q7, by omega, fun k k1 k2 => by rw [setV_fn (by decide), q9 k k1 k2]; exact ag1 k k1 k2, CG.cg q10 (fun k _ _ => by rw [setV_fn (by decide)])⟩
              · rw [if_neg hc, if_neg hc, bd_some, if_pos rfl, F_X9_readPiece_68, F_X9_readPiece_69, gd_t (.inl rfl)]
                exact ⟨fun f hf => ⟨_, rfl, hF2.set (by decide), by rw [setV_at, if_pos ⟨rfl, rfl⟩]; exact Sum.inl.inj hf⟩, fun a d hf => (by cases hf)⟩
          · rw [if_neg hB]
            have hrc := ih 1 (o + 1) (by omega) (by omega) (by omega) (by unfold bnd at hb ⊢; simp at hb ⊢; omega)
            obtain ⟨r1, r2⟩ := hrc (setV V 1910 0 0 (nI (p + 1))) (p + 1) s ht1 e11 e71 (by omega) (by omega)
            have hun2 : F_X9_readPiece_17 (g_rd fu m 0) (g_rd fu m 1) (g_rd fu m 2) fu V (nI o) (hI (hN T n p)) = bd (g_rd fu m 1 (setV V 1910 0 0 (nI (p + 1))) (nI (o + 1))) fun r5 V6 => if r5 = 0 then (F_X9_readPiece_94 (g_rd fu m 0) (g_rd fu m 1) (g_rd fu m 2) fu V6) else (bd (f_X9_emit fu V6 (nI 33) (nI 0)) fun r9 V10 => if r9 = 0 then (F_X9_readPiece_94 (g_rd fu m 0) (g_rd fu m 1) (g_rd fu m 2) fu V10) else (F_X9_readPiece_95 (g_rd fu m 0) (g_rd fu m 1) (g_rd fu m 2) fu V10 (1))) := by
              rw [F_X9_readPiece_17, if_pos h6, e1, nI_1, bv_eq, if_neg (show ¬ hI (hN T n p) = 40 by rw [hI_40 hle]; exact hB), nI_1]; rfl
            rw [hun2]
            simp only [] at r1 r2
            cases hr : sp (hN T n) m 1 (p + 1) (o + 1) with
            | inl f0 =>
              obtain ⟨V', q1, q2, q3⟩ := r1 f0 hr
              refine ⟨fun f hf => ⟨V', ?_, hF1.trans q2, by rw [q3]; exact Sum.inl.inj hf⟩, fun a d hf => (by cases hf)⟩
              rw [q1, bd_some, if_pos rfl, F_X9_readPiece_94, F_X9_readPiece_95, gd_t (.inl rfl)]
            | inr w =>
              obtain ⟨a, d⟩ := w
              obtain ⟨V1, e, q1, q2, q3, q4, q5, q6, q7, q8, q9, q10⟩ := r2 a d hr
              have q10 : CG V1 s e d := q10
              have hF2 : Fr rdw V V1 := hF1.trans q2
              have he := emit_C (fu := fu) (V := V1) (s := e) (sg := 33) (num := 0) (by omega) (by omega) (by omega) q4
              rw [q1, bd_some, if_neg (by decide), he, bd_some, if_neg (by decide), F_X9_readPiece_95, gd_t (.inr rfl)]
              simp only [thn]
              refine ⟨fun f hf => (by cases hf), fun a' d' hf => ?_⟩
              obtain ⟨rfl, rfl⟩ := inr2 hf
              have hag : agV V1 (emV V1 e 33) 0 e := fun k _ k2 => emV_old (by omega)
              have hC' : CG (emV V1 e 33) s e d := q10.cg (fun k k1 k2 => hag k (by omega) k2)
              have hw : kwV (emV V1 e 33) e = 33 := emV_cw (by omega)
              refine ⟨emV V1 e 33, e + 1, rfl, hF2.trans (Fr.weak (emV_fr V1 e 33) (by decide)), by rw [emV_fr V1 e 33 1910 (by decide)]; exact q3, emV_sz, by omega, q6, by omega, by omega, fun k k1 k2 => by rw [hag k k1 (by omega), q9 k k1 k2]; exact ag1 k k1 k2, hC'.1.nt hw, hC'.2.1.app (fun k k1 k2 => ?_), hC'.2.2.app (fun k k1 k2 => ?_)⟩
              · have : k = e := by omega
                subst this; rw [hw]; omega
              · have : k = e := by omega
                subst this; rw [emV_new]; exact nI_pos (by omega)
        · rw [if_neg ho]
          have h6 : ¬ nI o < 6 := by rw [show (6 : Int32) = nI 6 from rfl, nI_ltI (by omega) (by omega)]; exact ho
          refine ⟨fun f hf => ⟨setV V 1911 0 0 (flt 5 p), ?_, (Fr.refl _ V).set (by decide), by rw [setV_at, if_pos ⟨rfl, rfl⟩]; exact Sum.inl.inj hf⟩, fun a d hf => (by cases hf)⟩
          have hf5 := fail_C (fu := fu) (k := 5) (V := V) e1
          rw [F_X9_readPiece_17, if_neg h6, show f_X9_fail fu V 5 = some (0, setV V 1911 0 0 (flt 5 p)) from hf5, bd_some, gd_t (.inl rfl)]
      · rw [if_neg hA]
        have hrc := ih 2 o (by omega) ho1 ho6 (by unfold bnd at hb ⊢; simp at hb ⊢; omega)
        obtain ⟨r1, r2⟩ := hrc V p s ht e1 e7 hsp hp
        simp only [] at r1 r2
        have hun : g_rd fu (m + 1) 1 V (nI o) = bd (g_rd fu m 2 V (nI o)) fun r6 V7 => if r6 = 0 then (some (0, V7)) else (bd (f_X9_here fu V7) fun r10 V11 => bd (f_X9_isOneOf fu V11 5 r10) fun r13 V14 => if r13 = 0 then (bd (f_X9_fail fu V14 (nI 1)) fun r22 V23 => gd (r22 = 0 ∨ r22 = 1) <| some (r22, V23)) else (bv (setV V14 1910 0 0 ((V14 1910 0 0) + 1)) fun V17 => bd (g_rd fu m 2 V17 (nI o)) fun r19 V20 => if r19 = 0 then (F_X9_readPiece_157 (g_rd fu m 0) (g_rd fu m 1) (g_rd fu m 2) fu V20) else (bd (f_X9_emit fu V20 r10 (nI 0)) fun r23 V24 => if r23 = 0 then (F_X9_readPiece_157 (g_rd fu m 0) (g_rd fu m 1) (g_rd fu m 2) fu V24) else (F_X9_readPiece_158 (g_rd fu m 0) (g_rd fu m 1) (g_rd fu m 2) fu V24 1)))) := by
          rw [hg, fb_X9_readPiece, hh, bd_some, if_neg (show ¬ hI (hN T n p) = 33 by rw [hI_33 hle]; omega), if_neg (show ¬ hI (hN T n p) = 40 by rw [hI_40 hle]; omega)]
          rfl
        rw [hun]
        cases hr : sp (hN T n) m 2 p o with
        | inl f0 =>
          obtain ⟨V', q1, q2, q3⟩ := r1 f0 hr
          refine ⟨fun f hf => ⟨V', ?_, q2, by rw [q3]; exact Sum.inl.inj hf⟩, fun a d hf => (by cases hf)⟩
          rw [q1, bd_some, if_pos rfl]
        | inr w =>
          obtain ⟨a, d1⟩ := w
          obtain ⟨V1, e, q1, q2, q3, q4, q5, q6, q7, q8, q9, q10⟩ := r2 a d1 hr
          have q10 : CF V1 s e [d1] := q10
          have ht1 := ht.fr q2 (by decide)
          have hh1 := here_C (fu := fu) ht1 (by omega) q3
          have hle1 := hN_le (p := a) ht.1
          have hio := io_eq (fu := fu) (V := V1) (k := 5) (by decide) (ioF (hN T n a) (by omega))
          rw [q1, bd_some, if_neg (by decide), hh1, bd_some, hio, bd_some]
          simp only [thn]
          by_cases hc : hN T n a = 60 ∨ hN T n a = 61 ∨ hN T n a = 62
          · rw [if_neg (show ¬ (if hN T n a = 60 ∨ hN T n a = 61 ∨ hN T n a = 62 then (1 : Int32) else 0) = 0 by rw [if_pos hc]; decide), if_pos hc]
            have han : a < n := (hN_lt ht.1).mp (by omega)
            have hF2 : Fr rdw V (setV V1 1910 0 0 (nI (a + 1))) := q2.set (by decide)
            obtain ⟨t1, t2⟩ := hrc (setV V1 1910 0 0 (nI (a + 1))) (a + 1) e (ht.fr hF2 (by decide)) (by rw [setV_at, if_pos ⟨rfl, rfl⟩]) (by rw [setV_fn (by decide)]; exact q4) (by omega) (by omega)
            simp only [] at t1 t2
            rw [bv_eq, q3, nI_1]
            cases hr2 : sp (hN T n) m 2 (a + 1) o with
            | inl f0 =>
              obtain ⟨V', z1, z2, z3⟩ := t1 f0 hr2
              refine ⟨fun f hf => ⟨V', ?_, hF2.trans z2, by rw [z3]; exact Sum.inl.inj hf⟩, fun a d hf => (by cases hf)⟩
              rw [z1, bd_some, if_pos rfl, F_X9_readPiece_157, F_X9_readPiece_158, gd_t (.inl rfl)]
            | inr w =>
              obtain ⟨b, d2⟩ := w
              obtain ⟨V2, e2, z1, z2, z3, z4, z5, z6, z7, z8, z9, z10⟩ := t2 b d2 hr2
              have z10 : CF V2 e e2 [d2] := z10
              have hhi : hI (hN T n a) = nI (hN T n a) := by unfold hI; rw [if_pos (by omega)]
              have he := emit_C (fu := fu) (V := V2) (s := e2) (sg := hN T n a) (num := 0) (by omega) (by omega) (by omega) z4
              rw [z1, bd_some, if_neg (by decide), hhi, he, bd_some, if_neg (by decide), F_X9_readPiece_158, gd_t (.inr rfl)]
              refine ⟨fun f hf => (by cases hf), fun a' d' hf => ?_⟩
              obtain ⟨rfl, rfl⟩ := inr2 hf
              rw [Nat.mul_zero, Nat.zero_add]
              have hagA : agV V1 V2 0 e := fun k k1 k2 => by rw [z9 k k1 k2, setV_fn (by decide)]
              have hag : agV V2 (emV V2 e2 (hN T n a)) 0 e2 := fun k _ k2 => emV_old (by omega)
              have hC1 : CF V2 s e [d1] := q10.cg (fun k k1 k2 => hagA k (by omega) k2)
              have hC2 : CF (emV V2 e2 (hN T n a)) s e2 [d2, d1] := (hC1.app z10).cg (fun k k1 k2 => hag k (by omega) k2)
              have hw : kwV (emV V2 e2 (hN T n a)) e2 = hN T n a := emV_cw (by omega)
              refine ⟨emV V2 e2 (hN T n a), e2 + 1, rfl, (hF2.trans z2).trans (Fr.weak (emV_fr _ _ _) (by decide)), by rw [emV_fr V2 e2 _ 1910 (by decide)]; exact z3, emV_sz, by omega, z6, by omega, by omega, fun k k1 k2 => by rw [hag k k1 (by omega), hagA k k1 (by omega)]; exact q9 k k1 k2, GC.cmp hC2.1 hw hc, hC2.2.1.app (fun k k1 k2 => ?_), hC2.2.2.app (fun k k1 k2 => ?_)⟩
              · have : k = e2 := by omega
                subst this; rw [hw]; omega
              · have : k = e2 := by omega
                subst this; rw [emV_new]; exact nI_pos (by omega)
          · rw [if_pos (show (if hN T n a = 60 ∨ hN T n a = 61 ∨ hN T n a = 62 then (1 : Int32) else 0) = 0 by rw [if_neg hc]), if_neg hc, fail_C q3, bd_some, gd_t (.inl rfl)]
            exact ⟨fun f hf => ⟨_, rfl, q2.set (by decide), by rw [setV_at, if_pos ⟨rfl, rfl⟩]; exact Sum.inl.inj hf⟩, fun a d hf => (by cases hf)⟩
    · -- a sum
      have hrc := ih 3 o (by omega) ho1 ho6 (by unfold bnd at hb ⊢; simp at hb ⊢; omega)
      obtain ⟨i1, i2⟩ := sum_C (fu := fu) hfu hrc 200 fu 0 p s s p none none V (by omega) (by omega) (by omega) hp (Nat.le_refl _) (Nat.le_refl _) hsp (by show s + 0 + 0 + p ≤ s + p; omega) ht e1 e7 (fun _ _ z => (by cases z)) (fun _ _ z => (by cases z)) ⟨FLC.nil, fun k k1 k2 => by omega, fun k k1 k2 => by omega⟩
      have hun : g_rd fu (m + 1) 2 V (nI o) = Lp_X9_readSum_7 (g_rd fu m 3) (F_X9_readSum_24 (g_rd fu m 3) fu) (F_X9_readSum_82 (g_rd fu m 3) fu) (F_X9_readSum_103 (g_rd fu m 3) fu) fu fu V (nI o) (sgI none) (sgI none) (nI 0) := by
        rw [nI_0]; rfl
      rw [hun]
      show (∀ f, sp (hN T n) (m + 1) 2 p o = .inl f → _) ∧ (∀ a d, sp (hN T n) (m + 1) 2 p o = .inr (a, d) → _)
      rw [sp]
      refine ⟨i1, fun a d hf => ?_⟩
      obtain ⟨V', e, z1, z2, z3, z4, z5, z6, z7, z8, z9, z10⟩ := i2 a d hf
      exact ⟨V', e, z1, z2, z3, z4, z5, z6, z7, by omega, z9, z10⟩
    · -- a factor
      show (∀ f, sp (hN T n) (m + 1) 3 p o = .inl f → _) ∧ (∀ a d, sp (hN T n) (m + 1) 3 p o = .inr (a, d) → _)
      rw [sp]
      have hg : g_rd fu (m + 1) 3 V (nI o) = fb_X9_readFactor (g_rd fu m 2) fu V (nI o) := rfl
      by_cases hA : hN T n p = 91
      · rw [if_pos hA]
        have hpn : p < n := (hN_lt ht.1).mp (by omega)
        by_cases ho : o < 6
        · rw [if_pos ho]
          have h6 : nI o < 6 := nI_lt (b := 6) ho (by omega)
          have hF1 : Fr rdw V (setV V 1910 0 0 (nI (p + 1))) := (Fr.refl _ V).set (by decide)
          have ht1 := ht.fr hF1 (by decide)
          have e11 : setV V 1910 0 0 (nI (p + 1)) 1910 0 0 = nI (p + 1) := by rw [setV_at, if_pos ⟨rfl, rfl⟩]
          have e71 : setV V 1910 0 0 (nI (p + 1)) 1907 0 0 = nI s := by rw [setV_fn (by decide)]; exact e7
          have ag1 : agV V (setV V 1910 0 0 (nI (p + 1))) 0 s := fun k _ _ => by rw [setV_fn (by decide)]
          have hrc := ih 2 (o + 1) (by omega) (by omega) (by omega) (by unfold bnd at hb ⊢; simp at hb ⊢; omega)
          obtain ⟨r1, r2⟩ := hrc (setV V 1910 0 0 (nI (p + 1))) (p + 1) s ht1 e11 e71 (by omega) (by omega)
          have hun2 : g_rd fu (m + 1) 3 V (nI o) = bd (g_rd fu m 2 (setV V 1910 0 0 (nI (p + 1))) (nI (o + 1))) fun r8 V9 => if r8 = 0 then (F_X9_readFactor_56 (g_rd fu m 2) fu V9) else (bd (f_X9_take fu V9 (nI 93)) fun r12 V13 => if r12 = 0 then (F_X9_readFactor_56 (g_rd fu m 2) fu V13) else (F_X9_readFactor_57 (g_rd fu m 2) fu V13 1)) := by
            rw [hg, fb_X9_readFactor, hh, bd_some, if_pos (show hI (hN T n p) = 91 by rw [hI_91 hle]; exact hA), if_pos h6, e1, nI_1, bv_eq, nI_1]; rfl
          rw [hun2]
          simp only [] at r1 r2
          cases hr : sp (hN T n) m 2 (p + 1) (o + 1) with
          | inl f0 =>
            obtain ⟨V', q1, q2, q3⟩ := r1 f0 hr
            refine ⟨fun f hf => ⟨V', ?_, hF1.trans q2, by rw [q3]; exact Sum.inl.inj hf⟩, fun a d hf => (by cases hf)⟩
            rw [q1, bd_some, if_pos rfl, F_X9_readFactor_56, F_X9_readFactor_57, gd_t (.inl rfl)]
          | inr w =>
            obtain ⟨a, d⟩ := w
            obtain ⟨V1, e, q1, q2, q3, q4, q5, q6, q7, q8, q9, q10⟩ := r2 a d hr
            have hF2 : Fr rdw V V1 := hF1.trans q2
            have htk := take_C (fu := fu) (c := 93) (ht.fr hF2 (by decide)) q6 (by omega) q3
            rw [q1, bd_some, if_neg (by decide), htk]
            simp only [thn]
            by_cases hc : hN T n a = 93
            · rw [if_pos hc, if_pos hc, bd_some, if_neg (by decide), F_X9_readFactor_57, gd_t (.inr rfl)]
              have han : a < n := (hN_lt ht.1).mp (by omega)
              refine ⟨fun f hf => (by cases hf), fun a' d' hf => ?_⟩
              obtain ⟨rfl, rfl⟩ := inr2 hf
              exact ⟨_, e, rfl, hF2.set (by decide), by rw [setV_at, if_pos ⟨rfl, rfl⟩], by rw [setV_fn (by decide)]; exact q4, by omega, by omega, q7, by omega, fun k k1 k2 => by rw [setV_fn (by decide), q9 k k1 k2]; exact ag1 k k1 k2, CF.cg q10 (fun k _ _ => by rw [setV_fn (by decide)])⟩
            · rw [if_neg hc, if_neg hc, bd_some, if_pos rfl, F_X9_readFactor_56, F_X9_readFactor_57, gd_t (.inl rfl)]
              exact ⟨fun f hf => ⟨_, rfl, hF2.set (by decide), by rw [setV_at, if_pos ⟨rfl, rfl⟩]; exact Sum.inl.inj hf⟩, fun a d hf => (by cases hf)⟩
        · rw [if_neg ho]
          have h6 : ¬ nI o < 6 := by rw [show (6 : Int32) = nI 6 from rfl, nI_ltI (by omega) (by omega)]; exact ho
          refine ⟨fun f hf => ⟨setV V 1911 0 0 (flt 5 p), ?_, (Fr.refl _ V).set (by decide), by rw [setV_at, if_pos ⟨rfl, rfl⟩]; exact Sum.inl.inj hf⟩, fun a d hf => (by cases hf)⟩
          have hf5 := fail_C (fu := fu) (k := 5) (V := V) e1
          rw [hg, fb_X9_readFactor, hh, bd_some, if_pos (show hI (hN T n p) = 91 by rw [hI_91 hle]; exact hA), if_neg h6, show f_X9_fail fu V 5 = some (0, setV V 1911 0 0 (flt 5 p)) from hf5, bd_some, gd_t (.inl rfl)]
      · rw [if_neg hA]
        by_cases hD : 48 ≤ hN T n p ∧ hN T n p ≤ 57
        · rw [if_pos hD]
          obtain ⟨r1, r2⟩ := num_C (fu := fu) (most := 99999) hfu (by omega) ht hp e1
          have hun : g_rd fu (m + 1) 3 V (nI o) = bd (f_X9_readNumber fu V (nI 99999)) fun r7 V8 => if r7 = (-1) then (F_X9_readFactor_96 (g_rd fu m 2) fu V8) else (bd (f_X9_emit fu V8 (nI 35) r7) fun r11 V12 => if r11 = 0 then (F_X9_readFactor_96 (g_rd fu m 2) fu V12) else (F_X9_readFactor_97 (g_rd fu m 2) fu V12 1)) := by
            rw [hg, fb_X9_readFactor, hh, bd_some, if_neg (show ¬ hI (hN T n p) = 91 by rw [hI_91 hle]; exact hA), if_neg (show ¬ hI (hN T n p) < 48 by rw [hI_lt hle]; omega), if_neg (show ¬ 57 < hI (hN T n p) by rw [hI_gt hle]; omega)]; rfl
          rw [hun]
          cases hr : spNum (hN T n) 99999 p with
          | inl f0 =>
            obtain ⟨V', q1, q2, q3⟩ := r1 f0 hr
            refine ⟨fun f hf => ⟨V', ?_, Fr.weak q2 (by decide), by rw [q3]; exact Sum.inl.inj hf⟩, fun a d hf => (by cases hf)⟩
            rw [q1, bd_some, if_pos rfl, F_X9_readFactor_96, F_X9_readFactor_97, gd_t (.inl rfl)]
          | inr w =>
            obtain ⟨a, v⟩ := w
            obtain ⟨V1, q1, q2, q3⟩ := r2 a v hr
            obtain ⟨s1, s2, s3, -, s5⟩ := spNum_adv ht.1 hr
            have hne : ¬ nI v = -1 := fun z => by
              have q := nI_pos (n := v) (by omega)
              rw [z] at q; exact q (by decide)
            have q4 : V1 1907 0 0 = nI s := by rw [q2 1907 (by decide)]; exact e7
            have he := emit_C (fu := fu) (V := V1) (s := s) (sg := 35) (num := v) (by omega) (by omega) s3 q4
            rw [q1, bd_some, if_neg hne, he, bd_some, if_neg (by decide), F_X9_readFactor_97, gd_t (.inr rfl)]
            refine ⟨fun f hf => (by cases hf), fun a' d' hf => ?_⟩
            obtain ⟨rfl, rfl⟩ := inr2 hf
            have hw : kwV (emV V1 s (256 * v + 35)) s = 256 * v + 35 := emV_cw (by omega)
            refine ⟨emV V1 s (256 * v + 35), s + 1, rfl, (Fr.weak q2 (by decide)).trans (Fr.weak (emV_fr _ _ _) (by decide)), by rw [emV_fr V1 s _ 1910 (by decide)]; exact q3, emV_sz, s1, s2, by omega, by omega, fun k _ k2 => by rw [emV_old (by omega), q2 1905 (by decide)], FLC.num hw, fun k k1 k2 => ?_, fun k k1 k2 => ?_⟩
            · have : k = s := by omega
              subst this; rw [hw]; omega
            · have : k = s := by omega
              subst this; rw [emV_new]; exact nI_pos (by omega)
        · rw [if_neg hD]
          have hun : g_rd fu (m + 1) 3 V (nI o) = F_X9_readFactor_98 (g_rd fu m 2) fu V (hI (hN T n p)) := by
            rw [hg, fb_X9_readFactor, hh, bd_some, if_neg (show ¬ hI (hN T n p) = 91 by rw [hI_91 hle]; exact hA)]
            by_cases z : hN T n p < 48 ∨ hN T n p = 256
            · rw [if_pos (show hI (hN T n p) < 48 by rw [hI_lt hle]; exact z)]
            · rw [if_neg (show ¬ hI (hN T n p) < 48 by rw [hI_lt hle]; exact z), if_pos (show 57 < hI (hN T n p) by rw [hI_gt hle]; omega)]
          have hio := io_eq (fu := fu) (V := V) (k := 2) (by decide) (ioC (hN T n p) (by omega))
          rw [hun, F_X9_readFactor_98, hio, bd_some]
          by_cases hL : lix (hN T n p) < 9
          · rw [if_neg (show ¬ (if lix (hN T n p) < 9 then (1 : Int32) else 0) = 0 by rw [if_pos hL]; decide), if_pos hL]
            have hpn : p < n := (hN_lt ht.1).mp (by
              refine Classical.byContradiction (fun z => ?_)
              have : hN T n p = 256 := by omega
              rw [this] at hL; exact absurd hL (by decide))
            have he := emit_C (fu := fu) (V := setV V 1910 0 0 (nI (p + 1))) (s := s) (sg := 64) (num := lix (hN T n p)) (by omega) (by omega) (by omega) (by rw [setV_fn (by decide)]; exact e7)
            rw [ioC2 (hN T n p) (by omega) hL, e1, nI_1, bv_eq, show f_X9_emit fu (setV V 1910 0 0 (nI (p + 1))) 64 (nI (lix (hN T n p))) = _ from he, bd_some, gd_t (.inr rfl)]
            refine ⟨fun f hf => (by cases hf), fun a' d' hf => ?_⟩
            obtain ⟨rfl, rfl⟩ := inr2 hf
            have hw : kwV (emV (setV V 1910 0 0 (nI (p + 1))) s (256 * lix (hN T n p) + 64)) s = 256 * lix (hN T n p) + 64 := emV_cw (by omega)
            refine ⟨_, s + 1, rfl, ((Fr.refl rdw V).set (by decide)).trans (Fr.weak (emV_fr _ _ _) (by decide)), by rw [emV_fr _ s _ 1910 (by decide), setV_at, if_pos ⟨rfl, rfl⟩], emV_sz, by omega, by omega, by omega, by omega, fun k _ k2 => by rw [emV_old (by omega), setV_fn (by decide)], FLC.ltr hw, fun k k1 k2 => ?_, fun k k1 k2 => ?_⟩
            · have : k = s := by omega
              subst this; rw [hw]; omega
            · have : k = s := by omega
              subst this; rw [emV_new]; exact nI_pos (by omega)
          · rw [if_pos (show (if lix (hN T n p) < 9 then (1 : Int32) else 0) = 0 by rw [if_neg hL]), if_neg hL]
            have hf1 := fail_C (fu := fu) (k := 1) (V := V) e1
            rw [show f_X9_fail fu V 1 = some (0, setV V 1911 0 0 (flt 1 p)) from hf1, bd_some, gd_t (.inl rfl)]
            exact ⟨fun f hf => ⟨_, rfl, (Fr.refl _ V).set (by decide), by rw [setV_at, if_pos ⟨rfl, rfl⟩]; exact Sum.inl.inj hf⟩, fun a d hf => (by cases hf)⟩
