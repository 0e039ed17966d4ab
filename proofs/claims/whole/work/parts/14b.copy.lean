theorem Rep.setRow {E : EN} {ad : AD} {V V' : St} {M : MH} {c i : Nat} {t : TB} {e : va_E} (hR : Rep E ad V M) (ho : okA c = true) (ht : ctab c = some t) (h0 : t.1 ≠ 0) (hi : i < cntV V t.2.2.1) (hV : ∀ v' i' j' : Nat, ¬ (v' = c ∧ i' = i) → V' v' i' j' = V v' i' j') (he : e = cellOf E ad V' c i t) : Rep E ad V' (mset M (ad c i) e) := by
  have hcnt : ∀ {b : Nat}, b ≠ c → cntV V' b = cntV V b := by
    intro b hb
    unfold cntV
    rw [hV b 0 0 (fun q => hb q.1)]
  have hdom : ∀ {c' a : Nat}, dom V' c' a ↔ dom V c' a := by
    intro c' a
    unfold dom
    constructor
    · rintro (⟨t', ht', hi'⟩ | ⟨⟨g, hg⟩, hi'⟩)
      · exact Or.inl ⟨t', ht', by rwa [hcnt (okA_of ho ht').1] at hi'⟩
      · exact Or.inr ⟨⟨g, hg⟩, by rwa [hV c' 0 0 (fun q => okA_list ho hg q.1)] at hi'⟩
    · rintro (⟨t', ht', hi'⟩ | ⟨⟨g, hg⟩, hi'⟩)
      · exact Or.inl ⟨t', ht', by rwa [hcnt (okA_of ho ht').1]⟩
      · exact Or.inr ⟨⟨g, hg⟩, by rwa [hV c' 0 0 (fun q => okA_list ho hg q.1)]⟩
  have hme : dom V c i := Or.inl ⟨_, ht, hi⟩
  refine ⟨fun c' t' i' hc' hi' => ?_, fun c1 c2 i1 i2 d1 d2 => hR.2.1 c1 c2 i1 i2 (hdom.mp d1) (hdom.mp d2), fun Li g hL => ?_⟩
  · obtain ⟨o2, o3, o4⟩ := okA_of ho hc'
    rw [hcnt o2] at hi'
    by_cases hsame : c' = c ∧ i' = i
    · obtain ⟨rfl, rfl⟩ := hsame
      rw [hc'] at ht
      cases ht
      rw [mset_self, he]
    · have hne : ad c' i' ≠ ad c i := fun q => hsame (hR.2.1 c' c i' i (Or.inl ⟨t', hc', hi'⟩) hme q)
      rw [mset_ne M e hne, hR.1 c' t' i' hc' hi']
      have hlen : lenV V' t'.2.1 i' = lenV V t'.2.1 i' := by
        unfold lenV
        by_cases ha : t'.2.1 < 1000000
        · rw [if_pos ha, if_pos ha]
        · rw [if_neg ha, if_neg ha, hV _ _ _ (fun q => o3 (by omega))]
      unfold cellOf
      by_cases h0 : t'.1 = 0
      · rw [if_pos h0, if_pos h0]
        refine congrArg some (congrArg Sum.inr (congrArg (Prod.mk t'.2.1) (List.map_congr_left fun d hd => ?_)))
        have htag := tag_le hc' hd
        unfold fv
        by_cases h1 : d.1 = 0
        · rw [if_pos h1, if_pos h1, hV _ _ _ (fun q => o4 d hd (Or.inl h1) q.1)]
        · rw [if_neg h1, if_neg h1]
          by_cases h2 : d.1 = 1
          · rw [if_pos h2, if_pos h2]
          · rw [if_neg h2, if_neg h2]
            by_cases h3 : d.1 = 2
            · rw [if_pos h3, if_pos h3]
            · rw [if_neg h3, if_neg h3, hV _ _ _ (fun q => o4 d hd (Or.inr (by omega)) q.1)]
      · have ec : V' c' i' = V c' i' := funext fun j' => hV c' i' j' hsame
        rw [if_neg h0, if_neg h0, hlen, ec]
  · have hn : ∀ a, dom V Li a → ad Li a ≠ ad c i := by
      intro a hda q
      have := (hR.2.1 Li c a i hda hme q).1
      have hl := list_notab (Li, g) hL
      rw [show (Li, g).1 = Li from rfl, this, ht] at hl
      cases hl
    obtain ⟨q0, mc, d, q1, q2⟩ := hR.2.2 Li g hL
    have e0 : V' Li 0 0 = V Li 0 0 := hV _ _ _ (fun q => okA_list ho hL q.1)
    unfold lrep
    rw [e0]
    refine ⟨q0, mc, d, by rw [mset_ne M e (hn 0 (Or.inr ⟨⟨g, hL⟩, Or.inl rfl⟩))]; exact q1, ?_⟩
    rcases q2 with q2 | ⟨q2, rfl, cap, f, q3, q4⟩
    · exact Or.inl q2
    · exact Or.inr ⟨q2, rfl, cap, f, by rw [mset_ne M e (hn 1 (Or.inr ⟨⟨g, hL⟩, Or.inr ⟨rfl, q2⟩⟩))]; exact q3, q4⟩
theorem acw : nativeFrameWords "java/lang/System" "arraycopy" 5 ≤ 100 := by decide
theorem r_copyi {E : EN} {X : CX} {own : String} {cc : ByteArray} {nl : Nat} {ret : Option FieldType} {ini : Bool} {rm : Room} {P : Option Value → MH → Prop} {M : MH} {L : List (Option Value)} {kc ks pc pc' : Nat} {st : List Value} {idx a0 a1 n0 n1 : Nat} {f g : Nat → Int32} {sp dp n : Int32} (hd : Dk cc pc (.invokestatic idx) 3 pc') (hw : Cond.methodLink own idx arraycopyName ∈ lw_ok) (h0 : M a0 = some (.inl (eI E, n0, .inl f))) (h1 : M a1 = some (.inl (eI E, n1, .inl g))) (hs : ¬ sp < 0) (hdp : ¬ dp < 0) (hn : ¬ n < 0) (h4 : sp.toNatClampNeg + n.toNatClampNeg ≤ n0) (h5 : dp.toNatClampNeg + n.toNatClampNeg ≤ n1) (hF : 1 ≤ rm.frames) (hl0 : (st.map fun v => v.category).sum + 111 ≤ rm.locals) (K : G E X own cc nl ret ini rm P (mset M a1 (.inl (eI E, n1, .inl (va_cpy f g sp.toNatClampNeg dp.toNatClampNeg n.toNatClampNeg)))) L kc ks pc' st) : G E X own cc nl ret ini rm P M L kc ks pc (.int n :: .int dp :: .ref a1 :: .int sp :: .ref a0 :: st) := by
  intro C H locs ls ws hP hD hV hS hl
  obtain ⟨hd, rfl⟩ := hd
  obtain ⟨j0, hj0⟩ := hV a0 _ h0
  obtain ⟨j1, hj1⟩ := hV a1 _ h1
  have hacw := acw
  exact va_copyi C.1 C.2.1 (C.2.2.1.trans hl.1.symm) C.2.2.2.1 (C.2.2.2.2.1 _ hw) (C.2.2.2.2.1 _ wd_492) (C.2.2.2.2.1 _ wd_491) (C.2.2.2.2.1 _ wd_113) C.kk.1 hP hD hS j0 j1 0 0 hj0 hj1 rfl rfl rfl hs hdp hn h4 h5 (fun _ _ => rfl) hF (by omega) hd (fun H1 locs1 hP1 hD1 hS1 => K C H1 locs1 ls _ hP1 hD1 (hV.set hD hj1) hS1 hl)
theorem s_copy {E : EN} {X : CX} {own : String} {cc : ByteArray} {nl : Nat} {ret : Option FieldType} {ini : Bool} {P : Option Value → MH → Prop} {M : MH} {L : List (Option Value)} {pc pc' d : Nat} {st : List Value} {ad : AD} {V : St} {idx c0 c1 i n0 n1 b : Nat} {n : Int32} (hd : Dk cc pc (.invokestatic idx) 3 pc') (hw : Cond.methodLink own idx arraycopyName ∈ lw_ok) (hR : Rep E ad V M) (ho : okA c1 = true) (ht0 : ctab c0 = some (1, n0, b, [])) (ht1 : ctab c1 = some (1, n1, b, [])) (hi0 : i < cntV V b) (hi1 : i < cntV V b) (hg : ¬ n < 0 ∧ n.toNatClampNeg ≤ lenV V n0 i ∧ n.toNatClampNeg ≤ lenV V n1 i) (hF : 3 ≤ d) (hst : st = []) (K : ∀ M : MH, Rep E ad (cpV V c0 c1 i n.toNatClampNeg) M → G E X own cc nl ret ini (rmD d) P M L 0 0 pc' st) : G E X own cc nl ret ini (rmD d) P M L 0 0 pc (.int n :: .int 0 :: .ref (ad c1 i) :: .int 0 :: .ref (ad c0 i) :: st) := by
  subst hst
  refine r_copyi hd hw (hR.1 c0 _ i ht0 hi0) (hR.1 c1 _ i ht1 hi1) (by decide) (by decide) hg.1 (by show 0 + n.toNatClampNeg ≤ lenV V n0 i; omega) (by show 0 + n.toNatClampNeg ≤ lenV V n1 i; omega) (by show 1 ≤ d; omega) (by show 0 + 111 ≤ 60 * d; omega) (K _ (hR.setRow ho ht1 (by show 1 ≠ 0; omega) hi1 (fun v' i' j' hne => if_neg (fun q => hne ⟨q.1, q.2.1⟩)) ?_))
  have el : lenV (cpV V c0 c1 i n.toNatClampNeg) n1 i = lenV V n1 i := by
    unfold lenV
    by_cases ha : n1 < 1000000
    · rw [if_pos ha, if_pos ha]
    · have ho2 : n1 ≠ 1000000 + c1 := (okA_of ho ht1).2.1
      have e2 : cpV V c0 c1 i n.toNatClampNeg (n1 - 1000000) i 0 = V (n1 - 1000000) i 0 := by
        unfold cpV
        rw [if_neg]
        intro q
        exact ho2 (by omega)
      rw [if_neg ha, if_neg ha, e2]
  show Sum.inl (eI E, lenV V n1 i, Sum.inl _) = Sum.inl (eI E, lenV (cpV V c0 c1 i n.toNatClampNeg) n1 i, Sum.inl (cpV V c0 c1 i n.toNatClampNeg c1 i))
  rw [el]
  refine congrArg (fun z => Sum.inl (eI E, lenV V n1 i, Sum.inl z)) (funext fun j => ?_)
  show va_cpy (V c0 i) (V c1 i) 0 0 n.toNatClampNeg j = _
  unfold va_cpy cpV
  by_cases hj : j < n.toNatClampNeg
  · rw [if_pos ⟨Nat.zero_le j, by omega⟩, if_pos ⟨rfl, rfl, hj⟩, Nat.zero_add, Nat.sub_zero]
  · rw [if_neg (fun q => hj (by omega)), if_neg (fun q => hj q.2.2)]
