/-! more rows for the walks by program -/
theorem one_cnt (V : St) : 0 < cntV V 1 := Nat.lt_succ_self 0
theorem two_cnt (V : St) : 0 < cntV V 2 := Nat.lt_of_lt_of_le (Nat.lt_succ_self 0) (Nat.le_succ 1)
theorem rfq_cat (ad : AD) (g : Nat) (x : Int32) : (rfq ad g x).category = 1 := by
  rcases rfq_or ad g x with h | ⟨a, h⟩ <;> rw [h] <;> rfl
section T10
variable {E : EN} {X : CX} {own : String} {cc : ByteArray} {nl : Nat} {ret : Option FieldType} {ini : Bool} {rm : Room} {P : Option Value → MH → Prop} {M : MH} {L L' : List (Option Value)} {kc ks pc pc' tgt : Nat} {st : List Value} {ad : AD} {V : St} {idx ci k c v i b : Nat} {ds : List (Nat × Nat × Nat)}
theorem t_zast {a : Nat} {x j : Int32} (hz : x = 0 ∨ x = 1) (hd : Dk cc pc .bastore 1 pc') (hR : Rep E ad V M) (ho : okA c = true) (ht : ctab c = some (3, a, b, ds)) (hi : i < cntV V b) (hin : vp_in j (lenV V a i)) (K : ∀ M' : MH, Rep E ad (setV V c i j.toNatClampNeg x) M' → G E X own cc nl ret ini rm P M' L kc ks pc' st) : G E X own cc nl ret ini rm P M L kc ks pc (.int x :: .int j :: .ref (ad c i) :: st) :=
  s_zast hd hR ho ht hi hin (fun M' h => K M' (by rw [nz_vp hz] at h; exact h))
theorem r_tabled {dflt lo hi : Int} {offs : Array Int} {len : Nat} {x : Int32} {cs : List Int} (hd : decode cc pc = .ok (.tableswitch dflt lo hi offs, len)) (hsz : hi - lo + 1 = (offs.size : Int)) (hall : (List.range offs.size).all (fun j => decide (offs[j]? = some dflt) || cs.contains (lo + (j : Int))) = true) (hn : ∀ z ∈ cs, ¬ x.toInt = z) (ht : (pc : Int) + dflt = (tgt : Int)) (K : G E X own cc nl ret ini rm P M L kc ks tgt st) : G E X own cc nl ret ini rm P M L kc ks pc (.int x :: st) := by
  refine r_table (off := dflt) hd ?_ ht K
  by_cases h1 : x.toInt < lo
  · exact Or.inl ⟨Or.inl h1, rfl⟩
  · by_cases h2 : hi < x.toInt
    · exact Or.inl ⟨Or.inr h2, rfl⟩
    · refine Or.inr ⟨h1, h2, ?_⟩
      have hj : (x.toInt - lo).toNat < offs.size := by omega
      have h3 := List.all_eq_true.mp hall _ (List.mem_range.mpr hj)
      rw [Bool.or_eq_true] at h3
      rcases h3 with h3 | h3
      · exact of_decide_eq_true h3
      · have e : lo + ((x.toInt - lo).toNat : Int) = x.toInt := by omega
        rw [e] at h3
        exact absurd rfl (hn _ (List.contains_iff_mem.mp h3))
end T10
theorem kb_m5 : (Int8.ofInt (-5)).toInt32 = -5 := by decide
theorem kb_m4 : (Int8.ofInt (-4)).toInt32 = -4 := by decide
theorem kb_m3 : (Int8.ofInt (-3)).toInt32 = -3 := by decide
theorem kb_m2 : (Int8.ofInt (-2)).toInt32 = -2 := by decide
theorem kb_6 : (Int8.ofInt (6)).toInt32 = 6 := by decide
theorem kb_7 : (Int8.ofInt (7)).toInt32 = 7 := by decide
theorem kb_8 : (Int8.ofInt (8)).toInt32 = 8 := by decide
theorem kb_9 : (Int8.ofInt (9)).toInt32 = 9 := by decide
theorem kb_10 : (Int8.ofInt (10)).toInt32 = 10 := by decide
theorem kb_11 : (Int8.ofInt (11)).toInt32 = 11 := by decide
theorem kb_12 : (Int8.ofInt (12)).toInt32 = 12 := by decide
theorem kb_13 : (Int8.ofInt (13)).toInt32 = 13 := by decide
theorem kb_14 : (Int8.ofInt (14)).toInt32 = 14 := by decide
theorem kb_16 : (Int8.ofInt (16)).toInt32 = 16 := by decide
theorem kb_19 : (Int8.ofInt (19)).toInt32 = 19 := by decide
theorem kb_20 : (Int8.ofInt (20)).toInt32 = 20 := by decide
theorem kb_22 : (Int8.ofInt (22)).toInt32 = 22 := by decide
theorem kb_24 : (Int8.ofInt (24)).toInt32 = 24 := by decide
theorem kb_25 : (Int8.ofInt (25)).toInt32 = 25 := by decide
theorem kb_29 : (Int8.ofInt (29)).toInt32 = 29 := by decide
theorem kb_30 : (Int8.ofInt (30)).toInt32 = 30 := by decide
theorem kb_31 : (Int8.ofInt (31)).toInt32 = 31 := by decide
theorem kb_32 : (Int8.ofInt (32)).toInt32 = 32 := by decide
theorem kb_33 : (Int8.ofInt (33)).toInt32 = 33 := by decide
theorem kb_36 : (Int8.ofInt (36)).toInt32 = 36 := by decide
theorem kb_37 : (Int8.ofInt (37)).toInt32 = 37 := by decide
theorem kb_38 : (Int8.ofInt (38)).toInt32 = 38 := by decide
theorem kb_40 : (Int8.ofInt (40)).toInt32 = 40 := by decide
theorem kb_41 : (Int8.ofInt (41)).toInt32 = 41 := by decide
theorem kb_42 : (Int8.ofInt (42)).toInt32 = 42 := by decide
theorem kb_43 : (Int8.ofInt (43)).toInt32 = 43 := by decide
theorem kb_45 : (Int8.ofInt (45)).toInt32 = 45 := by decide
theorem kb_46 : (Int8.ofInt (46)).toInt32 = 46 := by decide
theorem kb_47 : (Int8.ofInt (47)).toInt32 = 47 := by decide
theorem kb_48 : (Int8.ofInt (48)).toInt32 = 48 := by decide
theorem kb_57 : (Int8.ofInt (57)).toInt32 = 57 := by decide
theorem kb_59 : (Int8.ofInt (59)).toInt32 = 59 := by decide
theorem kb_60 : (Int8.ofInt (60)).toInt32 = 60 := by decide
theorem kb_61 : (Int8.ofInt (61)).toInt32 = 61 := by decide
theorem kb_62 : (Int8.ofInt (62)).toInt32 = 62 := by decide
theorem kb_63 : (Int8.ofInt (63)).toInt32 = 63 := by decide
theorem kb_91 : (Int8.ofInt (91)).toInt32 = 91 := by decide
theorem kb_93 : (Int8.ofInt (93)).toInt32 = 93 := by decide
theorem kb_98 : (Int8.ofInt (98)).toInt32 = 98 := by decide
theorem kb_99 : (Int8.ofInt (99)).toInt32 = 99 := by decide
theorem kb_100 : (Int8.ofInt (100)).toInt32 = 100 := by decide
theorem kb_103 : (Int8.ofInt (103)).toInt32 = 103 := by decide
theorem kb_109 : (Int8.ofInt (109)).toInt32 = 109 := by decide
theorem kb_112 : (Int8.ofInt (112)).toInt32 = 112 := by decide
theorem kb_120 : (Int8.ofInt (120)).toInt32 = 120 := by decide
theorem kb_124 : (Int8.ofInt (124)).toInt32 = 124 := by decide
theorem kb_127 : (Int8.ofInt (127)).toInt32 = 127 := by decide
theorem ki_m8 : Int32.ofInt (-8) = -8 := by decide
theorem ki_m1 : Int32.ofInt (-1) = -1 := by decide
theorem ki_0 : Int32.ofInt (0) = 0 := by decide
theorem ki_1 : Int32.ofInt (1) = 1 := by decide
theorem ki_2 : Int32.ofInt (2) = 2 := by decide
theorem ki_3 : Int32.ofInt (3) = 3 := by decide
theorem ki_4 : Int32.ofInt (4) = 4 := by decide
theorem ki_5 : Int32.ofInt (5) = 5 := by decide
theorem ki_8 : Int32.ofInt (8) = 8 := by decide
theorem ki_16 : Int32.ofInt (16) = 16 := by decide
theorem ks_m3000 : (Int16.ofInt (-3000)).toInt32 = -3000 := by decide
theorem ks_m2000 : (Int16.ofInt (-2000)).toInt32 = -2000 := by decide
theorem ks_m1000 : (Int16.ofInt (-1000)).toInt32 = -1000 := by decide
theorem ks_160 : (Int16.ofInt (160)).toInt32 = 160 := by decide
theorem ks_180 : (Int16.ofInt (180)).toInt32 = 180 := by decide
theorem ks_199 : (Int16.ofInt (199)).toInt32 = 199 := by decide
theorem ks_200 : (Int16.ofInt (200)).toInt32 = 200 := by decide
theorem ks_255 : (Int16.ofInt (255)).toInt32 = 255 := by decide
theorem ks_256 : (Int16.ofInt (256)).toInt32 = 256 := by decide
theorem ks_400 : (Int16.ofInt (400)).toInt32 = 400 := by decide
theorem ks_499 : (Int16.ofInt (499)).toInt32 = 499 := by decide
theorem ks_500 : (Int16.ofInt (500)).toInt32 = 500 := by decide
theorem ks_999 : (Int16.ofInt (999)).toInt32 = 999 := by decide
theorem ks_1000 : (Int16.ofInt (1000)).toInt32 = 1000 := by decide
theorem ks_10000 : (Int16.ofInt (10000)).toInt32 = 10000 := by decide
theorem ks_15000 : (Int16.ofInt (15000)).toInt32 = 15000 := by decide
