theorem C_X4_init {E : EN} {M0 : MH} {q : Nat} (l : Launch) (hM : M0 q = some (.inr (4, [.null, .null, .null, .null, .int 0, .int 0, .int 0, .int 0]))) : Ct E l yX4_init cX4_init 1 none (rmA 4 4 202) [.ref q] M0 (fun v M' => v = none ∧ ∃ as, CI M0 q 4 [.inl 0, .inl 1, .inl 2, .inl 3, .inr (.int 0), .inr (.int 0), .inr (.int 0), .inr (.int 0)] as [.inr (13, ([.inr (.int 0), .inr (.ref (eT E 2)), .inr (.int 0)] : List FS).map (fldv [])), .inl (eI E, 30, .inl (fun _ => 0)), .inl (eI E, 9, .inl (fun _ => 0)), .inl (eI E, 160, .inl (fun _ => 0))] M') :=
  Ct.of (own := RX4) (ini := true) (L := [some (.ref q)]) rfl rfl (fun _ => rfl) rfl (Nat.le_of_ble_eq_true rfl) rfl (fun X _ => by
    refine r_aload_n DX4_init_0 rfl ?_
    refine r_obji (st := []) DX4_init_1 wd_214 (by decide) (by decide) ?_
    have hC : CI M0 q 4 [.inl 0, .inl 1, .inl 2, .inl 3, .inr (.int 0), .inr (.int 0), .inr (.int 0), .inr (.int 0)] [] [] M0 := CI.start hM rfl
    refine r_aload_n DX4_init_4 rfl ?_
    refine r_new DX4_init_5 nw_X4_9 ⟨by decide, by decide⟩ (fun p5 hp5 _ => ?_)
    refine r_dup DX4_init_8 rfl ?_
    refine r_callI (As := []) (rest := [.ref p5, .ref q]) DX4_init_9 ci_X4_11 (C_linit (cxL X) (mset_self _ _ _)) rfl (fitDA (by decide) (by decide) (by decide) (by decide)) rfl (Nat.le_of_ble_eq_true rfl) ?_
    rintro v M' ⟨rfl, hl1, hl2⟩
    have hB := CI.lst hl1 hl2
    refine c_joinF (st := []) (m := 0) (cs' := [.inr (13, ([.inr (.int 0), .inr (.ref (eT E 2)), .inr (.int 0)] : List FS).map (fldv []))]) DX4_init_12 fq_X4_12 hC hp5 hB rfl rfl rfl rfl rfl rfl (fun M hC => ?_)
    refine r_aload_n DX4_init_15 rfl ?_
    refine r_bipush (v := 30) DX4_init_16 (by decide) ?_
    refine r_newaI (N := 30) DX4_init_18 (by decide) (by decide) (by decide) ⟨by decide, by decide⟩ (fun p18 hp18 _ => ?_)
    refine c_rowF (st := []) (e := .inl (eI E, 30, .inl (fun _ => 0))) (m := 1) (cs' := [.inr (13, ([.inr (.int 0), .inr (.ref (eT E 2)), .inr (.int 0)] : List FS).map (fldv [])), .inl (eI E, 30, .inl (fun _ => 0))]) DX4_init_20 fq_X4_18 hC hp18 rfl rfl rfl rfl rfl (fun M hC => ?_)
    refine r_aload_n DX4_init_23 rfl ?_
    refine r_bipush (v := 9) DX4_init_24 (by decide) ?_
    refine r_newaI (N := 9) DX4_init_26 (by decide) (by decide) (by decide) ⟨by decide, by decide⟩ (fun p26 hp26 _ => ?_)
    refine c_rowF (st := []) (e := .inl (eI E, 9, .inl (fun _ => 0))) (m := 2) (cs' := [.inr (13, ([.inr (.int 0), .inr (.ref (eT E 2)), .inr (.int 0)] : List FS).map (fldv [])), .inl (eI E, 30, .inl (fun _ => 0)), .inl (eI E, 9, .inl (fun _ => 0))]) DX4_init_28 fq_X4_22 hC hp26 rfl rfl rfl rfl rfl (fun M hC => ?_)
    refine r_aload_n DX4_init_31 rfl ?_
    refine r_sipush (v := 160) DX4_init_32 (by decide) ?_
    refine r_newaI (N := 160) DX4_init_35 (by decide) (by decide) (by decide) ⟨by decide, by decide⟩ (fun p35 hp35 _ => ?_)
    refine c_rowF (st := []) (e := .inl (eI E, 160, .inl (fun _ => 0))) (m := 3) (cs' := [.inr (13, ([.inr (.int 0), .inr (.ref (eT E 2)), .inr (.int 0)] : List FS).map (fldv [])), .inl (eI E, 30, .inl (fun _ => 0)), .inl (eI E, 9, .inl (fun _ => 0)), .inl (eI E, 160, .inl (fun _ => 0))]) DX4_init_37 fq_X4_25 hC hp35 rfl rfl rfl rfl rfl (fun M hC => ?_)
    refine r_aload_n DX4_init_40 rfl ?_
    refine r_iconst (v := 0) DX4_init_41 (by decide) ?_
    refine c_put (st := []) (sp' := [.inl 0, .inl 1, .inl 2, .inl 3, .inr (.int 0), .inr (.int 0), .inr (.int 0), .inr (.int 0)]) DX4_init_42 fp_X4_28 hC rfl rfl (Nat.le_of_ble_eq_true rfl) rfl (fun M hC => ?_)
    refine r_aload_n DX4_init_45 rfl ?_
    refine r_iconst (v := 0) DX4_init_46 (by decide) ?_
    refine c_put (st := []) (sp' := [.inl 0, .inl 1, .inl 2, .inl 3, .inr (.int 0), .inr (.int 0), .inr (.int 0), .inr (.int 0)]) DX4_init_47 fp_X4_32 hC rfl rfl (Nat.le_of_ble_eq_true rfl) rfl (fun M hC => ?_)
    refine r_aload_n DX4_init_50 rfl ?_
    refine r_iconst (v := 0) DX4_init_51 (by decide) ?_
    refine c_put (st := []) (sp' := [.inl 0, .inl 1, .inl 2, .inl 3, .inr (.int 0), .inr (.int 0), .inr (.int 0), .inr (.int 0)]) DX4_init_52 fp_X4_35 hC rfl rfl (Nat.le_of_ble_eq_true rfl) rfl (fun M hC => ?_)
    refine r_aload_n DX4_init_55 rfl ?_
    refine r_iconst (v := 0) DX4_init_56 (by decide) ?_
    refine c_put (st := []) (sp' := [.inl 0, .inl 1, .inl 2, .inl 3, .inr (.int 0), .inr (.int 0), .inr (.int 0), .inr (.int 0)]) DX4_init_57 fp_X4_39 hC rfl rfl (Nat.le_of_ble_eq_true rfl) rfl (fun M hC => ?_)
    exact r_vret DX4_init_60 rfl ⟨by decide, by decide⟩ ⟨rfl, _, hC⟩)
theorem C_X11_init {E : EN} {M0 : MH} {q : Nat} (l : Launch) (hM : M0 q = some (.inr (11, [.int 0, .int 0, .null, .null, .null, .null, .null, .null, .null, .null, .null, .null, .null, .int 0, .null, .null, .null]))) : Ct E l yX11_init cX11_init 1 none (rmA 5 28 2421) [.ref q] M0 (fun v M' => v = none ∧ ∃ as0 p1 bs1 p2 bs2 p3 bs3, (as0.length = 11 ∧ bs1.length = 6 ∧ bs2.length = 4 ∧ bs3.length = 4) ∧ CI M0 q 11 [.inr (.int 0), .inr (.int 50), .inl 0, .inl 1, .inl 2, .inl 3, .inl 4, .inl 5, .inl 6, .inl 7, .inl 8, .inl 9, .inl 10, .inr (.int 0), .inl 11, .inl 18, .inl 23] (as0 ++ p1 :: bs1 ++ p2 :: bs2 ++ p3 :: bs3) [.inr (13, ([.inr (.int 0), .inr (.ref (eT E 2)), .inr (.int 0)] : List FS).map (fldv [])), .inr (13, ([.inr (.int 0), .inr (.ref (eT E 2)), .inr (.int 0)] : List FS).map (fldv [])), .inr (13, ([.inr (.int 0), .inr (.ref (eT E 2)), .inr (.int 0)] : List FS).map (fldv [])), .inr (13, ([.inr (.int 0), .inr (.ref (eT E 2)), .inr (.int 0)] : List FS).map (fldv [])), .inl (eI E, 12, .inl (fun _ => 0)), .inr (13, ([.inr (.int 0), .inr (.ref (eT E 2)), .inr (.int 0)] : List FS).map (fldv [])), .inr (13, ([.inr (.int 0), .inr (.ref (eT E 2)), .inr (.int 0)] : List FS).map (fldv [])), .inr (13, ([.inr (.int 0), .inr (.ref (eT E 2)), .inr (.int 0)] : List FS).map (fldv [])), .inr (13, ([.inr (.int 0), .inr (.ref (eT E 2)), .inr (.int 0)] : List FS).map (fldv [])), .inr (13, ([.inr (.int 0), .inr (.ref (eT E 2)), .inr (.int 0)] : List FS).map (fldv [])), .inl (eB3 E, 400, .inl (fun _ => 0)), .inr (9, ([.inl 0, .inl 1, .inl 2, .inl 3, .inl 4, .inr (.int 0), .inr (.int 0), .inl 5, .inr (.int 0), .inr (.int 0), .inr (.int 0)] : List FS).map (fldv bs1)), .inl (eI E, 12, .inl (fun _ => 0)), .inl (eI E, 12, .inl (fun _ => 0)), .inl (eI E, 12, .inl (fun _ => 0)), .inl (eI E, 12, .inl (fun _ => 0)), .inl (eI E, 160, .inl (fun _ => 0)), .inl (eB3 E, 0, .inl (fun _ => 0)), .inr (4, ([.inl 0, .inl 1, .inl 2, .inl 3, .inr (.int 0), .inr (.int 0), .inr (.int 0), .inr (.int 0)] : List FS).map (fldv bs2)), .inr (13, ([.inr (.int 0), .inr (.ref (eT E 2)), .inr (.int 0)] : List FS).map (fldv [])), .inl (eI E, 30, .inl (fun _ => 0)), .inl (eI E, 9, .inl (fun _ => 0)), .inl (eI E, 160, .inl (fun _ => 0)), .inr (5, ([.inl 0, .inl 1, .inl 2, .inl 3, .inr (.int 0), .inr (.null), .inr (.int 0), .inr (.int 0)] : List FS).map (fldv bs3)), .inl (eI E, 512, .inl (fun _ => 0)), .inl (eI E, 512, .inl (fun _ => 0)), .inl (eI E, 512, .inl (fun _ => 0)), .inl (eI E, 9, .inl (fun _ => 0))] M') :=
  Ct.of (own := RX11) (ini := true) (L := [some (.ref q)]) rfl rfl (fun _ => rfl) rfl (Nat.le_of_ble_eq_true rfl) rfl (fun X _ => by
    refine r_aload_n DX11_init_0 rfl ?_
    refine r_obji (st := []) DX11_init_1 wd_131 (by decide) (by decide) ?_
    have hC : CI M0 q 11 [.inr (.int 0), .inr (.int 0), .inl 0, .inl 1, .inl 2, .inl 3, .inl 4, .inl 5, .inl 6, .inl 7, .inl 8, .inl 9, .inl 10, .inr (.int 0), .inl 11, .inl 18, .inl 23] [] [] M0 := CI.start hM rfl
    refine r_aload_n DX11_init_4 rfl ?_
    refine r_iconst (v := 0) DX11_init_5 (by decide) ?_
    refine c_put (st := []) (sp' := [.inr (.int 0), .inr (.int 0), .inl 0, .inl 1, .inl 2, .inl 3, .inl 4, .inl 5, .inl 6, .inl 7, .inl 8, .inl 9, .inl 10, .inr (.int 0), .inl 11, .inl 18, .inl 23]) DX11_init_6 fp_X11_7 hC rfl rfl (Nat.le_of_ble_eq_true rfl) rfl (fun M hC => ?_)
    refine r_aload_n DX11_init_9 rfl ?_
    refine r_bipush (v := 50) DX11_init_10 (by decide) ?_
    refine c_put (st := []) (sp' := [.inr (.int 0), .inr (.int 50), .inl 0, .inl 1, .inl 2, .inl 3, .inl 4, .inl 5, .inl 6, .inl 7, .inl 8, .inl 9, .inl 10, .inr (.int 0), .inl 11, .inl 18, .inl 23]) DX11_init_12 fp_X11_13 hC rfl rfl (Nat.le_of_ble_eq_true rfl) rfl (fun M hC => ?_)
    refine r_aload_n DX11_init_15 rfl ?_
    refine r_new DX11_init_16 nw_X11_16 ⟨by decide, by decide⟩ (fun p16 hp16 _ => ?_)
    refine r_dup DX11_init_19 rfl ?_
    refine r_callI (As := []) (rest := [.ref p16, .ref q]) DX11_init_20 ci_X11_18 (C_linit (cxL X) (mset_self _ _ _)) rfl (fitDA (by decide) (by decide) (by decide) (by decide)) rfl (Nat.le_of_ble_eq_true rfl) ?_
    rintro v M' ⟨rfl, hl1, hl2⟩
    have hB := CI.lst hl1 hl2
    refine c_joinF (st := []) (m := 0) (cs' := [.inr (13, ([.inr (.int 0), .inr (.ref (eT E 2)), .inr (.int 0)] : List FS).map (fldv []))]) DX11_init_23 fq_X11_19 hC hp16 hB rfl rfl rfl rfl rfl rfl (fun M hC => ?_)
    refine r_aload_n DX11_init_26 rfl ?_
    refine r_new DX11_init_27 nw_X11_16 ⟨by decide, by decide⟩ (fun p27 hp27 _ => ?_)
    refine r_dup DX11_init_30 rfl ?_
    refine r_callI (As := []) (rest := [.ref p27, .ref q]) DX11_init_31 ci_X11_18 (C_linit (cxL X) (mset_self _ _ _)) rfl (fitDA (by decide) (by decide) (by decide) (by decide)) rfl (Nat.le_of_ble_eq_true rfl) ?_
    rintro v M' ⟨rfl, hl1, hl2⟩
    have hB := CI.lst hl1 hl2
    refine c_joinF (st := []) (m := 1) (cs' := [.inr (13, ([.inr (.int 0), .inr (.ref (eT E 2)), .inr (.int 0)] : List FS).map (fldv [])), .inr (13, ([.inr (.int 0), .inr (.ref (eT E 2)), .inr (.int 0)] : List FS).map (fldv []))]) DX11_init_34 fq_X11_23 hC hp27 hB rfl rfl rfl rfl rfl rfl (fun M hC => ?_)
    refine r_aload_n DX11_init_37 rfl ?_
    refine r_new DX11_init_38 nw_X11_16 ⟨by decide, by decide⟩ (fun p38 hp38 _ => ?_)
    refine r_dup DX11_init_41 rfl ?_
    refine r_callI (As := []) (rest := [.ref p38, .ref q]) DX11_init_42 ci_X11_18 (C_linit (cxL X) (mset_self _ _ _)) rfl (fitDA (by decide) (by decide) (by decide) (by decide)) rfl (Nat.le_of_ble_eq_true rfl) ?_
    rintro v M' ⟨rfl, hl1, hl2⟩
    have hB := CI.lst hl1 hl2
    refine c_joinF (st := []) (m := 2) (cs' := [.inr (13, ([.inr (.int 0), .inr (.ref (eT E 2)), .inr (.int 0)] : List FS).map (fldv [])), .inr (13, ([.inr (.int 0), .inr (.ref (eT E 2)), .inr (.int 0)] : List FS).map (fldv [])), .inr (13, ([.inr (.int 0), .inr (.ref (eT E 2)), .inr (.int 0)] : List FS).map (fldv []))]) DX11_init_45 fq_X11_26 hC hp38 hB rfl rfl rfl rfl rfl rfl (fun M hC => ?_)
    refine r_aload_n DX11_init_48 rfl ?_
    refine r_new DX11_init_49 nw_X11_16 ⟨by decide, by decide⟩ (fun p49 hp49 _ => ?_)
    refine r_dup DX11_init_52 rfl ?_
    refine r_callI (As := []) (rest := [.ref p49, .ref q]) DX11_init_53 ci_X11_18 (C_linit (cxL X) (mset_self _ _ _)) rfl (fitDA (by decide) (by decide) (by decide) (by decide)) rfl (Nat.le_of_ble_eq_true rfl) ?_
    rintro v M' ⟨rfl, hl1, hl2⟩
    have hB := CI.lst hl1 hl2
    refine c_joinF (st := []) (m := 3) (cs' := [.inr (13, ([.inr (.int 0), .inr (.ref (eT E 2)), .inr (.int 0)] : List FS).map (fldv [])), .inr (13, ([.inr (.int 0), .inr (.ref (eT E 2)), .inr (.int 0)] : List FS).map (fldv [])), .inr (13, ([.inr (.int 0), .inr (.ref (eT E 2)), .inr (.int 0)] : List FS).map (fldv [])), .inr (13, ([.inr (.int 0), .inr (.ref (eT E 2)), .inr (.int 0)] : List FS).map (fldv []))]) DX11_init_56 fq_X11_29 hC hp49 hB rfl rfl rfl rfl rfl rfl (fun M hC => ?_)
    refine r_aload_n DX11_init_59 rfl ?_
    refine r_bipush (v := 12) DX11_init_60 (by decide) ?_
    refine r_newaI (N := 12) DX11_init_62 (by decide) (by decide) (by decide) ⟨by decide, by decide⟩ (fun p62 hp62 _ => ?_)
    refine c_rowF (st := []) (e := .inl (eI E, 12, .inl (fun _ => 0))) (m := 4) (cs' := [.inr (13, ([.inr (.int 0), .inr (.ref (eT E 2)), .inr (.int 0)] : List FS).map (fldv [])), .inr (13, ([.inr (.int 0), .inr (.ref (eT E 2)), .inr (.int 0)] : List FS).map (fldv [])), .inr (13, ([.inr (.int 0), .inr (.ref (eT E 2)), .inr (.int 0)] : List FS).map (fldv [])), .inr (13, ([.inr (.int 0), .inr (.ref (eT E 2)), .inr (.int 0)] : List FS).map (fldv [])), .inl (eI E, 12, .inl (fun _ => 0))]) DX11_init_64 fq_X11_32 hC hp62 rfl rfl rfl rfl rfl (fun M hC => ?_)
    refine r_aload_n DX11_init_67 rfl ?_
    refine r_new DX11_init_68 nw_X11_16 ⟨by decide, by decide⟩ (fun p68 hp68 _ => ?_)
    refine r_dup DX11_init_71 rfl ?_
    refine r_callI (As := []) (rest := [.ref p68, .ref q]) DX11_init_72 ci_X11_18 (C_linit (cxL X) (mset_self _ _ _)) rfl (fitDA (by decide) (by decide) (by decide) (by decide)) rfl (Nat.le_of_ble_eq_true rfl) ?_
    rintro v M' ⟨rfl, hl1, hl2⟩
    have hB := CI.lst hl1 hl2
    refine c_joinF (st := []) (m := 5) (cs' := [.inr (13, ([.inr (.int 0), .inr (.ref (eT E 2)), .inr (.int 0)] : List FS).map (fldv [])), .inr (13, ([.inr (.int 0), .inr (.ref (eT E 2)), .inr (.int 0)] : List FS).map (fldv [])), .inr (13, ([.inr (.int 0), .inr (.ref (eT E 2)), .inr (.int 0)] : List FS).map (fldv [])), .inr (13, ([.inr (.int 0), .inr (.ref (eT E 2)), .inr (.int 0)] : List FS).map (fldv [])), .inl (eI E, 12, .inl (fun _ => 0)), .inr (13, ([.inr (.int 0), .inr (.ref (eT E 2)), .inr (.int 0)] : List FS).map (fldv []))]) DX11_init_75 fq_X11_36 hC hp68 hB rfl rfl rfl rfl rfl rfl (fun M hC => ?_)
    refine r_aload_n DX11_init_78 rfl ?_
    refine r_new DX11_init_79 nw_X11_16 ⟨by decide, by decide⟩ (fun p79 hp79 _ => ?_)
    refine r_dup DX11_init_82 rfl ?_
    refine r_callI (As := []) (rest := [.ref p79, .ref q]) DX11_init_83 ci_X11_18 (C_linit (cxL X) (mset_self _ _ _)) rfl (fitDA (by decide) (by decide) (by decide) (by decide)) rfl (Nat.le_of_ble_eq_true rfl) ?_
    rintro v M' ⟨rfl, hl1, hl2⟩
    have hB := CI.lst hl1 hl2
    refine c_joinF (st := []) (m := 6) (cs' := [.inr (13, ([.inr (.int 0), .inr (.ref (eT E 2)), .inr (.int 0)] : List FS).map (fldv [])), .inr (13, ([.inr (.int 0), .inr (.ref (eT E 2)), .inr (.int 0)] : List FS).map (fldv [])), .inr (13, ([.inr (.int 0), .inr (.ref (eT E 2)), .inr (.int 0)] : List FS).map (fldv [])), .inr (13, ([.inr (.int 0), .inr (.ref (eT E 2)), .inr (.int 0)] : List FS).map (fldv [])), .inl (eI E, 12, .inl (fun _ => 0)), .inr (13, ([.inr (.int 0), .inr (.ref (eT E 2)), .inr (.int 0)] : List FS).map (fldv [])), .inr (13, ([.inr (.int 0), .inr (.ref (eT E 2)), .inr (.int 0)] : List FS).map (fldv []))]) DX11_init_86 fq_X11_39 hC hp79 hB rfl rfl rfl rfl rfl rfl (fun M hC => ?_)
    refine r_aload_n DX11_init_89 rfl ?_
    refine r_new DX11_init_90 nw_X11_16 ⟨by decide, by decide⟩ (fun p90 hp90 _ => ?_)
    refine r_dup DX11_init_93 rfl ?_
    refine r_callI (As := []) (rest := [.ref p90, .ref q]) DX11_init_94 ci_X11_18 (C_linit (cxL X) (mset_self _ _ _)) rfl (fitDA (by decide) (by decide) (by decide) (by decide)) rfl (Nat.le_of_ble_eq_true rfl) ?_
    rintro v M' ⟨rfl, hl1, hl2⟩
    have hB := CI.lst hl1 hl2
    refine c_joinF (st := []) (m := 7) (cs' := [.inr (13, ([.inr (.int 0), .inr (.ref (eT E 2)), .inr (.int 0)] : List FS).map (fldv [])), .inr (13, ([.inr (.int 0), .inr (.ref (eT E 2)), .inr (.int 0)] : List FS).map (fldv [])), .inr (13, ([.inr (.int 0), .inr (.ref (eT E 2)), .inr (.int 0)] : List FS).map (fldv [])), .inr (13, ([.inr (.int 0), .inr (.ref (eT E 2)), .inr (.int 0)] : List FS).map (fldv [])), .inl (eI E, 12, .inl (fun _ => 0)), .inr (13, ([.inr (.int 0), .inr (.ref (eT E 2)), .inr (.int 0)] : List FS).map (fldv [])), .inr (13, ([.inr (.int 0), .inr (.ref (eT E 2)), .inr (.int 0)] : List FS).map (fldv [])), .inr (13, ([.inr (.int 0), .inr (.ref (eT E 2)), .inr (.int 0)] : List FS).map (fldv []))]) DX11_init_97 fq_X11_42 hC hp90 hB rfl rfl rfl rfl rfl rfl (fun M hC => ?_)
    refine r_aload_n DX11_init_100 rfl ?_
    refine r_new DX11_init_101 nw_X11_16 ⟨by decide, by decide⟩ (fun p101 hp101 _ => ?_)
    refine r_dup DX11_init_104 rfl ?_
    refine r_callI (As := []) (rest := [.ref p101, .ref q]) DX11_init_105 ci_X11_18 (C_linit (cxL X) (mset_self _ _ _)) rfl (fitDA (by decide) (by decide) (by decide) (by decide)) rfl (Nat.le_of_ble_eq_true rfl) ?_
    rintro v M' ⟨rfl, hl1, hl2⟩
    have hB := CI.lst hl1 hl2
    refine c_joinF (st := []) (m := 8) (cs' := [.inr (13, ([.inr (.int 0), .inr (.ref (eT E 2)), .inr (.int 0)] : List FS).map (fldv [])), .inr (13, ([.inr (.int 0), .inr (.ref (eT E 2)), .inr (.int 0)] : List FS).map (fldv [])), .inr (13, ([.inr (.int 0), .inr (.ref (eT E 2)), .inr (.int 0)] : List FS).map (fldv [])), .inr (13, ([.inr (.int 0), .inr (.ref (eT E 2)), .inr (.int 0)] : List FS).map (fldv [])), .inl (eI E, 12, .inl (fun _ => 0)), .inr (13, ([.inr (.int 0), .inr (.ref (eT E 2)), .inr (.int 0)] : List FS).map (fldv [])), .inr (13, ([.inr (.int 0), .inr (.ref (eT E 2)), .inr (.int 0)] : List FS).map (fldv [])), .inr (13, ([.inr (.int 0), .inr (.ref (eT E 2)), .inr (.int 0)] : List FS).map (fldv [])), .inr (13, ([.inr (.int 0), .inr (.ref (eT E 2)), .inr (.int 0)] : List FS).map (fldv []))]) DX11_init_108 fq_X11_45 hC hp101 hB rfl rfl rfl rfl rfl rfl (fun M hC => ?_)
    refine r_aload_n DX11_init_111 rfl ?_
    refine r_new DX11_init_112 nw_X11_16 ⟨by decide, by decide⟩ (fun p112 hp112 _ => ?_)
    refine r_dup DX11_init_115 rfl ?_
    refine r_callI (As := []) (rest := [.ref p112, .ref q]) DX11_init_116 ci_X11_18 (C_linit (cxL X) (mset_self _ _ _)) rfl (fitDA (by decide) (by decide) (by decide) (by decide)) rfl (Nat.le_of_ble_eq_true rfl) ?_
    rintro v M' ⟨rfl, hl1, hl2⟩
    have hB := CI.lst hl1 hl2
    refine c_joinF (st := []) (m := 9) (cs' := [.inr (13, ([.inr (.int 0), .inr (.ref (eT E 2)), .inr (.int 0)] : List FS).map (fldv [])), .inr (13, ([.inr (.int 0), .inr (.ref (eT E 2)), .inr (.int 0)] : List FS).map (fldv [])), .inr (13, ([.inr (.int 0), .inr (.ref (eT E 2)), .inr (.int 0)] : List FS).map (fldv [])), .inr (13, ([.inr (.int 0), .inr (.ref (eT E 2)), .inr (.int 0)] : List FS).map (fldv [])), .inl (eI E, 12, .inl (fun _ => 0)), .inr (13, ([.inr (.int 0), .inr (.ref (eT E 2)), .inr (.int 0)] : List FS).map (fldv [])), .inr (13, ([.inr (.int 0), .inr (.ref (eT E 2)), .inr (.int 0)] : List FS).map (fldv [])), .inr (13, ([.inr (.int 0), .inr (.ref (eT E 2)), .inr (.int 0)] : List FS).map (fldv [])), .inr (13, ([.inr (.int 0), .inr (.ref (eT E 2)), .inr (.int 0)] : List FS).map (fldv [])), .inr (13, ([.inr (.int 0), .inr (.ref (eT E 2)), .inr (.int 0)] : List FS).map (fldv []))]) DX11_init_119 fq_X11_48 hC hp112 hB rfl rfl rfl rfl rfl rfl (fun M hC => ?_)
    refine r_aload_n DX11_init_122 rfl ?_
    refine r_sipush (v := 400) DX11_init_123 (by decide) ?_
    refine r_newaB (N := 400) DX11_init_126 (by decide) (by decide) (by decide) ⟨by decide, by decide⟩ (fun p126 hp126 _ => ?_)
    refine c_rowF (st := []) (e := .inl (eB3 E, 400, .inl (fun _ => 0))) (m := 10) (cs' := [.inr (13, ([.inr (.int 0), .inr (.ref (eT E 2)), .inr (.int 0)] : List FS).map (fldv [])), .inr (13, ([.inr (.int 0), .inr (.ref (eT E 2)), .inr (.int 0)] : List FS).map (fldv [])), .inr (13, ([.inr (.int 0), .inr (.ref (eT E 2)), .inr (.int 0)] : List FS).map (fldv [])), .inr (13, ([.inr (.int 0), .inr (.ref (eT E 2)), .inr (.int 0)] : List FS).map (fldv [])), .inl (eI E, 12, .inl (fun _ => 0)), .inr (13, ([.inr (.int 0), .inr (.ref (eT E 2)), .inr (.int 0)] : List FS).map (fldv [])), .inr (13, ([.inr (.int 0), .inr (.ref (eT E 2)), .inr (.int 0)] : List FS).map (fldv [])), .inr (13, ([.inr (.int 0), .inr (.ref (eT E 2)), .inr (.int 0)] : List FS).map (fldv [])), .inr (13, ([.inr (.int 0), .inr (.ref (eT E 2)), .inr (.int 0)] : List FS).map (fldv [])), .inr (13, ([.inr (.int 0), .inr (.ref (eT E 2)), .inr (.int 0)] : List FS).map (fldv [])), .inl (eB3 E, 400, .inl (fun _ => 0))]) DX11_init_128 fq_X11_51 hC hp126 rfl rfl rfl rfl rfl (fun M hC => ?_)
    refine r_aload_n DX11_init_131 rfl ?_
    refine r_iconst (v := 0) DX11_init_132 (by decide) ?_
    refine c_put (st := []) (sp' := [.inr (.int 0), .inr (.int 50), .inl 0, .inl 1, .inl 2, .inl 3, .inl 4, .inl 5, .inl 6, .inl 7, .inl 8, .inl 9, .inl 10, .inr (.int 0), .inl 11, .inl 18, .inl 23]) DX11_init_133 fp_X11_55 hC rfl rfl (Nat.le_of_ble_eq_true rfl) rfl (fun M hC => ?_)
    refine r_aload_n DX11_init_136 rfl ?_
    refine r_new DX11_init_137 nw_X11_58 ⟨by decide, by decide⟩ (fun p137 hp137 _ => ?_)
    refine r_dup DX11_init_140 rfl ?_
    refine r_callIN (As := []) (rest := [.ref p137, .ref q]) DX11_init_141 cin_X11_60 (C_X9_init (cxL X) (mset_self _ _ _)) rfl (fitA (by decide) (by decide) (by decide) (by decide)) rfl (Nat.le_of_ble_eq_true rfl) ?_
    rintro v M' ⟨rfl, bs141, hB⟩
    have hbs141 := hB.2.1
    refine c_joinF (st := []) (m := 11) (cs' := [.inr (13, ([.inr (.int 0), .inr (.ref (eT E 2)), .inr (.int 0)] : List FS).map (fldv [])), .inr (13, ([.inr (.int 0), .inr (.ref (eT E 2)), .inr (.int 0)] : List FS).map (fldv [])), .inr (13, ([.inr (.int 0), .inr (.ref (eT E 2)), .inr (.int 0)] : List FS).map (fldv [])), .inr (13, ([.inr (.int 0), .inr (.ref (eT E 2)), .inr (.int 0)] : List FS).map (fldv [])), .inl (eI E, 12, .inl (fun _ => 0)), .inr (13, ([.inr (.int 0), .inr (.ref (eT E 2)), .inr (.int 0)] : List FS).map (fldv [])), .inr (13, ([.inr (.int 0), .inr (.ref (eT E 2)), .inr (.int 0)] : List FS).map (fldv [])), .inr (13, ([.inr (.int 0), .inr (.ref (eT E 2)), .inr (.int 0)] : List FS).map (fldv [])), .inr (13, ([.inr (.int 0), .inr (.ref (eT E 2)), .inr (.int 0)] : List FS).map (fldv [])), .inr (13, ([.inr (.int 0), .inr (.ref (eT E 2)), .inr (.int 0)] : List FS).map (fldv [])), .inl (eB3 E, 400, .inl (fun _ => 0)), .inr (9, ([.inl 0, .inl 1, .inl 2, .inl 3, .inl 4, .inr (.int 0), .inr (.int 0), .inl 5, .inr (.int 0), .inr (.int 0), .inr (.int 0)] : List FS).map (fldv bs141)), .inl (eI E, 12, .inl (fun _ => 0)), .inl (eI E, 12, .inl (fun _ => 0)), .inl (eI E, 12, .inl (fun _ => 0)), .inl (eI E, 12, .inl (fun _ => 0)), .inl (eI E, 160, .inl (fun _ => 0)), .inl (eB3 E, 0, .inl (fun _ => 0))]) DX11_init_144 fq_X11_61 hC hp137 hB rfl rfl rfl rfl rfl rfl (fun M hC => ?_)
    refine r_aload_n DX11_init_147 rfl ?_
    refine r_new DX11_init_148 nw_X11_65 ⟨by decide, by decide⟩ (fun p148 hp148 _ => ?_)
    refine r_dup DX11_init_151 rfl ?_
    refine r_callIN (As := []) (rest := [.ref p148, .ref q]) DX11_init_152 cin_X11_67 (C_X4_init (cxL X) (mset_self _ _ _)) rfl (fitA (by decide) (by decide) (by decide) (by decide)) rfl (Nat.le_of_ble_eq_true rfl) ?_
    rintro v M' ⟨rfl, bs152, hB⟩
    have hbs152 := hB.2.1
    refine c_joinF (st := []) (m := 18) (cs' := [.inr (13, ([.inr (.int 0), .inr (.ref (eT E 2)), .inr (.int 0)] : List FS).map (fldv [])), .inr (13, ([.inr (.int 0), .inr (.ref (eT E 2)), .inr (.int 0)] : List FS).map (fldv [])), .inr (13, ([.inr (.int 0), .inr (.ref (eT E 2)), .inr (.int 0)] : List FS).map (fldv [])), .inr (13, ([.inr (.int 0), .inr (.ref (eT E 2)), .inr (.int 0)] : List FS).map (fldv [])), .inl (eI E, 12, .inl (fun _ => 0)), .inr (13, ([.inr (.int 0), .inr (.ref (eT E 2)), .inr (.int 0)] : List FS).map (fldv [])), .inr (13, ([.inr (.int 0), .inr (.ref (eT E 2)), .inr (.int 0)] : List FS).map (fldv [])), .inr (13, ([.inr (.int 0), .inr (.ref (eT E 2)), .inr (.int 0)] : List FS).map (fldv [])), .inr (13, ([.inr (.int 0), .inr (.ref (eT E 2)), .inr (.int 0)] : List FS).map (fldv [])), .inr (13, ([.inr (.int 0), .inr (.ref (eT E 2)), .inr (.int 0)] : List FS).map (fldv [])), .inl (eB3 E, 400, .inl (fun _ => 0)), .inr (9, ([.inl 0, .inl 1, .inl 2, .inl 3, .inl 4, .inr (.int 0), .inr (.int 0), .inl 5, .inr (.int 0), .inr (.int 0), .inr (.int 0)] : List FS).map (fldv bs141)), .inl (eI E, 12, .inl (fun _ => 0)), .inl (eI E, 12, .inl (fun _ => 0)), .inl (eI E, 12, .inl (fun _ => 0)), .inl (eI E, 12, .inl (fun _ => 0)), .inl (eI E, 160, .inl (fun _ => 0)), .inl (eB3 E, 0, .inl (fun _ => 0)), .inr (4, ([.inl 0, .inl 1, .inl 2, .inl 3, .inr (.int 0), .inr (.int 0), .inr (.int 0), .inr (.int 0)] : List FS).map (fldv bs152)), .inr (13, ([.inr (.int 0), .inr (.ref (eT E 2)), .inr (.int 0)] : List FS).map (fldv [])), .inl (eI E, 30, .inl (fun _ => 0)), .inl (eI E, 9, .inl (fun _ => 0)), .inl (eI E, 160, .inl (fun _ => 0))]) DX11_init_155 fq_X11_68 hC hp148 hB rfl rfl rfl rfl rfl rfl (fun M hC => ?_)
    refine r_aload_n DX11_init_158 rfl ?_
    refine r_new DX11_init_159 nw_X11_72 ⟨by decide, by decide⟩ (fun p159 hp159 _ => ?_)
    refine r_dup DX11_init_162 rfl ?_
    refine r_callIN (As := []) (rest := [.ref p159, .ref q]) DX11_init_163 cin_X11_74 (C_X5_init (cxL X) (mset_self _ _ _)) rfl (fitA (by decide) (by decide) (by decide) (by decide)) rfl (Nat.le_of_ble_eq_true rfl) ?_
    rintro v M' ⟨rfl, bs163, hB⟩
    have hbs163 := hB.2.1
    refine c_joinF (st := []) (m := 23) (cs' := [.inr (13, ([.inr (.int 0), .inr (.ref (eT E 2)), .inr (.int 0)] : List FS).map (fldv [])), .inr (13, ([.inr (.int 0), .inr (.ref (eT E 2)), .inr (.int 0)] : List FS).map (fldv [])), .inr (13, ([.inr (.int 0), .inr (.ref (eT E 2)), .inr (.int 0)] : List FS).map (fldv [])), .inr (13, ([.inr (.int 0), .inr (.ref (eT E 2)), .inr (.int 0)] : List FS).map (fldv [])), .inl (eI E, 12, .inl (fun _ => 0)), .inr (13, ([.inr (.int 0), .inr (.ref (eT E 2)), .inr (.int 0)] : List FS).map (fldv [])), .inr (13, ([.inr (.int 0), .inr (.ref (eT E 2)), .inr (.int 0)] : List FS).map (fldv [])), .inr (13, ([.inr (.int 0), .inr (.ref (eT E 2)), .inr (.int 0)] : List FS).map (fldv [])), .inr (13, ([.inr (.int 0), .inr (.ref (eT E 2)), .inr (.int 0)] : List FS).map (fldv [])), .inr (13, ([.inr (.int 0), .inr (.ref (eT E 2)), .inr (.int 0)] : List FS).map (fldv [])), .inl (eB3 E, 400, .inl (fun _ => 0)), .inr (9, ([.inl 0, .inl 1, .inl 2, .inl 3, .inl 4, .inr (.int 0), .inr (.int 0), .inl 5, .inr (.int 0), .inr (.int 0), .inr (.int 0)] : List FS).map (fldv bs141)), .inl (eI E, 12, .inl (fun _ => 0)), .inl (eI E, 12, .inl (fun _ => 0)), .inl (eI E, 12, .inl (fun _ => 0)), .inl (eI E, 12, .inl (fun _ => 0)), .inl (eI E, 160, .inl (fun _ => 0)), .inl (eB3 E, 0, .inl (fun _ => 0)), .inr (4, ([.inl 0, .inl 1, .inl 2, .inl 3, .inr (.int 0), .inr (.int 0), .inr (.int 0), .inr (.int 0)] : List FS).map (fldv bs152)), .inr (13, ([.inr (.int 0), .inr (.ref (eT E 2)), .inr (.int 0)] : List FS).map (fldv [])), .inl (eI E, 30, .inl (fun _ => 0)), .inl (eI E, 9, .inl (fun _ => 0)), .inl (eI E, 160, .inl (fun _ => 0)), .inr (5, ([.inl 0, .inl 1, .inl 2, .inl 3, .inr (.int 0), .inr (.null), .inr (.int 0), .inr (.int 0)] : List FS).map (fldv bs163)), .inl (eI E, 512, .inl (fun _ => 0)), .inl (eI E, 512, .inl (fun _ => 0)), .inl (eI E, 512, .inl (fun _ => 0)), .inl (eI E, 9, .inl (fun _ => 0))]) DX11_init_166 fq_X11_75 hC hp159 hB rfl rfl rfl rfl rfl rfl (fun M hC => ?_)
    exact r_vret DX11_init_169 rfl ⟨by decide, by decide⟩ ⟨rfl, _, _, _, _, _, _, _, ⟨rfl, hbs141, hbs152, hbs163⟩, hC⟩)
