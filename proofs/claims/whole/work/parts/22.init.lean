/-! constructors, by program -/
def roomT (x : Int32) : Nat := if x = 0 then 9 else 0
theorem nw_X11_16 : NW RX11 16 13 3 [.int 0, .null, .int 0] := ⟨RJx4a65c, TJx4a65c, tyJx4a65c, rfl, in_Jx4a65c, tyJx4a65c_ok, wd_134, wd_135, wd_102, by decide⟩
theorem nw_X11_58 : NW RX11 58 9 11 [.null, .null, .null, .null, .null, .int 0, .int 0, .null, .int 0, .int 0, .int 0] := ⟨RX9, TX9, tyX9, rfl, in_X9, tyX9_ok, wd_160, wd_161, wd_103, by decide⟩
theorem nw_X11_65 : NW RX11 65 4 8 [.null, .null, .null, .null, .int 0, .int 0, .int 0, .int 0] := ⟨RX4, TX4, tyX4, rfl, in_X4, tyX4_ok, wd_209, wd_210, wd_104, by decide⟩
theorem nw_X11_72 : NW RX11 72 5 8 [.null, .null, .null, .null, .int 0, .null, .int 0, .int 0] := ⟨RX5, TX5, tyX5, rfl, in_X5, tyX5_ok, wd_243, wd_244, wd_105, by decide⟩
theorem nw_X11_97 : NW RX11 97 8 2 [.int 0, .int 0] := ⟨RX8, TX8, tyX8, rfl, in_X8, tyX8_ok, wd_400, wd_1100, wd_124, by decide⟩
theorem nw_X11_106 : NW RX11 106 6 8 [.int 0, .int 0, .int 0, .int 0, .int 0, .null, .int 0, .int 0] := ⟨RX6, TX6, tyX6, rfl, in_X6, tyX6_ok, wd_405, wd_764, wd_117, by decide⟩
theorem nw_X11_119 : NW RX11 119 0 3 [.int 0, .int 0, .int 0] := ⟨RX0, TX0, tyX0, rfl, in_X0, tyX0_ok, wd_417, wd_418, wd_110, by decide⟩
theorem nw_X11_128 : NW RX11 128 2 16 [.int 0, .null, .null, .null, .null, .null, .null, .null, .null, .null, .null, .int 0, .int 0, .int 0, .int 0, .int 0] := ⟨RX2, TX2, tyX2, rfl, in_X2, tyX2_ok, wd_499, wd_500, wd_114, by decide⟩
theorem nw_X11_165 : NW RX11 165 10 10 [.int 0, .int 0, .null, .int 0, .int 0, .null, .null, .null, .int 0, .int 0] := ⟨RX10, TX10, tyX10, rfl, in_X10, tyX10_ok, wd_645, wd_646, wd_116, by decide⟩
theorem nw_X11_229 : NW RX11 229 7 9 [.int 0, .int 0, .int 0, .int 0, .null, .null, .null, .null, .null] := ⟨RX7, TX7, tyX7, rfl, in_X7, tyX7_ok, wd_974, wd_975, wd_122, by decide⟩
theorem nw_X11_277 : NW RX11 277 3 4 [.int 0, .int 0, .int 0, .int 0] := ⟨RX3, TX3, tyX3, rfl, in_X3, tyX3_ok, wd_1073, wd_1074, wd_123, by decide⟩
theorem nw_X11_304 : NW RX11 304 1 5 [.int 0, .int 0, .int 0, .int 0, .int 0] := ⟨RX1, TX1, tyX1, rfl, in_X1, tyX1_ok, wd_1135, wd_1144, wd_125, by decide⟩
theorem nw_X4_9 : NW RX4 9 13 3 [.int 0, .null, .int 0] := ⟨RJx4a65c, TJx4a65c, tyJx4a65c, rfl, in_Jx4a65c, tyJx4a65c_ok, wd_215, wd_135, wd_102, by decide⟩
theorem C_X0_init {E : EN} {M0 : MH} {q : Nat} {x1 : Int32} {x2 : Int32} {x3 : Int32} (l : Launch) (hM : M0 q = some (.inr (0, [.int 0, .int 0, .int 0]))) : Ct E l yX0_init cX0_init 4 none (rmA 1 0 0) [.ref q, .int x1, .int x2, .int x3] M0 (fun v M' => v = none ∧ ∃ as, CI M0 q 0 [.inr (.int x1), .inr (.int x2), .inr (.int x3)] as [] M') :=
  Ct.of (own := RX0) (ini := true) (L := [some (.ref q), some (.int x1), some (.int x2), some (.int x3)]) rfl rfl (fun _ => rfl) rfl (Nat.le_of_ble_eq_true rfl) rfl (fun X _ => by
    refine r_aload_n DX0_init_0 rfl ?_
    refine r_obji (st := []) DX0_init_1 wd_422 (by decide) (by decide) ?_
    have hC : CI M0 q 0 [.inr (.int 0), .inr (.int 0), .inr (.int 0)] [] [] M0 := CI.start hM rfl
    refine r_aload_n DX0_init_4 rfl ?_
    refine r_iload_n DX0_init_5 rfl ?_
    refine c_putF (st := []) (sp' := [.inr (.int x1), .inr (.int 0), .inr (.int 0)]) DX0_init_6 fq_X0_7 hC rfl rfl (Nat.le_of_ble_eq_true rfl) rfl (fun M hC => ?_)
    refine r_aload_n DX0_init_9 rfl ?_
    refine r_iload_n DX0_init_10 rfl ?_
    refine c_putF (st := []) (sp' := [.inr (.int x1), .inr (.int x2), .inr (.int 0)]) DX0_init_11 fq_X0_13 hC rfl rfl (Nat.le_of_ble_eq_true rfl) rfl (fun M hC => ?_)
    refine r_aload_n DX0_init_14 rfl ?_
    refine r_iload_n DX0_init_15 rfl ?_
    refine c_putF (st := []) (sp' := [.inr (.int x1), .inr (.int x2), .inr (.int x3)]) DX0_init_16 fq_X0_16 hC rfl rfl (Nat.le_of_ble_eq_true rfl) rfl (fun M hC => ?_)
    exact r_vret DX0_init_19 rfl ⟨by decide, by decide⟩ ⟨rfl, _, hC⟩)
theorem C_X1_init {E : EN} {M0 : MH} {q : Nat} {x1 : Int32} {x2 : Int32} {x3 : Int32} {x4 : Int32} (l : Launch) (hM : M0 q = some (.inr (1, [.int 0, .int 0, .int 0, .int 0, .int 0]))) : Ct E l yX1_init cX1_init 5 none (rmA 1 0 0) [.ref q, .int x1, .int x2, .int x3, .int x4] M0 (fun v M' => v = none ∧ ∃ as, CI M0 q 1 [.inr (.int x1), .inr (.int x2), .inr (.int x3), .inr (.int x4), .inr (.int 1)] as [] M') :=
  Ct.of (own := RX1) (ini := true) (L := [some (.ref q), some (.int x1), some (.int x2), some (.int x3), some (.int x4)]) rfl rfl (fun _ => rfl) rfl (Nat.le_of_ble_eq_true rfl) rfl (fun X _ => by
    refine r_aload_n DX1_init_0 rfl ?_
    refine r_obji (st := []) DX1_init_1 wd_1148 (by decide) (by decide) ?_
    have hC : CI M0 q 1 [.inr (.int 0), .inr (.int 0), .inr (.int 0), .inr (.int 0), .inr (.int 0)] [] [] M0 := CI.start hM rfl
    refine r_aload_n DX1_init_4 rfl ?_
    refine r_iconst (v := 1) DX1_init_5 (by decide) ?_
    refine c_put (st := []) (sp' := [.inr (.int 0), .inr (.int 0), .inr (.int 0), .inr (.int 0), .inr (.int 1)]) DX1_init_6 fp_X1_7 hC rfl rfl (Nat.le_of_ble_eq_true rfl) rfl (fun M hC => ?_)
    refine r_aload_n DX1_init_9 rfl ?_
    refine r_iload_n DX1_init_10 rfl ?_
    refine c_putF (st := []) (sp' := [.inr (.int x1), .inr (.int 0), .inr (.int 0), .inr (.int 0), .inr (.int 1)]) DX1_init_11 fq_X1_13 hC rfl rfl (Nat.le_of_ble_eq_true rfl) rfl (fun M hC => ?_)
    refine r_aload_n DX1_init_14 rfl ?_
    refine r_iload_n DX1_init_15 rfl ?_
    refine c_putF (st := []) (sp' := [.inr (.int x1), .inr (.int x2), .inr (.int 0), .inr (.int 0), .inr (.int 1)]) DX1_init_16 fq_X1_17 hC rfl rfl (Nat.le_of_ble_eq_true rfl) rfl (fun M hC => ?_)
    refine r_aload_n DX1_init_19 rfl ?_
    refine r_iload_n DX1_init_20 rfl ?_
    refine c_putF (st := []) (sp' := [.inr (.int x1), .inr (.int x2), .inr (.int x3), .inr (.int 0), .inr (.int 1)]) DX1_init_21 fq_X1_20 hC rfl rfl (Nat.le_of_ble_eq_true rfl) rfl (fun M hC => ?_)
    refine r_aload_n DX1_init_24 rfl ?_
    refine r_iload DX1_init_25 rfl ?_
    refine c_put (st := []) (sp' := [.inr (.int x1), .inr (.int x2), .inr (.int x3), .inr (.int x4), .inr (.int 1)]) DX1_init_27 fp_X1_23 hC rfl rfl (Nat.le_of_ble_eq_true rfl) rfl (fun M hC => ?_)
    exact r_vret DX1_init_30 rfl ⟨by decide, by decide⟩ ⟨rfl, _, hC⟩)
theorem C_X3_init {E : EN} {M0 : MH} {q : Nat} {x1 : Int32} {x2 : Int32} {x3 : Int32} {x4 : Int32} (l : Launch) (hM : M0 q = some (.inr (3, [.int 0, .int 0, .int 0, .int 0]))) : Ct E l yX3_init cX3_init 5 none (rmA 1 0 0) [.ref q, .int x1, .int x2, .int x3, .int x4] M0 (fun v M' => v = none ∧ ∃ as, CI M0 q 3 [.inr (.int x1), .inr (.int x2), .inr (.int x3), .inr (.int x4)] as [] M') :=
  Ct.of (own := RX3) (ini := true) (L := [some (.ref q), some (.int x1), some (.int x2), some (.int x3), some (.int x4)]) rfl rfl (fun _ => rfl) rfl (Nat.le_of_ble_eq_true rfl) rfl (fun X _ => by
    refine r_aload_n DX3_init_0 rfl ?_
    refine r_obji (st := []) DX3_init_1 wd_1078 (by decide) (by decide) ?_
    have hC : CI M0 q 3 [.inr (.int 0), .inr (.int 0), .inr (.int 0), .inr (.int 0)] [] [] M0 := CI.start hM rfl
    refine r_aload_n DX3_init_4 rfl ?_
    refine r_iload_n DX3_init_5 rfl ?_
    refine c_putF (st := []) (sp' := [.inr (.int x1), .inr (.int 0), .inr (.int 0), .inr (.int 0)]) DX3_init_6 fq_X3_7 hC rfl rfl (Nat.le_of_ble_eq_true rfl) rfl (fun M hC => ?_)
    refine r_aload_n DX3_init_9 rfl ?_
    refine r_iload_n DX3_init_10 rfl ?_
    refine c_putF (st := []) (sp' := [.inr (.int x1), .inr (.int x2), .inr (.int 0), .inr (.int 0)]) DX3_init_11 fq_X3_13 hC rfl rfl (Nat.le_of_ble_eq_true rfl) rfl (fun M hC => ?_)
    refine r_aload_n DX3_init_14 rfl ?_
    refine r_iload_n DX3_init_15 rfl ?_
    refine c_putF (st := []) (sp' := [.inr (.int x1), .inr (.int x2), .inr (.int x3), .inr (.int 0)]) DX3_init_16 fq_X3_16 hC rfl rfl (Nat.le_of_ble_eq_true rfl) rfl (fun M hC => ?_)
    refine r_aload_n DX3_init_19 rfl ?_
    refine r_iload DX3_init_20 rfl ?_
    refine c_putF (st := []) (sp' := [.inr (.int x1), .inr (.int x2), .inr (.int x3), .inr (.int x4)]) DX3_init_22 fq_X3_19 hC rfl rfl (Nat.le_of_ble_eq_true rfl) rfl (fun M hC => ?_)
    exact r_vret DX3_init_25 rfl ⟨by decide, by decide⟩ ⟨rfl, _, hC⟩)
theorem C_X8_init {E : EN} {M0 : MH} {q : Nat} {x1 : Int32} (l : Launch) (hM : M0 q = some (.inr (8, [.int 0, .int 0]))) : Ct E l yX8_init cX8_init 2 none (rmA 1 0 0) [.ref q, .int x1] M0 (fun v M' => v = none ∧ ∃ as, CI M0 q 8 [.inr (.int 0), .inr (.int x1)] as [] M') :=
  Ct.of (own := RX8) (ini := true) (L := [some (.ref q), some (.int x1)]) rfl rfl (fun _ => rfl) rfl (Nat.le_of_ble_eq_true rfl) rfl (fun X _ => by
    refine r_aload_n DX8_init_0 rfl ?_
    refine r_obji (st := []) DX8_init_1 wd_1104 (by decide) (by decide) ?_
    have hC : CI M0 q 8 [.inr (.int 0), .inr (.int 0)] [] [] M0 := CI.start hM rfl
    refine r_aload_n DX8_init_4 rfl ?_
    refine r_iconst (v := 0) DX8_init_5 (by decide) ?_
    refine c_put (st := []) (sp' := [.inr (.int 0), .inr (.int 0)]) DX8_init_6 fp_X8_7 hC rfl rfl (Nat.le_of_ble_eq_true rfl) rfl (fun M hC => ?_)
    refine r_aload_n DX8_init_9 rfl ?_
    refine r_iload_n DX8_init_10 rfl ?_
    refine c_put (st := []) (sp' := [.inr (.int 0), .inr (.int x1)]) DX8_init_11 fp_X8_13 hC rfl rfl (Nat.le_of_ble_eq_true rfl) rfl (fun M hC => ?_)
    exact r_vret DX8_init_14 rfl ⟨by decide, by decide⟩ ⟨rfl, _, hC⟩)
theorem C_X6_init {E : EN} {M0 : MH} {q : Nat} {x1 : Int32} {x2 : Int32} {x3 : Int32} {x4 : Int32} {x5 : Int32} (l : Launch) (hM : M0 q = some (.inr (6, [.int 0, .int 0, .int 0, .int 0, .int 0, .null, .int 0, .int 0]))) : Ct E l yX6_init cX6_init 6 none (rmA 1 1 20) [.ref q, .int x1, .int x2, .int x3, .int x4, .int x5] M0 (fun v M' => v = none ∧ ∃ as, CI M0 q 6 [.inr (.int x1), .inr (.int x2), .inr (.int x3), .inr (.int x4), .inr (.int x5), .inl 0, .inr (.int 0), .inr (.int 0)] as [.inl (eI E, 20, .inl (fun _ => 0))] M') :=
  Ct.of (own := RX6) (ini := true) (L := [some (.ref q), some (.int x1), some (.int x2), some (.int x3), some (.int x4), some (.int x5)]) rfl rfl (fun _ => rfl) rfl (Nat.le_of_ble_eq_true rfl) rfl (fun X _ => by
    refine r_aload_n DX6_init_0 rfl ?_
    refine r_obji (st := []) DX6_init_1 wd_768 (by decide) (by decide) ?_
    have hC : CI M0 q 6 [.inr (.int 0), .inr (.int 0), .inr (.int 0), .inr (.int 0), .inr (.int 0), .inl 0, .inr (.int 0), .inr (.int 0)] [] [] M0 := CI.start hM rfl
    refine r_aload_n DX6_init_4 rfl ?_
    refine r_bipush (v := 20) DX6_init_5 (by decide) ?_
    refine r_newaI (N := 20) DX6_init_7 (by decide) (by decide) (by decide) ⟨by decide, by decide⟩ (fun p7 hp7 _ => ?_)
    refine c_rowF (st := []) (e := .inl (eI E, 20, .inl (fun _ => 0))) (m := 0) (cs' := [.inl (eI E, 20, .inl (fun _ => 0))]) DX6_init_9 fq_X6_9 hC hp7 rfl rfl rfl rfl rfl (fun M hC => ?_)
    refine r_aload_n DX6_init_12 rfl ?_
    refine r_iconst (v := 0) DX6_init_13 (by decide) ?_
    refine c_put (st := []) (sp' := [.inr (.int 0), .inr (.int 0), .inr (.int 0), .inr (.int 0), .inr (.int 0), .inl 0, .inr (.int 0), .inr (.int 0)]) DX6_init_14 fp_X6_15 hC rfl rfl (Nat.le_of_ble_eq_true rfl) rfl (fun M hC => ?_)
    refine r_aload_n DX6_init_17 rfl ?_
    refine r_iconst (v := 0) DX6_init_18 (by decide) ?_
    refine c_put (st := []) (sp' := [.inr (.int 0), .inr (.int 0), .inr (.int 0), .inr (.int 0), .inr (.int 0), .inl 0, .inr (.int 0), .inr (.int 0)]) DX6_init_19 fp_X6_19 hC rfl rfl (Nat.le_of_ble_eq_true rfl) rfl (fun M hC => ?_)
    refine r_aload_n DX6_init_22 rfl ?_
    refine r_iload_n DX6_init_23 rfl ?_
    refine c_putF (st := []) (sp' := [.inr (.int x1), .inr (.int 0), .inr (.int 0), .inr (.int 0), .inr (.int 0), .inl 0, .inr (.int 0), .inr (.int 0)]) DX6_init_24 fq_X6_23 hC rfl rfl (Nat.le_of_ble_eq_true rfl) rfl (fun M hC => ?_)
    refine r_aload_n DX6_init_27 rfl ?_
    refine r_iload_n DX6_init_28 rfl ?_
    refine c_putF (st := []) (sp' := [.inr (.int x1), .inr (.int x2), .inr (.int 0), .inr (.int 0), .inr (.int 0), .inl 0, .inr (.int 0), .inr (.int 0)]) DX6_init_29 fq_X6_26 hC rfl rfl (Nat.le_of_ble_eq_true rfl) rfl (fun M hC => ?_)
    refine r_aload_n DX6_init_32 rfl ?_
    refine r_iload_n DX6_init_33 rfl ?_
    refine c_putF (st := []) (sp' := [.inr (.int x1), .inr (.int x2), .inr (.int x3), .inr (.int 0), .inr (.int 0), .inl 0, .inr (.int 0), .inr (.int 0)]) DX6_init_34 fq_X6_29 hC rfl rfl (Nat.le_of_ble_eq_true rfl) rfl (fun M hC => ?_)
    refine r_aload_n DX6_init_37 rfl ?_
    refine r_iload DX6_init_38 rfl ?_
    refine c_putF (st := []) (sp' := [.inr (.int x1), .inr (.int x2), .inr (.int x3), .inr (.int x4), .inr (.int 0), .inl 0, .inr (.int 0), .inr (.int 0)]) DX6_init_40 fq_X6_32 hC rfl rfl (Nat.le_of_ble_eq_true rfl) rfl (fun M hC => ?_)
    refine r_aload_n DX6_init_43 rfl ?_
    refine r_iload DX6_init_44 rfl ?_
    refine c_putF (st := []) (sp' := [.inr (.int x1), .inr (.int x2), .inr (.int x3), .inr (.int x4), .inr (.int x5), .inl 0, .inr (.int 0), .inr (.int 0)]) DX6_init_46 fq_X6_35 hC rfl rfl (Nat.le_of_ble_eq_true rfl) rfl (fun M hC => ?_)
    exact r_vret DX6_init_49 rfl ⟨by decide, by decide⟩ ⟨rfl, _, hC⟩)
theorem C_X2_init {E : EN} {M0 : MH} {q : Nat} {x1 : Int32} (l : Launch) (hM : M0 q = some (.inr (2, [.int 0, .null, .null, .null, .null, .null, .null, .null, .null, .null, .null, .int 0, .int 0, .int 0, .int 0, .int 0]))) : Ct E l yX2_init cX2_init 2 none (rmA 1 10 437) [.ref q, .int x1] M0 (fun v M' => v = none ∧ ∃ as, CI M0 q 2 [.inr (.int x1), .inl 0, .inl 1, .inl 2, .inl 3, .inl 4, .inl 5, .inl 6, .inl 7, .inl 8, .inl 9, .inr (.int 0), .inr (.int 0), .inr (.int 0), .inr (.int (-1)), .inr (.int 0)] as [.inl (eI E, 8, .inl (fun _ => 0)), .inl (eI E, 8, .inl (fun _ => 0)), .inl (eI E, 8, .inl (fun _ => 0)), .inl (eI E, 8, .inl (fun _ => 0)), .inl (eI E, 8, .inl (fun _ => 0)), .inl (eI E, 127, .inl (fun _ => 0)), .inl (eI E, 127, .inl (fun _ => 0)), .inl (eI E, 127, .inl (fun _ => 0)), .inl (eI E, 8, .inl (fun _ => 0)), .inl (eI E, 8, .inl (fun _ => 0))] M') :=
  Ct.of (own := RX2) (ini := true) (L := [some (.ref q), some (.int x1)]) rfl rfl (fun _ => rfl) rfl (Nat.le_of_ble_eq_true rfl) rfl (fun X _ => by
    refine r_aload_n DX2_init_0 rfl ?_
    refine r_obji (st := []) DX2_init_1 wd_504 (by decide) (by decide) ?_
    have hC : CI M0 q 2 [.inr (.int 0), .inl 0, .inl 1, .inl 2, .inl 3, .inl 4, .inl 5, .inl 6, .inl 7, .inl 8, .inl 9, .inr (.int 0), .inr (.int 0), .inr (.int 0), .inr (.int 0), .inr (.int 0)] [] [] M0 := CI.start hM rfl
    refine r_aload_n DX2_init_4 rfl ?_
    refine r_bipush (v := 8) DX2_init_5 (by decide) ?_
    refine r_newaI (N := 8) DX2_init_7 (by decide) (by decide) (by decide) ⟨by decide, by decide⟩ (fun p7 hp7 _ => ?_)
    refine c_rowF (st := []) (e := .inl (eI E, 8, .inl (fun _ => 0))) (m := 0) (cs' := [.inl (eI E, 8, .inl (fun _ => 0))]) DX2_init_9 fq_X2_11 hC hp7 rfl rfl rfl rfl rfl (fun M hC => ?_)
    refine r_aload_n DX2_init_12 rfl ?_
    refine r_bipush (v := 8) DX2_init_13 (by decide) ?_
    refine r_newaI (N := 8) DX2_init_15 (by decide) (by decide) (by decide) ⟨by decide, by decide⟩ (fun p15 hp15 _ => ?_)
    refine c_rowF (st := []) (e := .inl (eI E, 8, .inl (fun _ => 0))) (m := 1) (cs' := [.inl (eI E, 8, .inl (fun _ => 0)), .inl (eI E, 8, .inl (fun _ => 0))]) DX2_init_17 fq_X2_15 hC hp15 rfl rfl rfl rfl rfl (fun M hC => ?_)
    refine r_aload_n DX2_init_20 rfl ?_
    refine r_bipush (v := 8) DX2_init_21 (by decide) ?_
    refine r_newaI (N := 8) DX2_init_23 (by decide) (by decide) (by decide) ⟨by decide, by decide⟩ (fun p23 hp23 _ => ?_)
    refine c_rowF (st := []) (e := .inl (eI E, 8, .inl (fun _ => 0))) (m := 2) (cs' := [.inl (eI E, 8, .inl (fun _ => 0)), .inl (eI E, 8, .inl (fun _ => 0)), .inl (eI E, 8, .inl (fun _ => 0))]) DX2_init_25 fq_X2_18 hC hp23 rfl rfl rfl rfl rfl (fun M hC => ?_)
    refine r_aload_n DX2_init_28 rfl ?_
    refine r_bipush (v := 8) DX2_init_29 (by decide) ?_
    refine r_newaI (N := 8) DX2_init_31 (by decide) (by decide) (by decide) ⟨by decide, by decide⟩ (fun p31 hp31 _ => ?_)
    refine c_rowF (st := []) (e := .inl (eI E, 8, .inl (fun _ => 0))) (m := 3) (cs' := [.inl (eI E, 8, .inl (fun _ => 0)), .inl (eI E, 8, .inl (fun _ => 0)), .inl (eI E, 8, .inl (fun _ => 0)), .inl (eI E, 8, .inl (fun _ => 0))]) DX2_init_33 fq_X2_21 hC hp31 rfl rfl rfl rfl rfl (fun M hC => ?_)
    refine r_aload_n DX2_init_36 rfl ?_
    refine r_bipush (v := 8) DX2_init_37 (by decide) ?_
    refine r_newaI (N := 8) DX2_init_39 (by decide) (by decide) (by decide) ⟨by decide, by decide⟩ (fun p39 hp39 _ => ?_)
    refine c_rowF (st := []) (e := .inl (eI E, 8, .inl (fun _ => 0))) (m := 4) (cs' := [.inl (eI E, 8, .inl (fun _ => 0)), .inl (eI E, 8, .inl (fun _ => 0)), .inl (eI E, 8, .inl (fun _ => 0)), .inl (eI E, 8, .inl (fun _ => 0)), .inl (eI E, 8, .inl (fun _ => 0))]) DX2_init_41 fq_X2_24 hC hp39 rfl rfl rfl rfl rfl (fun M hC => ?_)
    refine r_aload_n DX2_init_44 rfl ?_
    refine r_bipush (v := 127) DX2_init_45 (by decide) ?_
    refine r_newaI (N := 127) DX2_init_47 (by decide) (by decide) (by decide) ⟨by decide, by decide⟩ (fun p47 hp47 _ => ?_)
    refine c_rowF (st := []) (e := .inl (eI E, 127, .inl (fun _ => 0))) (m := 5) (cs' := [.inl (eI E, 8, .inl (fun _ => 0)), .inl (eI E, 8, .inl (fun _ => 0)), .inl (eI E, 8, .inl (fun _ => 0)), .inl (eI E, 8, .inl (fun _ => 0)), .inl (eI E, 8, .inl (fun _ => 0)), .inl (eI E, 127, .inl (fun _ => 0))]) DX2_init_49 fq_X2_27 hC hp47 rfl rfl rfl rfl rfl (fun M hC => ?_)
    refine r_aload_n DX2_init_52 rfl ?_
    refine r_bipush (v := 127) DX2_init_53 (by decide) ?_
    refine r_newaI (N := 127) DX2_init_55 (by decide) (by decide) (by decide) ⟨by decide, by decide⟩ (fun p55 hp55 _ => ?_)
    refine c_rowF (st := []) (e := .inl (eI E, 127, .inl (fun _ => 0))) (m := 6) (cs' := [.inl (eI E, 8, .inl (fun _ => 0)), .inl (eI E, 8, .inl (fun _ => 0)), .inl (eI E, 8, .inl (fun _ => 0)), .inl (eI E, 8, .inl (fun _ => 0)), .inl (eI E, 8, .inl (fun _ => 0)), .inl (eI E, 127, .inl (fun _ => 0)), .inl (eI E, 127, .inl (fun _ => 0))]) DX2_init_57 fq_X2_30 hC hp55 rfl rfl rfl rfl rfl (fun M hC => ?_)
    refine r_aload_n DX2_init_60 rfl ?_
    refine r_bipush (v := 127) DX2_init_61 (by decide) ?_
    refine r_newaI (N := 127) DX2_init_63 (by decide) (by decide) (by decide) ⟨by decide, by decide⟩ (fun p63 hp63 _ => ?_)
    refine c_rowF (st := []) (e := .inl (eI E, 127, .inl (fun _ => 0))) (m := 7) (cs' := [.inl (eI E, 8, .inl (fun _ => 0)), .inl (eI E, 8, .inl (fun _ => 0)), .inl (eI E, 8, .inl (fun _ => 0)), .inl (eI E, 8, .inl (fun _ => 0)), .inl (eI E, 8, .inl (fun _ => 0)), .inl (eI E, 127, .inl (fun _ => 0)), .inl (eI E, 127, .inl (fun _ => 0)), .inl (eI E, 127, .inl (fun _ => 0))]) DX2_init_65 fq_X2_33 hC hp63 rfl rfl rfl rfl rfl (fun M hC => ?_)
    refine r_aload_n DX2_init_68 rfl ?_
    refine r_bipush (v := 8) DX2_init_69 (by decide) ?_
    refine r_newaI (N := 8) DX2_init_71 (by decide) (by decide) (by decide) ⟨by decide, by decide⟩ (fun p71 hp71 _ => ?_)
    refine c_rowF (st := []) (e := .inl (eI E, 8, .inl (fun _ => 0))) (m := 8) (cs' := [.inl (eI E, 8, .inl (fun _ => 0)), .inl (eI E, 8, .inl (fun _ => 0)), .inl (eI E, 8, .inl (fun _ => 0)), .inl (eI E, 8, .inl (fun _ => 0)), .inl (eI E, 8, .inl (fun _ => 0)), .inl (eI E, 127, .inl (fun _ => 0)), .inl (eI E, 127, .inl (fun _ => 0)), .inl (eI E, 127, .inl (fun _ => 0)), .inl (eI E, 8, .inl (fun _ => 0))]) DX2_init_73 fq_X2_36 hC hp71 rfl rfl rfl rfl rfl (fun M hC => ?_)
    refine r_aload_n DX2_init_76 rfl ?_
    refine r_bipush (v := 8) DX2_init_77 (by decide) ?_
    refine r_newaI (N := 8) DX2_init_79 (by decide) (by decide) (by decide) ⟨by decide, by decide⟩ (fun p79 hp79 _ => ?_)
    refine c_rowF (st := []) (e := .inl (eI E, 8, .inl (fun _ => 0))) (m := 9) (cs' := [.inl (eI E, 8, .inl (fun _ => 0)), .inl (eI E, 8, .inl (fun _ => 0)), .inl (eI E, 8, .inl (fun _ => 0)), .inl (eI E, 8, .inl (fun _ => 0)), .inl (eI E, 8, .inl (fun _ => 0)), .inl (eI E, 127, .inl (fun _ => 0)), .inl (eI E, 127, .inl (fun _ => 0)), .inl (eI E, 127, .inl (fun _ => 0)), .inl (eI E, 8, .inl (fun _ => 0)), .inl (eI E, 8, .inl (fun _ => 0))]) DX2_init_81 fq_X2_39 hC hp79 rfl rfl rfl rfl rfl (fun M hC => ?_)
    refine r_aload_n DX2_init_84 rfl ?_
    refine r_iconst (v := 0) DX2_init_85 (by decide) ?_
    refine c_put (st := []) (sp' := [.inr (.int 0), .inl 0, .inl 1, .inl 2, .inl 3, .inl 4, .inl 5, .inl 6, .inl 7, .inl 8, .inl 9, .inr (.int 0), .inr (.int 0), .inr (.int 0), .inr (.int 0), .inr (.int 0)]) DX2_init_86 fp_X2_42 hC rfl rfl (Nat.le_of_ble_eq_true rfl) rfl (fun M hC => ?_)
    refine r_aload_n DX2_init_89 rfl ?_
    refine r_iconst (v := 0) DX2_init_90 (by decide) ?_
    refine c_put (st := []) (sp' := [.inr (.int 0), .inl 0, .inl 1, .inl 2, .inl 3, .inl 4, .inl 5, .inl 6, .inl 7, .inl 8, .inl 9, .inr (.int 0), .inr (.int 0), .inr (.int 0), .inr (.int 0), .inr (.int 0)]) DX2_init_91 fp_X2_46 hC rfl rfl (Nat.le_of_ble_eq_true rfl) rfl (fun M hC => ?_)
    refine r_aload_n DX2_init_94 rfl ?_
    refine r_iconst (v := 0) DX2_init_95 (by decide) ?_
    refine c_put (st := []) (sp' := [.inr (.int 0), .inl 0, .inl 1, .inl 2, .inl 3, .inl 4, .inl 5, .inl 6, .inl 7, .inl 8, .inl 9, .inr (.int 0), .inr (.int 0), .inr (.int 0), .inr (.int 0), .inr (.int 0)]) DX2_init_96 fp_X2_49 hC rfl rfl (Nat.le_of_ble_eq_true rfl) rfl (fun M hC => ?_)
    refine r_aload_n DX2_init_99 rfl ?_
    refine r_iconst (v := -1) DX2_init_100 (by decide) ?_
    refine c_put (st := []) (sp' := [.inr (.int 0), .inl 0, .inl 1, .inl 2, .inl 3, .inl 4, .inl 5, .inl 6, .inl 7, .inl 8, .inl 9, .inr (.int 0), .inr (.int 0), .inr (.int 0), .inr (.int (-1)), .inr (.int 0)]) DX2_init_101 fp_X2_52 hC rfl rfl (Nat.le_of_ble_eq_true rfl) rfl (fun M hC => ?_)
    refine r_aload_n DX2_init_104 rfl ?_
    refine r_iconst (v := 0) DX2_init_105 (by decide) ?_
    refine c_put (st := []) (sp' := [.inr (.int 0), .inl 0, .inl 1, .inl 2, .inl 3, .inl 4, .inl 5, .inl 6, .inl 7, .inl 8, .inl 9, .inr (.int 0), .inr (.int 0), .inr (.int 0), .inr (.int (-1)), .inr (.int 0)]) DX2_init_106 fp_X2_55 hC rfl rfl (Nat.le_of_ble_eq_true rfl) rfl (fun M hC => ?_)
    refine r_aload_n DX2_init_109 rfl ?_
    refine r_iload_n DX2_init_110 rfl ?_
    refine c_putF (st := []) (sp' := [.inr (.int x1), .inl 0, .inl 1, .inl 2, .inl 3, .inl 4, .inl 5, .inl 6, .inl 7, .inl 8, .inl 9, .inr (.int 0), .inr (.int 0), .inr (.int 0), .inr (.int (-1)), .inr (.int 0)]) DX2_init_111 fq_X2_59 hC rfl rfl (Nat.le_of_ble_eq_true rfl) rfl (fun M hC => ?_)
    exact r_vret DX2_init_114 rfl ⟨by decide, by decide⟩ ⟨rfl, _, hC⟩)
theorem C_X10_init {E : EN} {M0 : MH} {q : Nat} {x1 : Int32} {x2 : Int32} {w : Value} {x4 : Int32} {x5 : Int32} (l : Launch) (hM : M0 q = some (.inr (10, [.int 0, .int 0, .null, .int 0, .int 0, .null, .null, .null, .int 0, .int 0]))) (hw : w = .null ∨ ∃ a, w = .ref a) : Ct E l yX10_init cX10_init 7 none (rmA 1 3 20) [.ref q, .int x1, .int x2, w, .int x4, .int x5] M0 (fun v M' => v = none ∧ ∃ as, CI M0 q 10 [.inr (.int x1), .inr (.int x2), .inr (w), .inr (.int x4), .inr (.int x5), .inl 0, .inl 1, .inl 2, .inr (.int 0), .inr (.int 1)] as [.inl (eI E, 2, .inl (fun _ => 0)), .inl (eI E, roomT x1, .inl (fun _ => 0)), .inl (eI E, roomT x1, .inl (fun _ => 0))] M') :=
  Ct.of (own := RX10) (ini := true) (L := [some (.ref q), some (.int x1), some (.int x2), some (w), some (.int x4), some (.int x5), none]) rfl rfl (fun _ => rfl) (by rcases hw with rfl | ⟨a, rfl⟩ <;> rfl) (Nat.le_of_ble_eq_true rfl) rfl (fun X _ => by
    refine r_aload_n DX10_init_0 rfl ?_
    refine r_obji (st := []) DX10_init_1 wd_650 (by decide) (by decide) ?_
    have hC : CI M0 q 10 [.inr (.int 0), .inr (.int 0), .inr (.null), .inr (.int 0), .inr (.int 0), .inl 0, .inl 1, .inl 2, .inr (.int 0), .inr (.int 0)] [] [] M0 := CI.start hM rfl
    refine r_aload_n DX10_init_4 rfl ?_
    refine r_iconst (v := 2) DX10_init_5 (by decide) ?_
    refine r_newaI (N := 2) DX10_init_6 (by decide) (by decide) (by decide) ⟨by decide, by decide⟩ (fun p6 hp6 _ => ?_)
    refine c_rowF (st := []) (e := .inl (eI E, 2, .inl (fun _ => 0))) (m := 0) (cs' := [.inl (eI E, 2, .inl (fun _ => 0))]) DX10_init_8 fq_X10_9 hC hp6 rfl rfl rfl rfl rfl (fun M hC => ?_)
    refine r_aload_n DX10_init_11 rfl ?_
    refine r_iconst (v := 0) DX10_init_12 (by decide) ?_
    refine c_put (st := []) (sp' := [.inr (.int 0), .inr (.int 0), .inr (.null), .inr (.int 0), .inr (.int 0), .inl 0, .inl 1, .inl 2, .inr (.int 0), .inr (.int 0)]) DX10_init_13 fp_X10_15 hC rfl rfl (Nat.le_of_ble_eq_true rfl) rfl (fun M hC => ?_)
    refine r_aload_n DX10_init_16 rfl ?_
    refine r_iconst (v := 1) DX10_init_17 (by decide) ?_
    refine c_put (st := []) (sp' := [.inr (.int 0), .inr (.int 0), .inr (.null), .inr (.int 0), .inr (.int 0), .inl 0, .inl 1, .inl 2, .inr (.int 0), .inr (.int 1)]) DX10_init_18 fp_X10_19 hC rfl rfl (Nat.le_of_ble_eq_true rfl) rfl (fun M hC => ?_)
    refine r_aload_n DX10_init_21 rfl ?_
    refine r_iload_n DX10_init_22 rfl ?_
    refine c_putF (st := []) (sp' := [.inr (.int x1), .inr (.int 0), .inr (.null), .inr (.int 0), .inr (.int 0), .inl 0, .inl 1, .inl 2, .inr (.int 0), .inr (.int 1)]) DX10_init_23 fq_X10_22 hC rfl rfl (Nat.le_of_ble_eq_true rfl) rfl (fun M hC => ?_)
    refine r_aload_n DX10_init_26 rfl ?_
    refine r_iload_n DX10_init_27 rfl ?_
    refine c_putF (st := []) (sp' := [.inr (.int x1), .inr (.int x2), .inr (.null), .inr (.int 0), .inr (.int 0), .inl 0, .inl 1, .inl 2, .inr (.int 0), .inr (.int 1)]) DX10_init_28 fq_X10_25 hC rfl rfl (Nat.le_of_ble_eq_true rfl) rfl (fun M hC => ?_)
    refine r_aload_n DX10_init_31 rfl ?_
    refine t_aload_n hw DX10_init_32 rfl ?_
    refine c_putF (st := []) (sp' := [.inr (.int x1), .inr (.int x2), .inr (w), .inr (.int 0), .inr (.int 0), .inl 0, .inl 1, .inl 2, .inr (.int 0), .inr (.int 1)]) DX10_init_33 fq_X10_28 hC (by rcases hw with rfl | ⟨a, rfl⟩ <;> rfl) (by rcases hw with rfl | ⟨a, rfl⟩ <;> rfl) (Nat.le_of_ble_eq_true rfl) rfl (fun M hC => ?_)
    refine r_aload_n DX10_init_36 rfl ?_
    refine r_iload DX10_init_37 rfl ?_
    refine c_putF (st := []) (sp' := [.inr (.int x1), .inr (.int x2), .inr (w), .inr (.int x4), .inr (.int 0), .inl 0, .inl 1, .inl 2, .inr (.int 0), .inr (.int 1)]) DX10_init_39 fq_X10_32 hC rfl rfl (Nat.le_of_ble_eq_true rfl) rfl (fun M hC => ?_)
    refine r_aload_n DX10_init_42 rfl ?_
    refine r_iload DX10_init_43 rfl ?_
    refine c_putF (st := []) (sp' := [.inr (.int x1), .inr (.int x2), .inr (w), .inr (.int x4), .inr (.int x5), .inl 0, .inl 1, .inl 2, .inr (.int 0), .inr (.int 1)]) DX10_init_45 fq_X10_35 hC rfl rfl (Nat.le_of_ble_eq_true rfl) rfl (fun M hC => ?_)
    refine r_iload_n DX10_init_48 rfl ?_
    have tail : ∀ (v : Int32) (N : Nat), ¬ v < 0 → v.toNatClampNeg = N → N ≤ 9 → N = roomT x1 → G E X RX10 cX10_init 7 none true (rmA 1 3 20) (fun v M' => v = none ∧ ∃ as, CI M0 q 10 [.inr (.int x1), .inr (.int x2), .inr (w), .inr (.int x4), .inr (.int x5), .inl 0, .inl 1, .inl 2, .inr (.int 0), .inr (.int 1)] as [.inl (eI E, 2, .inl (fun _ => 0)), .inl (eI E, roomT x1, .inl (fun _ => 0)), .inl (eI E, roomT x1, .inl (fun _ => 0))] M') M [some (.ref q), some (.int x1), some (.int x2), some (w), some (.int x4), some (.int x5), none] (0 + 1) (0 + 2) 58 [.int v] := ?_
    · refine r_if_ne DX10_init_49 (fun c => ?_) (fun c => ?_)
      · refine r_iconst (v := 0) DX10_init_57 (by decide) ?_
        exact tail 0 0 (by decide) (by decide) (by decide) (if_neg c).symm
      · refine r_bipush (v := 9) DX10_init_52 (by decide) ?_
        refine r_goto DX10_init_54 ?_
        exact tail 9 9 (by decide) (by decide) (by decide) (if_pos c).symm
    intro v N hv1 hv2 hv3 hv4
    refine t_istore (L' := [some (.ref q), some (.int x1), some (.int x2), some (w), some (.int x4), some (.int x5), some (.int v)]) DX10_init_58 (by decide) rfl ?_
    refine r_aload_n DX10_init_60 rfl ?_
    refine r_iload DX10_init_61 rfl ?_
    refine r_newaI (N := N) DX10_init_63 hv1 hv2 (by omega) ⟨by decide, by show 0 + 2 + N ≤ 20; omega⟩ (fun p63 hp63 _ => ?_)
    refine c_rowF (st := []) (e := .inl (eI E, N, .inl (fun _ => 0))) (m := 1) (cs' := [.inl (eI E, 2, .inl (fun _ => 0)), .inl (eI E, N, .inl (fun _ => 0))]) DX10_init_65 fq_X10_38 hC hp63 rfl rfl rfl rfl rfl (fun M hC => ?_)
    refine r_aload_n DX10_init_68 rfl ?_
    refine r_iload DX10_init_69 rfl ?_
    refine r_newaI (N := N) DX10_init_71 hv1 hv2 (by omega) ⟨by decide, by show 0 + 2 + N + N ≤ 20; omega⟩ (fun p71 hp71 _ => ?_)
    refine c_rowF (st := []) (e := .inl (eI E, N, .inl (fun _ => 0))) (m := 2) (cs' := [.inl (eI E, 2, .inl (fun _ => 0)), .inl (eI E, N, .inl (fun _ => 0)), .inl (eI E, N, .inl (fun _ => 0))]) DX10_init_73 fq_X10_41 hC hp71 rfl rfl rfl rfl rfl (fun M hC => ?_)
    rw [hv4] at hC
    exact r_vret DX10_init_76 rfl ⟨by decide, by show 0 + 2 + N + N ≤ 20; omega⟩ ⟨rfl, _, hC⟩)
theorem C_X7_init {E : EN} {M0 : MH} {q : Nat} {x1 : Int32} {x2 : Int32} {x3 : Int32} {r : Nat} {g : List Value} {b1 b2 b3 b4 b5 : Nat} {f1 f2 f3 f4 f5 : Nat → Int32} {y1 y2 y3 y4 y5 y6 : Value} {kx ky : Int32} (l : Launch) (hM : M0 q = some (.inr (7, [.int 0, .int 0, .int 0, .int 0, .null, .null, .null, .null, .null]))) (hr : M0 r = some (.inr (9, [.ref b1, .ref b2, .ref b3, .ref b4, .ref b5, .int kx, .int ky, y1, y2, y3, y4]))) (h1 : M0 b1 = some (iarr E 12 f1)) (h2 : M0 b2 = some (iarr E 12 f2)) (h3 : M0 b3 = some (iarr E 12 f3)) (h4 : M0 b4 = some (iarr E 12 f4)) (h5 : M0 b5 = some (iarr E 160 f5)) (hx : ¬ kx < 0 ∧ kx.toNatClampNeg ≤ 12) (hy : ¬ ky < 0 ∧ ky.toNatClampNeg ≤ 160) : Ct E l yX7_init cX7_init 5 none (rmA 3 5 1000) [.ref q, .int x1, .int x2, .int x3, .ref r] M0 (fun v M' => v = none ∧ ∃ as, CI M0 q 7 [.inr (.int x1), .inr (.int x2), .inr (.int x3), .inr (.int kx), .inl 0, .inl 1, .inl 2, .inl 3, .inl 4] as [.inl (eI E, (kx).toNatClampNeg, .inl (cpR f1 12 (kx).toNatClampNeg)), .inl (eI E, (kx).toNatClampNeg, .inl (cpR f2 12 (kx).toNatClampNeg)), .inl (eI E, (kx).toNatClampNeg, .inl (cpR f3 12 (kx).toNatClampNeg)), .inl (eI E, (kx).toNatClampNeg, .inl (cpR f4 12 (kx).toNatClampNeg)), .inl (eI E, (ky).toNatClampNeg, .inl (cpR f5 160 (ky).toNatClampNeg))] M') :=
  Ct.of (own := RX7) (ini := true) (L := [some (.ref q), some (.int x1), some (.int x2), some (.int x3), some (.ref r)]) rfl rfl (fun _ => rfl) rfl (Nat.le_of_ble_eq_true rfl) rfl (fun X _ => by
    have hrq : r ≠ q := fun e => by rw [e, hM] at hr; cases hr
    have hbq1 : b1 ≠ q := fun e => by rw [e, hM] at h1; cases h1
    have hbq2 : b2 ≠ q := fun e => by rw [e, hM] at h2; cases h2
    have hbq3 : b3 ≠ q := fun e => by rw [e, hM] at h3; cases h3
    have hbq4 : b4 ≠ q := fun e => by rw [e, hM] at h4; cases h4
    have hbq5 : b5 ≠ q := fun e => by rw [e, hM] at h5; cases h5
    refine r_aload_n DX7_init_0 rfl ?_
    refine r_obji (st := []) DX7_init_1 wd_979 (by decide) (by decide) ?_
    have hC : CI M0 q 7 [.inr (.int 0), .inr (.int 0), .inr (.int 0), .inr (.int 0), .inl 0, .inl 1, .inl 2, .inl 3, .inl 4] [] [] M0 := CI.start hM rfl
    refine r_aload_n DX7_init_4 rfl ?_
    refine r_iload_n DX7_init_5 rfl ?_
    refine c_putF (st := []) (sp' := [.inr (.int x1), .inr (.int 0), .inr (.int 0), .inr (.int 0), .inl 0, .inl 1, .inl 2, .inl 3, .inl 4]) DX7_init_6 fq_X7_7 hC rfl rfl (Nat.le_of_ble_eq_true rfl) rfl (fun M hC => ?_)
    refine r_aload_n DX7_init_9 rfl ?_
    refine r_iload_n DX7_init_10 rfl ?_
    refine c_putF (st := []) (sp' := [.inr (.int x1), .inr (.int x2), .inr (.int 0), .inr (.int 0), .inl 0, .inl 1, .inl 2, .inl 3, .inl 4]) DX7_init_11 fq_X7_13 hC rfl rfl (Nat.le_of_ble_eq_true rfl) rfl (fun M hC => ?_)
    refine r_aload_n DX7_init_14 rfl ?_
    refine r_iload_n DX7_init_15 rfl ?_
    refine c_putF (st := []) (sp' := [.inr (.int x1), .inr (.int x2), .inr (.int x3), .inr (.int 0), .inl 0, .inl 1, .inl 2, .inl 3, .inl 4]) DX7_init_16 fq_X7_16 hC rfl rfl (Nat.le_of_ble_eq_true rfl) rfl (fun M hC => ?_)
    refine r_aload_n DX7_init_19 rfl ?_
    refine r_aload DX7_init_20 rfl ?_
    refine r_get DX7_init_22 fl_X7_19 ((hC.old (by rw [hr]; exact Option.some_ne_none _) hrq).trans hr) rfl ?_
    refine c_putF (st := []) (sp' := [.inr (.int x1), .inr (.int x2), .inr (.int x3), .inr (.int kx), .inl 0, .inl 1, .inl 2, .inl 3, .inl 4]) DX7_init_25 fq_X7_24 hC rfl rfl (Nat.le_of_ble_eq_true rfl) rfl (fun M hC => ?_)
    refine r_aload_n DX7_init_28 rfl ?_
    refine r_aload DX7_init_29 rfl ?_
    refine r_get DX7_init_31 fl_X7_25 ((hC.old (by rw [hr]; exact Option.some_ne_none _) hrq).trans hr) rfl ?_
    refine r_aload_n DX7_init_34 rfl ?_
    refine r_get DX7_init_35 fl_X7_24 hC.1 rfl ?_
    refine r_callS (As := [.ref b1, .int kx]) (rest := [.ref q]) DX7_init_38 cs_X7_29 (C_cpI (cxL X) ((hC.old (by rw [h1]; exact Option.some_ne_none _) hbq1).trans h1) hx.1 rfl hx.2 (by decide)) rfl (fitA (by decide) (by decide) (by decide) (by decide)) rfl (Nat.le_of_ble_eq_true rfl) ?_
    rintro v M' ⟨p38, rfl, hp38, rfl⟩
    refine c_rowF (st := []) (e := .inl (eI E, (kx).toNatClampNeg, .inl (cpR f1 12 (kx).toNatClampNeg))) (m := 0) (cs' := [.inl (eI E, (kx).toNatClampNeg, .inl (cpR f1 12 (kx).toNatClampNeg))]) DX7_init_41 fq_X7_35 hC hp38 rfl rfl rfl rfl rfl (fun M hC => ?_)
    refine r_aload_n DX7_init_44 rfl ?_
    refine r_aload DX7_init_45 rfl ?_
    refine r_get DX7_init_47 fl_X7_36 ((hC.old (by rw [hr]; exact Option.some_ne_none _) hrq).trans hr) rfl ?_
    refine r_aload_n DX7_init_50 rfl ?_
    refine r_get DX7_init_51 fl_X7_24 hC.1 rfl ?_
    refine r_callS (As := [.ref b2, .int kx]) (rest := [.ref q]) DX7_init_54 cs_X7_29 (C_cpI (cxL X) ((hC.old (by rw [h2]; exact Option.some_ne_none _) hbq2).trans h2) hx.1 rfl hx.2 (by decide)) rfl (fitA (by decide) (by decide) (by decide) (by decide)) rfl (Nat.le_of_ble_eq_true rfl) ?_
    rintro v M' ⟨p54, rfl, hp54, rfl⟩
    refine c_rowF (st := []) (e := .inl (eI E, (kx).toNatClampNeg, .inl (cpR f2 12 (kx).toNatClampNeg))) (m := 1) (cs' := [.inl (eI E, (kx).toNatClampNeg, .inl (cpR f1 12 (kx).toNatClampNeg)), .inl (eI E, (kx).toNatClampNeg, .inl (cpR f2 12 (kx).toNatClampNeg))]) DX7_init_57 fq_X7_39 hC hp54 rfl rfl rfl rfl rfl (fun M hC => ?_)
    refine r_aload_n DX7_init_60 rfl ?_
    refine r_aload DX7_init_61 rfl ?_
    refine r_get DX7_init_63 fl_X7_40 ((hC.old (by rw [hr]; exact Option.some_ne_none _) hrq).trans hr) rfl ?_
    refine r_aload_n DX7_init_66 rfl ?_
    refine r_get DX7_init_67 fl_X7_24 hC.1 rfl ?_
    refine r_callS (As := [.ref b3, .int kx]) (rest := [.ref q]) DX7_init_70 cs_X7_29 (C_cpI (cxL X) ((hC.old (by rw [h3]; exact Option.some_ne_none _) hbq3).trans h3) hx.1 rfl hx.2 (by decide)) rfl (fitA (by decide) (by decide) (by decide) (by decide)) rfl (Nat.le_of_ble_eq_true rfl) ?_
    rintro v M' ⟨p70, rfl, hp70, rfl⟩
    refine c_rowF (st := []) (e := .inl (eI E, (kx).toNatClampNeg, .inl (cpR f3 12 (kx).toNatClampNeg))) (m := 2) (cs' := [.inl (eI E, (kx).toNatClampNeg, .inl (cpR f1 12 (kx).toNatClampNeg)), .inl (eI E, (kx).toNatClampNeg, .inl (cpR f2 12 (kx).toNatClampNeg)), .inl (eI E, (kx).toNatClampNeg, .inl (cpR f3 12 (kx).toNatClampNeg))]) DX7_init_73 fq_X7_43 hC hp70 rfl rfl rfl rfl rfl (fun M hC => ?_)
    refine r_aload_n DX7_init_76 rfl ?_
    refine r_aload DX7_init_77 rfl ?_
    refine r_get DX7_init_79 fl_X7_44 ((hC.old (by rw [hr]; exact Option.some_ne_none _) hrq).trans hr) rfl ?_
    refine r_aload_n DX7_init_82 rfl ?_
    refine r_get DX7_init_83 fl_X7_24 hC.1 rfl ?_
    refine r_callS (As := [.ref b4, .int kx]) (rest := [.ref q]) DX7_init_86 cs_X7_29 (C_cpI (cxL X) ((hC.old (by rw [h4]; exact Option.some_ne_none _) hbq4).trans h4) hx.1 rfl hx.2 (by decide)) rfl (fitA (by decide) (by decide) (by decide) (by decide)) rfl (Nat.le_of_ble_eq_true rfl) ?_
    rintro v M' ⟨p86, rfl, hp86, rfl⟩
    refine c_rowF (st := []) (e := .inl (eI E, (kx).toNatClampNeg, .inl (cpR f4 12 (kx).toNatClampNeg))) (m := 3) (cs' := [.inl (eI E, (kx).toNatClampNeg, .inl (cpR f1 12 (kx).toNatClampNeg)), .inl (eI E, (kx).toNatClampNeg, .inl (cpR f2 12 (kx).toNatClampNeg)), .inl (eI E, (kx).toNatClampNeg, .inl (cpR f3 12 (kx).toNatClampNeg)), .inl (eI E, (kx).toNatClampNeg, .inl (cpR f4 12 (kx).toNatClampNeg))]) DX7_init_89 fq_X7_47 hC hp86 rfl rfl rfl rfl rfl (fun M hC => ?_)
    refine r_aload_n DX7_init_92 rfl ?_
    refine r_aload DX7_init_93 rfl ?_
    refine r_get DX7_init_95 fl_X7_48 ((hC.old (by rw [hr]; exact Option.some_ne_none _) hrq).trans hr) rfl ?_
    refine r_aload DX7_init_98 rfl ?_
    refine r_get DX7_init_100 fl_X7_51 ((hC.old (by rw [hr]; exact Option.some_ne_none _) hrq).trans hr) rfl ?_
    refine r_callS (As := [.ref b5, .int ky]) (rest := [.ref q]) DX7_init_103 cs_X7_29 (C_cpI (cxL X) ((hC.old (by rw [h5]; exact Option.some_ne_none _) hbq5).trans h5) hy.1 rfl hy.2 (by decide)) rfl (fitA (by decide) (by decide) (by decide) (by decide)) rfl (Nat.le_of_ble_eq_true rfl) ?_
    rintro v M' ⟨p103, rfl, hp103, rfl⟩
    refine c_rowF (st := []) (e := .inl (eI E, (ky).toNatClampNeg, .inl (cpR f5 160 (ky).toNatClampNeg))) (m := 4) (cs' := [.inl (eI E, (kx).toNatClampNeg, .inl (cpR f1 12 (kx).toNatClampNeg)), .inl (eI E, (kx).toNatClampNeg, .inl (cpR f2 12 (kx).toNatClampNeg)), .inl (eI E, (kx).toNatClampNeg, .inl (cpR f3 12 (kx).toNatClampNeg)), .inl (eI E, (kx).toNatClampNeg, .inl (cpR f4 12 (kx).toNatClampNeg)), .inl (eI E, (ky).toNatClampNeg, .inl (cpR f5 160 (ky).toNatClampNeg))]) DX7_init_106 fq_X7_54 hC hp103 rfl rfl rfl rfl rfl (fun M hC => ?_)
    exact r_vret DX7_init_109 rfl ⟨by decide, by decide⟩ ⟨rfl, _, hC⟩)
theorem C_X9_init {E : EN} {M0 : MH} {q : Nat} (l : Launch) (hM : M0 q = some (.inr (9, [.null, .null, .null, .null, .null, .int 0, .int 0, .null, .int 0, .int 0, .int 0]))) : Ct E l yX9_init cX9_init 1 none (rmA 1 6 208) [.ref q] M0 (fun v M' => v = none ∧ ∃ as, CI M0 q 9 [.inl 0, .inl 1, .inl 2, .inl 3, .inl 4, .inr (.int 0), .inr (.int 0), .inl 5, .inr (.int 0), .inr (.int 0), .inr (.int 0)] as [.inl (eI E, 12, .inl (fun _ => 0)), .inl (eI E, 12, .inl (fun _ => 0)), .inl (eI E, 12, .inl (fun _ => 0)), .inl (eI E, 12, .inl (fun _ => 0)), .inl (eI E, 160, .inl (fun _ => 0)), .inl (eB3 E, 0, .inl (fun _ => 0))] M') :=
  Ct.of (own := RX9) (ini := true) (L := [some (.ref q)]) rfl rfl (fun _ => rfl) rfl (Nat.le_of_ble_eq_true rfl) rfl (fun X _ => by
    refine r_aload_n DX9_init_0 rfl ?_
    refine r_obji (st := []) DX9_init_1 wd_165 (by decide) (by decide) ?_
    have hC : CI M0 q 9 [.inl 0, .inl 1, .inl 2, .inl 3, .inl 4, .inr (.int 0), .inr (.int 0), .inl 5, .inr (.int 0), .inr (.int 0), .inr (.int 0)] [] [] M0 := CI.start hM rfl
    refine r_aload_n DX9_init_4 rfl ?_
    refine r_bipush (v := 12) DX9_init_5 (by decide) ?_
    refine r_newaI (N := 12) DX9_init_7 (by decide) (by decide) (by decide) ⟨by decide, by decide⟩ (fun p7 hp7 _ => ?_)
    refine c_rowF (st := []) (e := .inl (eI E, 12, .inl (fun _ => 0))) (m := 0) (cs' := [.inl (eI E, 12, .inl (fun _ => 0))]) DX9_init_9 fq_X9_11 hC hp7 rfl rfl rfl rfl rfl (fun M hC => ?_)
    refine r_aload_n DX9_init_12 rfl ?_
    refine r_bipush (v := 12) DX9_init_13 (by decide) ?_
    refine r_newaI (N := 12) DX9_init_15 (by decide) (by decide) (by decide) ⟨by decide, by decide⟩ (fun p15 hp15 _ => ?_)
    refine c_rowF (st := []) (e := .inl (eI E, 12, .inl (fun _ => 0))) (m := 1) (cs' := [.inl (eI E, 12, .inl (fun _ => 0)), .inl (eI E, 12, .inl (fun _ => 0))]) DX9_init_17 fq_X9_15 hC hp15 rfl rfl rfl rfl rfl (fun M hC => ?_)
    refine r_aload_n DX9_init_20 rfl ?_
    refine r_bipush (v := 12) DX9_init_21 (by decide) ?_
    refine r_newaI (N := 12) DX9_init_23 (by decide) (by decide) (by decide) ⟨by decide, by decide⟩ (fun p23 hp23 _ => ?_)
    refine c_rowF (st := []) (e := .inl (eI E, 12, .inl (fun _ => 0))) (m := 2) (cs' := [.inl (eI E, 12, .inl (fun _ => 0)), .inl (eI E, 12, .inl (fun _ => 0)), .inl (eI E, 12, .inl (fun _ => 0))]) DX9_init_25 fq_X9_18 hC hp23 rfl rfl rfl rfl rfl (fun M hC => ?_)
    refine r_aload_n DX9_init_28 rfl ?_
    refine r_bipush (v := 12) DX9_init_29 (by decide) ?_
    refine r_newaI (N := 12) DX9_init_31 (by decide) (by decide) (by decide) ⟨by decide, by decide⟩ (fun p31 hp31 _ => ?_)
    refine c_rowF (st := []) (e := .inl (eI E, 12, .inl (fun _ => 0))) (m := 3) (cs' := [.inl (eI E, 12, .inl (fun _ => 0)), .inl (eI E, 12, .inl (fun _ => 0)), .inl (eI E, 12, .inl (fun _ => 0)), .inl (eI E, 12, .inl (fun _ => 0))]) DX9_init_33 fq_X9_21 hC hp31 rfl rfl rfl rfl rfl (fun M hC => ?_)
    refine r_aload_n DX9_init_36 rfl ?_
    refine r_sipush (v := 160) DX9_init_37 (by decide) ?_
    refine r_newaI (N := 160) DX9_init_40 (by decide) (by decide) (by decide) ⟨by decide, by decide⟩ (fun p40 hp40 _ => ?_)
    refine c_rowF (st := []) (e := .inl (eI E, 160, .inl (fun _ => 0))) (m := 4) (cs' := [.inl (eI E, 12, .inl (fun _ => 0)), .inl (eI E, 12, .inl (fun _ => 0)), .inl (eI E, 12, .inl (fun _ => 0)), .inl (eI E, 12, .inl (fun _ => 0)), .inl (eI E, 160, .inl (fun _ => 0))]) DX9_init_42 fq_X9_24 hC hp40 rfl rfl rfl rfl rfl (fun M hC => ?_)
    refine r_aload_n DX9_init_45 rfl ?_
    refine r_iconst (v := 0) DX9_init_46 (by decide) ?_
    refine c_put (st := []) (sp' := [.inl 0, .inl 1, .inl 2, .inl 3, .inl 4, .inr (.int 0), .inr (.int 0), .inl 5, .inr (.int 0), .inr (.int 0), .inr (.int 0)]) DX9_init_47 fp_X9_27 hC rfl rfl (Nat.le_of_ble_eq_true rfl) rfl (fun M hC => ?_)
    refine r_aload_n DX9_init_50 rfl ?_
    refine r_iconst (v := 0) DX9_init_51 (by decide) ?_
    refine c_put (st := []) (sp' := [.inl 0, .inl 1, .inl 2, .inl 3, .inl 4, .inr (.int 0), .inr (.int 0), .inl 5, .inr (.int 0), .inr (.int 0), .inr (.int 0)]) DX9_init_52 fp_X9_31 hC rfl rfl (Nat.le_of_ble_eq_true rfl) rfl (fun M hC => ?_)
    refine r_aload_n DX9_init_55 rfl ?_
    refine r_iconst (v := 0) DX9_init_56 (by decide) ?_
    refine r_newaB (N := 0) DX9_init_57 (by decide) (by decide) (by decide) ⟨by decide, by decide⟩ (fun p57 hp57 _ => ?_)
    refine c_row (st := []) (e := .inl (eB3 E, 0, .inl (fun _ => 0))) (m := 5) (cs' := [.inl (eI E, 12, .inl (fun _ => 0)), .inl (eI E, 12, .inl (fun _ => 0)), .inl (eI E, 12, .inl (fun _ => 0)), .inl (eI E, 12, .inl (fun _ => 0)), .inl (eI E, 160, .inl (fun _ => 0)), .inl (eB3 E, 0, .inl (fun _ => 0))]) DX9_init_59 fp_X9_34 hC hp57 rfl rfl rfl rfl rfl (fun M hC => ?_)
    refine r_aload_n DX9_init_62 rfl ?_
    refine r_iconst (v := 0) DX9_init_63 (by decide) ?_
    refine c_put (st := []) (sp' := [.inl 0, .inl 1, .inl 2, .inl 3, .inl 4, .inr (.int 0), .inr (.int 0), .inl 5, .inr (.int 0), .inr (.int 0), .inr (.int 0)]) DX9_init_64 fp_X9_38 hC rfl rfl (Nat.le_of_ble_eq_true rfl) rfl (fun M hC => ?_)
    refine r_aload_n DX9_init_67 rfl ?_
    refine r_iconst (v := 0) DX9_init_68 (by decide) ?_
    refine c_put (st := []) (sp' := [.inl 0, .inl 1, .inl 2, .inl 3, .inl 4, .inr (.int 0), .inr (.int 0), .inl 5, .inr (.int 0), .inr (.int 0), .inr (.int 0)]) DX9_init_69 fp_X9_41 hC rfl rfl (Nat.le_of_ble_eq_true rfl) rfl (fun M hC => ?_)
    refine r_aload_n DX9_init_72 rfl ?_
    refine r_iconst (v := 0) DX9_init_73 (by decide) ?_
    refine c_put (st := []) (sp' := [.inl 0, .inl 1, .inl 2, .inl 3, .inl 4, .inr (.int 0), .inr (.int 0), .inl 5, .inr (.int 0), .inr (.int 0), .inr (.int 0)]) DX9_init_74 fp_X9_44 hC rfl rfl (Nat.le_of_ble_eq_true rfl) rfl (fun M hC => ?_)
    exact r_vret DX9_init_77 rfl ⟨by decide, by decide⟩ ⟨rfl, _, hC⟩)
theorem C_X5_init {E : EN} {M0 : MH} {q : Nat} (l : Launch) (hM : M0 q = some (.inr (5, [.null, .null, .null, .null, .int 0, .null, .int 0, .int 0]))) : Ct E l yX5_init cX5_init 1 none (rmA 1 4 1545) [.ref q] M0 (fun v M' => v = none ∧ ∃ as, CI M0 q 5 [.inl 0, .inl 1, .inl 2, .inl 3, .inr (.int 0), .inr (.null), .inr (.int 0), .inr (.int 0)] as [.inl (eI E, 512, .inl (fun _ => 0)), .inl (eI E, 512, .inl (fun _ => 0)), .inl (eI E, 512, .inl (fun _ => 0)), .inl (eI E, 9, .inl (fun _ => 0))] M') :=
  Ct.of (own := RX5) (ini := true) (L := [some (.ref q)]) rfl rfl (fun _ => rfl) rfl (Nat.le_of_ble_eq_true rfl) rfl (fun X _ => by
    refine r_aload_n DX5_init_0 rfl ?_
    refine r_obji (st := []) DX5_init_1 wd_248 (by decide) (by decide) ?_
    have hC : CI M0 q 5 [.inl 0, .inl 1, .inl 2, .inl 3, .inr (.int 0), .inr (.null), .inr (.int 0), .inr (.int 0)] [] [] M0 := CI.start hM rfl
    refine r_aload_n DX5_init_4 rfl ?_
    refine r_sipush (v := 512) DX5_init_5 (by decide) ?_
    refine r_newaI (N := 512) DX5_init_8 (by decide) (by decide) (by decide) ⟨by decide, by decide⟩ (fun p8 hp8 _ => ?_)
    refine c_rowF (st := []) (e := .inl (eI E, 512, .inl (fun _ => 0))) (m := 0) (cs' := [.inl (eI E, 512, .inl (fun _ => 0))]) DX5_init_10 fq_X5_11 hC hp8 rfl rfl rfl rfl rfl (fun M hC => ?_)
    refine r_aload_n DX5_init_13 rfl ?_
    refine r_sipush (v := 512) DX5_init_14 (by decide) ?_
    refine r_newaI (N := 512) DX5_init_17 (by decide) (by decide) (by decide) ⟨by decide, by decide⟩ (fun p17 hp17 _ => ?_)
    refine c_rowF (st := []) (e := .inl (eI E, 512, .inl (fun _ => 0))) (m := 1) (cs' := [.inl (eI E, 512, .inl (fun _ => 0)), .inl (eI E, 512, .inl (fun _ => 0))]) DX5_init_19 fq_X5_15 hC hp17 rfl rfl rfl rfl rfl (fun M hC => ?_)
    refine r_aload_n DX5_init_22 rfl ?_
    refine r_sipush (v := 512) DX5_init_23 (by decide) ?_
    refine r_newaI (N := 512) DX5_init_26 (by decide) (by decide) (by decide) ⟨by decide, by decide⟩ (fun p26 hp26 _ => ?_)
    refine c_rowF (st := []) (e := .inl (eI E, 512, .inl (fun _ => 0))) (m := 2) (cs' := [.inl (eI E, 512, .inl (fun _ => 0)), .inl (eI E, 512, .inl (fun _ => 0)), .inl (eI E, 512, .inl (fun _ => 0))]) DX5_init_28 fq_X5_18 hC hp26 rfl rfl rfl rfl rfl (fun M hC => ?_)
    refine r_aload_n DX5_init_31 rfl ?_
    refine r_bipush (v := 9) DX5_init_32 (by decide) ?_
    refine r_newaI (N := 9) DX5_init_34 (by decide) (by decide) (by decide) ⟨by decide, by decide⟩ (fun p34 hp34 _ => ?_)
    refine c_rowF (st := []) (e := .inl (eI E, 9, .inl (fun _ => 0))) (m := 3) (cs' := [.inl (eI E, 512, .inl (fun _ => 0)), .inl (eI E, 512, .inl (fun _ => 0)), .inl (eI E, 512, .inl (fun _ => 0)), .inl (eI E, 9, .inl (fun _ => 0))]) DX5_init_36 fq_X5_21 hC hp34 rfl rfl rfl rfl rfl (fun M hC => ?_)
    refine r_aload_n DX5_init_39 rfl ?_
    refine r_iconst (v := 0) DX5_init_40 (by decide) ?_
    refine c_put (st := []) (sp' := [.inl 0, .inl 1, .inl 2, .inl 3, .inr (.int 0), .inr (.null), .inr (.int 0), .inr (.int 0)]) DX5_init_41 fp_X5_24 hC rfl rfl (Nat.le_of_ble_eq_true rfl) rfl (fun M hC => ?_)
    refine r_aload_n DX5_init_44 rfl ?_
    refine r_null DX5_init_45 ?_
    refine c_put (st := []) (sp' := [.inl 0, .inl 1, .inl 2, .inl 3, .inr (.int 0), .inr (.null), .inr (.int 0), .inr (.int 0)]) DX5_init_46 fp_X5_28 hC rfl rfl (Nat.le_of_ble_eq_true rfl) rfl (fun M hC => ?_)
    refine r_aload_n DX5_init_49 rfl ?_
    refine r_iconst (v := 0) DX5_init_50 (by decide) ?_
    refine c_put (st := []) (sp' := [.inl 0, .inl 1, .inl 2, .inl 3, .inr (.int 0), .inr (.null), .inr (.int 0), .inr (.int 0)]) DX5_init_51 fp_X5_32 hC rfl rfl (Nat.le_of_ble_eq_true rfl) rfl (fun M hC => ?_)
    refine r_aload_n DX5_init_54 rfl ?_
    refine r_iconst (v := 0) DX5_init_55 (by decide) ?_
    refine c_put (st := []) (sp' := [.inl 0, .inl 1, .inl 2, .inl 3, .inr (.int 0), .inr (.null), .inr (.int 0), .inr (.int 0)]) DX5_init_56 fp_X5_35 hC rfl rfl (Nat.le_of_ble_eq_true rfl) rfl (fun M hC => ?_)
    exact r_vret DX5_init_59 rfl ⟨by decide, by decide⟩ ⟨rfl, _, hC⟩)
