def F_X12_here_28 (fu : Nat) (V : St) (s0 : Int32) : RR :=
  some (s0, V)
theorem S_X12_here_28 {E : EN} {X : CX} {P : Option Value → MH → Prop} {ad : AD} {fu : Nat} {out : Int32 × St} (hp : ∀ M, Rep E ad out.2 M → P (some (.int out.1)) M) {V : St} {M : MH} {s0 : Int32} {d0 : Option Value} (hR : Rep E ad V M) (h : F_X12_here_28 fu V s0 = some out) : G E X RX12 cX12_here 1 (some .int) false (rmD 1) P M [d0] 0 0 28 [.int (s0)] := by
  unfold F_X12_here_28 at h
  cases h
  exact r_iret DX12_here_28 rfl ⟨Nat.le_refl 0, Nat.le_refl 0⟩ (hp M hR)
def f_X12_here (fu : Nat) (V : St) : RR :=
  if (V 2244 0 0) ≤ (V 2243 0 0) then
    (F_X12_here_28 fu V ((-1 : Int32)))
    else
    (gd (¬ ((V 2243 0 0) < 0 ∨ 400 ≤ ((V 2243 0 0)).toNatClampNeg)) <| F_X12_here_28 fu V ((V 2241 (0) ((V 2243 0 0)).toNatClampNeg) &&& (255 : Int32)))
theorem S_X12_here_0 {E : EN} {X : CX} {P : Option Value → MH → Prop} {ad : AD} {fu : Nat} {out : Int32 × St} (hp : ∀ M, Rep E ad out.2 M → P (some (.int out.1)) M) {V : St} {M : MH} (hR : Rep E ad V M) (h : f_X12_here fu V = some out) : G E X RX12 cX12_here 1 (some .int) false (rmD 1) P M [some (.ref (ad 2200 0))] 0 0 0 [] := by
  unfold f_X12_here at h
  refine r_aload_n DX12_here_0 rfl ?_
  refine s_geti DX12_here_1 fl_X12_302 hR ct_2200 (one_cnt _) rfl ?_
  refine r_aload_n DX12_here_4 rfl ?_
  refine s_geti DX12_here_5 fl_X12_305 hR ct_2200 (one_cnt _) rfl ?_
  refine r_icmp_ge DX12_here_8 (fun c1 => ?_) (fun c1 => ?_)
  · have h := if_t c1 h
    refine r_iconst (v := -1) DX12_here_27 ki_m1 ?_
    exact S_X12_here_28 hp hR h
  · have h := if_f c1 h
    refine r_aload_n DX12_here_11 rfl ?_
    refine s_geta DX12_here_12 fl_X12_116 hR ct_2200 (one_cnt _) rfl ?_
    refine r_aload_n DX12_here_15 rfl ?_
    refine s_geti DX12_here_16 fl_X12_302 hR ct_2200 (one_cnt _) rfl ?_
    obtain ⟨hg2, h⟩ := gd_inv h
    refine s_bald DX12_here_19 hR ct_2241 (one_cnt _) hg2 ?_
    refine r_sipush (v := 255) DX12_here_20 ks_255 ?_
    refine r_iand DX12_here_23 ?_
    refine r_goto DX12_here_24 ?_
    exact S_X12_here_28 hp hR h
theorem C_X12_here {E : EN} {ad : AD} {fu : Nat} {out : Int32 × St} {V : St} {M : MH} (l : Launch) (hR : Rep E ad V M) (h : f_X12_here fu V = some out) : Ct E l yX12_here cX12_here 1 (some .int) (rmD 1) [.ref (ad 2200 0)] M (fun v M => v = (some (.int out.1)) ∧ Rep E ad out.2 M) :=
  Ct.of (own := RX12) (ini := false) (L := [some (.ref (ad 2200 0))]) rfl rfl (fun h => by cases h) rfl (Nat.le_of_ble_eq_true rfl) rfl (fun X _ => S_X12_here_0 (fun M hR => ⟨rfl, hR⟩) hR h)
def F_X12_isCloth_17 (fu : Nat) (V : St) (s0 : Int32) : RR :=
  gd (s0 = 0 ∨ s0 = 1) <| some (s0, V)
theorem S_X12_isCloth_17 {E : EN} {X : CX} {P : Option Value → MH → Prop} {ad : AD} {fu : Nat} {out : Int32 × St} (hp : ∀ M, Rep E ad out.2 M → P (some (.int out.1)) M) {V : St} {M : MH} {s0 : Int32} {d0 : Option Value} {d1 : Option Value} (hR : Rep E ad V M) (h : F_X12_isCloth_17 fu V s0 = some out) : G E X RX12 cX12_isCloth 2 (some .boolean) false (rmD 1) P M [d0, d1] 0 0 17 [.int (s0)] := by
  unfold F_X12_isCloth_17 at h
  obtain ⟨hz1, h⟩ := gd_inv h
  cases h
  exact r_zret DX12_isCloth_17 rfl (nz_nar hz1) ⟨Nat.le_refl 0, Nat.le_refl 0⟩ (hp M hR)
def F_X12_isCloth_16 (fu : Nat) (V : St) : RR :=
  F_X12_isCloth_17 fu V ((0 : Int32))
theorem S_X12_isCloth_16 {E : EN} {X : CX} {P : Option Value → MH → Prop} {ad : AD} {fu : Nat} {out : Int32 × St} (hp : ∀ M, Rep E ad out.2 M → P (some (.int out.1)) M) {V : St} {M : MH} {d0 : Option Value} {d1 : Option Value} (hR : Rep E ad V M) (h : F_X12_isCloth_16 fu V = some out) : G E X RX12 cX12_isCloth 2 (some .boolean) false (rmD 1) P M [d0, d1] 0 0 16 [] := by
  unfold F_X12_isCloth_16 at h
  refine r_iconst (v := 0) DX12_isCloth_16 ki_0 ?_
  exact S_X12_isCloth_17 hp hR h
def f_X12_isCloth (fu : Nat) (V : St) (x1 : Int32) : RR :=
  if x1 < 0 then
    (F_X12_isCloth_16 fu V)
    else
    (if (V 2202 0 0) ≤ x1 then
      (F_X12_isCloth_16 fu V)
      else
      (F_X12_isCloth_17 fu V ((1 : Int32))))
theorem S_X12_isCloth_0 {E : EN} {X : CX} {P : Option Value → MH → Prop} {ad : AD} {fu : Nat} {out : Int32 × St} (hp : ∀ M, Rep E ad out.2 M → P (some (.int out.1)) M) {V : St} {M : MH} {x1 : Int32} (hR : Rep E ad V M) (h : f_X12_isCloth fu V x1 = some out) : G E X RX12 cX12_isCloth 2 (some .boolean) false (rmD 1) P M [some (.ref (ad 2200 0)), some (.int (x1))] 0 0 0 [] := by
  unfold f_X12_isCloth at h
  refine r_iload_n DX12_isCloth_0 rfl ?_
  refine r_if_lt DX12_isCloth_1 (fun c1 => ?_) (fun c1 => ?_)
  · have h := if_t c1 h
    exact S_X12_isCloth_16 hp hR h
  · have h := if_f c1 h
    refine r_iload_n DX12_isCloth_4 rfl ?_
    refine r_aload_n DX12_isCloth_5 rfl ?_
    refine s_geti DX12_isCloth_6 fl_X12_236 hR ct_2200 (one_cnt _) rfl ?_
    refine r_icmp_ge DX12_isCloth_9 (fun c2 => ?_) (fun c2 => ?_)
    · have h := if_t c2 h
      exact S_X12_isCloth_16 hp hR h
    · have h := if_f c2 h
      refine r_iconst (v := 1) DX12_isCloth_12 ki_1 ?_
      refine r_goto DX12_isCloth_13 ?_
      exact S_X12_isCloth_17 hp hR h
theorem C_X12_isCloth {E : EN} {ad : AD} {fu : Nat} {out : Int32 × St} {V : St} {M : MH} {x1 : Int32} (l : Launch) (hR : Rep E ad V M) (h : f_X12_isCloth fu V x1 = some out) : Ct E l yX12_isCloth cX12_isCloth 2 (some .boolean) (rmD 1) [.ref (ad 2200 0), .int (x1)] M (fun v M => v = (some (.int out.1)) ∧ Rep E ad out.2 M) :=
  Ct.of (own := RX12) (ini := false) (L := [some (.ref (ad 2200 0)), some (.int (x1))]) rfl rfl (fun h => by cases h) rfl (Nat.le_of_ble_eq_true rfl) rfl (fun X _ => S_X12_isCloth_0 (fun M hR => ⟨rfl, hR⟩) hR h)
def F_X12_isDigit_23 (fu : Nat) (V : St) (s0 : Int32) : RR :=
  gd (s0 = 0 ∨ s0 = 1) <| some (s0, V)
theorem S_X12_isDigit_23 {E : EN} {X : CX} {P : Option Value → MH → Prop} {ad : AD} {fu : Nat} {out : Int32 × St} (hp : ∀ M, Rep E ad out.2 M → P (some (.int out.1)) M) {V : St} {M : MH} {s0 : Int32} {d0 : Option Value} (hR : Rep E ad V M) (h : F_X12_isDigit_23 fu V s0 = some out) : G E X RX12 cX12_isDigit 1 (some .boolean) false (rmD 2) P M [d0] 0 0 23 [.int (s0)] := by
  unfold F_X12_isDigit_23 at h
  obtain ⟨hz1, h⟩ := gd_inv h
  cases h
  exact r_zret DX12_isDigit_23 rfl (nz_nar hz1) ⟨Nat.le_refl 0, Nat.le_refl 0⟩ (hp M hR)
def F_X12_isDigit_22 (fu : Nat) (V : St) : RR :=
  F_X12_isDigit_23 fu V ((0 : Int32))
theorem S_X12_isDigit_22 {E : EN} {X : CX} {P : Option Value → MH → Prop} {ad : AD} {fu : Nat} {out : Int32 × St} (hp : ∀ M, Rep E ad out.2 M → P (some (.int out.1)) M) {V : St} {M : MH} {d0 : Option Value} (hR : Rep E ad V M) (h : F_X12_isDigit_22 fu V = some out) : G E X RX12 cX12_isDigit 1 (some .boolean) false (rmD 2) P M [d0] 0 0 22 [] := by
  unfold F_X12_isDigit_22 at h
  refine r_iconst (v := 0) DX12_isDigit_22 ki_0 ?_
  exact S_X12_isDigit_23 hp hR h
def f_X12_isDigit (fu : Nat) (V : St) : RR :=
  bd (f_X12_here fu V) fun r1 V2 => if r1 < (48 : Int32) then
    (F_X12_isDigit_22 fu V2)
    else
    (bd (f_X12_here fu V2) fun r5 V6 => if (57 : Int32) < r5 then
      (F_X12_isDigit_22 fu V6)
      else
      (F_X12_isDigit_23 fu V6 ((1 : Int32))))
theorem S_X12_isDigit_0 {E : EN} {X : CX} {P : Option Value → MH → Prop} {ad : AD} {fu : Nat} {out : Int32 × St} (hp : ∀ M, Rep E ad out.2 M → P (some (.int out.1)) M) {V : St} {M : MH} (hR : Rep E ad V M) (h : f_X12_isDigit fu V = some out) : G E X RX12 cX12_isDigit 1 (some .boolean) false (rmD 2) P M [some (.ref (ad 2200 0))] 0 0 0 [] := by
  unfold f_X12_isDigit at h
  refine r_aload_n DX12_isDigit_0 rfl ?_
  obtain ⟨r1, V2, hc3, h⟩ := bd_inv h
  refine k_callV (As := []) (rest := []) (st1 := [.int (r1)]) (w := some (.int r1)) DX12_isDigit_1 cv_X12_308 hR ct_2200 (one_cnt _) rfl (C_X12_here (cxL X) hR hc3) rfl (by decide) (by decide) rfl (Nat.le_of_ble_eq_true rfl) rfl (fun M hR => ?_)
  refine r_bipush (v := 48) DX12_isDigit_4 kb_48 ?_
  refine r_icmp_lt DX12_isDigit_6 (fun c4 => ?_) (fun c4 => ?_)
  · have h := if_t c4 h
    exact S_X12_isDigit_22 hp hR h
  · have h := if_f c4 h
    refine r_aload_n DX12_isDigit_9 rfl ?_
    obtain ⟨r5, V6, hc7, h⟩ := bd_inv h
    refine k_callV (As := []) (rest := []) (st1 := [.int (r5)]) (w := some (.int r5)) DX12_isDigit_10 cv_X12_308 hR ct_2200 (one_cnt _) rfl (C_X12_here (cxL X) hR hc7) rfl (by decide) (by decide) rfl (Nat.le_of_ble_eq_true rfl) rfl (fun M hR => ?_)
    refine r_bipush (v := 57) DX12_isDigit_13 kb_57 ?_
    refine r_icmp_gt DX12_isDigit_15 (fun c8 => ?_) (fun c8 => ?_)
    · have h := if_t c8 h
      exact S_X12_isDigit_22 hp hR h
    · have h := if_f c8 h
      refine r_iconst (v := 1) DX12_isDigit_18 ki_1 ?_
      refine r_goto DX12_isDigit_19 ?_
      exact S_X12_isDigit_23 hp hR h
theorem C_X12_isDigit {E : EN} {ad : AD} {fu : Nat} {out : Int32 × St} {V : St} {M : MH} (l : Launch) (hR : Rep E ad V M) (h : f_X12_isDigit fu V = some out) : Ct E l yX12_isDigit cX12_isDigit 1 (some .boolean) (rmD 2) [.ref (ad 2200 0)] M (fun v M => v = (some (.int out.1)) ∧ Rep E ad out.2 M) :=
  Ct.of (own := RX12) (ini := false) (L := [some (.ref (ad 2200 0))]) rfl rfl (fun h => by cases h) rfl (Nat.le_of_ble_eq_true rfl) rfl (fun X _ => S_X12_isDigit_0 (fun M hR => ⟨rfl, hR⟩) hR h)
def F_X12_isLetter_47 (fu : Nat) (V : St) (s0 : Int32) : RR :=
  gd (s0 = 0 ∨ s0 = 1) <| some (s0, V)
theorem S_X12_isLetter_47 {E : EN} {X : CX} {P : Option Value → MH → Prop} {ad : AD} {fu : Nat} {out : Int32 × St} (hp : ∀ M, Rep E ad out.2 M → P (some (.int out.1)) M) {V : St} {M : MH} {s0 : Int32} {d0 : Option Value} (hR : Rep E ad V M) (h : F_X12_isLetter_47 fu V s0 = some out) : G E X RX12 cX12_isLetter 1 (some .boolean) false (rmD 1) P M [d0] 0 0 47 [.int (s0)] := by
  unfold F_X12_isLetter_47 at h
  obtain ⟨hz1, h⟩ := gd_inv h
  cases h
  exact r_zret DX12_isLetter_47 rfl (nz_nar hz1) ⟨Nat.le_refl 0, Nat.le_refl 0⟩ (hp M hR)
def F_X12_isLetter_42 (fu : Nat) (V : St) : RR :=
  F_X12_isLetter_47 fu V ((1 : Int32))
theorem S_X12_isLetter_42 {E : EN} {X : CX} {P : Option Value → MH → Prop} {ad : AD} {fu : Nat} {out : Int32 × St} (hp : ∀ M, Rep E ad out.2 M → P (some (.int out.1)) M) {V : St} {M : MH} {d0 : Option Value} (hR : Rep E ad V M) (h : F_X12_isLetter_42 fu V = some out) : G E X RX12 cX12_isLetter 1 (some .boolean) false (rmD 1) P M [d0] 0 0 42 [] := by
  unfold F_X12_isLetter_42 at h
  refine r_iconst (v := 1) DX12_isLetter_42 ki_1 ?_
  refine r_goto DX12_isLetter_43 ?_
  exact S_X12_isLetter_47 hp hR h
def f_X12_isLetter (fu : Nat) (V : St) (x0 : Int32) : RR :=
  if x0 = (98 : Int32) then
    (F_X12_isLetter_42 fu V)
    else
    (if x0 = (109 : Int32) then
      (F_X12_isLetter_42 fu V)
      else
      (if x0 = (112 : Int32) then
        (F_X12_isLetter_42 fu V)
        else
        (if x0 = (99 : Int32) then
          (F_X12_isLetter_42 fu V)
          else
          (if x0 = (103 : Int32) then
            (F_X12_isLetter_42 fu V)
            else
            (if x0 = (100 : Int32) then
              (F_X12_isLetter_42 fu V)
              else
              (if x0 = (120 : Int32) then
                (F_X12_isLetter_42 fu V)
                else
                (F_X12_isLetter_47 fu V ((0 : Int32)))))))))
theorem S_X12_isLetter_0 {E : EN} {X : CX} {P : Option Value → MH → Prop} {ad : AD} {fu : Nat} {out : Int32 × St} (hp : ∀ M, Rep E ad out.2 M → P (some (.int out.1)) M) {V : St} {M : MH} {x0 : Int32} (hR : Rep E ad V M) (h : f_X12_isLetter fu V x0 = some out) : G E X RX12 cX12_isLetter 1 (some .boolean) false (rmD 1) P M [some (.int (x0))] 0 0 0 [] := by
  unfold f_X12_isLetter at h
  refine r_iload_n DX12_isLetter_0 rfl ?_
  refine r_bipush (v := 98) DX12_isLetter_1 kb_98 ?_
  refine r_icmp_eq DX12_isLetter_3 (fun c1 => ?_) (fun c1 => ?_)
  · have h := if_t c1 h
    exact S_X12_isLetter_42 hp hR h
  · have h := if_f c1 h
    refine r_iload_n DX12_isLetter_6 rfl ?_
    refine r_bipush (v := 109) DX12_isLetter_7 kb_109 ?_
    refine r_icmp_eq DX12_isLetter_9 (fun c2 => ?_) (fun c2 => ?_)
    · have h := if_t c2 h
      exact S_X12_isLetter_42 hp hR h
    · have h := if_f c2 h
      refine r_iload_n DX12_isLetter_12 rfl ?_
      refine r_bipush (v := 112) DX12_isLetter_13 kb_112 ?_
      refine r_icmp_eq DX12_isLetter_15 (fun c3 => ?_) (fun c3 => ?_)
      · have h := if_t c3 h
        exact S_X12_isLetter_42 hp hR h
      · have h := if_f c3 h
        refine r_iload_n DX12_isLetter_18 rfl ?_
        refine r_bipush (v := 99) DX12_isLetter_19 kb_99 ?_
        refine r_icmp_eq DX12_isLetter_21 (fun c4 => ?_) (fun c4 => ?_)
        · have h := if_t c4 h
          exact S_X12_isLetter_42 hp hR h
        · have h := if_f c4 h
          refine r_iload_n DX12_isLetter_24 rfl ?_
          refine r_bipush (v := 103) DX12_isLetter_25 kb_103 ?_
          refine r_icmp_eq DX12_isLetter_27 (fun c5 => ?_) (fun c5 => ?_)
          · have h := if_t c5 h
            exact S_X12_isLetter_42 hp hR h
          · have h := if_f c5 h
            refine r_iload_n DX12_isLetter_30 rfl ?_
            refine r_bipush (v := 100) DX12_isLetter_31 kb_100 ?_
            refine r_icmp_eq DX12_isLetter_33 (fun c6 => ?_) (fun c6 => ?_)
            · have h := if_t c6 h
              exact S_X12_isLetter_42 hp hR h
            · have h := if_f c6 h
              refine r_iload_n DX12_isLetter_36 rfl ?_
              refine r_bipush (v := 120) DX12_isLetter_37 kb_120 ?_
              refine r_icmp_ne DX12_isLetter_39 (fun c7 => ?_) (fun c7 => ?_)
              · have h := if_f c7 h
                refine r_iconst (v := 0) DX12_isLetter_46 ki_0 ?_
                exact S_X12_isLetter_47 hp hR h
              · have h := if_t c7 h
                exact S_X12_isLetter_42 hp hR h
theorem C_X12_isLetter {E : EN} {ad : AD} {fu : Nat} {out : Int32 × St} {V : St} {M : MH} {x0 : Int32} (l : Launch) (hR : Rep E ad V M) (h : f_X12_isLetter fu V x0 = some out) : Ct E l yX12_isLetter cX12_isLetter 1 (some .boolean) (rmD 1) [.int (x0)] M (fun v M => v = (some (.int out.1)) ∧ Rep E ad out.2 M) :=
  Ct.of (own := RX12) (ini := false) (L := [some (.int (x0))]) rfl rfl (fun h => by cases h) rfl (Nat.le_of_ble_eq_true rfl) rfl (fun X _ => S_X12_isLetter_0 (fun M hR => ⟨rfl, hR⟩) hR h)
def F_X12_isMaker_17 (fu : Nat) (V : St) (s0 : Int32) : RR :=
  gd (s0 = 0 ∨ s0 = 1) <| some (s0, V)
theorem S_X12_isMaker_17 {E : EN} {X : CX} {P : Option Value → MH → Prop} {ad : AD} {fu : Nat} {out : Int32 × St} (hp : ∀ M, Rep E ad out.2 M → P (some (.int out.1)) M) {V : St} {M : MH} {s0 : Int32} {d0 : Option Value} {d1 : Option Value} (hR : Rep E ad V M) (h : F_X12_isMaker_17 fu V s0 = some out) : G E X RX12 cX12_isMaker 2 (some .boolean) false (rmD 1) P M [d0, d1] 0 0 17 [.int (s0)] := by
  unfold F_X12_isMaker_17 at h
  obtain ⟨hz1, h⟩ := gd_inv h
  cases h
  exact r_zret DX12_isMaker_17 rfl (nz_nar hz1) ⟨Nat.le_refl 0, Nat.le_refl 0⟩ (hp M hR)
def F_X12_isMaker_16 (fu : Nat) (V : St) : RR :=
  F_X12_isMaker_17 fu V ((0 : Int32))
theorem S_X12_isMaker_16 {E : EN} {X : CX} {P : Option Value → MH → Prop} {ad : AD} {fu : Nat} {out : Int32 × St} (hp : ∀ M, Rep E ad out.2 M → P (some (.int out.1)) M) {V : St} {M : MH} {d0 : Option Value} {d1 : Option Value} (hR : Rep E ad V M) (h : F_X12_isMaker_16 fu V = some out) : G E X RX12 cX12_isMaker 2 (some .boolean) false (rmD 1) P M [d0, d1] 0 0 16 [] := by
  unfold F_X12_isMaker_16 at h
  refine r_iconst (v := 0) DX12_isMaker_16 ki_0 ?_
  exact S_X12_isMaker_17 hp hR h
def f_X12_isMaker (fu : Nat) (V : St) (x1 : Int32) : RR :=
  if x1 < 0 then
    (F_X12_isMaker_16 fu V)
    else
    (if (V 2232 0 0) ≤ x1 then
      (F_X12_isMaker_16 fu V)
      else
      (F_X12_isMaker_17 fu V ((1 : Int32))))
theorem S_X12_isMaker_0 {E : EN} {X : CX} {P : Option Value → MH → Prop} {ad : AD} {fu : Nat} {out : Int32 × St} (hp : ∀ M, Rep E ad out.2 M → P (some (.int out.1)) M) {V : St} {M : MH} {x1 : Int32} (hR : Rep E ad V M) (h : f_X12_isMaker fu V x1 = some out) : G E X RX12 cX12_isMaker 2 (some .boolean) false (rmD 1) P M [some (.ref (ad 2200 0)), some (.int (x1))] 0 0 0 [] := by
  unfold f_X12_isMaker at h
  refine r_iload_n DX12_isMaker_0 rfl ?_
  refine r_if_lt DX12_isMaker_1 (fun c1 => ?_) (fun c1 => ?_)
  · have h := if_t c1 h
    exact S_X12_isMaker_16 hp hR h
  · have h := if_f c1 h
    refine r_iload_n DX12_isMaker_4 rfl ?_
    refine r_aload_n DX12_isMaker_5 rfl ?_
    refine s_geti DX12_isMaker_6 fl_X12_291 hR ct_2200 (one_cnt _) rfl ?_
    refine r_icmp_ge DX12_isMaker_9 (fun c2 => ?_) (fun c2 => ?_)
    · have h := if_t c2 h
      exact S_X12_isMaker_16 hp hR h
    · have h := if_f c2 h
      refine r_iconst (v := 1) DX12_isMaker_12 ki_1 ?_
      refine r_goto DX12_isMaker_13 ?_
      exact S_X12_isMaker_17 hp hR h
theorem C_X12_isMaker {E : EN} {ad : AD} {fu : Nat} {out : Int32 × St} {V : St} {M : MH} {x1 : Int32} (l : Launch) (hR : Rep E ad V M) (h : f_X12_isMaker fu V x1 = some out) : Ct E l yX12_isMaker cX12_isMaker 2 (some .boolean) (rmD 1) [.ref (ad 2200 0), .int (x1)] M (fun v M => v = (some (.int out.1)) ∧ Rep E ad out.2 M) :=
  Ct.of (own := RX12) (ini := false) (L := [some (.ref (ad 2200 0)), some (.int (x1))]) rfl rfl (fun h => by cases h) rfl (Nat.le_of_ble_eq_true rfl) rfl (fun X _ => S_X12_isMaker_0 (fun M hR => ⟨rfl, hR⟩) hR h)
def F_X12_isWeek_16 (fu : Nat) (V : St) (s0 : Int32) : RR :=
  gd (s0 = 0 ∨ s0 = 1) <| some (s0, V)
theorem S_X12_isWeek_16 {E : EN} {X : CX} {P : Option Value → MH → Prop} {ad : AD} {fu : Nat} {out : Int32 × St} (hp : ∀ M, Rep E ad out.2 M → P (some (.int out.1)) M) {V : St} {M : MH} {s0 : Int32} {d0 : Option Value} (hR : Rep E ad V M) (h : F_X12_isWeek_16 fu V s0 = some out) : G E X RX12 cX12_isWeek 1 (some .boolean) false (rmD 1) P M [d0] 0 0 16 [.int (s0)] := by
  unfold F_X12_isWeek_16 at h
  obtain ⟨hz1, h⟩ := gd_inv h
  cases h
  exact r_zret DX12_isWeek_16 rfl (nz_nar hz1) ⟨Nat.le_refl 0, Nat.le_refl 0⟩ (hp M hR)
def F_X12_isWeek_15 (fu : Nat) (V : St) : RR :=
  F_X12_isWeek_16 fu V ((0 : Int32))
theorem S_X12_isWeek_15 {E : EN} {X : CX} {P : Option Value → MH → Prop} {ad : AD} {fu : Nat} {out : Int32 × St} (hp : ∀ M, Rep E ad out.2 M → P (some (.int out.1)) M) {V : St} {M : MH} {d0 : Option Value} (hR : Rep E ad V M) (h : F_X12_isWeek_15 fu V = some out) : G E X RX12 cX12_isWeek 1 (some .boolean) false (rmD 1) P M [d0] 0 0 15 [] := by
  unfold F_X12_isWeek_15 at h
  refine r_iconst (v := 0) DX12_isWeek_15 ki_0 ?_
  exact S_X12_isWeek_16 hp hR h
def f_X12_isWeek (fu : Nat) (V : St) (x0 : Int32) : RR :=
  if x0 < 0 then
    (F_X12_isWeek_15 fu V)
    else
    (if (499 : Int32) < x0 then
      (F_X12_isWeek_15 fu V)
      else
      (F_X12_isWeek_16 fu V ((1 : Int32))))
theorem S_X12_isWeek_0 {E : EN} {X : CX} {P : Option Value → MH → Prop} {ad : AD} {fu : Nat} {out : Int32 × St} (hp : ∀ M, Rep E ad out.2 M → P (some (.int out.1)) M) {V : St} {M : MH} {x0 : Int32} (hR : Rep E ad V M) (h : f_X12_isWeek fu V x0 = some out) : G E X RX12 cX12_isWeek 1 (some .boolean) false (rmD 1) P M [some (.int (x0))] 0 0 0 [] := by
  unfold f_X12_isWeek at h
  refine r_iload_n DX12_isWeek_0 rfl ?_
  refine r_if_lt DX12_isWeek_1 (fun c1 => ?_) (fun c1 => ?_)
  · have h := if_t c1 h
    exact S_X12_isWeek_15 hp hR h
  · have h := if_f c1 h
    refine r_iload_n DX12_isWeek_4 rfl ?_
    refine r_sipush (v := 499) DX12_isWeek_5 ks_499 ?_
    refine r_icmp_gt DX12_isWeek_8 (fun c2 => ?_) (fun c2 => ?_)
    · have h := if_t c2 h
      exact S_X12_isWeek_15 hp hR h
    · have h := if_f c2 h
      refine r_iconst (v := 1) DX12_isWeek_11 ki_1 ?_
      refine r_goto DX12_isWeek_12 ?_
      exact S_X12_isWeek_16 hp hR h
theorem C_X12_isWeek {E : EN} {ad : AD} {fu : Nat} {out : Int32 × St} {V : St} {M : MH} {x0 : Int32} (l : Launch) (hR : Rep E ad V M) (h : f_X12_isWeek fu V x0 = some out) : Ct E l yX12_isWeek cX12_isWeek 1 (some .boolean) (rmD 1) [.int (x0)] M (fun v M => v = (some (.int out.1)) ∧ Rep E ad out.2 M) :=
  Ct.of (own := RX12) (ini := false) (L := [some (.int (x0))]) rfl rfl (fun h => by cases h) rfl (Nat.le_of_ble_eq_true rfl) rfl (fun X _ => S_X12_isWeek_0 (fun M hR => ⟨rfl, hR⟩) hR h)
def F_X12_isTrue_156 (fu : Nat) (V : St) (s0 : Int32) : RR :=
  some (s0, V)
theorem S_X12_isTrue_156 {E : EN} {X : CX} {P : Option Value → MH → Prop} {ad : AD} {fu : Nat} {out : Int32 × St} (hp : ∀ M, Rep E ad out.2 M → P (some (.int out.1)) M) {V : St} {M : MH} {s0 : Int32} {d0 : Option Value} {d1 : Option Value} {d2 : Option Value} {d3 : Option Value} {d4 : Option Value} {d5 : Option Value} {d6 : Option Value} {d7 : Option Value} (hR : Rep E ad V M) (h : F_X12_isTrue_156 fu V s0 = some out) : G E X RX12 cX12_isTrue 8 (some .int) false (rmD 2) P M [d0, d1, d2, d3, d4, d5, d6, d7] 0 0 156 [.int (s0)] := by
  unfold F_X12_isTrue_156 at h
  cases h
  exact r_iret DX12_isTrue_156 rfl ⟨Nat.le_refl 0, Nat.le_refl 0⟩ (hp M hR)
def F_X12_isTrue_155 (fu : Nat) (V : St) : RR :=
  F_X12_isTrue_156 fu V ((2 : Int32))
theorem S_X12_isTrue_155 {E : EN} {X : CX} {P : Option Value → MH → Prop} {ad : AD} {fu : Nat} {out : Int32 × St} (hp : ∀ M, Rep E ad out.2 M → P (some (.int out.1)) M) {V : St} {M : MH} {d0 : Option Value} {d1 : Option Value} {d2 : Option Value} {d3 : Option Value} {d4 : Option Value} {d5 : Option Value} {d6 : Option Value} {d7 : Option Value} (hR : Rep E ad V M) (h : F_X12_isTrue_155 fu V = some out) : G E X RX12 cX12_isTrue 8 (some .int) false (rmD 2) P M [d0, d1, d2, d3, d4, d5, d6, d7] 0 0 155 [] := by
  unfold F_X12_isTrue_155 at h
  refine r_iconst (v := 2) DX12_isTrue_155 ki_2 ?_
  exact S_X12_isTrue_156 hp hR h
def F_X12_isTrue_138 (fu : Nat) (V : St) (x5 : Int32) (x6 : Int32) : RR :=
  if x5 < (2 : Int32) then
    (F_X12_isTrue_155 fu V)
    else
    (if x6 = x5 then
      (F_X12_isTrue_156 fu V ((1 : Int32)))
      else
      (F_X12_isTrue_155 fu V))
theorem S_X12_isTrue_138 {E : EN} {X : CX} {P : Option Value → MH → Prop} {ad : AD} {fu : Nat} {out : Int32 × St} (hp : ∀ M, Rep E ad out.2 M → P (some (.int out.1)) M) {V : St} {M : MH} {x5 : Int32} {x6 : Int32} {d0 : Option Value} {d1 : Option Value} {d2 : Option Value} {d3 : Option Value} {d4 : Option Value} {d7 : Option Value} (hR : Rep E ad V M) (h : F_X12_isTrue_138 fu V x5 x6 = some out) : G E X RX12 cX12_isTrue 8 (some .int) false (rmD 2) P M [d0, d1, d2, d3, d4, some (.int (x5)), some (.int (x6)), d7] 0 0 138 [] := by
  unfold F_X12_isTrue_138 at h
  refine r_iload DX12_isTrue_138 rfl ?_
  refine r_iconst (v := 2) DX12_isTrue_140 ki_2 ?_
  refine r_icmp_lt DX12_isTrue_141 (fun c1 => ?_) (fun c1 => ?_)
  · have h := if_t c1 h
    exact S_X12_isTrue_155 hp hR h
  · have h := if_f c1 h
    refine r_iload DX12_isTrue_144 rfl ?_
    refine r_iload DX12_isTrue_146 rfl ?_
    refine r_icmp_ne DX12_isTrue_148 (fun c2 => ?_) (fun c2 => ?_)
    · have h := if_f c2 h
      exact S_X12_isTrue_155 hp hR h
    · have h := if_t c2 h
      refine r_iconst (v := 1) DX12_isTrue_151 ki_1 ?_
      refine r_goto DX12_isTrue_152 ?_
      exact S_X12_isTrue_156 hp hR h
def F_X12_isTrue_132 (kh : St → Int32 → Int32 → Int32 → Int32 → Int32 → Int32 → RR) (kx102 : St → RR) (kx138 : St → Int32 → Int32 → RR) (fu : Nat) (V : St) (x1 : Int32) (x2 : Int32) (x4 : Int32) (x5 : Int32) (x6 : Int32) (x7 : Int32) : RR :=
  kh V (x1) (x2) (x4) (x5) (x6) (x7 + 1)
theorem S_X12_isTrue_132 {E : EN} {X : CX} {P : Option Value → MH → Prop} {ad : AD} {fu : Nat} {out : Int32 × St} {kh : St → Int32 → Int32 → Int32 → Int32 → Int32 → Int32 → RR} {kx102 : St → RR} {kx138 : St → Int32 → Int32 → RR} (hkh : ∀ {V : St} {M : MH} {x1 : Int32} {x2 : Int32} {x4 : Int32} {x5 : Int32} {x6 : Int32} {x7 : Int32} {d3 : Option Value}, Rep E ad V M → kh V x1 x2 x4 x5 x6 x7 = some out → G E X RX12 cX12_isTrue 8 (some .int) false (rmD 2) P M [some (.ref (ad 2200 0)), some (.int (x1)), some (.int (x2)), d3, some (.int (x4)), some (.int (x5)), some (.int (x6)), some (.int (x7))] 0 0 46 []) (hkx102 : ∀ {V : St} {M : MH} {d0 : Option Value} {d1 : Option Value} {d2 : Option Value} {d3 : Option Value} {d4 : Option Value} {d5 : Option Value} {d6 : Option Value} {d7 : Option Value}, Rep E ad V M → kx102 V  = some out → G E X RX12 cX12_isTrue 8 (some .int) false (rmD 2) P M [d0, d1, d2, d3, d4, d5, d6, d7] 0 0 102 []) (hkx138 : ∀ {V : St} {M : MH} {x5 : Int32} {x6 : Int32} {d0 : Option Value} {d1 : Option Value} {d2 : Option Value} {d3 : Option Value} {d4 : Option Value} {d7 : Option Value}, Rep E ad V M → kx138 V x5 x6 = some out → G E X RX12 cX12_isTrue 8 (some .int) false (rmD 2) P M [d0, d1, d2, d3, d4, some (.int (x5)), some (.int (x6)), d7] 0 0 138 []) (hp : ∀ M, Rep E ad out.2 M → P (some (.int out.1)) M) {V : St} {M : MH} {x1 : Int32} {x2 : Int32} {x4 : Int32} {x5 : Int32} {x6 : Int32} {x7 : Int32} {d3 : Option Value} (hR : Rep E ad V M) (h : F_X12_isTrue_132 kh kx102 kx138 fu V x1 x2 x4 x5 x6 x7 = some out) : G E X RX12 cX12_isTrue 8 (some .int) false (rmD 2) P M [some (.ref (ad 2200 0)), some (.int (x1)), some (.int (x2)), d3, some (.int (x4)), some (.int (x5)), some (.int (x6)), some (.int (x7))] 0 0 132 [] := by
  unfold F_X12_isTrue_132 at h
  refine t_iinc (v := 1) (L' := [some (.ref (ad 2200 0)), some (.int (x1)), some (.int (x2)), d3, some (.int (x4)), some (.int (x5)), some (.int (x6)), some (.int (x7 + 1))]) DX12_isTrue_132 rfl ki_1 (by decide) rfl ?_
  refine r_goto DX12_isTrue_135 ?_
  exact hkh hR h
def F_X12_isTrue_129 (kh : St → Int32 → Int32 → Int32 → Int32 → Int32 → Int32 → RR) (kx102 : St → RR) (kx138 : St → Int32 → Int32 → RR) (fu : Nat) (V : St) (x1 : Int32) (x2 : Int32) (x4 : Int32) (x5 : Int32) (x7 : Int32) (s0 : Int32) (s1 : Int32) : RR :=
  F_X12_isTrue_132 kh kx102 kx138 fu V (x1) (x2) (x4) (x5) (s1 + s0) (x7)
theorem S_X12_isTrue_129 {E : EN} {X : CX} {P : Option Value → MH → Prop} {ad : AD} {fu : Nat} {out : Int32 × St} {kh : St → Int32 → Int32 → Int32 → Int32 → Int32 → Int32 → RR} {kx102 : St → RR} {kx138 : St → Int32 → Int32 → RR} (hkh : ∀ {V : St} {M : MH} {x1 : Int32} {x2 : Int32} {x4 : Int32} {x5 : Int32} {x6 : Int32} {x7 : Int32} {d3 : Option Value}, Rep E ad V M → kh V x1 x2 x4 x5 x6 x7 = some out → G E X RX12 cX12_isTrue 8 (some .int) false (rmD 2) P M [some (.ref (ad 2200 0)), some (.int (x1)), some (.int (x2)), d3, some (.int (x4)), some (.int (x5)), some (.int (x6)), some (.int (x7))] 0 0 46 []) (hkx102 : ∀ {V : St} {M : MH} {d0 : Option Value} {d1 : Option Value} {d2 : Option Value} {d3 : Option Value} {d4 : Option Value} {d5 : Option Value} {d6 : Option Value} {d7 : Option Value}, Rep E ad V M → kx102 V  = some out → G E X RX12 cX12_isTrue 8 (some .int) false (rmD 2) P M [d0, d1, d2, d3, d4, d5, d6, d7] 0 0 102 []) (hkx138 : ∀ {V : St} {M : MH} {x5 : Int32} {x6 : Int32} {d0 : Option Value} {d1 : Option Value} {d2 : Option Value} {d3 : Option Value} {d4 : Option Value} {d7 : Option Value}, Rep E ad V M → kx138 V x5 x6 = some out → G E X RX12 cX12_isTrue 8 (some .int) false (rmD 2) P M [d0, d1, d2, d3, d4, some (.int (x5)), some (.int (x6)), d7] 0 0 138 []) (hp : ∀ M, Rep E ad out.2 M → P (some (.int out.1)) M) {V : St} {M : MH} {x1 : Int32} {x2 : Int32} {x4 : Int32} {x5 : Int32} {x7 : Int32} {s0 : Int32} {s1 : Int32} {d3 : Option Value} {d6 : Option Value} (hR : Rep E ad V M) (h : F_X12_isTrue_129 kh kx102 kx138 fu V x1 x2 x4 x5 x7 s0 s1 = some out) : G E X RX12 cX12_isTrue 8 (some .int) false (rmD 2) P M [some (.ref (ad 2200 0)), some (.int (x1)), some (.int (x2)), d3, some (.int (x4)), some (.int (x5)), d6, some (.int (x7))] 0 0 129 [.int (s0), .int (s1)] := by
  unfold F_X12_isTrue_129 at h
  refine r_iadd DX12_isTrue_129 ?_
  refine t_istore (L' := [some (.ref (ad 2200 0)), some (.int (x1)), some (.int (x2)), d3, some (.int (x4)), some (.int (x5)), some (.int (s1 + s0)), some (.int (x7))]) DX12_isTrue_130 (by decide) rfl ?_
  exact S_X12_isTrue_132 (fun hR h => hkh hR h) (fun hR h => hkx102 hR h) (fun hR h => hkx138 hR h) hp hR h
def F_X12_isTrue_104 (kh : St → Int32 → Int32 → Int32 → Int32 → Int32 → Int32 → RR) (kx102 : St → RR) (kx138 : St → Int32 → Int32 → RR) (fu : Nat) (V : St) (x1 : Int32) (x2 : Int32) (x4 : Int32) (x5 : Int32) (x6 : Int32) (x7 : Int32) : RR :=
  gd (¬ (x7 < 0 ∨ 100 ≤ (x7).toNatClampNeg)) <| if (V 2293 (0) (x7).toNatClampNeg) < x4 then
    (F_X12_isTrue_129 kh kx102 kx138 fu V (x1) (x2) (x4) (x5 + (1 : Int32)) (x7) ((0 : Int32)) (x6))
    else
    (F_X12_isTrue_129 kh kx102 kx138 fu V (x1) (x2) (x4) (x5 + (1 : Int32)) (x7) ((1 : Int32)) (x6))
theorem S_X12_isTrue_104 {E : EN} {X : CX} {P : Option Value → MH → Prop} {ad : AD} {fu : Nat} {out : Int32 × St} {kh : St → Int32 → Int32 → Int32 → Int32 → Int32 → Int32 → RR} {kx102 : St → RR} {kx138 : St → Int32 → Int32 → RR} (hkh : ∀ {V : St} {M : MH} {x1 : Int32} {x2 : Int32} {x4 : Int32} {x5 : Int32} {x6 : Int32} {x7 : Int32} {d3 : Option Value}, Rep E ad V M → kh V x1 x2 x4 x5 x6 x7 = some out → G E X RX12 cX12_isTrue 8 (some .int) false (rmD 2) P M [some (.ref (ad 2200 0)), some (.int (x1)), some (.int (x2)), d3, some (.int (x4)), some (.int (x5)), some (.int (x6)), some (.int (x7))] 0 0 46 []) (hkx102 : ∀ {V : St} {M : MH} {d0 : Option Value} {d1 : Option Value} {d2 : Option Value} {d3 : Option Value} {d4 : Option Value} {d5 : Option Value} {d6 : Option Value} {d7 : Option Value}, Rep E ad V M → kx102 V  = some out → G E X RX12 cX12_isTrue 8 (some .int) false (rmD 2) P M [d0, d1, d2, d3, d4, d5, d6, d7] 0 0 102 []) (hkx138 : ∀ {V : St} {M : MH} {x5 : Int32} {x6 : Int32} {d0 : Option Value} {d1 : Option Value} {d2 : Option Value} {d3 : Option Value} {d4 : Option Value} {d7 : Option Value}, Rep E ad V M → kx138 V x5 x6 = some out → G E X RX12 cX12_isTrue 8 (some .int) false (rmD 2) P M [d0, d1, d2, d3, d4, some (.int (x5)), some (.int (x6)), d7] 0 0 138 []) (hp : ∀ M, Rep E ad out.2 M → P (some (.int out.1)) M) {V : St} {M : MH} {x1 : Int32} {x2 : Int32} {x4 : Int32} {x5 : Int32} {x6 : Int32} {x7 : Int32} {d3 : Option Value} (hR : Rep E ad V M) (h : F_X12_isTrue_104 kh kx102 kx138 fu V x1 x2 x4 x5 x6 x7 = some out) : G E X RX12 cX12_isTrue 8 (some .int) false (rmD 2) P M [some (.ref (ad 2200 0)), some (.int (x1)), some (.int (x2)), d3, some (.int (x4)), some (.int (x5)), some (.int (x6)), some (.int (x7))] 0 0 104 [] := by
  unfold F_X12_isTrue_104 at h
  refine r_iload DX12_isTrue_104 rfl ?_
  refine r_iconst (v := 1) DX12_isTrue_106 ki_1 ?_
  refine r_iadd DX12_isTrue_107 ?_
  refine t_istore (L' := [some (.ref (ad 2200 0)), some (.int (x1)), some (.int (x2)), d3, some (.int (x4)), some (.int (x5 + (1 : Int32))), some (.int (x6)), some (.int (x7))]) DX12_isTrue_108 (by decide) rfl ?_
  refine r_iload DX12_isTrue_110 rfl ?_
  refine r_aload_n DX12_isTrue_112 rfl ?_
  refine s_geta DX12_isTrue_113 fl_X12_227 hR ct_2200 (one_cnt _) rfl ?_
  refine r_iload DX12_isTrue_116 rfl ?_
  obtain ⟨hg1, h⟩ := gd_inv h
  refine s_iald DX12_isTrue_118 hR ct_2293 (one_cnt _) hg1 ?_
  refine r_iload DX12_isTrue_119 rfl ?_
  refine r_icmp_lt DX12_isTrue_121 (fun c2 => ?_) (fun c2 => ?_)
  · have h := if_t c2 h
    refine r_iconst (v := 0) DX12_isTrue_128 ki_0 ?_
    exact S_X12_isTrue_129 (fun hR h => hkh hR h) (fun hR h => hkx102 hR h) (fun hR h => hkx138 hR h) hp hR h
  · have h := if_f c2 h
    refine r_iconst (v := 1) DX12_isTrue_124 ki_1 ?_
    refine r_goto DX12_isTrue_125 ?_
    exact S_X12_isTrue_129 (fun hR h => hkh hR h) (fun hR h => hkx102 hR h) (fun hR h => hkx138 hR h) hp hR h
def F_X12_isTrue_102 (fu : Nat) (V : St) : RR :=
  some ((0 : Int32), V)
theorem S_X12_isTrue_102 {E : EN} {X : CX} {P : Option Value → MH → Prop} {ad : AD} {fu : Nat} {out : Int32 × St} (hp : ∀ M, Rep E ad out.2 M → P (some (.int out.1)) M) {V : St} {M : MH} {d0 : Option Value} {d1 : Option Value} {d2 : Option Value} {d3 : Option Value} {d4 : Option Value} {d5 : Option Value} {d6 : Option Value} {d7 : Option Value} (hR : Rep E ad V M) (h : F_X12_isTrue_102 fu V = some out) : G E X RX12 cX12_isTrue 8 (some .int) false (rmD 2) P M [d0, d1, d2, d3, d4, d5, d6, d7] 0 0 102 [] := by
  unfold F_X12_isTrue_102 at h
  refine r_iconst (v := 0) DX12_isTrue_102 ki_0 ?_
  cases h
  exact r_iret DX12_isTrue_103 rfl ⟨Nat.le_refl 0, Nat.le_refl 0⟩ (hp M hR)
def F_X12_isTrue_46 (kh : St → Int32 → Int32 → Int32 → Int32 → Int32 → Int32 → RR) (kx102 : St → RR) (kx138 : St → Int32 → Int32 → RR) (fu : Nat) (V : St) (x1 : Int32) (x2 : Int32) (x4 : Int32) (x5 : Int32) (x6 : Int32) (x7 : Int32) : RR :=
  if (V 2287 0 0) ≤ x7 then
    (kx138 V (x5) (x6))
    else
    (gd (¬ (x7 < 0 ∨ 100 ≤ (x7).toNatClampNeg)) <| if (V 2292 (0) (x7).toNatClampNeg) = x1 then
      (gd (¬ (x7 < 0 ∨ 100 ≤ (x7).toNatClampNeg)) <| if (V 2294 (0) (x7).toNatClampNeg) ≤ x2 then
        (gd (¬ (x7 < 0 ∨ 100 ≤ (x7).toNatClampNeg)) <| if (V 2295 (0) (x7).toNatClampNeg) = 0 then
          (F_X12_isTrue_104 kh kx102 kx138 fu V (x1) (x2) (x4) (x5) (x6) (x7))
          else
          (gd (¬ (x7 < 0 ∨ 100 ≤ (x7).toNatClampNeg)) <| if x4 ≤ (V 2293 (0) (x7).toNatClampNeg) then
            (F_X12_isTrue_104 kh kx102 kx138 fu V (x1) (x2) (x4) (x5) (x6) (x7))
            else
            (kx102 V)))
        else
        (F_X12_isTrue_132 kh kx102 kx138 fu V (x1) (x2) (x4) (x5) (x6) (x7)))
      else
      (F_X12_isTrue_132 kh kx102 kx138 fu V (x1) (x2) (x4) (x5) (x6) (x7)))
theorem S_X12_isTrue_46 {E : EN} {X : CX} {P : Option Value → MH → Prop} {ad : AD} {fu : Nat} {out : Int32 × St} {kh : St → Int32 → Int32 → Int32 → Int32 → Int32 → Int32 → RR} {kx102 : St → RR} {kx138 : St → Int32 → Int32 → RR} (hkh : ∀ {V : St} {M : MH} {x1 : Int32} {x2 : Int32} {x4 : Int32} {x5 : Int32} {x6 : Int32} {x7 : Int32} {d3 : Option Value}, Rep E ad V M → kh V x1 x2 x4 x5 x6 x7 = some out → G E X RX12 cX12_isTrue 8 (some .int) false (rmD 2) P M [some (.ref (ad 2200 0)), some (.int (x1)), some (.int (x2)), d3, some (.int (x4)), some (.int (x5)), some (.int (x6)), some (.int (x7))] 0 0 46 []) (hkx102 : ∀ {V : St} {M : MH} {d0 : Option Value} {d1 : Option Value} {d2 : Option Value} {d3 : Option Value} {d4 : Option Value} {d5 : Option Value} {d6 : Option Value} {d7 : Option Value}, Rep E ad V M → kx102 V  = some out → G E X RX12 cX12_isTrue 8 (some .int) false (rmD 2) P M [d0, d1, d2, d3, d4, d5, d6, d7] 0 0 102 []) (hkx138 : ∀ {V : St} {M : MH} {x5 : Int32} {x6 : Int32} {d0 : Option Value} {d1 : Option Value} {d2 : Option Value} {d3 : Option Value} {d4 : Option Value} {d7 : Option Value}, Rep E ad V M → kx138 V x5 x6 = some out → G E X RX12 cX12_isTrue 8 (some .int) false (rmD 2) P M [d0, d1, d2, d3, d4, some (.int (x5)), some (.int (x6)), d7] 0 0 138 []) (hp : ∀ M, Rep E ad out.2 M → P (some (.int out.1)) M) {V : St} {M : MH} {x1 : Int32} {x2 : Int32} {x4 : Int32} {x5 : Int32} {x6 : Int32} {x7 : Int32} {d3 : Option Value} (hR : Rep E ad V M) (h : F_X12_isTrue_46 kh kx102 kx138 fu V x1 x2 x4 x5 x6 x7 = some out) : G E X RX12 cX12_isTrue 8 (some .int) false (rmD 2) P M [some (.ref (ad 2200 0)), some (.int (x1)), some (.int (x2)), d3, some (.int (x4)), some (.int (x5)), some (.int (x6)), some (.int (x7))] 0 0 46 [] := by
  unfold F_X12_isTrue_46 at h
  refine r_iload DX12_isTrue_46 rfl ?_
  refine r_aload_n DX12_isTrue_48 rfl ?_
  refine s_geti DX12_isTrue_49 fl_X12_461 hR ct_2200 (one_cnt _) rfl ?_
  refine r_icmp_ge DX12_isTrue_52 (fun c1 => ?_) (fun c1 => ?_)
  · have h := if_t c1 h
    exact hkx138 hR h
  · have h := if_f c1 h
    refine r_aload_n DX12_isTrue_55 rfl ?_
    refine s_geta DX12_isTrue_56 fl_X12_224 hR ct_2200 (one_cnt _) rfl ?_
    refine r_iload DX12_isTrue_59 rfl ?_
    obtain ⟨hg2, h⟩ := gd_inv h
    refine s_iald DX12_isTrue_61 hR ct_2292 (one_cnt _) hg2 ?_
    refine r_iload_n DX12_isTrue_62 rfl ?_
    refine r_icmp_ne DX12_isTrue_63 (fun c3 => ?_) (fun c3 => ?_)
    · have h := if_f c3 h
      exact S_X12_isTrue_132 (fun hR h => hkh hR h) (fun hR h => hkx102 hR h) (fun hR h => hkx138 hR h) hp hR h
    · have h := if_t c3 h
      refine r_aload_n DX12_isTrue_66 rfl ?_
      refine s_geta DX12_isTrue_67 fl_X12_230 hR ct_2200 (one_cnt _) rfl ?_
      refine r_iload DX12_isTrue_70 rfl ?_
      obtain ⟨hg4, h⟩ := gd_inv h
      refine s_iald DX12_isTrue_72 hR ct_2294 (one_cnt _) hg4 ?_
      refine r_iload_n DX12_isTrue_73 rfl ?_
      refine r_icmp_le DX12_isTrue_74 (fun c5 => ?_) (fun c5 => ?_)
      · have h := if_t c5 h
        refine r_aload_n DX12_isTrue_80 rfl ?_
        refine s_geta DX12_isTrue_81 fl_X12_233 hR ct_2200 (one_cnt _) rfl ?_
        refine r_iload DX12_isTrue_84 rfl ?_
        obtain ⟨hg6, h⟩ := gd_inv h
        refine s_zald DX12_isTrue_86 hR ct_2295 (one_cnt _) hg6 ?_
        refine r_if_eq DX12_isTrue_87 (fun c7 => ?_) (fun c7 => ?_)
        · have h := if_t c7 h
          exact S_X12_isTrue_104 (fun hR h => hkh hR h) (fun hR h => hkx102 hR h) (fun hR h => hkx138 hR h) hp hR h
        · have h := if_f c7 h
          refine r_aload_n DX12_isTrue_90 rfl ?_
          refine s_geta DX12_isTrue_91 fl_X12_227 hR ct_2200 (one_cnt _) rfl ?_
          refine r_iload DX12_isTrue_94 rfl ?_
          obtain ⟨hg8, h⟩ := gd_inv h
          refine s_iald DX12_isTrue_96 hR ct_2293 (one_cnt _) hg8 ?_
          refine r_iload DX12_isTrue_97 rfl ?_
          refine r_icmp_ge DX12_isTrue_99 (fun c9 => ?_) (fun c9 => ?_)
          · have h := if_t c9 h
            exact S_X12_isTrue_104 (fun hR h => hkh hR h) (fun hR h => hkx102 hR h) (fun hR h => hkx138 hR h) hp hR h
          · have h := if_f c9 h
            exact hkx102 hR h
      · have h := if_f c5 h
        refine r_goto DX12_isTrue_77 ?_
        exact S_X12_isTrue_132 (fun hR h => hkh hR h) (fun hR h => hkx102 hR h) (fun hR h => hkx138 hR h) hp hR h
def Lp_X12_isTrue_46 (kx102 : St → RR) (kx138 : St → Int32 → Int32 → RR) (fu : Nat) : Nat → St → Int32 → Int32 → Int32 → Int32 → Int32 → Int32 → RR
  | 0, _, _, _, _, _, _, _ => none
  | n + 1, V, x1, x2, x4, x5, x6, x7 => F_X12_isTrue_46 (Lp_X12_isTrue_46 kx102 kx138 fu n) kx102 kx138 fu V x1 x2 x4 x5 x6 x7
theorem SL_X12_isTrue_46 {E : EN} {X : CX} {P : Option Value → MH → Prop} {ad : AD} {fu : Nat} {out : Int32 × St} {kx102 : St → RR} {kx138 : St → Int32 → Int32 → RR} (hkx102 : ∀ {V : St} {M : MH} {d0 : Option Value} {d1 : Option Value} {d2 : Option Value} {d3 : Option Value} {d4 : Option Value} {d5 : Option Value} {d6 : Option Value} {d7 : Option Value}, Rep E ad V M → kx102 V  = some out → G E X RX12 cX12_isTrue 8 (some .int) false (rmD 2) P M [d0, d1, d2, d3, d4, d5, d6, d7] 0 0 102 []) (hkx138 : ∀ {V : St} {M : MH} {x5 : Int32} {x6 : Int32} {d0 : Option Value} {d1 : Option Value} {d2 : Option Value} {d3 : Option Value} {d4 : Option Value} {d7 : Option Value}, Rep E ad V M → kx138 V x5 x6 = some out → G E X RX12 cX12_isTrue 8 (some .int) false (rmD 2) P M [d0, d1, d2, d3, d4, some (.int (x5)), some (.int (x6)), d7] 0 0 138 []) (hp : ∀ M, Rep E ad out.2 M → P (some (.int out.1)) M) : ∀ (n : Nat) {V : St} {M : MH} {x1 : Int32} {x2 : Int32} {x4 : Int32} {x5 : Int32} {x6 : Int32} {x7 : Int32} {d3 : Option Value}, Rep E ad V M → Lp_X12_isTrue_46 kx102 kx138 fu n V x1 x2 x4 x5 x6 x7 = some out → G E X RX12 cX12_isTrue 8 (some .int) false (rmD 2) P M [some (.ref (ad 2200 0)), some (.int (x1)), some (.int (x2)), d3, some (.int (x4)), some (.int (x5)), some (.int (x6)), some (.int (x7))] 0 0 46 [] := by
  intro n
  induction n with
  | zero => intros; rename_i h; cases h
  | succ n ih => exact fun hR h => S_X12_isTrue_46 (fun hR h => ih hR h) (fun hR h => hkx102 hR h) (fun hR h => hkx138 hR h) hp hR h
def F_X12_isTrue_15 (fu : Nat) (V : St) : RR :=
  some ((-1 : Int32), V)
theorem S_X12_isTrue_15 {E : EN} {X : CX} {P : Option Value → MH → Prop} {ad : AD} {fu : Nat} {out : Int32 × St} (hp : ∀ M, Rep E ad out.2 M → P (some (.int out.1)) M) {V : St} {M : MH} {d0 : Option Value} {d1 : Option Value} {d2 : Option Value} {d3 : Option Value} {d4 : Option Value} {d5 : Option Value} {d6 : Option Value} {d7 : Option Value} (hR : Rep E ad V M) (h : F_X12_isTrue_15 fu V = some out) : G E X RX12 cX12_isTrue 8 (some .int) false (rmD 2) P M [d0, d1, d2, d3, d4, d5, d6, d7] 0 0 15 [] := by
  unfold F_X12_isTrue_15 at h
  refine r_iconst (v := -1) DX12_isTrue_15 ki_m1 ?_
  cases h
  exact r_iret DX12_isTrue_16 rfl ⟨Nat.le_refl 0, Nat.le_refl 0⟩ (hp M hR)
def f_X12_isTrue (fu : Nat) (V : St) (x1 : Int32) (x2 : Int32) : RR :=
  bd (f_X12_isCloth fu V (x1)) fun r1 V2 => if r1 = 0 then
    (F_X12_isTrue_15 fu V2)
    else
    (bd (f_X12_isWeek fu V2 (x2)) fun r5 V6 => if r5 = 0 then
      (F_X12_isTrue_15 fu V6)
      else
      (gd (¬ (x1 < 0 ∨ 20 ≤ (x1).toNatClampNeg)) <| Lp_X12_isTrue_46 (F_X12_isTrue_102 fu) (F_X12_isTrue_138 fu) fu fu V6 (x1) (x2) (((V6 2206 (0) (x1).toNatClampNeg) * (V6 2288 0 0)) - (((V6 2206 (0) (x1).toNatClampNeg) * (V6 2288 0 0)) / ((10 : Int32)))) ((0 : Int32)) ((0 : Int32)) ((0 : Int32))))
theorem S_X12_isTrue_0 {E : EN} {X : CX} {P : Option Value → MH → Prop} {ad : AD} {fu : Nat} {out : Int32 × St} (hp : ∀ M, Rep E ad out.2 M → P (some (.int out.1)) M) {V : St} {M : MH} {x1 : Int32} {x2 : Int32} (hR : Rep E ad V M) (h : f_X12_isTrue fu V x1 x2 = some out) : G E X RX12 cX12_isTrue 8 (some .int) false (rmD 2) P M [some (.ref (ad 2200 0)), some (.int (x1)), some (.int (x2)), none, none, none, none, none] 0 0 0 [] := by
  unfold f_X12_isTrue at h
  refine r_aload_n DX12_isTrue_0 rfl ?_
  refine r_iload_n DX12_isTrue_1 rfl ?_
  obtain ⟨r1, V2, hc3, h⟩ := bd_inv h
  refine k_callV (As := [.int (x1)]) (rest := []) (st1 := [.int (r1)]) (w := some (.int r1)) DX12_isTrue_2 cv_X12_268 hR ct_2200 (one_cnt _) rfl (C_X12_isCloth (cxL X) hR hc3) rfl (by decide) (by decide) rfl (Nat.le_of_ble_eq_true rfl) rfl (fun M hR => ?_)
  refine r_if_eq DX12_isTrue_5 (fun c4 => ?_) (fun c4 => ?_)
  · have h := if_t c4 h
    exact S_X12_isTrue_15 hp hR h
  · have h := if_f c4 h
    refine r_iload_n DX12_isTrue_8 rfl ?_
    obtain ⟨r5, V6, hc7, h⟩ := bd_inv h
    refine k_callS (As := [.int (x2)]) (rest := []) (st1 := [.int (r5)]) (w := some (.int r5)) DX12_isTrue_9 cs_X12_391 (C_X12_isWeek (cxL X) hR hc7) rfl (by decide) (by decide) rfl (Nat.le_of_ble_eq_true rfl) rfl (fun M hR => ?_)
    refine r_if_ne DX12_isTrue_12 (fun c8 => ?_) (fun c8 => ?_)
    · have h := if_f c8 h
      refine r_aload_n DX12_isTrue_17 rfl ?_
      refine s_geta DX12_isTrue_18 fl_X12_13 hR ct_2200 (one_cnt _) rfl ?_
      refine r_iload_n DX12_isTrue_21 rfl ?_
      obtain ⟨hg9, h⟩ := gd_inv h
      refine s_iald DX12_isTrue_22 hR ct_2206 (one_cnt _) hg9 ?_
      refine r_aload_n DX12_isTrue_23 rfl ?_
      refine s_geti DX12_isTrue_24 fl_X12_212 hR ct_2200 (one_cnt _) rfl ?_
      refine r_imul DX12_isTrue_27 ?_
      refine t_istore_n (L' := [some (.ref (ad 2200 0)), some (.int (x1)), some (.int (x2)), some (.int ((V6 2206 (0) (x1).toNatClampNeg) * (V6 2288 0 0))), none, none, none, none]) DX12_isTrue_28 (by decide) rfl ?_
      refine r_iload_n DX12_isTrue_29 rfl ?_
      refine r_iload_n DX12_isTrue_30 rfl ?_
      refine r_bipush (v := 10) DX12_isTrue_31 kb_10 ?_
      refine r_idiv DX12_isTrue_33 (by decide) ?_
      refine r_isub DX12_isTrue_34 ?_
      refine t_istore (L' := [some (.ref (ad 2200 0)), some (.int (x1)), some (.int (x2)), some (.int ((V6 2206 (0) (x1).toNatClampNeg) * (V6 2288 0 0))), some (.int (((V6 2206 (0) (x1).toNatClampNeg) * (V6 2288 0 0)) - (((V6 2206 (0) (x1).toNatClampNeg) * (V6 2288 0 0)) / ((10 : Int32))))), none, none, none]) DX12_isTrue_35 (by decide) rfl ?_
      refine r_iconst (v := 0) DX12_isTrue_37 ki_0 ?_
      refine t_istore (L' := [some (.ref (ad 2200 0)), some (.int (x1)), some (.int (x2)), some (.int ((V6 2206 (0) (x1).toNatClampNeg) * (V6 2288 0 0))), some (.int (((V6 2206 (0) (x1).toNatClampNeg) * (V6 2288 0 0)) - (((V6 2206 (0) (x1).toNatClampNeg) * (V6 2288 0 0)) / ((10 : Int32))))), some (.int ((0 : Int32))), none, none]) DX12_isTrue_38 (by decide) rfl ?_
      refine r_iconst (v := 0) DX12_isTrue_40 ki_0 ?_
      refine t_istore (L' := [some (.ref (ad 2200 0)), some (.int (x1)), some (.int (x2)), some (.int ((V6 2206 (0) (x1).toNatClampNeg) * (V6 2288 0 0))), some (.int (((V6 2206 (0) (x1).toNatClampNeg) * (V6 2288 0 0)) - (((V6 2206 (0) (x1).toNatClampNeg) * (V6 2288 0 0)) / ((10 : Int32))))), some (.int ((0 : Int32))), some (.int ((0 : Int32))), none]) DX12_isTrue_41 (by decide) rfl ?_
      refine r_iconst (v := 0) DX12_isTrue_43 ki_0 ?_
      refine t_istore (L' := [some (.ref (ad 2200 0)), some (.int (x1)), some (.int (x2)), some (.int ((V6 2206 (0) (x1).toNatClampNeg) * (V6 2288 0 0))), some (.int (((V6 2206 (0) (x1).toNatClampNeg) * (V6 2288 0 0)) - (((V6 2206 (0) (x1).toNatClampNeg) * (V6 2288 0 0)) / ((10 : Int32))))), some (.int ((0 : Int32))), some (.int ((0 : Int32))), some (.int ((0 : Int32)))]) DX12_isTrue_44 (by decide) rfl ?_
      exact SL_X12_isTrue_46 (fun hR h => S_X12_isTrue_102 hp hR h) (fun hR h => S_X12_isTrue_138 hp hR h) hp fu hR h
    · have h := if_t c8 h
      exact S_X12_isTrue_15 hp hR h
theorem C_X12_isTrue {E : EN} {ad : AD} {fu : Nat} {out : Int32 × St} {V : St} {M : MH} {x1 : Int32} {x2 : Int32} (l : Launch) (hR : Rep E ad V M) (h : f_X12_isTrue fu V x1 x2 = some out) : Ct E l yX12_isTrue cX12_isTrue 8 (some .int) (rmD 2) [.ref (ad 2200 0), .int (x1), .int (x2)] M (fun v M => v = (some (.int out.1)) ∧ Rep E ad out.2 M) :=
  Ct.of (own := RX12) (ini := false) (L := [some (.ref (ad 2200 0)), some (.int (x1)), some (.int (x2)), none, none, none, none, none]) rfl rfl (fun h => by cases h) rfl (Nat.le_of_ble_eq_true rfl) rfl (fun X _ => S_X12_isTrue_0 (fun M hR => ⟨rfl, hR⟩) hR h)
def F_X12_isWider_35 (fu : Nat) (V : St) : RR :=
  some ((0 : Int32), V)
theorem S_X12_isWider_35 {E : EN} {X : CX} {P : Option Value → MH → Prop} {ad : AD} {fu : Nat} {out : Int32 × St} (hp : ∀ M, Rep E ad out.2 M → P (some (.int out.1)) M) {V : St} {M : MH} {d0 : Option Value} {d1 : Option Value} {d2 : Option Value} {d3 : Option Value} (hR : Rep E ad V M) (h : F_X12_isWider_35 fu V = some out) : G E X RX12 cX12_isWider 4 (some .boolean) false (rmD 1) P M [d0, d1, d2, d3] 0 0 35 [] := by
  unfold F_X12_isWider_35 at h
  refine r_iconst (v := 0) DX12_isWider_35 ki_0 ?_
  cases h
  exact r_zret DX12_isWider_36 rfl rfl ⟨Nat.le_refl 0, Nat.le_refl 0⟩ (hp M hR)
def F_X12_isWider_27 (fu : Nat) (V : St) : RR :=
  some ((1 : Int32), V)
theorem S_X12_isWider_27 {E : EN} {X : CX} {P : Option Value → MH → Prop} {ad : AD} {fu : Nat} {out : Int32 × St} (hp : ∀ M, Rep E ad out.2 M → P (some (.int out.1)) M) {V : St} {M : MH} {d0 : Option Value} {d1 : Option Value} {d2 : Option Value} {d3 : Option Value} (hR : Rep E ad V M) (h : F_X12_isWider_27 fu V = some out) : G E X RX12 cX12_isWider 4 (some .boolean) false (rmD 1) P M [d0, d1, d2, d3] 0 0 27 [] := by
  unfold F_X12_isWider_27 at h
  refine r_iconst (v := 1) DX12_isWider_27 ki_1 ?_
  cases h
  exact r_zret DX12_isWider_28 rfl rfl ⟨Nat.le_refl 0, Nat.le_refl 0⟩ (hp M hR)
def F_X12_isWider_2 (kh : St → Int32 → Int32 → Int32 → RR) (kx27 : St → RR) (kx35 : St → RR) (fu : Nat) (V : St) (x1 : Int32) (x2 : Int32) (x3 : Int32) : RR :=
  gd (¬ (x1 < 0 ∨ 30 ≤ (x1).toNatClampNeg)) <| if (V 2223 (0) (x1).toNatClampNeg) ≤ x3 then
    (kx35 V)
    else
    (gd (¬ (((9 : Int32) * x1) + x3 < 0 ∨ 270 ≤ (((9 : Int32) * x1) + x3).toNatClampNeg)) <| if (V 2225 (0) (((9 : Int32) * x1) + x3).toNatClampNeg) ≤ x2 then
      (kh V (x1) (x2) (x3 + 1))
      else
      (kx27 V))
theorem S_X12_isWider_2 {E : EN} {X : CX} {P : Option Value → MH → Prop} {ad : AD} {fu : Nat} {out : Int32 × St} {kh : St → Int32 → Int32 → Int32 → RR} {kx27 : St → RR} {kx35 : St → RR} (hkh : ∀ {V : St} {M : MH} {x1 : Int32} {x2 : Int32} {x3 : Int32}, Rep E ad V M → kh V x1 x2 x3 = some out → G E X RX12 cX12_isWider 4 (some .boolean) false (rmD 1) P M [some (.ref (ad 2200 0)), some (.int (x1)), some (.int (x2)), some (.int (x3))] 0 0 2 []) (hkx27 : ∀ {V : St} {M : MH} {d0 : Option Value} {d1 : Option Value} {d2 : Option Value} {d3 : Option Value}, Rep E ad V M → kx27 V  = some out → G E X RX12 cX12_isWider 4 (some .boolean) false (rmD 1) P M [d0, d1, d2, d3] 0 0 27 []) (hkx35 : ∀ {V : St} {M : MH} {d0 : Option Value} {d1 : Option Value} {d2 : Option Value} {d3 : Option Value}, Rep E ad V M → kx35 V  = some out → G E X RX12 cX12_isWider 4 (some .boolean) false (rmD 1) P M [d0, d1, d2, d3] 0 0 35 []) (hp : ∀ M, Rep E ad out.2 M → P (some (.int out.1)) M) {V : St} {M : MH} {x1 : Int32} {x2 : Int32} {x3 : Int32} (hR : Rep E ad V M) (h : F_X12_isWider_2 kh kx27 kx35 fu V x1 x2 x3 = some out) : G E X RX12 cX12_isWider 4 (some .boolean) false (rmD 1) P M [some (.ref (ad 2200 0)), some (.int (x1)), some (.int (x2)), some (.int (x3))] 0 0 2 [] := by
  unfold F_X12_isWider_2 at h
  refine r_iload_n DX12_isWider_2 rfl ?_
  refine r_aload_n DX12_isWider_3 rfl ?_
  refine s_geta DX12_isWider_4 fl_X12_64 hR ct_2200 (one_cnt _) rfl ?_
  refine r_iload_n DX12_isWider_7 rfl ?_
  obtain ⟨hg1, h⟩ := gd_inv h
  refine s_iald DX12_isWider_8 hR ct_2223 (one_cnt _) hg1 ?_
  refine r_icmp_ge DX12_isWider_9 (fun c2 => ?_) (fun c2 => ?_)
  · have h := if_t c2 h
    exact hkx35 hR h
  · have h := if_f c2 h
    refine r_aload_n DX12_isWider_12 rfl ?_
    refine s_geta DX12_isWider_13 fl_X12_70 hR ct_2200 (one_cnt _) rfl ?_
    refine r_bipush (v := 9) DX12_isWider_16 kb_9 ?_
    refine r_iload_n DX12_isWider_18 rfl ?_
    refine r_imul DX12_isWider_19 ?_
    refine r_iload_n DX12_isWider_20 rfl ?_
    refine r_iadd DX12_isWider_21 ?_
    obtain ⟨hg3, h⟩ := gd_inv h
    refine s_iald DX12_isWider_22 hR ct_2225 (one_cnt _) hg3 ?_
    refine r_iload_n DX12_isWider_23 rfl ?_
    refine r_icmp_le DX12_isWider_24 (fun c4 => ?_) (fun c4 => ?_)
    · have h := if_t c4 h
      refine t_iinc (v := 1) (L' := [some (.ref (ad 2200 0)), some (.int (x1)), some (.int (x2)), some (.int (x3 + 1))]) DX12_isWider_29 rfl ki_1 (by decide) rfl ?_
      refine r_goto DX12_isWider_32 ?_
      exact hkh hR h
    · have h := if_f c4 h
      exact hkx27 hR h
def Lp_X12_isWider_2 (kx27 : St → RR) (kx35 : St → RR) (fu : Nat) : Nat → St → Int32 → Int32 → Int32 → RR
  | 0, _, _, _, _ => none
  | n + 1, V, x1, x2, x3 => F_X12_isWider_2 (Lp_X12_isWider_2 kx27 kx35 fu n) kx27 kx35 fu V x1 x2 x3
theorem SL_X12_isWider_2 {E : EN} {X : CX} {P : Option Value → MH → Prop} {ad : AD} {fu : Nat} {out : Int32 × St} {kx27 : St → RR} {kx35 : St → RR} (hkx27 : ∀ {V : St} {M : MH} {d0 : Option Value} {d1 : Option Value} {d2 : Option Value} {d3 : Option Value}, Rep E ad V M → kx27 V  = some out → G E X RX12 cX12_isWider 4 (some .boolean) false (rmD 1) P M [d0, d1, d2, d3] 0 0 27 []) (hkx35 : ∀ {V : St} {M : MH} {d0 : Option Value} {d1 : Option Value} {d2 : Option Value} {d3 : Option Value}, Rep E ad V M → kx35 V  = some out → G E X RX12 cX12_isWider 4 (some .boolean) false (rmD 1) P M [d0, d1, d2, d3] 0 0 35 []) (hp : ∀ M, Rep E ad out.2 M → P (some (.int out.1)) M) : ∀ (n : Nat) {V : St} {M : MH} {x1 : Int32} {x2 : Int32} {x3 : Int32}, Rep E ad V M → Lp_X12_isWider_2 kx27 kx35 fu n V x1 x2 x3 = some out → G E X RX12 cX12_isWider 4 (some .boolean) false (rmD 1) P M [some (.ref (ad 2200 0)), some (.int (x1)), some (.int (x2)), some (.int (x3))] 0 0 2 [] := by
  intro n
  induction n with
  | zero => intros; rename_i h; cases h
  | succ n ih => exact fun hR h => S_X12_isWider_2 (fun hR h => ih hR h) (fun hR h => hkx27 hR h) (fun hR h => hkx35 hR h) hp hR h
def f_X12_isWider (fu : Nat) (V : St) (x1 : Int32) (x2 : Int32) : RR :=
  Lp_X12_isWider_2 (F_X12_isWider_27 fu) (F_X12_isWider_35 fu) fu fu V (x1) (x2) ((0 : Int32))
theorem S_X12_isWider_0 {E : EN} {X : CX} {P : Option Value → MH → Prop} {ad : AD} {fu : Nat} {out : Int32 × St} (hp : ∀ M, Rep E ad out.2 M → P (some (.int out.1)) M) {V : St} {M : MH} {x1 : Int32} {x2 : Int32} (hR : Rep E ad V M) (h : f_X12_isWider fu V x1 x2 = some out) : G E X RX12 cX12_isWider 4 (some .boolean) false (rmD 1) P M [some (.ref (ad 2200 0)), some (.int (x1)), some (.int (x2)), none] 0 0 0 [] := by
  unfold f_X12_isWider at h
  refine r_iconst (v := 0) DX12_isWider_0 ki_0 ?_
  refine t_istore_n (L' := [some (.ref (ad 2200 0)), some (.int (x1)), some (.int (x2)), some (.int ((0 : Int32)))]) DX12_isWider_1 (by decide) rfl ?_
  exact SL_X12_isWider_2 (fun hR h => S_X12_isWider_27 hp hR h) (fun hR h => S_X12_isWider_35 hp hR h) hp fu hR h
theorem C_X12_isWider {E : EN} {ad : AD} {fu : Nat} {out : Int32 × St} {V : St} {M : MH} {x1 : Int32} {x2 : Int32} (l : Launch) (hR : Rep E ad V M) (h : f_X12_isWider fu V x1 x2 = some out) : Ct E l yX12_isWider cX12_isWider 4 (some .boolean) (rmD 1) [.ref (ad 2200 0), .int (x1), .int (x2)] M (fun v M => v = (some (.int out.1)) ∧ Rep E ad out.2 M) :=
  Ct.of (own := RX12) (ini := false) (L := [some (.ref (ad 2200 0)), some (.int (x1)), some (.int (x2)), none]) rfl rfl (fun h => by cases h) rfl (Nat.le_of_ble_eq_true rfl) rfl (fun X _ => S_X12_isWider_0 (fun M hR => ⟨rfl, hR⟩) hR h)
def f_X12_jumps (fu : Nat) (V : St) (x1 : Int32) : RR :=
  gd (¬ ((V 2249 0 0) < 0 ∨ 180 ≤ ((V 2249 0 0)).toNatClampNeg)) <| bv (setV V 2252 (0) ((V 2249 0 0)).toNatClampNeg (((1048576 : Int32) * x1) + (V 2248 0 0))) fun V2 => bv (setV V2 2249 0 0 ((V2 2249 0 0) + (1 : Int32))) fun V4 => bd (f_X12_says fu V4 (x1) ((0 : Int32))) fun r6 V7 => bv (setV V7 2243 0 0 ((V7 2243 0 0) + (1 : Int32))) fun V9 => some (0, V9)
theorem S_X12_jumps_0 {E : EN} {X : CX} {P : Option Value → MH → Prop} {ad : AD} {fu : Nat} {out : Int32 × St} (hp : ∀ M, Rep E ad out.2 M → P none M) {V : St} {M : MH} {x1 : Int32} (hR : Rep E ad V M) (h : f_X12_jumps fu V x1 = some out) : G E X RX12 cX12_jumps 2 none false (rmD 2) P M [some (.ref (ad 2200 0)), some (.int (x1))] 0 0 0 [] := by
  unfold f_X12_jumps at h
  refine r_aload_n DX12_jumps_0 rfl ?_
  refine s_geta DX12_jumps_1 fl_X12_123 hR ct_2200 (one_cnt _) rfl ?_
  refine r_aload_n DX12_jumps_4 rfl ?_
  refine s_geti DX12_jumps_5 fl_X12_332 hR ct_2200 (one_cnt _) rfl ?_
  refine r_ldcw (v := 1048576) DX12_jumps_8 ck_X12_328 ?_
  refine r_iload_n DX12_jumps_11 rfl ?_
  refine r_imul DX12_jumps_12 ?_
  refine r_aload_n DX12_jumps_13 rfl ?_
  refine s_geti DX12_jumps_14 fl_X12_325 hR ct_2200 (one_cnt _) rfl ?_
  refine r_iadd DX12_jumps_17 ?_
  obtain ⟨hg1, h⟩ := gd_inv h
  obtain ⟨V2, hv3, h⟩ := bv_inv h
  refine s_iast DX12_jumps_18 hR oka_2252 ct_2252 (one_cnt _) hg1 (fun M hR => ?_)
  have hR := hR.cg hv3
  refine r_aload_n DX12_jumps_19 rfl ?_
  refine r_aload_n DX12_jumps_20 rfl ?_
  refine s_geti DX12_jumps_21 fl_X12_332 hR ct_2200 (one_cnt _) rfl ?_
  refine r_iconst (v := 1) DX12_jumps_24 ki_1 ?_
  refine r_iadd DX12_jumps_25 ?_
  obtain ⟨V4, hv5, h⟩ := bv_inv h
  refine s_puti DX12_jumps_26 fp_X12_332 hR oks_2249 ct_2200 (one_cnt _) rfl rfl rfl (fun M hR => ?_)
  have hR := hR.cg hv5
  refine r_aload_n DX12_jumps_29 rfl ?_
  refine r_iload_n DX12_jumps_30 rfl ?_
  refine r_iconst (v := 0) DX12_jumps_31 ki_0 ?_
  obtain ⟨r6, V7, hc8, h⟩ := bd_inv h
  refine k_callV (As := [.int (x1), .int ((0 : Int32))]) (rest := []) (st1 := []) (w := none) DX12_jumps_32 cv_X12_338 hR ct_2200 (one_cnt _) rfl (C_X12_says (cxL X) hR hc8) rfl (by decide) (by decide) rfl (Nat.le_of_ble_eq_true rfl) rfl (fun M hR => ?_)
  refine r_aload_n DX12_jumps_35 rfl ?_
  refine r_aload_n DX12_jumps_36 rfl ?_
  refine s_geti DX12_jumps_37 fl_X12_302 hR ct_2200 (one_cnt _) rfl ?_
  refine r_iconst (v := 1) DX12_jumps_40 ki_1 ?_
  refine r_iadd DX12_jumps_41 ?_
  obtain ⟨V9, hv10, h⟩ := bv_inv h
  refine s_puti DX12_jumps_42 fp_X12_302 hR oks_2243 ct_2200 (one_cnt _) rfl rfl rfl (fun M hR => ?_)
  have hR := hR.cg hv10
  cases h
  exact r_vret DX12_jumps_45 rfl ⟨Nat.le_refl 0, Nat.le_refl 0⟩ (hp M hR)
theorem C_X12_jumps {E : EN} {ad : AD} {fu : Nat} {out : Int32 × St} {V : St} {M : MH} {x1 : Int32} (l : Launch) (hR : Rep E ad V M) (h : f_X12_jumps fu V x1 = some out) : Ct E l yX12_jumps cX12_jumps 2 none (rmD 2) [.ref (ad 2200 0), .int (x1)] M (fun v M => v = none ∧ Rep E ad out.2 M) :=
  Ct.of (own := RX12) (ini := false) (L := [some (.ref (ad 2200 0)), some (.int (x1))]) rfl rfl (fun h => by cases h) rfl (Nat.le_of_ble_eq_true rfl) rfl (fun X _ => S_X12_jumps_0 (fun M hR => ⟨rfl, hR⟩) hR h)
def F_X12_lengthOf_103 (fu : Nat) (V : St) (x3 : Int32) (x4 : Int32) : RR :=
  some (x3 + x4, V)
theorem S_X12_lengthOf_103 {E : EN} {X : CX} {P : Option Value → MH → Prop} {ad : AD} {fu : Nat} {out : Int32 × St} (hp : ∀ M, Rep E ad out.2 M → P (some (.int out.1)) M) {V : St} {M : MH} {x3 : Int32} {x4 : Int32} {d0 : Option Value} {d1 : Option Value} {d2 : Option Value} {d5 : Option Value} {d6 : Option Value} {d7 : Option Value} (hR : Rep E ad V M) (h : F_X12_lengthOf_103 fu V x3 x4 = some out) : G E X RX12 cX12_lengthOf 8 (some .int) false (rmD 1) P M [d0, d1, d2, some (.int (x3)), some (.int (x4)), d5, d6, d7] 0 0 103 [] := by
  unfold F_X12_lengthOf_103 at h
  refine r_iload_n DX12_lengthOf_103 rfl ?_
  refine r_iload DX12_lengthOf_104 rfl ?_
  refine r_iadd DX12_lengthOf_106 ?_
  cases h
  exact r_iret DX12_lengthOf_107 rfl ⟨Nat.le_refl 0, Nat.le_refl 0⟩ (hp M hR)
def F_X12_lengthOf_95 (kh : St → Int32 → Int32 → Int32 → Int32 → Int32 → Int32 → RR) (kx103 : St → Int32 → Int32 → RR) (fu : Nat) (V : St) (x1 : Int32) (x2 : Int32) (x3 : Int32) (x5 : Int32) (x6 : Int32) (s0 : Int32) : RR :=
  kh V (x1) (x2) (x3) (s0) (x5) (x6 + 1)
theorem S_X12_lengthOf_95 {E : EN} {X : CX} {P : Option Value → MH → Prop} {ad : AD} {fu : Nat} {out : Int32 × St} {kh : St → Int32 → Int32 → Int32 → Int32 → Int32 → Int32 → RR} {kx103 : St → Int32 → Int32 → RR} (hkh : ∀ {V : St} {M : MH} {x1 : Int32} {x2 : Int32} {x3 : Int32} {x4 : Int32} {x5 : Int32} {x6 : Int32} {d7 : Option Value}, Rep E ad V M → kh V x1 x2 x3 x4 x5 x6 = some out → G E X RX12 cX12_lengthOf 8 (some .int) false (rmD 1) P M [some (.ref (ad 2200 0)), some (.int (x1)), some (.int (x2)), some (.int (x3)), some (.int (x4)), some (.int (x5)), some (.int (x6)), d7] 0 0 11 []) (hkx103 : ∀ {V : St} {M : MH} {x3 : Int32} {x4 : Int32} {d0 : Option Value} {d1 : Option Value} {d2 : Option Value} {d5 : Option Value} {d6 : Option Value} {d7 : Option Value}, Rep E ad V M → kx103 V x3 x4 = some out → G E X RX12 cX12_lengthOf 8 (some .int) false (rmD 1) P M [d0, d1, d2, some (.int (x3)), some (.int (x4)), d5, d6, d7] 0 0 103 []) (hp : ∀ M, Rep E ad out.2 M → P (some (.int out.1)) M) {V : St} {M : MH} {x1 : Int32} {x2 : Int32} {x3 : Int32} {x5 : Int32} {x6 : Int32} {s0 : Int32} {d4 : Option Value} {d7 : Option Value} (hR : Rep E ad V M) (h : F_X12_lengthOf_95 kh kx103 fu V x1 x2 x3 x5 x6 s0 = some out) : G E X RX12 cX12_lengthOf 8 (some .int) false (rmD 1) P M [some (.ref (ad 2200 0)), some (.int (x1)), some (.int (x2)), some (.int (x3)), d4, some (.int (x5)), some (.int (x6)), d7] 0 0 95 [.int (s0)] := by
  unfold F_X12_lengthOf_95 at h
  refine t_istore (L' := [some (.ref (ad 2200 0)), some (.int (x1)), some (.int (x2)), some (.int (x3)), some (.int (s0)), some (.int (x5)), some (.int (x6)), d7]) DX12_lengthOf_95 (by decide) rfl ?_
  refine t_iinc (v := 1) (L' := [some (.ref (ad 2200 0)), some (.int (x1)), some (.int (x2)), some (.int (x3)), some (.int (s0)), some (.int (x5)), some (.int (x6 + 1)), d7]) DX12_lengthOf_97 rfl ki_1 (by decide) rfl ?_
  refine r_goto DX12_lengthOf_100 ?_
  exact hkh hR h
def F_X12_lengthOf_59 (kh : St → Int32 → Int32 → Int32 → Int32 → Int32 → Int32 → RR) (kx103 : St → Int32 → Int32 → RR) (fu : Nat) (V : St) (x1 : Int32) (x2 : Int32) (x3 : Int32) (x4 : Int32) (x5 : Int32) (x6 : Int32) (x7 : Int32) : RR :=
  gd (¬ (x7 < 0 ∨ 270 ≤ (x7).toNatClampNeg)) <| gd (¬ (x7 < 0 ∨ 270 ≤ (x7).toNatClampNeg)) <| if (V 2224 (0) (x7).toNatClampNeg) ≤ x4 then
    (F_X12_lengthOf_95 kh kx103 fu V (x1) (x2) (x3) (x5 - (V 2225 (0) (x7).toNatClampNeg)) (x6) (x4))
    else
    (gd (¬ (x7 < 0 ∨ 270 ≤ (x7).toNatClampNeg)) <| F_X12_lengthOf_95 kh kx103 fu V (x1) (x2) (x3) (x5 - (V 2225 (0) (x7).toNatClampNeg)) (x6) ((V 2224 (0) (x7).toNatClampNeg)))
theorem S_X12_lengthOf_59 {E : EN} {X : CX} {P : Option Value → MH → Prop} {ad : AD} {fu : Nat} {out : Int32 × St} {kh : St → Int32 → Int32 → Int32 → Int32 → Int32 → Int32 → RR} {kx103 : St → Int32 → Int32 → RR} (hkh : ∀ {V : St} {M : MH} {x1 : Int32} {x2 : Int32} {x3 : Int32} {x4 : Int32} {x5 : Int32} {x6 : Int32} {d7 : Option Value}, Rep E ad V M → kh V x1 x2 x3 x4 x5 x6 = some out → G E X RX12 cX12_lengthOf 8 (some .int) false (rmD 1) P M [some (.ref (ad 2200 0)), some (.int (x1)), some (.int (x2)), some (.int (x3)), some (.int (x4)), some (.int (x5)), some (.int (x6)), d7] 0 0 11 []) (hkx103 : ∀ {V : St} {M : MH} {x3 : Int32} {x4 : Int32} {d0 : Option Value} {d1 : Option Value} {d2 : Option Value} {d5 : Option Value} {d6 : Option Value} {d7 : Option Value}, Rep E ad V M → kx103 V x3 x4 = some out → G E X RX12 cX12_lengthOf 8 (some .int) false (rmD 1) P M [d0, d1, d2, some (.int (x3)), some (.int (x4)), d5, d6, d7] 0 0 103 []) (hp : ∀ M, Rep E ad out.2 M → P (some (.int out.1)) M) {V : St} {M : MH} {x1 : Int32} {x2 : Int32} {x3 : Int32} {x4 : Int32} {x5 : Int32} {x6 : Int32} {x7 : Int32} (hR : Rep E ad V M) (h : F_X12_lengthOf_59 kh kx103 fu V x1 x2 x3 x4 x5 x6 x7 = some out) : G E X RX12 cX12_lengthOf 8 (some .int) false (rmD 1) P M [some (.ref (ad 2200 0)), some (.int (x1)), some (.int (x2)), some (.int (x3)), some (.int (x4)), some (.int (x5)), some (.int (x6)), some (.int (x7))] 0 0 59 [] := by
  unfold F_X12_lengthOf_59 at h
  refine r_iload DX12_lengthOf_59 rfl ?_
  refine r_aload_n DX12_lengthOf_61 rfl ?_
  refine s_geta DX12_lengthOf_62 fl_X12_70 hR ct_2200 (one_cnt _) rfl ?_
  refine r_iload DX12_lengthOf_65 rfl ?_
  obtain ⟨hg1, h⟩ := gd_inv h
  refine s_iald DX12_lengthOf_67 hR ct_2225 (one_cnt _) hg1 ?_
  refine r_isub DX12_lengthOf_68 ?_
  refine t_istore (L' := [some (.ref (ad 2200 0)), some (.int (x1)), some (.int (x2)), some (.int (x3)), some (.int (x4)), some (.int (x5 - (V 2225 (0) (x7).toNatClampNeg))), some (.int (x6)), some (.int (x7))]) DX12_lengthOf_69 (by decide) rfl ?_
  refine r_aload_n DX12_lengthOf_71 rfl ?_
  refine s_geta DX12_lengthOf_72 fl_X12_67 hR ct_2200 (one_cnt _) rfl ?_
  refine r_iload DX12_lengthOf_75 rfl ?_
  obtain ⟨hg2, h⟩ := gd_inv h
  refine s_iald DX12_lengthOf_77 hR ct_2224 (one_cnt _) hg2 ?_
  refine r_iload DX12_lengthOf_78 rfl ?_
  refine r_icmp_le DX12_lengthOf_80 (fun c3 => ?_) (fun c3 => ?_)
  · have h := if_t c3 h
    refine r_iload DX12_lengthOf_93 rfl ?_
    exact S_X12_lengthOf_95 (fun hR h => hkh hR h) (fun hR h => hkx103 hR h) hp hR h
  · have h := if_f c3 h
    refine r_aload_n DX12_lengthOf_83 rfl ?_
    refine s_geta DX12_lengthOf_84 fl_X12_67 hR ct_2200 (one_cnt _) rfl ?_
    refine r_iload DX12_lengthOf_87 rfl ?_
    obtain ⟨hg4, h⟩ := gd_inv h
    refine s_iald DX12_lengthOf_89 hR ct_2224 (one_cnt _) hg4 ?_
    refine r_goto DX12_lengthOf_90 ?_
    exact S_X12_lengthOf_95 (fun hR h => hkh hR h) (fun hR h => hkx103 hR h) hp hR h
def F_X12_lengthOf_11 (kh : St → Int32 → Int32 → Int32 → Int32 → Int32 → Int32 → RR) (kx103 : St → Int32 → Int32 → RR) (fu : Nat) (V : St) (x1 : Int32) (x2 : Int32) (x3 : Int32) (x4 : Int32) (x5 : Int32) (x6 : Int32) : RR :=
  gd (¬ (x1 < 0 ∨ 30 ≤ (x1).toNatClampNeg)) <| if (V 2223 (0) (x1).toNatClampNeg) ≤ x6 then
    (kx103 V (x3) (x4))
    else
    (gd (¬ (x6 < 0 ∨ 9 ≤ (x6).toNatClampNeg)) <| gd (¬ (((9 : Int32) * x1) + (V 2230 (0) (x6).toNatClampNeg) < 0 ∨ 270 ≤ (((9 : Int32) * x1) + (V 2230 (0) (x6).toNatClampNeg)).toNatClampNeg)) <| if (V 2225 (0) (((9 : Int32) * x1) + (V 2230 (0) (x6).toNatClampNeg)).toNatClampNeg) ≤ x5 then
      (F_X12_lengthOf_59 kh kx103 fu V (x1) (x2) (x3) (x4) (x5) (x6) (((9 : Int32) * x1) + (V 2230 (0) (x6).toNatClampNeg)))
      else
      (F_X12_lengthOf_59 kh kx103 fu V (x1) (x2) (x3 + x4) ((0 : Int32)) (x2) (x6) (((9 : Int32) * x1) + (V 2230 (0) (x6).toNatClampNeg))))
theorem S_X12_lengthOf_11 {E : EN} {X : CX} {P : Option Value → MH → Prop} {ad : AD} {fu : Nat} {out : Int32 × St} {kh : St → Int32 → Int32 → Int32 → Int32 → Int32 → Int32 → RR} {kx103 : St → Int32 → Int32 → RR} (hkh : ∀ {V : St} {M : MH} {x1 : Int32} {x2 : Int32} {x3 : Int32} {x4 : Int32} {x5 : Int32} {x6 : Int32} {d7 : Option Value}, Rep E ad V M → kh V x1 x2 x3 x4 x5 x6 = some out → G E X RX12 cX12_lengthOf 8 (some .int) false (rmD 1) P M [some (.ref (ad 2200 0)), some (.int (x1)), some (.int (x2)), some (.int (x3)), some (.int (x4)), some (.int (x5)), some (.int (x6)), d7] 0 0 11 []) (hkx103 : ∀ {V : St} {M : MH} {x3 : Int32} {x4 : Int32} {d0 : Option Value} {d1 : Option Value} {d2 : Option Value} {d5 : Option Value} {d6 : Option Value} {d7 : Option Value}, Rep E ad V M → kx103 V x3 x4 = some out → G E X RX12 cX12_lengthOf 8 (some .int) false (rmD 1) P M [d0, d1, d2, some (.int (x3)), some (.int (x4)), d5, d6, d7] 0 0 103 []) (hp : ∀ M, Rep E ad out.2 M → P (some (.int out.1)) M) {V : St} {M : MH} {x1 : Int32} {x2 : Int32} {x3 : Int32} {x4 : Int32} {x5 : Int32} {x6 : Int32} {d7 : Option Value} (hR : Rep E ad V M) (h : F_X12_lengthOf_11 kh kx103 fu V x1 x2 x3 x4 x5 x6 = some out) : G E X RX12 cX12_lengthOf 8 (some .int) false (rmD 1) P M [some (.ref (ad 2200 0)), some (.int (x1)), some (.int (x2)), some (.int (x3)), some (.int (x4)), some (.int (x5)), some (.int (x6)), d7] 0 0 11 [] := by
  unfold F_X12_lengthOf_11 at h
  refine r_iload DX12_lengthOf_11 rfl ?_
  refine r_aload_n DX12_lengthOf_13 rfl ?_
  refine s_geta DX12_lengthOf_14 fl_X12_64 hR ct_2200 (one_cnt _) rfl ?_
  refine r_iload_n DX12_lengthOf_17 rfl ?_
  obtain ⟨hg1, h⟩ := gd_inv h
  refine s_iald DX12_lengthOf_18 hR ct_2223 (one_cnt _) hg1 ?_
  refine r_icmp_ge DX12_lengthOf_19 (fun c2 => ?_) (fun c2 => ?_)
  · have h := if_t c2 h
    exact hkx103 hR h
  · have h := if_f c2 h
    refine r_bipush (v := 9) DX12_lengthOf_22 kb_9 ?_
    refine r_iload_n DX12_lengthOf_24 rfl ?_
    refine r_imul DX12_lengthOf_25 ?_
    refine r_aload_n DX12_lengthOf_26 rfl ?_
    refine s_geta DX12_lengthOf_27 fl_X12_85 hR ct_2200 (one_cnt _) rfl ?_
    refine r_iload DX12_lengthOf_30 rfl ?_
    obtain ⟨hg3, h⟩ := gd_inv h
    refine s_iald DX12_lengthOf_32 hR ct_2230 (one_cnt _) hg3 ?_
    refine r_iadd DX12_lengthOf_33 ?_
    refine t_istore (L' := [some (.ref (ad 2200 0)), some (.int (x1)), some (.int (x2)), some (.int (x3)), some (.int (x4)), some (.int (x5)), some (.int (x6)), some (.int (((9 : Int32) * x1) + (V 2230 (0) (x6).toNatClampNeg)))]) DX12_lengthOf_34 (by decide) rfl ?_
    refine r_iload DX12_lengthOf_36 rfl ?_
    refine r_aload_n DX12_lengthOf_38 rfl ?_
    refine s_geta DX12_lengthOf_39 fl_X12_70 hR ct_2200 (one_cnt _) rfl ?_
    refine r_iload DX12_lengthOf_42 rfl ?_
    obtain ⟨hg4, h⟩ := gd_inv h
    refine s_iald DX12_lengthOf_44 hR ct_2225 (one_cnt _) hg4 ?_
    refine r_icmp_ge DX12_lengthOf_45 (fun c5 => ?_) (fun c5 => ?_)
    · have h := if_t c5 h
      exact S_X12_lengthOf_59 (fun hR h => hkh hR h) (fun hR h => hkx103 hR h) hp hR h
    · have h := if_f c5 h
      refine r_iload_n DX12_lengthOf_48 rfl ?_
      refine r_iload DX12_lengthOf_49 rfl ?_
      refine r_iadd DX12_lengthOf_51 ?_
      refine t_istore_n (L' := [some (.ref (ad 2200 0)), some (.int (x1)), some (.int (x2)), some (.int (x3 + x4)), some (.int (x4)), some (.int (x5)), some (.int (x6)), some (.int (((9 : Int32) * x1) + (V 2230 (0) (x6).toNatClampNeg)))]) DX12_lengthOf_52 (by decide) rfl ?_
      refine r_iconst (v := 0) DX12_lengthOf_53 ki_0 ?_
      refine t_istore (L' := [some (.ref (ad 2200 0)), some (.int (x1)), some (.int (x2)), some (.int (x3 + x4)), some (.int ((0 : Int32))), some (.int (x5)), some (.int (x6)), some (.int (((9 : Int32) * x1) + (V 2230 (0) (x6).toNatClampNeg)))]) DX12_lengthOf_54 (by decide) rfl ?_
      refine r_iload_n DX12_lengthOf_56 rfl ?_
      refine t_istore (L' := [some (.ref (ad 2200 0)), some (.int (x1)), some (.int (x2)), some (.int (x3 + x4)), some (.int ((0 : Int32))), some (.int (x2)), some (.int (x6)), some (.int (((9 : Int32) * x1) + (V 2230 (0) (x6).toNatClampNeg)))]) DX12_lengthOf_57 (by decide) rfl ?_
      exact S_X12_lengthOf_59 (fun hR h => hkh hR h) (fun hR h => hkx103 hR h) hp hR h
def Lp_X12_lengthOf_11 (kx103 : St → Int32 → Int32 → RR) (fu : Nat) : Nat → St → Int32 → Int32 → Int32 → Int32 → Int32 → Int32 → RR
  | 0, _, _, _, _, _, _, _ => none
  | n + 1, V, x1, x2, x3, x4, x5, x6 => F_X12_lengthOf_11 (Lp_X12_lengthOf_11 kx103 fu n) kx103 fu V x1 x2 x3 x4 x5 x6
theorem SL_X12_lengthOf_11 {E : EN} {X : CX} {P : Option Value → MH → Prop} {ad : AD} {fu : Nat} {out : Int32 × St} {kx103 : St → Int32 → Int32 → RR} (hkx103 : ∀ {V : St} {M : MH} {x3 : Int32} {x4 : Int32} {d0 : Option Value} {d1 : Option Value} {d2 : Option Value} {d5 : Option Value} {d6 : Option Value} {d7 : Option Value}, Rep E ad V M → kx103 V x3 x4 = some out → G E X RX12 cX12_lengthOf 8 (some .int) false (rmD 1) P M [d0, d1, d2, some (.int (x3)), some (.int (x4)), d5, d6, d7] 0 0 103 []) (hp : ∀ M, Rep E ad out.2 M → P (some (.int out.1)) M) : ∀ (n : Nat) {V : St} {M : MH} {x1 : Int32} {x2 : Int32} {x3 : Int32} {x4 : Int32} {x5 : Int32} {x6 : Int32} {d7 : Option Value}, Rep E ad V M → Lp_X12_lengthOf_11 kx103 fu n V x1 x2 x3 x4 x5 x6 = some out → G E X RX12 cX12_lengthOf 8 (some .int) false (rmD 1) P M [some (.ref (ad 2200 0)), some (.int (x1)), some (.int (x2)), some (.int (x3)), some (.int (x4)), some (.int (x5)), some (.int (x6)), d7] 0 0 11 [] := by
  intro n
  induction n with
  | zero => intros; rename_i h; cases h
  | succ n ih => exact fun hR h => S_X12_lengthOf_11 (fun hR h => ih hR h) (fun hR h => hkx103 hR h) hp hR h
def f_X12_lengthOf (fu : Nat) (V : St) (x1 : Int32) (x2 : Int32) : RR :=
  Lp_X12_lengthOf_11 (F_X12_lengthOf_103 fu) fu fu V (x1) (x2) ((0 : Int32)) ((0 : Int32)) ((0 : Int32)) ((0 : Int32))
theorem S_X12_lengthOf_0 {E : EN} {X : CX} {P : Option Value → MH → Prop} {ad : AD} {fu : Nat} {out : Int32 × St} (hp : ∀ M, Rep E ad out.2 M → P (some (.int out.1)) M) {V : St} {M : MH} {x1 : Int32} {x2 : Int32} (hR : Rep E ad V M) (h : f_X12_lengthOf fu V x1 x2 = some out) : G E X RX12 cX12_lengthOf 8 (some .int) false (rmD 1) P M [some (.ref (ad 2200 0)), some (.int (x1)), some (.int (x2)), none, none, none, none, none] 0 0 0 [] := by
  unfold f_X12_lengthOf at h
  refine r_iconst (v := 0) DX12_lengthOf_0 ki_0 ?_
  refine t_istore_n (L' := [some (.ref (ad 2200 0)), some (.int (x1)), some (.int (x2)), some (.int ((0 : Int32))), none, none, none, none]) DX12_lengthOf_1 (by decide) rfl ?_
  refine r_iconst (v := 0) DX12_lengthOf_2 ki_0 ?_
  refine t_istore (L' := [some (.ref (ad 2200 0)), some (.int (x1)), some (.int (x2)), some (.int ((0 : Int32))), some (.int ((0 : Int32))), none, none, none]) DX12_lengthOf_3 (by decide) rfl ?_
  refine r_iconst (v := 0) DX12_lengthOf_5 ki_0 ?_
  refine t_istore (L' := [some (.ref (ad 2200 0)), some (.int (x1)), some (.int (x2)), some (.int ((0 : Int32))), some (.int ((0 : Int32))), some (.int ((0 : Int32))), none, none]) DX12_lengthOf_6 (by decide) rfl ?_
  refine r_iconst (v := 0) DX12_lengthOf_8 ki_0 ?_
  refine t_istore (L' := [some (.ref (ad 2200 0)), some (.int (x1)), some (.int (x2)), some (.int ((0 : Int32))), some (.int ((0 : Int32))), some (.int ((0 : Int32))), some (.int ((0 : Int32))), none]) DX12_lengthOf_9 (by decide) rfl ?_
  exact SL_X12_lengthOf_11 (fun hR h => S_X12_lengthOf_103 hp hR h) hp fu hR h
theorem C_X12_lengthOf {E : EN} {ad : AD} {fu : Nat} {out : Int32 × St} {V : St} {M : MH} {x1 : Int32} {x2 : Int32} (l : Launch) (hR : Rep E ad V M) (h : f_X12_lengthOf fu V x1 x2 = some out) : Ct E l yX12_lengthOf cX12_lengthOf 8 (some .int) (rmD 1) [.ref (ad 2200 0), .int (x1), .int (x2)] M (fun v M => v = (some (.int out.1)) ∧ Rep E ad out.2 M) :=
  Ct.of (own := RX12) (ini := false) (L := [some (.ref (ad 2200 0)), some (.int (x1)), some (.int (x2)), none, none, none, none, none]) rfl rfl (fun h => by cases h) rfl (Nat.le_of_ble_eq_true rfl) rfl (fun X _ => S_X12_lengthOf_0 (fun M hR => ⟨rfl, hR⟩) hR h)
def F_X12_laid_138 (fu : Nat) (V : St) (x1 : Int32) (x2 : Int32) : RR :=
  bd (f_X12_lengthOf fu V (x1) (x2)) fun r1 V2 => some (r1, V2)
theorem S_X12_laid_138 {E : EN} {X : CX} {P : Option Value → MH → Prop} {ad : AD} {fu : Nat} {out : Int32 × St} (hp : ∀ M, Rep E ad out.2 M → P (some (.int out.1)) M) {V : St} {M : MH} {x1 : Int32} {x2 : Int32} {d3 : Option Value} {d4 : Option Value} {d5 : Option Value} {d6 : Option Value} (hR : Rep E ad V M) (h : F_X12_laid_138 fu V x1 x2 = some out) : G E X RX12 cX12_laid 7 (some .int) false (rmD 2) P M [some (.ref (ad 2200 0)), some (.int (x1)), some (.int (x2)), d3, d4, d5, d6] 0 0 138 [] := by
  unfold F_X12_laid_138 at h
  refine r_aload_n DX12_laid_138 rfl ?_
  refine r_iload_n DX12_laid_139 rfl ?_
  refine r_iload_n DX12_laid_140 rfl ?_
  obtain ⟨r1, V2, hc3, h⟩ := bd_inv h
  refine k_callV (As := [.int (x1), .int (x2)]) (rest := []) (st1 := [.int (r1)]) (w := some (.int r1)) DX12_laid_141 cv_X12_281 hR ct_2200 (one_cnt _) rfl (C_X12_lengthOf (cxL X) hR hc3) rfl (by decide) (by decide) rfl (Nat.le_of_ble_eq_true rfl) rfl (fun M hR => ?_)
  cases h
  exact r_iret DX12_laid_144 rfl ⟨Nat.le_refl 0, Nat.le_refl 0⟩ (hp M hR)
def F_X12_laid_111 (fu : Nat) (V : St) : RR :=
  some ((-2 : Int32), V)
theorem S_X12_laid_111 {E : EN} {X : CX} {P : Option Value → MH → Prop} {ad : AD} {fu : Nat} {out : Int32 × St} (hp : ∀ M, Rep E ad out.2 M → P (some (.int out.1)) M) {V : St} {M : MH} {d0 : Option Value} {d1 : Option Value} {d2 : Option Value} {d3 : Option Value} {d4 : Option Value} {d5 : Option Value} {d6 : Option Value} (hR : Rep E ad V M) (h : F_X12_laid_111 fu V = some out) : G E X RX12 cX12_laid 7 (some .int) false (rmD 2) P M [d0, d1, d2, d3, d4, d5, d6] 0 0 111 [] := by
  unfold F_X12_laid_111 at h
  refine r_bipush (v := -2) DX12_laid_111 kb_m2 ?_
  cases h
  exact r_iret DX12_laid_113 rfl ⟨Nat.le_refl 0, Nat.le_refl 0⟩ (hp M hR)
def F_X12_laid_75 (kh : St → Int32 → Int32 → Int32 → Int32 → Int32 → RR) (kx111 : St → RR) (kx138 : St → Int32 → Int32 → RR) (fu : Nat) (V : St) (x1 : Int32) (x2 : Int32) (x3 : Int32) (x4 : Int32) (x5 : Int32) : RR :=
  if x3 ≤ x5 then
    (kx138 V (x1) (x2))
    else
    (gd (¬ (x5 < 0 ∨ 400 ≤ (x5).toNatClampNeg)) <| if x3 ≤ (V 2241 (0) (x5).toNatClampNeg) &&& (255 : Int32) then
      (kx111 V)
      else
      (if (x4 >>> (((V 2241 (0) (x5).toNatClampNeg) &&& (255 : Int32)) &&& 31)) &&& (1 : Int32) = (1 : Int32) then
        (kx111 V)
        else
        (gd (¬ (x5 < 0 ∨ 9 ≤ (x5).toNatClampNeg)) <| bv (setV V 2230 (0) (x5).toNatClampNeg ((V 2241 (0) (x5).toNatClampNeg) &&& (255 : Int32))) fun V6 => kh V6 (x1) (x2) (x3) (x4 ||| ((1 : Int32) <<< (((V 2241 (0) (x5).toNatClampNeg) &&& (255 : Int32)) &&& 31))) (x5 + 1))))
theorem S_X12_laid_75 {E : EN} {X : CX} {P : Option Value → MH → Prop} {ad : AD} {fu : Nat} {out : Int32 × St} {kh : St → Int32 → Int32 → Int32 → Int32 → Int32 → RR} {kx111 : St → RR} {kx138 : St → Int32 → Int32 → RR} (hkh : ∀ {V : St} {M : MH} {x1 : Int32} {x2 : Int32} {x3 : Int32} {x4 : Int32} {x5 : Int32} {d6 : Option Value}, Rep E ad V M → kh V x1 x2 x3 x4 x5 = some out → G E X RX12 cX12_laid 7 (some .int) false (rmD 2) P M [some (.ref (ad 2200 0)), some (.int (x1)), some (.int (x2)), some (.int (x3)), some (.int (x4)), some (.int (x5)), d6] 0 0 75 []) (hkx111 : ∀ {V : St} {M : MH} {d0 : Option Value} {d1 : Option Value} {d2 : Option Value} {d3 : Option Value} {d4 : Option Value} {d5 : Option Value} {d6 : Option Value}, Rep E ad V M → kx111 V  = some out → G E X RX12 cX12_laid 7 (some .int) false (rmD 2) P M [d0, d1, d2, d3, d4, d5, d6] 0 0 111 []) (hkx138 : ∀ {V : St} {M : MH} {x1 : Int32} {x2 : Int32} {d3 : Option Value} {d4 : Option Value} {d5 : Option Value} {d6 : Option Value}, Rep E ad V M → kx138 V x1 x2 = some out → G E X RX12 cX12_laid 7 (some .int) false (rmD 2) P M [some (.ref (ad 2200 0)), some (.int (x1)), some (.int (x2)), d3, d4, d5, d6] 0 0 138 []) (hp : ∀ M, Rep E ad out.2 M → P (some (.int out.1)) M) {V : St} {M : MH} {x1 : Int32} {x2 : Int32} {x3 : Int32} {x4 : Int32} {x5 : Int32} {d6 : Option Value} (hR : Rep E ad V M) (h : F_X12_laid_75 kh kx111 kx138 fu V x1 x2 x3 x4 x5 = some out) : G E X RX12 cX12_laid 7 (some .int) false (rmD 2) P M [some (.ref (ad 2200 0)), some (.int (x1)), some (.int (x2)), some (.int (x3)), some (.int (x4)), some (.int (x5)), d6] 0 0 75 [] := by
  unfold F_X12_laid_75 at h
  refine r_iload DX12_laid_75 rfl ?_
  refine r_iload_n DX12_laid_77 rfl ?_
  refine r_icmp_ge DX12_laid_78 (fun c1 => ?_) (fun c1 => ?_)
  · have h := if_t c1 h
    exact hkx138 hR h
  · have h := if_f c1 h
    refine r_aload_n DX12_laid_81 rfl ?_
    refine s_geta DX12_laid_82 fl_X12_116 hR ct_2200 (one_cnt _) rfl ?_
    refine r_iload DX12_laid_85 rfl ?_
    obtain ⟨hg2, h⟩ := gd_inv h
    refine s_bald DX12_laid_87 hR ct_2241 (one_cnt _) hg2 ?_
    refine r_sipush (v := 255) DX12_laid_88 ks_255 ?_
    refine r_iand DX12_laid_91 ?_
    refine t_istore (L' := [some (.ref (ad 2200 0)), some (.int (x1)), some (.int (x2)), some (.int (x3)), some (.int (x4)), some (.int (x5)), some (.int ((V 2241 (0) (x5).toNatClampNeg) &&& (255 : Int32)))]) DX12_laid_92 (by decide) rfl ?_
    refine r_iload DX12_laid_94 rfl ?_
    refine r_iload_n DX12_laid_96 rfl ?_
    refine r_icmp_ge DX12_laid_97 (fun c3 => ?_) (fun c3 => ?_)
    · have h := if_t c3 h
      exact hkx111 hR h
    · have h := if_f c3 h
      refine r_iload DX12_laid_100 rfl ?_
      refine r_iload DX12_laid_102 rfl ?_
      refine r_ishr DX12_laid_104 ?_
      refine r_iconst (v := 1) DX12_laid_105 ki_1 ?_
      refine r_iand DX12_laid_106 ?_
      refine r_iconst (v := 1) DX12_laid_107 ki_1 ?_
      refine r_icmp_ne DX12_laid_108 (fun c4 => ?_) (fun c4 => ?_)
      · have h := if_f c4 h
        refine r_iload DX12_laid_114 rfl ?_
        refine r_iconst (v := 1) DX12_laid_116 ki_1 ?_
        refine r_iload DX12_laid_117 rfl ?_
        refine r_ishl DX12_laid_119 ?_
        refine r_ior DX12_laid_120 ?_
        refine t_istore (L' := [some (.ref (ad 2200 0)), some (.int (x1)), some (.int (x2)), some (.int (x3)), some (.int (x4 ||| ((1 : Int32) <<< (((V 2241 (0) (x5).toNatClampNeg) &&& (255 : Int32)) &&& 31)))), some (.int (x5)), some (.int ((V 2241 (0) (x5).toNatClampNeg) &&& (255 : Int32)))]) DX12_laid_121 (by decide) rfl ?_
        refine r_aload_n DX12_laid_123 rfl ?_
        refine s_geta DX12_laid_124 fl_X12_85 hR ct_2200 (one_cnt _) rfl ?_
        refine r_iload DX12_laid_127 rfl ?_
        refine r_iload DX12_laid_129 rfl ?_
        obtain ⟨hg5, h⟩ := gd_inv h
        obtain ⟨V6, hv7, h⟩ := bv_inv h
        refine s_iast DX12_laid_131 hR oka_2230 ct_2230 (one_cnt _) hg5 (fun M hR => ?_)
        have hR := hR.cg hv7
        refine t_iinc (v := 1) (L' := [some (.ref (ad 2200 0)), some (.int (x1)), some (.int (x2)), some (.int (x3)), some (.int (x4 ||| ((1 : Int32) <<< (((V 2241 (0) (x5).toNatClampNeg) &&& (255 : Int32)) &&& 31)))), some (.int (x5 + 1)), some (.int ((V 2241 (0) (x5).toNatClampNeg) &&& (255 : Int32)))]) DX12_laid_132 rfl ki_1 (by decide) rfl ?_
        refine r_goto DX12_laid_135 ?_
        exact hkh hR h
      · have h := if_t c4 h
        exact hkx111 hR h
def Lp_X12_laid_75 (kx111 : St → RR) (kx138 : St → Int32 → Int32 → RR) (fu : Nat) : Nat → St → Int32 → Int32 → Int32 → Int32 → Int32 → RR
  | 0, _, _, _, _, _, _ => none
  | n + 1, V, x1, x2, x3, x4, x5 => F_X12_laid_75 (Lp_X12_laid_75 kx111 kx138 fu n) kx111 kx138 fu V x1 x2 x3 x4 x5
theorem SL_X12_laid_75 {E : EN} {X : CX} {P : Option Value → MH → Prop} {ad : AD} {fu : Nat} {out : Int32 × St} {kx111 : St → RR} {kx138 : St → Int32 → Int32 → RR} (hkx111 : ∀ {V : St} {M : MH} {d0 : Option Value} {d1 : Option Value} {d2 : Option Value} {d3 : Option Value} {d4 : Option Value} {d5 : Option Value} {d6 : Option Value}, Rep E ad V M → kx111 V  = some out → G E X RX12 cX12_laid 7 (some .int) false (rmD 2) P M [d0, d1, d2, d3, d4, d5, d6] 0 0 111 []) (hkx138 : ∀ {V : St} {M : MH} {x1 : Int32} {x2 : Int32} {d3 : Option Value} {d4 : Option Value} {d5 : Option Value} {d6 : Option Value}, Rep E ad V M → kx138 V x1 x2 = some out → G E X RX12 cX12_laid 7 (some .int) false (rmD 2) P M [some (.ref (ad 2200 0)), some (.int (x1)), some (.int (x2)), d3, d4, d5, d6] 0 0 138 []) (hp : ∀ M, Rep E ad out.2 M → P (some (.int out.1)) M) : ∀ (n : Nat) {V : St} {M : MH} {x1 : Int32} {x2 : Int32} {x3 : Int32} {x4 : Int32} {x5 : Int32} {d6 : Option Value}, Rep E ad V M → Lp_X12_laid_75 kx111 kx138 fu n V x1 x2 x3 x4 x5 = some out → G E X RX12 cX12_laid 7 (some .int) false (rmD 2) P M [some (.ref (ad 2200 0)), some (.int (x1)), some (.int (x2)), some (.int (x3)), some (.int (x4)), some (.int (x5)), d6] 0 0 75 [] := by
  intro n
  induction n with
  | zero => intros; rename_i h; cases h
  | succ n ih => exact fun hR h => S_X12_laid_75 (fun hR h => ih hR h) (fun hR h => hkx111 hR h) (fun hR h => hkx138 hR h) hp hR h
def F_X12_laid_66 (fu : Nat) (V : St) : RR :=
  some ((-2 : Int32), V)
theorem S_X12_laid_66 {E : EN} {X : CX} {P : Option Value → MH → Prop} {ad : AD} {fu : Nat} {out : Int32 × St} (hp : ∀ M, Rep E ad out.2 M → P (some (.int out.1)) M) {V : St} {M : MH} {d0 : Option Value} {d1 : Option Value} {d2 : Option Value} {d3 : Option Value} {d4 : Option Value} {d5 : Option Value} {d6 : Option Value} (hR : Rep E ad V M) (h : F_X12_laid_66 fu V = some out) : G E X RX12 cX12_laid 7 (some .int) false (rmD 2) P M [d0, d1, d2, d3, d4, d5, d6] 0 0 66 [] := by
  unfold F_X12_laid_66 at h
  refine r_bipush (v := -2) DX12_laid_66 kb_m2 ?_
  cases h
  exact r_iret DX12_laid_68 rfl ⟨Nat.le_refl 0, Nat.le_refl 0⟩ (hp M hR)
def F_X12_laid_40 (fu : Nat) (V : St) : RR :=
  some ((-1 : Int32), V)
theorem S_X12_laid_40 {E : EN} {X : CX} {P : Option Value → MH → Prop} {ad : AD} {fu : Nat} {out : Int32 × St} (hp : ∀ M, Rep E ad out.2 M → P (some (.int out.1)) M) {V : St} {M : MH} {d0 : Option Value} {d1 : Option Value} {d2 : Option Value} {d3 : Option Value} {d4 : Option Value} {d5 : Option Value} {d6 : Option Value} (hR : Rep E ad V M) (h : F_X12_laid_40 fu V = some out) : G E X RX12 cX12_laid 7 (some .int) false (rmD 2) P M [d0, d1, d2, d3, d4, d5, d6] 0 0 40 [] := by
  unfold F_X12_laid_40 at h
  refine r_iconst (v := -1) DX12_laid_40 ki_m1 ?_
  cases h
  exact r_iret DX12_laid_41 rfl ⟨Nat.le_refl 0, Nat.le_refl 0⟩ (hp M hR)
def f_X12_laid (fu : Nat) (V : St) (x1 : Int32) (x2 : Int32) (x3 : Int32) : RR :=
  bd (f_X12_isThing fu V (x1)) fun r1 V2 => if r1 = 0 then
    (F_X12_laid_40 fu V2)
    else
    (gd (¬ (x1 < 0 ∨ 30 ≤ (x1).toNatClampNeg)) <| if (V2 2216 (0) (x1).toNatClampNeg) = 0 then
      (bd (f_X12_in fu V2 (x2) ((1 : Int32)) ((200 : Int32))) fun r7 V8 => if r7 = 0 then
        (F_X12_laid_40 fu V8)
        else
        (if x3 < 0 then
          (F_X12_laid_40 fu V8)
          else
          (if x3 ≤ (V8 2242 0 0) then
            (bv (setV V8 2242 0 0 ((0 : Int32))) fun V13 => gd (¬ (x1 < 0 ∨ 30 ≤ (x1).toNatClampNeg)) <| if x3 = (V13 2223 (0) (x1).toNatClampNeg) then
              (bd (f_X12_isWider fu V13 (x1) (x2)) fun r17 V18 => if r17 = 0 then
                (Lp_X12_laid_75 (F_X12_laid_111 fu) (F_X12_laid_138 fu) fu fu V18 (x1) (x2) (x3) ((0 : Int32)) ((0 : Int32)))
                else
                (F_X12_laid_66 fu V18))
              else
              (F_X12_laid_66 fu V13))
            else
            (F_X12_laid_40 fu V8))))
      else
      (F_X12_laid_40 fu V2))
theorem S_X12_laid_0 {E : EN} {X : CX} {P : Option Value → MH → Prop} {ad : AD} {fu : Nat} {out : Int32 × St} (hp : ∀ M, Rep E ad out.2 M → P (some (.int out.1)) M) {V : St} {M : MH} {x1 : Int32} {x2 : Int32} {x3 : Int32} (hR : Rep E ad V M) (h : f_X12_laid fu V x1 x2 x3 = some out) : G E X RX12 cX12_laid 7 (some .int) false (rmD 2) P M [some (.ref (ad 2200 0)), some (.int (x1)), some (.int (x2)), some (.int (x3)), none, none, none] 0 0 0 [] := by
  unfold f_X12_laid at h
  refine r_aload_n DX12_laid_0 rfl ?_
  refine r_iload_n DX12_laid_1 rfl ?_
  obtain ⟨r1, V2, hc3, h⟩ := bd_inv h
  refine k_callV (As := [.int (x1)]) (rest := []) (st1 := [.int (r1)]) (w := some (.int r1)) DX12_laid_2 cv_X12_271 hR ct_2200 (one_cnt _) rfl (C_X12_isThing (cxL X) hR hc3) rfl (by decide) (by decide) rfl (Nat.le_of_ble_eq_true rfl) rfl (fun M hR => ?_)
  refine r_if_eq DX12_laid_5 (fun c4 => ?_) (fun c4 => ?_)
  · have h := if_t c4 h
    exact S_X12_laid_40 hp hR h
  · have h := if_f c4 h
    refine r_aload_n DX12_laid_8 rfl ?_
    refine s_geta DX12_laid_9 fl_X12_43 hR ct_2200 (one_cnt _) rfl ?_
    refine r_iload_n DX12_laid_12 rfl ?_
    obtain ⟨hg5, h⟩ := gd_inv h
    refine s_iald DX12_laid_13 hR ct_2216 (one_cnt _) hg5 ?_
    refine r_if_ne DX12_laid_14 (fun c6 => ?_) (fun c6 => ?_)
    · have h := if_f c6 h
      exact S_X12_laid_40 hp hR h
    · have h := if_t c6 h
      refine r_iload_n DX12_laid_17 rfl ?_
      refine r_iconst (v := 1) DX12_laid_18 ki_1 ?_
      refine r_sipush (v := 200) DX12_laid_19 ks_200 ?_
      obtain ⟨r7, V8, hc9, h⟩ := bd_inv h
      refine k_callS (As := [.int (x2), .int ((1 : Int32)), .int ((200 : Int32))]) (rest := []) (st1 := [.int (r7)]) (w := some (.int r7)) DX12_laid_22 cs_X12_245 (C_X12_in (cxL X) hR hc9) rfl (by decide) (by decide) rfl (Nat.le_of_ble_eq_true rfl) rfl (fun M hR => ?_)
      refine r_if_eq DX12_laid_25 (fun c10 => ?_) (fun c10 => ?_)
      · have h := if_t c10 h
        exact S_X12_laid_40 hp hR h
      · have h := if_f c10 h
        refine r_iload_n DX12_laid_28 rfl ?_
        refine r_if_lt DX12_laid_29 (fun c11 => ?_) (fun c11 => ?_)
        · have h := if_t c11 h
          exact S_X12_laid_40 hp hR h
        · have h := if_f c11 h
          refine r_iload_n DX12_laid_32 rfl ?_
          refine r_aload_n DX12_laid_33 rfl ?_
          refine s_geti DX12_laid_34 fl_X12_274 hR ct_2200 (one_cnt _) rfl ?_
          refine r_icmp_le DX12_laid_37 (fun c12 => ?_) (fun c12 => ?_)
          · have h := if_t c12 h
            refine r_aload_n DX12_laid_42 rfl ?_
            refine r_iconst (v := 0) DX12_laid_43 ki_0 ?_
            obtain ⟨V13, hv14, h⟩ := bv_inv h
            refine s_puti DX12_laid_44 fp_X12_274 hR oks_2242 ct_2200 (one_cnt _) rfl rfl rfl (fun M hR => ?_)
            have hR := hR.cg hv14
            refine r_iload_n DX12_laid_47 rfl ?_
            refine r_aload_n DX12_laid_48 rfl ?_
            refine s_geta DX12_laid_49 fl_X12_64 hR ct_2200 (one_cnt _) rfl ?_
            refine r_iload_n DX12_laid_52 rfl ?_
            obtain ⟨hg15, h⟩ := gd_inv h
            refine s_iald DX12_laid_53 hR ct_2223 (one_cnt _) hg15 ?_
            refine r_icmp_ne DX12_laid_54 (fun c16 => ?_) (fun c16 => ?_)
            · have h := if_f c16 h
              exact S_X12_laid_66 hp hR h
            · have h := if_t c16 h
              refine r_aload_n DX12_laid_57 rfl ?_
              refine r_iload_n DX12_laid_58 rfl ?_
              refine r_iload_n DX12_laid_59 rfl ?_
              obtain ⟨r17, V18, hc19, h⟩ := bd_inv h
              refine k_callV (As := [.int (x1), .int (x2)]) (rest := []) (st1 := [.int (r17)]) (w := some (.int r17)) DX12_laid_60 cv_X12_277 hR ct_2200 (one_cnt _) rfl (C_X12_isWider (cxL X) hR hc19) rfl (by decide) (by decide) rfl (Nat.le_of_ble_eq_true rfl) rfl (fun M hR => ?_)
              refine r_if_eq DX12_laid_63 (fun c20 => ?_) (fun c20 => ?_)
              · have h := if_t c20 h
                refine r_iconst (v := 0) DX12_laid_69 ki_0 ?_
                refine t_istore (L' := [some (.ref (ad 2200 0)), some (.int (x1)), some (.int (x2)), some (.int (x3)), some (.int ((0 : Int32))), none, none]) DX12_laid_70 (by decide) rfl ?_
                refine r_iconst (v := 0) DX12_laid_72 ki_0 ?_
                refine t_istore (L' := [some (.ref (ad 2200 0)), some (.int (x1)), some (.int (x2)), some (.int (x3)), some (.int ((0 : Int32))), some (.int ((0 : Int32))), none]) DX12_laid_73 (by decide) rfl ?_
                exact SL_X12_laid_75 (fun hR h => S_X12_laid_111 hp hR h) (fun hR h => S_X12_laid_138 hp hR h) hp fu hR h
              · have h := if_f c20 h
                exact S_X12_laid_66 hp hR h
          · have h := if_f c12 h
            exact S_X12_laid_40 hp hR h
theorem C_X12_laid {E : EN} {ad : AD} {fu : Nat} {out : Int32 × St} {V : St} {M : MH} {x1 : Int32} {x2 : Int32} {x3 : Int32} (l : Launch) (hR : Rep E ad V M) (h : f_X12_laid fu V x1 x2 x3 = some out) : Ct E l yX12_laid cX12_laid 7 (some .int) (rmD 2) [.ref (ad 2200 0), .int (x1), .int (x2), .int (x3)] M (fun v M => v = (some (.int out.1)) ∧ Rep E ad out.2 M) :=
  Ct.of (own := RX12) (ini := false) (L := [some (.ref (ad 2200 0)), some (.int (x1)), some (.int (x2)), some (.int (x3)), none, none, none]) rfl rfl (fun h => by cases h) rfl (Nat.le_of_ble_eq_true rfl) rfl (fun X _ => S_X12_laid_0 (fun M hR => ⟨rfl, hR⟩) hR h)
def F_X12_lands_76 (fu : Nat) (V : St) : RR :=
  some (0, V)
theorem S_X12_lands_76 {E : EN} {X : CX} {P : Option Value → MH → Prop} {ad : AD} {fu : Nat} {out : Int32 × St} (hp : ∀ M, Rep E ad out.2 M → P none M) {V : St} {M : MH} {d0 : Option Value} {d1 : Option Value} {d2 : Option Value} (hR : Rep E ad V M) (h : F_X12_lands_76 fu V = some out) : G E X RX12 cX12_lands 3 none false (rmD 2) P M [d0, d1, d2] 0 0 76 [] := by
  unfold F_X12_lands_76 at h
  cases h
  exact r_vret DX12_lands_76 rfl ⟨Nat.le_refl 0, Nat.le_refl 0⟩ (hp M hR)
def F_X12_lands_22 (kh : St → Int32 → RR) (kx76 : St → RR) (fu : Nat) (V : St) (x1 : Int32) : RR :=
  gd (¬ ((V 2249 0 0) - (1 : Int32) < 0 ∨ 180 ≤ ((V 2249 0 0) - (1 : Int32)).toNatClampNeg)) <| gd (¬ (((V 2252 (0) ((V 2249 0 0) - (1 : Int32)).toNatClampNeg)) - ((V 2252 (0) ((V 2249 0 0) - (1 : Int32)).toNatClampNeg)) / ((1048576 : Int32)) * ((1048576 : Int32)) < 0 ∨ 180 ≤ (((V 2252 (0) ((V 2249 0 0) - (1 : Int32)).toNatClampNeg)) - ((V 2252 (0) ((V 2249 0 0) - (1 : Int32)).toNatClampNeg)) / ((1048576 : Int32)) * ((1048576 : Int32))).toNatClampNeg)) <| gd (¬ (((V 2252 (0) ((V 2249 0 0) - (1 : Int32)).toNatClampNeg)) - ((V 2252 (0) ((V 2249 0 0) - (1 : Int32)).toNatClampNeg)) / ((1048576 : Int32)) * ((1048576 : Int32)) < 0 ∨ 180 ≤ (((V 2252 (0) ((V 2249 0 0) - (1 : Int32)).toNatClampNeg)) - ((V 2252 (0) ((V 2249 0 0) - (1 : Int32)).toNatClampNeg)) / ((1048576 : Int32)) * ((1048576 : Int32))).toNatClampNeg)) <| bv (setV V 2251 (0) (((V 2252 (0) ((V 2249 0 0) - (1 : Int32)).toNatClampNeg)) - ((V 2252 (0) ((V 2249 0 0) - (1 : Int32)).toNatClampNeg)) / ((1048576 : Int32)) * ((1048576 : Int32))).toNatClampNeg (((1048576 : Int32) * (((V 2251 (0) (((V 2252 (0) ((V 2249 0 0) - (1 : Int32)).toNatClampNeg)) - ((V 2252 (0) ((V 2249 0 0) - (1 : Int32)).toNatClampNeg)) / ((1048576 : Int32)) * ((1048576 : Int32))).toNatClampNeg)) / ((1048576 : Int32)))) + (V 2248 0 0))) fun V4 => bv (setV V4 2249 0 0 ((V4 2249 0 0) - (1 : Int32))) fun V6 => kh V6 (x1)
theorem S_X12_lands_22 {E : EN} {X : CX} {P : Option Value → MH → Prop} {ad : AD} {fu : Nat} {out : Int32 × St} {kh : St → Int32 → RR} {kx76 : St → RR} (hkh : ∀ {V : St} {M : MH} {x1 : Int32} {d2 : Option Value}, Rep E ad V M → kh V x1 = some out → G E X RX12 cX12_lands 3 none false (rmD 2) P M [some (.ref (ad 2200 0)), some (.int (x1)), d2] 0 0 0 []) (hkx76 : ∀ {V : St} {M : MH} {d0 : Option Value} {d1 : Option Value} {d2 : Option Value}, Rep E ad V M → kx76 V  = some out → G E X RX12 cX12_lands 3 none false (rmD 2) P M [d0, d1, d2] 0 0 76 []) (hp : ∀ M, Rep E ad out.2 M → P none M) {V : St} {M : MH} {x1 : Int32} {d2 : Option Value} (hR : Rep E ad V M) (h : F_X12_lands_22 kh kx76 fu V x1 = some out) : G E X RX12 cX12_lands 3 none false (rmD 2) P M [some (.ref (ad 2200 0)), some (.int (x1)), d2] 0 0 22 [] := by
  unfold F_X12_lands_22 at h
  refine r_aload_n DX12_lands_22 rfl ?_
  refine s_geta DX12_lands_23 fl_X12_123 hR ct_2200 (one_cnt _) rfl ?_
  refine r_aload_n DX12_lands_26 rfl ?_
  refine s_geti DX12_lands_27 fl_X12_332 hR ct_2200 (one_cnt _) rfl ?_
  refine r_iconst (v := 1) DX12_lands_30 ki_1 ?_
  refine r_isub DX12_lands_31 ?_
  obtain ⟨hg1, h⟩ := gd_inv h
  refine s_iald DX12_lands_32 hR ct_2252 (one_cnt _) hg1 ?_
  refine r_ldcw (v := 1048576) DX12_lands_33 ck_X12_328 ?_
  refine r_irem DX12_lands_36 (by decide) ?_
  refine t_istore_n (L' := [some (.ref (ad 2200 0)), some (.int (x1)), some (.int (((V 2252 (0) ((V 2249 0 0) - (1 : Int32)).toNatClampNeg)) - ((V 2252 (0) ((V 2249 0 0) - (1 : Int32)).toNatClampNeg)) / ((1048576 : Int32)) * ((1048576 : Int32))))]) DX12_lands_37 (by decide) rfl ?_
  refine r_aload_n DX12_lands_38 rfl ?_
  refine s_geta DX12_lands_39 fl_X12_120 hR ct_2200 (one_cnt _) rfl ?_
  refine r_iload_n DX12_lands_42 rfl ?_
  refine r_ldcw (v := 1048576) DX12_lands_43 ck_X12_328 ?_
  refine r_aload_n DX12_lands_46 rfl ?_
  refine s_geta DX12_lands_47 fl_X12_120 hR ct_2200 (one_cnt _) rfl ?_
  refine r_iload_n DX12_lands_50 rfl ?_
  obtain ⟨hg2, h⟩ := gd_inv h
  refine s_iald DX12_lands_51 hR ct_2251 (one_cnt _) hg2 ?_
  refine r_ldcw (v := 1048576) DX12_lands_52 ck_X12_328 ?_
  refine r_idiv DX12_lands_55 (by decide) ?_
  refine r_imul DX12_lands_56 ?_
  refine r_aload_n DX12_lands_57 rfl ?_
  refine s_geti DX12_lands_58 fl_X12_325 hR ct_2200 (one_cnt _) rfl ?_
  refine r_iadd DX12_lands_61 ?_
  obtain ⟨hg3, h⟩ := gd_inv h
  obtain ⟨V4, hv5, h⟩ := bv_inv h
  refine s_iast DX12_lands_62 hR oka_2251 ct_2251 (one_cnt _) hg3 (fun M hR => ?_)
  have hR := hR.cg hv5
  refine r_aload_n DX12_lands_63 rfl ?_
  refine r_aload_n DX12_lands_64 rfl ?_
  refine s_geti DX12_lands_65 fl_X12_332 hR ct_2200 (one_cnt _) rfl ?_
  refine r_iconst (v := 1) DX12_lands_68 ki_1 ?_
  refine r_isub DX12_lands_69 ?_
  obtain ⟨V6, hv7, h⟩ := bv_inv h
  refine s_puti DX12_lands_70 fp_X12_332 hR oks_2249 ct_2200 (one_cnt _) rfl rfl rfl (fun M hR => ?_)
  have hR := hR.cg hv7
  refine r_goto DX12_lands_73 ?_
  exact hkh hR h
def F_X12_lands_0 (kh : St → Int32 → RR) (kx76 : St → RR) (fu : Nat) (V : St) (x1 : Int32) : RR :=
  bd (f_X12_top fu V) fun r1 V2 => if r1 = (11 : Int32) then
    (F_X12_lands_22 kh kx76 fu V2 (x1))
    else
    (if x1 = 0 then
      (kx76 V2)
      else
      (bd (f_X12_top fu V2) fun r6 V7 => if r6 = (12 : Int32) then
        (F_X12_lands_22 kh kx76 fu V7 (x1))
        else
        (kx76 V7)))
theorem S_X12_lands_0 {E : EN} {X : CX} {P : Option Value → MH → Prop} {ad : AD} {fu : Nat} {out : Int32 × St} {kh : St → Int32 → RR} {kx76 : St → RR} (hkh : ∀ {V : St} {M : MH} {x1 : Int32} {d2 : Option Value}, Rep E ad V M → kh V x1 = some out → G E X RX12 cX12_lands 3 none false (rmD 2) P M [some (.ref (ad 2200 0)), some (.int (x1)), d2] 0 0 0 []) (hkx76 : ∀ {V : St} {M : MH} {d0 : Option Value} {d1 : Option Value} {d2 : Option Value}, Rep E ad V M → kx76 V  = some out → G E X RX12 cX12_lands 3 none false (rmD 2) P M [d0, d1, d2] 0 0 76 []) (hp : ∀ M, Rep E ad out.2 M → P none M) {V : St} {M : MH} {x1 : Int32} {d2 : Option Value} (hR : Rep E ad V M) (h : F_X12_lands_0 kh kx76 fu V x1 = some out) : G E X RX12 cX12_lands 3 none false (rmD 2) P M [some (.ref (ad 2200 0)), some (.int (x1)), d2] 0 0 0 [] := by
  unfold F_X12_lands_0 at h
  refine r_aload_n DX12_lands_0 rfl ?_
  obtain ⟨r1, V2, hc3, h⟩ := bd_inv h
  refine k_callV (As := []) (rest := []) (st1 := [.int (r1)]) (w := some (.int r1)) DX12_lands_1 cv_X12_335 hR ct_2200 (one_cnt _) rfl (C_X12_top (cxL X) hR hc3) rfl (by decide) (by decide) rfl (Nat.le_of_ble_eq_true rfl) rfl (fun M hR => ?_)
  refine r_bipush (v := 11) DX12_lands_4 kb_11 ?_
  refine r_icmp_eq DX12_lands_6 (fun c4 => ?_) (fun c4 => ?_)
  · have h := if_t c4 h
    exact S_X12_lands_22 (fun hR h => hkh hR h) (fun hR h => hkx76 hR h) hp hR h
  · have h := if_f c4 h
    refine r_iload_n DX12_lands_9 rfl ?_
    refine r_if_eq DX12_lands_10 (fun c5 => ?_) (fun c5 => ?_)
    · have h := if_t c5 h
      exact hkx76 hR h
    · have h := if_f c5 h
      refine r_aload_n DX12_lands_13 rfl ?_
      obtain ⟨r6, V7, hc8, h⟩ := bd_inv h
      refine k_callV (As := []) (rest := []) (st1 := [.int (r6)]) (w := some (.int r6)) DX12_lands_14 cv_X12_335 hR ct_2200 (one_cnt _) rfl (C_X12_top (cxL X) hR hc8) rfl (by decide) (by decide) rfl (Nat.le_of_ble_eq_true rfl) rfl (fun M hR => ?_)
      refine r_bipush (v := 12) DX12_lands_17 kb_12 ?_
      refine r_icmp_ne DX12_lands_19 (fun c9 => ?_) (fun c9 => ?_)
      · have h := if_f c9 h
        exact hkx76 hR h
      · have h := if_t c9 h
        exact S_X12_lands_22 (fun hR h => hkh hR h) (fun hR h => hkx76 hR h) hp hR h
def Lp_X12_lands_0 (kx76 : St → RR) (fu : Nat) : Nat → St → Int32 → RR
  | 0, _, _ => none
  | n + 1, V, x1 => F_X12_lands_0 (Lp_X12_lands_0 kx76 fu n) kx76 fu V x1
theorem SL_X12_lands_0 {E : EN} {X : CX} {P : Option Value → MH → Prop} {ad : AD} {fu : Nat} {out : Int32 × St} {kx76 : St → RR} (hkx76 : ∀ {V : St} {M : MH} {d0 : Option Value} {d1 : Option Value} {d2 : Option Value}, Rep E ad V M → kx76 V  = some out → G E X RX12 cX12_lands 3 none false (rmD 2) P M [d0, d1, d2] 0 0 76 []) (hp : ∀ M, Rep E ad out.2 M → P none M) : ∀ (n : Nat) {V : St} {M : MH} {x1 : Int32} {d2 : Option Value}, Rep E ad V M → Lp_X12_lands_0 kx76 fu n V x1 = some out → G E X RX12 cX12_lands 3 none false (rmD 2) P M [some (.ref (ad 2200 0)), some (.int (x1)), d2] 0 0 0 [] := by
  intro n
  induction n with
  | zero => intros; rename_i h; cases h
  | succ n ih => exact fun hR h => S_X12_lands_0 (fun hR h => ih hR h) (fun hR h => hkx76 hR h) hp hR h
def f_X12_lands (fu : Nat) (V : St) (x1 : Int32) : RR :=
  Lp_X12_lands_0 (F_X12_lands_76 fu) fu fu V (x1)
theorem S_X12_lands_E {E : EN} {X : CX} {P : Option Value → MH → Prop} {ad : AD} {fu : Nat} {out : Int32 × St} (hp : ∀ M, Rep E ad out.2 M → P none M) {V : St} {M : MH} {x1 : Int32} (hR : Rep E ad V M) (h : f_X12_lands fu V x1 = some out) : G E X RX12 cX12_lands 3 none false (rmD 2) P M [some (.ref (ad 2200 0)), some (.int (x1)), none] 0 0 0 [] := by
  unfold f_X12_lands at h
  exact SL_X12_lands_0 (fun hR h => S_X12_lands_76 hp hR h) hp fu hR h
theorem C_X12_lands {E : EN} {ad : AD} {fu : Nat} {out : Int32 × St} {V : St} {M : MH} {x1 : Int32} (l : Launch) (hR : Rep E ad V M) (h : f_X12_lands fu V x1 = some out) : Ct E l yX12_lands cX12_lands 3 none (rmD 2) [.ref (ad 2200 0), .int (x1)] M (fun v M => v = none ∧ Rep E ad out.2 M) :=
  Ct.of (own := RX12) (ini := false) (L := [some (.ref (ad 2200 0)), some (.int (x1)), d2]) rfl rfl (fun h => by cases h) rfl (Nat.le_of_ble_eq_true rfl) rfl (fun X _ => S_X12_lands_E (fun M hR => ⟨rfl, hR⟩) hR h)
def f_X12_swaps (fu : Nat) (V : St) (x1 : Int32) (x2 : Int32) : RR :=
  gd (¬ (x1 < 0 ∨ 9 ≤ (x1).toNatClampNeg)) <| gd (¬ (x2 < 0 ∨ 9 ≤ (x2).toNatClampNeg)) <| gd (¬ (x1 < 0 ∨ 9 ≤ (x1).toNatClampNeg)) <| bv (setV V 2230 (0) (x1).toNatClampNeg ((V 2230 (0) (x2).toNatClampNeg))) fun V4 => gd (¬ (x2 < 0 ∨ 9 ≤ (x2).toNatClampNeg)) <| bv (setV V4 2230 (0) (x2).toNatClampNeg ((V 2230 (0) (x1).toNatClampNeg))) fun V7 => some (0, V7)
theorem S_X12_swaps_0 {E : EN} {X : CX} {P : Option Value → MH → Prop} {ad : AD} {fu : Nat} {out : Int32 × St} (hp : ∀ M, Rep E ad out.2 M → P none M) {V : St} {M : MH} {x1 : Int32} {x2 : Int32} (hR : Rep E ad V M) (h : f_X12_swaps fu V x1 x2 = some out) : G E X RX12 cX12_swaps 4 none false (rmD 1) P M [some (.ref (ad 2200 0)), some (.int (x1)), some (.int (x2)), none] 0 0 0 [] := by
  unfold f_X12_swaps at h
  refine r_aload_n DX12_swaps_0 rfl ?_
  refine s_geta DX12_swaps_1 fl_X12_85 hR ct_2200 (one_cnt _) rfl ?_
  refine r_iload_n DX12_swaps_4 rfl ?_
  obtain ⟨hg1, h⟩ := gd_inv h
  refine s_iald DX12_swaps_5 hR ct_2230 (one_cnt _) hg1 ?_
  refine t_istore_n (L' := [some (.ref (ad 2200 0)), some (.int (x1)), some (.int (x2)), some (.int ((V 2230 (0) (x1).toNatClampNeg)))]) DX12_swaps_6 (by decide) rfl ?_
  refine r_aload_n DX12_swaps_7 rfl ?_
  refine s_geta DX12_swaps_8 fl_X12_85 hR ct_2200 (one_cnt _) rfl ?_
  refine r_iload_n DX12_swaps_11 rfl ?_
  refine r_aload_n DX12_swaps_12 rfl ?_
  refine s_geta DX12_swaps_13 fl_X12_85 hR ct_2200 (one_cnt _) rfl ?_
  refine r_iload_n DX12_swaps_16 rfl ?_
  obtain ⟨hg2, h⟩ := gd_inv h
  refine s_iald DX12_swaps_17 hR ct_2230 (one_cnt _) hg2 ?_
  obtain ⟨hg3, h⟩ := gd_inv h
  obtain ⟨V4, hv5, h⟩ := bv_inv h
  refine s_iast DX12_swaps_18 hR oka_2230 ct_2230 (one_cnt _) hg3 (fun M hR => ?_)
  have hR := hR.cg hv5
  refine r_aload_n DX12_swaps_19 rfl ?_
  refine s_geta DX12_swaps_20 fl_X12_85 hR ct_2200 (one_cnt _) rfl ?_
  refine r_iload_n DX12_swaps_23 rfl ?_
  refine r_iload_n DX12_swaps_24 rfl ?_
  obtain ⟨hg6, h⟩ := gd_inv h
  obtain ⟨V7, hv8, h⟩ := bv_inv h
  refine s_iast DX12_swaps_25 hR oka_2230 ct_2230 (one_cnt _) hg6 (fun M hR => ?_)
  have hR := hR.cg hv8
  cases h
  exact r_vret DX12_swaps_26 rfl ⟨Nat.le_refl 0, Nat.le_refl 0⟩ (hp M hR)
theorem C_X12_swaps {E : EN} {ad : AD} {fu : Nat} {out : Int32 × St} {V : St} {M : MH} {x1 : Int32} {x2 : Int32} (l : Launch) (hR : Rep E ad V M) (h : f_X12_swaps fu V x1 x2 = some out) : Ct E l yX12_swaps cX12_swaps 4 none (rmD 1) [.ref (ad 2200 0), .int (x1), .int (x2)] M (fun v M => v = none ∧ Rep E ad out.2 M) :=
  Ct.of (own := RX12) (ini := false) (L := [some (.ref (ad 2200 0)), some (.int (x1)), some (.int (x2)), none]) rfl rfl (fun h => by cases h) rfl (Nat.le_of_ble_eq_true rfl) rfl (fun X _ => S_X12_swaps_0 (fun M hR => ⟨rfl, hR⟩) hR h)
def F_X12_nextRow_110 (fu : Nat) (V : St) : RR :=
  some ((1 : Int32), V)
theorem S_X12_nextRow_110 {E : EN} {X : CX} {P : Option Value → MH → Prop} {ad : AD} {fu : Nat} {out : Int32 × St} (hp : ∀ M, Rep E ad out.2 M → P (some (.int out.1)) M) {V : St} {M : MH} {d0 : Option Value} {d1 : Option Value} {d2 : Option Value} {d3 : Option Value} {d4 : Option Value} {d5 : Option Value} (hR : Rep E ad V M) (h : F_X12_nextRow_110 fu V = some out) : G E X RX12 cX12_nextRow 6 (some .boolean) false (rmD 2) P M [d0, d1, d2, d3, d4, d5] 0 0 110 [] := by
  unfold F_X12_nextRow_110 at h
  refine r_iconst (v := 1) DX12_nextRow_110 ki_1 ?_
  cases h
  exact r_zret DX12_nextRow_111 rfl rfl ⟨Nat.le_refl 0, Nat.le_refl 0⟩ (hp M hR)
def F_X12_nextRow_80 (kh : St → Int32 → Int32 → RR) (kx110 : St → RR) (fu : Nat) (V : St) (x4 : Int32) (x5 : Int32) : RR :=
  if x5 ≤ x4 then
    (kx110 V)
    else
    (bd (f_X12_swaps fu V (x4) (x5)) fun r2 V3 => kh V3 (x4 + (1 : Int32)) (x5 - (1 : Int32)))
theorem S_X12_nextRow_80 {E : EN} {X : CX} {P : Option Value → MH → Prop} {ad : AD} {fu : Nat} {out : Int32 × St} {kh : St → Int32 → Int32 → RR} {kx110 : St → RR} (hkh : ∀ {V : St} {M : MH} {x4 : Int32} {x5 : Int32} {d1 : Option Value} {d2 : Option Value} {d3 : Option Value}, Rep E ad V M → kh V x4 x5 = some out → G E X RX12 cX12_nextRow 6 (some .boolean) false (rmD 2) P M [some (.ref (ad 2200 0)), d1, d2, d3, some (.int (x4)), some (.int (x5))] 0 0 80 []) (hkx110 : ∀ {V : St} {M : MH} {d0 : Option Value} {d1 : Option Value} {d2 : Option Value} {d3 : Option Value} {d4 : Option Value} {d5 : Option Value}, Rep E ad V M → kx110 V  = some out → G E X RX12 cX12_nextRow 6 (some .boolean) false (rmD 2) P M [d0, d1, d2, d3, d4, d5] 0 0 110 []) (hp : ∀ M, Rep E ad out.2 M → P (some (.int out.1)) M) {V : St} {M : MH} {x4 : Int32} {x5 : Int32} {d1 : Option Value} {d2 : Option Value} {d3 : Option Value} (hR : Rep E ad V M) (h : F_X12_nextRow_80 kh kx110 fu V x4 x5 = some out) : G E X RX12 cX12_nextRow 6 (some .boolean) false (rmD 2) P M [some (.ref (ad 2200 0)), d1, d2, d3, some (.int (x4)), some (.int (x5))] 0 0 80 [] := by
  unfold F_X12_nextRow_80 at h
  refine r_iload DX12_nextRow_80 rfl ?_
  refine r_iload DX12_nextRow_82 rfl ?_
  refine r_icmp_ge DX12_nextRow_84 (fun c1 => ?_) (fun c1 => ?_)
  · have h := if_t c1 h
    exact hkx110 hR h
  · have h := if_f c1 h
    refine r_aload_n DX12_nextRow_87 rfl ?_
    refine r_iload DX12_nextRow_88 rfl ?_
    refine r_iload DX12_nextRow_90 rfl ?_
    obtain ⟨r2, V3, hc4, h⟩ := bd_inv h
    refine k_callV (As := [.int (x4), .int (x5)]) (rest := []) (st1 := []) (w := none) DX12_nextRow_92 cv_X12_284 hR ct_2200 (one_cnt _) rfl (C_X12_swaps (cxL X) hR hc4) rfl (by decide) (by decide) rfl (Nat.le_of_ble_eq_true rfl) rfl (fun M hR => ?_)
    refine r_iload DX12_nextRow_95 rfl ?_
    refine r_iconst (v := 1) DX12_nextRow_97 ki_1 ?_
    refine r_iadd DX12_nextRow_98 ?_
    refine t_istore (L' := [some (.ref (ad 2200 0)), d1, d2, d3, some (.int (x4 + (1 : Int32))), some (.int (x5))]) DX12_nextRow_99 (by decide) rfl ?_
    refine r_iload DX12_nextRow_101 rfl ?_
    refine r_iconst (v := 1) DX12_nextRow_103 ki_1 ?_
    refine r_isub DX12_nextRow_104 ?_
    refine t_istore (L' := [some (.ref (ad 2200 0)), d1, d2, d3, some (.int (x4 + (1 : Int32))), some (.int (x5 - (1 : Int32)))]) DX12_nextRow_105 (by decide) rfl ?_
    refine r_goto DX12_nextRow_107 ?_
    exact hkh hR h
def Lp_X12_nextRow_80 (kx110 : St → RR) (fu : Nat) : Nat → St → Int32 → Int32 → RR
  | 0, _, _, _ => none
  | n + 1, V, x4, x5 => F_X12_nextRow_80 (Lp_X12_nextRow_80 kx110 fu n) kx110 fu V x4 x5
theorem SL_X12_nextRow_80 {E : EN} {X : CX} {P : Option Value → MH → Prop} {ad : AD} {fu : Nat} {out : Int32 × St} {kx110 : St → RR} (hkx110 : ∀ {V : St} {M : MH} {d0 : Option Value} {d1 : Option Value} {d2 : Option Value} {d3 : Option Value} {d4 : Option Value} {d5 : Option Value}, Rep E ad V M → kx110 V  = some out → G E X RX12 cX12_nextRow 6 (some .boolean) false (rmD 2) P M [d0, d1, d2, d3, d4, d5] 0 0 110 []) (hp : ∀ M, Rep E ad out.2 M → P (some (.int out.1)) M) : ∀ (n : Nat) {V : St} {M : MH} {x4 : Int32} {x5 : Int32} {d1 : Option Value} {d2 : Option Value} {d3 : Option Value}, Rep E ad V M → Lp_X12_nextRow_80 kx110 fu n V x4 x5 = some out → G E X RX12 cX12_nextRow 6 (some .boolean) false (rmD 2) P M [some (.ref (ad 2200 0)), d1, d2, d3, some (.int (x4)), some (.int (x5))] 0 0 80 [] := by
  intro n
  induction n with
  | zero => intros; rename_i h; cases h
  | succ n ih => exact fun hR h => S_X12_nextRow_80 (fun hR h => ih hR h) (fun hR h => hkx110 hR h) hp hR h
def F_X12_nextRow_64 (fu : Nat) (V : St) (x1 : Int32) (x2 : Int32) (x3 : Int32) : RR :=
  bd (f_X12_swaps fu V (x2) (x3)) fun r1 V2 => Lp_X12_nextRow_80 (F_X12_nextRow_110 fu) fu fu V2 (x2 + (1 : Int32)) (x1 - (1 : Int32))
theorem S_X12_nextRow_64 {E : EN} {X : CX} {P : Option Value → MH → Prop} {ad : AD} {fu : Nat} {out : Int32 × St} (hp : ∀ M, Rep E ad out.2 M → P (some (.int out.1)) M) {V : St} {M : MH} {x1 : Int32} {x2 : Int32} {x3 : Int32} {d4 : Option Value} {d5 : Option Value} (hR : Rep E ad V M) (h : F_X12_nextRow_64 fu V x1 x2 x3 = some out) : G E X RX12 cX12_nextRow 6 (some .boolean) false (rmD 2) P M [some (.ref (ad 2200 0)), some (.int (x1)), some (.int (x2)), some (.int (x3)), d4, d5] 0 0 64 [] := by
  unfold F_X12_nextRow_64 at h
  refine r_aload_n DX12_nextRow_64 rfl ?_
  refine r_iload_n DX12_nextRow_65 rfl ?_
  refine r_iload_n DX12_nextRow_66 rfl ?_
  obtain ⟨r1, V2, hc3, h⟩ := bd_inv h
  refine k_callV (As := [.int (x2), .int (x3)]) (rest := []) (st1 := []) (w := none) DX12_nextRow_67 cv_X12_284 hR ct_2200 (one_cnt _) rfl (C_X12_swaps (cxL X) hR hc3) rfl (by decide) (by decide) rfl (Nat.le_of_ble_eq_true rfl) rfl (fun M hR => ?_)
  refine r_iload_n DX12_nextRow_70 rfl ?_
  refine r_iconst (v := 1) DX12_nextRow_71 ki_1 ?_
  refine r_iadd DX12_nextRow_72 ?_
  refine t_istore (L' := [some (.ref (ad 2200 0)), some (.int (x1)), some (.int (x2)), some (.int (x3)), some (.int (x2 + (1 : Int32))), d5]) DX12_nextRow_73 (by decide) rfl ?_
  refine r_iload_n DX12_nextRow_75 rfl ?_
  refine r_iconst (v := 1) DX12_nextRow_76 ki_1 ?_
  refine r_isub DX12_nextRow_77 ?_
  refine t_istore (L' := [some (.ref (ad 2200 0)), some (.int (x1)), some (.int (x2)), some (.int (x3)), some (.int (x2 + (1 : Int32))), some (.int (x1 - (1 : Int32)))]) DX12_nextRow_78 (by decide) rfl ?_
  exact SL_X12_nextRow_80 (fun hR h => S_X12_nextRow_110 hp hR h) hp fu hR h
def F_X12_nextRow_42 (kh : St → Int32 → Int32 → Int32 → RR) (kx64 : St → Int32 → Int32 → Int32 → RR) (fu : Nat) (V : St) (x1 : Int32) (x2 : Int32) (x3 : Int32) : RR :=
  gd (¬ (x3 < 0 ∨ 9 ≤ (x3).toNatClampNeg)) <| gd (¬ (x2 < 0 ∨ 9 ≤ (x2).toNatClampNeg)) <| if (V 2230 (0) (x2).toNatClampNeg) ≤ (V 2230 (0) (x3).toNatClampNeg) then
    (kx64 V (x1) (x2) (x3))
    else
    (kh V (x1) (x2) (x3 - (1 : Int32)))
theorem S_X12_nextRow_42 {E : EN} {X : CX} {P : Option Value → MH → Prop} {ad : AD} {fu : Nat} {out : Int32 × St} {kh : St → Int32 → Int32 → Int32 → RR} {kx64 : St → Int32 → Int32 → Int32 → RR} (hkh : ∀ {V : St} {M : MH} {x1 : Int32} {x2 : Int32} {x3 : Int32} {d4 : Option Value} {d5 : Option Value}, Rep E ad V M → kh V x1 x2 x3 = some out → G E X RX12 cX12_nextRow 6 (some .boolean) false (rmD 2) P M [some (.ref (ad 2200 0)), some (.int (x1)), some (.int (x2)), some (.int (x3)), d4, d5] 0 0 42 []) (hkx64 : ∀ {V : St} {M : MH} {x1 : Int32} {x2 : Int32} {x3 : Int32} {d4 : Option Value} {d5 : Option Value}, Rep E ad V M → kx64 V x1 x2 x3 = some out → G E X RX12 cX12_nextRow 6 (some .boolean) false (rmD 2) P M [some (.ref (ad 2200 0)), some (.int (x1)), some (.int (x2)), some (.int (x3)), d4, d5] 0 0 64 []) (hp : ∀ M, Rep E ad out.2 M → P (some (.int out.1)) M) {V : St} {M : MH} {x1 : Int32} {x2 : Int32} {x3 : Int32} {d4 : Option Value} {d5 : Option Value} (hR : Rep E ad V M) (h : F_X12_nextRow_42 kh kx64 fu V x1 x2 x3 = some out) : G E X RX12 cX12_nextRow 6 (some .boolean) false (rmD 2) P M [some (.ref (ad 2200 0)), some (.int (x1)), some (.int (x2)), some (.int (x3)), d4, d5] 0 0 42 [] := by
  unfold F_X12_nextRow_42 at h
  refine r_aload_n DX12_nextRow_42 rfl ?_
  refine s_geta DX12_nextRow_43 fl_X12_85 hR ct_2200 (one_cnt _) rfl ?_
  refine r_iload_n DX12_nextRow_46 rfl ?_
  obtain ⟨hg1, h⟩ := gd_inv h
  refine s_iald DX12_nextRow_47 hR ct_2230 (one_cnt _) hg1 ?_
  refine r_aload_n DX12_nextRow_48 rfl ?_
  refine s_geta DX12_nextRow_49 fl_X12_85 hR ct_2200 (one_cnt _) rfl ?_
  refine r_iload_n DX12_nextRow_52 rfl ?_
  obtain ⟨hg2, h⟩ := gd_inv h
  refine s_iald DX12_nextRow_53 hR ct_2230 (one_cnt _) hg2 ?_
  refine r_icmp_ge DX12_nextRow_54 (fun c3 => ?_) (fun c3 => ?_)
  · have h := if_t c3 h
    exact hkx64 hR h
  · have h := if_f c3 h
    refine r_iload_n DX12_nextRow_57 rfl ?_
    refine r_iconst (v := 1) DX12_nextRow_58 ki_1 ?_
    refine r_isub DX12_nextRow_59 ?_
    refine t_istore_n (L' := [some (.ref (ad 2200 0)), some (.int (x1)), some (.int (x2)), some (.int (x3 - (1 : Int32))), d4, d5]) DX12_nextRow_60 (by decide) rfl ?_
    refine r_goto DX12_nextRow_61 ?_
    exact hkh hR h
def Lp_X12_nextRow_42 (kx64 : St → Int32 → Int32 → Int32 → RR) (fu : Nat) : Nat → St → Int32 → Int32 → Int32 → RR
  | 0, _, _, _, _ => none
  | n + 1, V, x1, x2, x3 => F_X12_nextRow_42 (Lp_X12_nextRow_42 kx64 fu n) kx64 fu V x1 x2 x3
theorem SL_X12_nextRow_42 {E : EN} {X : CX} {P : Option Value → MH → Prop} {ad : AD} {fu : Nat} {out : Int32 × St} {kx64 : St → Int32 → Int32 → Int32 → RR} (hkx64 : ∀ {V : St} {M : MH} {x1 : Int32} {x2 : Int32} {x3 : Int32} {d4 : Option Value} {d5 : Option Value}, Rep E ad V M → kx64 V x1 x2 x3 = some out → G E X RX12 cX12_nextRow 6 (some .boolean) false (rmD 2) P M [some (.ref (ad 2200 0)), some (.int (x1)), some (.int (x2)), some (.int (x3)), d4, d5] 0 0 64 []) (hp : ∀ M, Rep E ad out.2 M → P (some (.int out.1)) M) : ∀ (n : Nat) {V : St} {M : MH} {x1 : Int32} {x2 : Int32} {x3 : Int32} {d4 : Option Value} {d5 : Option Value}, Rep E ad V M → Lp_X12_nextRow_42 kx64 fu n V x1 x2 x3 = some out → G E X RX12 cX12_nextRow 6 (some .boolean) false (rmD 2) P M [some (.ref (ad 2200 0)), some (.int (x1)), some (.int (x2)), some (.int (x3)), d4, d5] 0 0 42 [] := by
  intro n
  induction n with
  | zero => intros; rename_i h; cases h
  | succ n ih => exact fun hR h => S_X12_nextRow_42 (fun hR h => ih hR h) (fun hR h => hkx64 hR h) hp hR h
def F_X12_nextRow_32 (fu : Nat) (V : St) (x1 : Int32) (x2 : Int32) : RR :=
  if 0 ≤ x2 then
    (Lp_X12_nextRow_42 (F_X12_nextRow_64 fu) fu fu V (x1) (x2) (x1 - (1 : Int32)))
    else
    (some ((0 : Int32), V))
theorem S_X12_nextRow_32 {E : EN} {X : CX} {P : Option Value → MH → Prop} {ad : AD} {fu : Nat} {out : Int32 × St} (hp : ∀ M, Rep E ad out.2 M → P (some (.int out.1)) M) {V : St} {M : MH} {x1 : Int32} {x2 : Int32} {d3 : Option Value} {d4 : Option Value} {d5 : Option Value} (hR : Rep E ad V M) (h : F_X12_nextRow_32 fu V x1 x2 = some out) : G E X RX12 cX12_nextRow 6 (some .boolean) false (rmD 2) P M [some (.ref (ad 2200 0)), some (.int (x1)), some (.int (x2)), d3, d4, d5] 0 0 32 [] := by
  unfold F_X12_nextRow_32 at h
  refine r_iload_n DX12_nextRow_32 rfl ?_
  refine r_if_ge DX12_nextRow_33 (fun c1 => ?_) (fun c1 => ?_)
  · have h := if_t c1 h
    refine r_iload_n DX12_nextRow_38 rfl ?_
    refine r_iconst (v := 1) DX12_nextRow_39 ki_1 ?_
    refine r_isub DX12_nextRow_40 ?_
    refine t_istore_n (L' := [some (.ref (ad 2200 0)), some (.int (x1)), some (.int (x2)), some (.int (x1 - (1 : Int32))), d4, d5]) DX12_nextRow_41 (by decide) rfl ?_
    exact SL_X12_nextRow_42 (fun hR h => S_X12_nextRow_64 hp hR h) hp fu hR h
  · have h := if_f c1 h
    refine r_iconst (v := 0) DX12_nextRow_36 ki_0 ?_
    cases h
    exact r_zret DX12_nextRow_37 rfl rfl ⟨Nat.le_refl 0, Nat.le_refl 0⟩ (hp M hR)
def F_X12_nextRow_4 (kh : St → Int32 → Int32 → RR) (kx32 : St → Int32 → Int32 → RR) (fu : Nat) (V : St) (x1 : Int32) (x2 : Int32) : RR :=
  if x2 < 0 then
    (kx32 V (x1) (x2))
    else
    (gd (¬ (x2 < 0 ∨ 9 ≤ (x2).toNatClampNeg)) <| gd (¬ (x2 + (1 : Int32) < 0 ∨ 9 ≤ (x2 + (1 : Int32)).toNatClampNeg)) <| if (V 2230 (0) (x2).toNatClampNeg) ≤ (V 2230 (0) (x2 + (1 : Int32)).toNatClampNeg) then
      (kx32 V (x1) (x2))
      else
      (kh V (x1) (x2 - (1 : Int32))))
theorem S_X12_nextRow_4 {E : EN} {X : CX} {P : Option Value → MH → Prop} {ad : AD} {fu : Nat} {out : Int32 × St} {kh : St → Int32 → Int32 → RR} {kx32 : St → Int32 → Int32 → RR} (hkh : ∀ {V : St} {M : MH} {x1 : Int32} {x2 : Int32} {d3 : Option Value} {d4 : Option Value} {d5 : Option Value}, Rep E ad V M → kh V x1 x2 = some out → G E X RX12 cX12_nextRow 6 (some .boolean) false (rmD 2) P M [some (.ref (ad 2200 0)), some (.int (x1)), some (.int (x2)), d3, d4, d5] 0 0 4 []) (hkx32 : ∀ {V : St} {M : MH} {x1 : Int32} {x2 : Int32} {d3 : Option Value} {d4 : Option Value} {d5 : Option Value}, Rep E ad V M → kx32 V x1 x2 = some out → G E X RX12 cX12_nextRow 6 (some .boolean) false (rmD 2) P M [some (.ref (ad 2200 0)), some (.int (x1)), some (.int (x2)), d3, d4, d5] 0 0 32 []) (hp : ∀ M, Rep E ad out.2 M → P (some (.int out.1)) M) {V : St} {M : MH} {x1 : Int32} {x2 : Int32} {d3 : Option Value} {d4 : Option Value} {d5 : Option Value} (hR : Rep E ad V M) (h : F_X12_nextRow_4 kh kx32 fu V x1 x2 = some out) : G E X RX12 cX12_nextRow 6 (some .boolean) false (rmD 2) P M [some (.ref (ad 2200 0)), some (.int (x1)), some (.int (x2)), d3, d4, d5] 0 0 4 [] := by
  unfold F_X12_nextRow_4 at h
  refine r_iload_n DX12_nextRow_4 rfl ?_
  refine r_if_lt DX12_nextRow_5 (fun c1 => ?_) (fun c1 => ?_)
  · have h := if_t c1 h
    exact hkx32 hR h
  · have h := if_f c1 h
    refine r_aload_n DX12_nextRow_8 rfl ?_
    refine s_geta DX12_nextRow_9 fl_X12_85 hR ct_2200 (one_cnt _) rfl ?_
    refine r_iload_n DX12_nextRow_12 rfl ?_
    obtain ⟨hg2, h⟩ := gd_inv h
    refine s_iald DX12_nextRow_13 hR ct_2230 (one_cnt _) hg2 ?_
    refine r_aload_n DX12_nextRow_14 rfl ?_
    refine s_geta DX12_nextRow_15 fl_X12_85 hR ct_2200 (one_cnt _) rfl ?_
    refine r_iload_n DX12_nextRow_18 rfl ?_
    refine r_iconst (v := 1) DX12_nextRow_19 ki_1 ?_
    refine r_iadd DX12_nextRow_20 ?_
    obtain ⟨hg3, h⟩ := gd_inv h
    refine s_iald DX12_nextRow_21 hR ct_2230 (one_cnt _) hg3 ?_
    refine r_icmp_le DX12_nextRow_22 (fun c4 => ?_) (fun c4 => ?_)
    · have h := if_t c4 h
      exact hkx32 hR h
    · have h := if_f c4 h
      refine r_iload_n DX12_nextRow_25 rfl ?_
      refine r_iconst (v := 1) DX12_nextRow_26 ki_1 ?_
      refine r_isub DX12_nextRow_27 ?_
      refine t_istore_n (L' := [some (.ref (ad 2200 0)), some (.int (x1)), some (.int (x2 - (1 : Int32))), d3, d4, d5]) DX12_nextRow_28 (by decide) rfl ?_
      refine r_goto DX12_nextRow_29 ?_
      exact hkh hR h
def Lp_X12_nextRow_4 (kx32 : St → Int32 → Int32 → RR) (fu : Nat) : Nat → St → Int32 → Int32 → RR
  | 0, _, _, _ => none
  | n + 1, V, x1, x2 => F_X12_nextRow_4 (Lp_X12_nextRow_4 kx32 fu n) kx32 fu V x1 x2
theorem SL_X12_nextRow_4 {E : EN} {X : CX} {P : Option Value → MH → Prop} {ad : AD} {fu : Nat} {out : Int32 × St} {kx32 : St → Int32 → Int32 → RR} (hkx32 : ∀ {V : St} {M : MH} {x1 : Int32} {x2 : Int32} {d3 : Option Value} {d4 : Option Value} {d5 : Option Value}, Rep E ad V M → kx32 V x1 x2 = some out → G E X RX12 cX12_nextRow 6 (some .boolean) false (rmD 2) P M [some (.ref (ad 2200 0)), some (.int (x1)), some (.int (x2)), d3, d4, d5] 0 0 32 []) (hp : ∀ M, Rep E ad out.2 M → P (some (.int out.1)) M) : ∀ (n : Nat) {V : St} {M : MH} {x1 : Int32} {x2 : Int32} {d3 : Option Value} {d4 : Option Value} {d5 : Option Value}, Rep E ad V M → Lp_X12_nextRow_4 kx32 fu n V x1 x2 = some out → G E X RX12 cX12_nextRow 6 (some .boolean) false (rmD 2) P M [some (.ref (ad 2200 0)), some (.int (x1)), some (.int (x2)), d3, d4, d5] 0 0 4 [] := by
  intro n
  induction n with
  | zero => intros; rename_i h; cases h
  | succ n ih => exact fun hR h => S_X12_nextRow_4 (fun hR h => ih hR h) (fun hR h => hkx32 hR h) hp hR h
def f_X12_nextRow (fu : Nat) (V : St) (x1 : Int32) : RR :=
  Lp_X12_nextRow_4 (F_X12_nextRow_32 fu) fu fu V (x1) (x1 - (2 : Int32))
theorem S_X12_nextRow_0 {E : EN} {X : CX} {P : Option Value → MH → Prop} {ad : AD} {fu : Nat} {out : Int32 × St} (hp : ∀ M, Rep E ad out.2 M → P (some (.int out.1)) M) {V : St} {M : MH} {x1 : Int32} (hR : Rep E ad V M) (h : f_X12_nextRow fu V x1 = some out) : G E X RX12 cX12_nextRow 6 (some .boolean) false (rmD 2) P M [some (.ref (ad 2200 0)), some (.int (x1)), none, none, none, none] 0 0 0 [] := by
  unfold f_X12_nextRow at h
  refine r_iload_n DX12_nextRow_0 rfl ?_
  refine r_iconst (v := 2) DX12_nextRow_1 ki_2 ?_
  refine r_isub DX12_nextRow_2 ?_
  refine t_istore_n (L' := [some (.ref (ad 2200 0)), some (.int (x1)), some (.int (x1 - (2 : Int32))), none, none, none]) DX12_nextRow_3 (by decide) rfl ?_
  exact SL_X12_nextRow_4 (fun hR h => S_X12_nextRow_32 hp hR h) hp fu hR h
theorem C_X12_nextRow {E : EN} {ad : AD} {fu : Nat} {out : Int32 × St} {V : St} {M : MH} {x1 : Int32} (l : Launch) (hR : Rep E ad V M) (h : f_X12_nextRow fu V x1 = some out) : Ct E l yX12_nextRow cX12_nextRow 6 (some .boolean) (rmD 2) [.ref (ad 2200 0), .int (x1)] M (fun v M => v = (some (.int out.1)) ∧ Rep E ad out.2 M) :=
  Ct.of (own := RX12) (ini := false) (L := [some (.ref (ad 2200 0)), some (.int (x1)), none, none, none, none]) rfl rfl (fun h => by cases h) rfl (Nat.le_of_ble_eq_true rfl) rfl (fun X _ => S_X12_nextRow_0 (fun M hR => ⟨rfl, hR⟩) hR h)
