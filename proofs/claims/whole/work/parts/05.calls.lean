/-! calls and the entry -/
theorem KK.warm {E : EN} {s U : State} (hW : s.WarmedH U.vm) (h : KK E s) : KK E U := ⟨va_K.moved hW.alike h.1, fun q hq => va_Nw.warmM hW (h.2.1 q hq), va_AO.moved hW.alike h.2.2.1, va_Dc.moved hW.alike h.2.2.2.1, fun r hr => va_Nw.warmC hW (h.2.2.2.2.1 r hr), va_Nw.warmC hW h.2.2.2.2.2⟩
theorem KK.same {E : EN} {u U : State} (hv : u.vm = U.vm) (h : KK E u) : KK E U := ⟨va_K.moved (by rw [hv]; exact Vm.Alike.refl U.vm) h.1, fun q hq => va_Nw.same rfl hv (h.2.1 q hq), va_AO.moved (by rw [hv]; exact Vm.Alike.refl U.vm) h.2.2.1, va_Dc.moved (by rw [hv]; exact Vm.Alike.refl U.vm) h.2.2.2.1, fun r hr => va_Nw.same rfl hv (h.2.2.2.2.1 r hr), va_Nw.same rfl hv h.2.2.2.2.2⟩
theorem Gnd.gen {E : EN} {s U : State} (hvm : s.vm.Alike U.vm) (hR : ∀ (own : String) (k : Nat) (tx : String) (a : Nat), vk_R own k tx a s → vk_R own k tx a U) (hq : ∀ a : Nat, a < s.heap.size → ¬ eA3 E a → U.heap[a]? = s.heap[a]?) (h : Gnd E s) : Gnd E U := by
  obtain ⟨h1, h2, h3, h4, h5, h6, h7, h8, h9, h10, h11⟩ := h
  exact ⟨(h1.moved hvm).kept hq, (h2.moved hvm).kept hq, (h3.moved hvm).kept hq, (h4.moved hvm).kept hq, (h5.moved hvm).kept hq, (h6.moved hvm).kept hq, (h7.moved hvm).kept hq, (h8.moved hvm).kept hq, fun i q hi => hR _ _ _ _ (h9 i q hi), h10.moved hvm, (h11.moved hvm).kept hq⟩
theorem Gnd.warm {E : EN} {s U : State} (hW : s.WarmedH U.vm) (hq : ∀ a : Nat, a < s.heap.size → ¬ eA3 E a → U.heap[a]? = s.heap[a]?) (h : Gnd E s) : Gnd E U := Gnd.gen hW.alike (fun _ _ _ _ => vk_R.warm hW) hq h
theorem Gnd.same {E : EN} {s U : State} (hv : s.vm = U.vm) (hh : U.heap = s.heap) (h : Gnd E s) : Gnd E U := Gnd.gen (by rw [hv]; exact Vm.Alike.refl U.vm) (fun _ _ _ _ => vk_R.same hv.symm) (fun a _ _ => by rw [hh]) h
theorem Wd.blind {E : EN} {M : MH} {args : List Value} : FrameBlind (va_Pc args (fun U => Wd E M U)) := by
  intro a U g mk h
  obtain ⟨h0, h1, h2, h3, ws, h4, h5, h6⟩ := h
  exact ⟨h0, h1, KK.same (U := U.calling g mk a) rfl h2, Gnd.same (U := U.calling g mk a) rfl rfl h3, ws, h4, h5, h6⟩
theorem Wd.at {E : EN} {X : CX} {own : String} {cc : ByteArray} {nl : Nat} {ret : Option FieldType} {ini : Bool} (C : Cok E X own cc nl ret ini) {M : MH} {H : Heap} {ws : va_W} {locs : List Loc} (hP : va_P (eD E) classes ws H) (hD : va_D (eA3 E) ws) (hV : Cov M ws) (hS : va_S (eA3 E) (cxS X).heap H locs) {U : State} (hU : U.heap = H) (hW : (cxS X).WarmedH U.vm) : Wd E M U :=
  ⟨by rw [hU]; exact Nat.le_trans C.2.2.2.2.2.2.2.2.1 hS.1, KK.warm hW C.kk, Gnd.warm hW (fun a h1 h2 => by rw [hU]; exact hS.2.1 a h1 h2) C.2.2.2.2.2.2.2.2.2.2, ws, by rw [hU]; exact hP, hD, hV⟩
section CALLS
variable {E : EN} {X : CX} {own : String} {cc : ByteArray} {nl : Nat} {ret : Option FieldType} {ini : Bool} {rm : Room} {P : Option Value → MH → Prop} {M : MH} {L : List (Option Value)} {kc ks pc pc' tgt : Nat} {st : List Value}
theorem call_go {P' : Option Value → MH → Prop} {H : Heap} {locs : List Loc} {mc ms : Nat} {ls : Array Slot} {rest st0 : List Value} {a : Array Value} {Q : State → Prop}
    (hr : va_Run X.1 X.2.1 X.2.2.1 rm (cxS X) X.2.2.2.2.1 X.2.2.2.2.2.1 X.2.2.2.2.2.2.1 X.2.2.2.2.2.2.2.1 X.2.2.2.2.2.2.2.2 H locs kc ks mc ms (F0 X.2.2.2.2.1 pc ls st0) rest (QP E P' a) (eA3 E)) (hS : va_S (eA3 E) (cxS X).heap H locs)
    (K : ∀ (v : Option Value) (M' : MH) (H1 : Heap) (locs1 : List Loc) (ws1 : va_W), P' v M' → va_P (eD E) classes ws1 H1 → va_D (eA3 E) ws1 → Cov M' ws1 → va_S (eA3 E) (cxS X).heap H1 locs1 →
      W X.1 X.2.1 X.2.2.1 rm (cxS X) X.2.2.2.2.1 X.2.2.2.2.2.1 X.2.2.2.2.2.2.1 X.2.2.2.2.2.2.2.1 X.2.2.2.2.2.2.2.2 H1 locs1 (kc + mc) (ks + ms) Q (F0 X.2.2.2.2.1 (pc + 3) ls (v.toList ++ rest))) :
    W X.1 X.2.1 X.2.2.1 rm (cxS X) X.2.2.2.2.1 X.2.2.2.2.2.1 X.2.2.2.2.2.2.1 X.2.2.2.2.2.2.2.1 X.2.2.2.2.2.2.2.2 H locs kc ks Q (F0 X.2.2.2.2.1 pc ls st0) := by
  intro T hT Xs
  obtain ⟨v, st₀, t, T', Lo, h0, X', hL, e1, e2, ⟨⟨v', M', hv, hp, ws1, hP1, hD1, hV1⟩, hz, hk⟩, stp⟩ := hr T hT Xs
  cases hv
  rw [h0] at hz hk
  obtain ⟨t2, a1, b1⟩ := K v M' T'.heap (locs ++ Lo) ws1 hp (by rw [e1]; exact hP1) hD1 hV1
    ⟨Nat.le_trans hS.1 (by rw [e1]; exact hz), fun q h1 h2 => by rw [e1, hk q (Nat.lt_of_lt_of_le h1 hS.1) h2]; exact hS.2.1 q h1 h2, fun q hq => by
      rcases List.mem_append.mp hq with h | h
      · exact hS.2.2 q h
      · exact hL q h⟩ T' rfl X'
  exact ⟨t2, stp t2 a1, b1⟩
def notMH (y : MethodName) : Prop := y.cls ≠ "java/lang/invoke/MethodHandle" ∧ y.cls ≠ "java/lang/invoke/VarHandle"
/-- words of a call of an instance method by its class; of a static one; of a constructor -/
def CVW (own : String) (idx : Nat) (Cn : String) (y : MethodName) (cc' : ByteArray) (nl' : Nat) (ret' : Option FieldType) (n : Nat) : Prop := Cond.methodLink own idx y ∈ lw_ok ∧ Cond.instanceMethod y ∈ lw_ok ∧ Cond.selects Cn y y ∈ lw_ok ∧ Cond.initialized y.cls ∈ lw_ok ∧ Cond.code y cc' nl' ret' ∈ lw_ok ∧ notMH y ∧ (parseMethodDescriptor y.desc).map (fun d => d.parameters.length) = some n
def CSW (own : String) (idx : Nat) (y : MethodName) (cc' : ByteArray) (nl' : Nat) (ret' : Option FieldType) (n : Nat) : Prop := Cond.methodLink own idx y ∈ lw_ok ∧ Cond.static y ∈ lw_ok ∧ Cond.initialized y.cls ∈ lw_ok ∧ Cond.code y cc' nl' ret' ∈ lw_ok ∧ notMH y ∧ (parseMethodDescriptor y.desc).map (fun d => d.parameters.length) = some n
def CIW (own : String) (idx : Nat) (y : MethodName) (cc' : ByteArray) (nl' n : Nat) : Prop := Cond.methodLink own idx y ∈ lw_ok ∧ Cond.instanceMethod y ∈ lw_ok ∧ Cond.initialized y.cls ∈ lw_ok ∧ Cond.code y cc' nl' none ∈ lw_ok ∧ y.name = "<init>" ∧ notMH y ∧ (parseMethodDescriptor y.desc).map (fun d => d.parameters.length) = some n
def CSN (own : String) (idx : Nat) (y : MethodName) (host : String) (cc' : ByteArray) (nl' : Nat) (ret' : Option FieldType) (n : Nat) : Prop := (own, idx, y, host) ∈ nestW ∧ Cond.static y ∈ lw_ok ∧ Cond.initialized y.cls ∈ lw_ok ∧ Cond.code y cc' nl' ret' ∈ lw_ok ∧ notMH y ∧ (parseMethodDescriptor y.desc).map (fun d => d.parameters.length) = some n
def CIN (own : String) (idx : Nat) (y : MethodName) (host : String) (cc' : ByteArray) (nl' n : Nat) : Prop := (own, idx, y, host) ∈ nestW ∧ Cond.instanceMethod y ∈ lw_ok ∧ Cond.initialized y.cls ∈ lw_ok ∧ Cond.code y cc' nl' none ∈ lw_ok ∧ y.name = "<init>" ∧ notMH y ∧ (parseMethodDescriptor y.desc).map (fun d => d.parameters.length) = some n
/-- the callee's room fits -/
def fitR (rm' : Room) (nl' : Nat) (rm : Room) (kc ks : Nat) : Prop := rm'.frames + 1 ≤ rm.frames ∧ 8 + (nl' + 11) + rm'.locals ≤ rm.locals ∧ kc + rm'.cells ≤ rm.cells ∧ ks + rm'.slots ≤ rm.slots
theorem par_len {y : MethodName} {n : Nat} (h : (parseMethodDescriptor y.desc).map (fun d => d.parameters.length) = some n) : ∀ sig, parseMethodDescriptor y.desc = some sig → n = sig.parameters.length := by
  intro sig hs
  rw [hs] at h
  exact (Option.some.inj h).symm
theorem ok_words {args : Array Value} {s : State} (hts : ∀ w ∈ lw_ok, w.before args s = true) {y : MethodName} {cc' : ByteArray} {nl' : Nat} {ret' : Option FieldType} (hc : Cond.code y cc' nl' ret' ∈ lw_ok) : ∀ w ∈ (Cond.code y cc' nl' ret' :: lw_ok), ∀ (a' : Array Value) (U : State), s.WarmedH U.vm → w.before a' U = true := by
  intro w hw a' U hW
  have hm : w ∈ lw_ok := by
    rcases List.mem_cons.mp hw with rfl | h
    · exact hc
    · exact h
  exact word_at hW (good_of_word (List.mem_filter.mp hm).2) (hts w hm)
variable {idx n : Nat} {Cn : String} {y : MethodName} {cc' : ByteArray} {nl' : Nat} {ret' : Option FieldType} {rm' : Room} {P' : Option Value → MH → Prop} {As rest : List Value} {a : Nat}
theorem r_callV {ci : Nat} {T : u_T} {N : Nat} {fs : List Value} (hd : Dk cc pc (.invokevirtual idx) 3 pc') (hw : CVW own idx Cn y cc' nl' ret' n) (hM : M a = some (.inr (ci, fs))) (hc : classes[ci]? = some (Cn, T, N)) (hC : Ct E (cxL X) y cc' nl' ret' rm' (.ref a :: As) M P') (hn : As.length = n) (hR : fitR rm' nl' rm kc ks) (hs : st = As.reverse ++ .ref a :: rest) (hr : (rest.map fun v => v.category).sum ≤ 8)
    (K : ∀ (v : Option Value) (M' : MH), P' v M' → G E X own cc nl ret ini rm P M' L (kc + rm'.cells) (ks + rm'.slots) pc' (v.toList ++ rest)) : G E X own cc nl ret ini rm P M L kc ks pc st := by
  intro C H locs ls ws hP hD hV hS hl
  obtain ⟨hd, rfl⟩ := hd
  obtain ⟨w1, w2, w3, w4, w5, w6, w7⟩ := hw
  obtain ⟨j, hj⟩ := hV a _ hM
  have hts := C.2.2.2.2.1
  have cw : CallW rm (cxS X) X.2.2.2.2.2.1 own Cn idx y cc' nl' ret' (.code y cc' nl' ret' :: lw_ok) rm' rm'.cells rm'.slots n :=
    ⟨⟨rfl, rfl, hR.1, hR.2.1, ok_words hts w5, List.mem_cons_self, hts _ w5, hts _ w4, w6, par_len w7, hts _ w1⟩, hts _ w2, hts _ w3⟩
  subst hs
  refine call_go (va_runV (As := As) (rest := rest) (g := F0 X.2.2.2.2.1 pc ls (As.reverse ++ .ref a :: rest)) ⟨C.1, C.2.1, C.2.2.1, C.2.2.2.1, hts⟩ hC cw ⟨Wd.blind, va_recv C.kk.1 hP hc hj, fun U hU hW => ⟨rfl, Wd.at C hP hD hV hS hU hW⟩⟩ rfl hn hl.1 rfl (lv_room (m := X.2.2.2.2.1) (pc := pc) (ls := ls) (rest := []) hr) hd ⟨hR.2.2.1, hR.2.2.2⟩) hS ?_
  intro v M' H1 locs1 ws1 hp hP1 hD1 hV1 hS1
  exact K v M' hp C H1 locs1 ls ws1 hP1 hD1 hV1 hS1 hl
theorem r_callS (hd : Dk cc pc (.invokestatic idx) 3 pc') (hw : CSW own idx y cc' nl' ret' n) (hC : Ct E (cxL X) y cc' nl' ret' rm' As M P') (hn : As.length = n) (hR : fitR rm' nl' rm kc ks) (hs : st = As.reverse ++ rest) (hr : (rest.map fun v => v.category).sum ≤ 8)
    (K : ∀ (v : Option Value) (M' : MH), P' v M' → G E X own cc nl ret ini rm P M' L (kc + rm'.cells) (ks + rm'.slots) pc' (v.toList ++ rest)) : G E X own cc nl ret ini rm P M L kc ks pc st := by
  intro C H locs ls ws hP hD hV hS hl
  obtain ⟨hd, rfl⟩ := hd
  obtain ⟨w1, w2, w4, w5, w6, w7⟩ := hw
  have hts := C.2.2.2.2.1
  have cw : CallB rm (cxS X) X.2.2.2.2.2.1 own idx y cc' nl' ret' (.code y cc' nl' ret' :: lw_ok) rm' rm'.cells rm'.slots n ∧ (Cond.static y).before X.2.2.2.2.2.1 (cxS X) = true :=
    ⟨⟨rfl, rfl, hR.1, hR.2.1, ok_words hts w5, List.mem_cons_self, hts _ w5, hts _ w4, w6, par_len w7, hts _ w1⟩, hts _ w2⟩
  subst hs
  refine call_go (va_runS (As := As) (rest := rest) (g := F0 X.2.2.2.2.1 pc ls (As.reverse ++ rest)) ⟨C.1, C.2.1, C.2.2.1, C.2.2.2.1, hts⟩ hC cw ⟨Wd.blind, fun U hU hW => ⟨rfl, Wd.at C hP hD hV hS hU hW⟩⟩ rfl hn hl.1 rfl (lv_room (m := X.2.2.2.2.1) (pc := pc) (ls := ls) (rest := []) hr) hd ⟨hR.2.2.1, hR.2.2.2⟩) hS ?_
  intro v M' H1 locs1 ws1 hp hP1 hD1 hV1 hS1
  exact K v M' hp C H1 locs1 ls ws1 hP1 hD1 hV1 hS1 hl
theorem r_callSN {host : String} (hd : Dk cc pc (.invokestatic idx) 3 pc') (hw : CSN own idx y host cc' nl' ret' n) (hC : Ct E (cxL X) y cc' nl' ret' rm' As M P') (hn : As.length = n) (hR : fitR rm' nl' rm kc ks) (hs : st = As.reverse ++ rest) (hr : (rest.map fun v => v.category).sum ≤ 8)
    (K : ∀ (v : Option Value) (M' : MH), P' v M' → G E X own cc nl ret ini rm P M' L (kc + rm'.cells) (ks + rm'.slots) pc' (v.toList ++ rest)) : G E X own cc nl ret ini rm P M L kc ks pc st := by
  intro C H locs ls ws hP hD hV hS hl
  obtain ⟨hd, rfl⟩ := hd
  obtain ⟨w1, w2, w4, w5, w6, w7⟩ := hw
  have hts := C.2.2.2.2.1
  have cw : va_CN rm (cxS X) X.2.2.2.2.2.1 own idx y host cc' nl' ret' (.code y cc' nl' ret' :: lw_ok) rm' rm'.cells rm'.slots n ∧ (Cond.static y).before X.2.2.2.2.2.1 (cxS X) = true ∧ True :=
    ⟨⟨⟨rfl, rfl, hR.1, hR.2.1, ok_words hts w5, List.mem_cons_self⟩, hts _ w5, hts _ w4, w6, par_len w7, va_Nw.use rfl (C.kk.2.1 _ w1)⟩, hts _ w2, trivial⟩
  subst hs
  refine call_go (va_runSN (As := As) (rest := rest) (g := F0 X.2.2.2.2.1 pc ls (As.reverse ++ rest)) ⟨C.1, C.2.1, C.2.2.1, C.2.2.2.1, hts⟩ hC cw ⟨Wd.blind, fun U hU hW => ⟨rfl, Wd.at C hP hD hV hS hU hW⟩⟩ rfl hn hl.1 rfl (lv_room (m := X.2.2.2.2.1) (pc := pc) (ls := ls) (rest := []) hr) hd ⟨hR.2.2.1, hR.2.2.2⟩) hS ?_
  intro v M' H1 locs1 ws1 hp hP1 hD1 hV1 hS1
  exact K v M' hp C H1 locs1 ls ws1 hP1 hD1 hV1 hS1 hl
theorem r_callI (hd : Dk cc pc (.invokespecial idx) 3 pc') (hw : CIW own idx y cc' nl' n) (hC : Ct E (cxL X) y cc' nl' none rm' (.ref a :: As) M P') (hn : As.length = n) (hR : fitR rm' nl' rm kc ks) (hs : st = As.reverse ++ .ref a :: rest) (hr : (rest.map fun v => v.category).sum ≤ 8)
    (K : ∀ (v : Option Value) (M' : MH), P' v M' → G E X own cc nl ret ini rm P M' L (kc + rm'.cells) (ks + rm'.slots) pc' (v.toList ++ rest)) : G E X own cc nl ret ini rm P M L kc ks pc st := by
  intro C H locs ls ws hP hD hV hS hl
  obtain ⟨hd, rfl⟩ := hd
  obtain ⟨w1, w2, w4, w5, w3, w6, w7⟩ := hw
  have hts := C.2.2.2.2.1
  have cw : CallB rm (cxS X) X.2.2.2.2.2.1 own idx y cc' nl' none (.code y cc' nl' none :: lw_ok) rm' rm'.cells rm'.slots n ∧ y.name = "<init>" ∧ (Cond.instanceMethod y).before X.2.2.2.2.2.1 (cxS X) = true :=
    ⟨⟨rfl, rfl, hR.1, hR.2.1, ok_words hts w5, List.mem_cons_self, hts _ w5, hts _ w4, w6, par_len w7, hts _ w1⟩, w3, hts _ w2⟩
  subst hs
  refine call_go (va_runI (As := As) (rest := rest) (g := F0 X.2.2.2.2.1 pc ls (As.reverse ++ .ref a :: rest)) ⟨C.1, C.2.1, C.2.2.1, C.2.2.2.1, hts⟩ hC cw ⟨Wd.blind, fun U hU hW => ⟨rfl, Wd.at C hP hD hV hS hU hW⟩⟩ rfl hn hl.1 rfl (lv_room (m := X.2.2.2.2.1) (pc := pc) (ls := ls) (rest := []) hr) hd ⟨hR.2.2.1, hR.2.2.2⟩) hS ?_
  intro v M' H1 locs1 ws1 hp hP1 hD1 hV1 hS1
  exact K v M' hp C H1 locs1 ls ws1 hP1 hD1 hV1 hS1 hl
theorem r_callIN {host : String} (hd : Dk cc pc (.invokespecial idx) 3 pc') (hw : CIN own idx y host cc' nl' n) (hC : Ct E (cxL X) y cc' nl' none rm' (.ref a :: As) M P') (hn : As.length = n) (hR : fitR rm' nl' rm kc ks) (hs : st = As.reverse ++ .ref a :: rest) (hr : (rest.map fun v => v.category).sum ≤ 8)
    (K : ∀ (v : Option Value) (M' : MH), P' v M' → G E X own cc nl ret ini rm P M' L (kc + rm'.cells) (ks + rm'.slots) pc' (v.toList ++ rest)) : G E X own cc nl ret ini rm P M L kc ks pc st := by
  intro C H locs ls ws hP hD hV hS hl
  obtain ⟨hd, rfl⟩ := hd
  obtain ⟨w1, w2, w4, w5, w3, w6, w7⟩ := hw
  have hts := C.2.2.2.2.1
  have cw : va_CN rm (cxS X) X.2.2.2.2.2.1 own idx y host cc' nl' none (.code y cc' nl' none :: lw_ok) rm' rm'.cells rm'.slots n ∧ y.name = "<init>" ∧ (Cond.instanceMethod y).before X.2.2.2.2.2.1 (cxS X) = true :=
    ⟨⟨⟨rfl, rfl, hR.1, hR.2.1, ok_words hts w5, List.mem_cons_self⟩, hts _ w5, hts _ w4, w6, par_len w7, va_Nw.use rfl (C.kk.2.1 _ w1)⟩, w3, hts _ w2⟩
  subst hs
  refine call_go (va_runIN (As := As) (rest := rest) (g := F0 X.2.2.2.2.1 pc ls (As.reverse ++ .ref a :: rest)) ⟨C.1, C.2.1, C.2.2.1, C.2.2.2.1, hts⟩ hC cw ⟨Wd.blind, fun U hU hW => ⟨rfl, Wd.at C hP hD hV hS hU hW⟩⟩ rfl hn hl.1 rfl (lv_room (m := X.2.2.2.2.1) (pc := pc) (ls := ls) (rest := []) hr) hd ⟨hR.2.2.1, hR.2.2.2⟩) hS ?_
  intro v M' H1 locs1 ws1 hp hP1 hD1 hV1 hS1
  exact K v M' hp C H1 locs1 ls ws1 hP1 hD1 hV1 hS1 hl
end CALLS
theorem ent_args : ∀ (vs : List Value) (i k : Nat) (v : Value), vs.all (fun v => v.category == 1) = true → vs[k]? = some v → (i + k, v) ∈ lv_args i vs
  | [], _, _, _, _, h => by simp at h
  | w :: vs, i, 0, v, _, h => by
    rw [List.getElem?_cons_zero] at h
    cases h
    simp [lv_args]
  | w :: vs, i, k + 1, v, hc, h => by
    rw [List.getElem?_cons_succ] at h
    simp only [List.all_cons, Bool.and_eq_true, beq_iff_eq] at hc
    have := ent_args vs (i + 1) k v hc.2 h
    rw [lv_args, if_neg (by omega)]
    exact List.mem_cons_of_mem _ (by rw [show i + (k + 1) = i + 1 + k by omega]; exact this)
theorem ent_len : ∀ (vs : List Value), vs.all (fun v => v.category == 1) = true → (lg_sl vs).length = vs.length
  | [], _ => rfl
  | w :: vs, hc => by
    simp only [List.all_cons, Bool.and_eq_true, beq_iff_eq] at hc
    have := ent_len vs hc.2
    simp only [lg_sl] at this ⊢
    rw [List.flatMap_cons, if_neg (by omega)]
    simp [this]
theorem Ct.of {E : EN} {l : Launch} {y : MethodName} {cc : ByteArray} {nl : Nat} {ret : Option FieldType} {rm : Room} {args : List Value} {M : MH} {P : Option Value → MH → Prop} {own : String} {ini : Bool} {L : List (Option Value)}
    (hp : plainName y.cls = true) (hown : y.cls = own) (hini : ini = true → y.name = "<init>") (hc : args.all (fun v => v.category == 1) = true) (hn : args.length ≤ nl) (hL : L = args.map some ++ List.replicate (nl - args.length) none)
    (body : ∀ X : CX, cxL X = l → G E X own cc nl ret ini rm P M L 0 0 0 []) : Ct E l y cc nl ret rm args M P := by
  refine Met.ofW (cc := cc) (maxL := nl) (ret := ret) hp rfl ?_
  intro p e s m av below meth c s₁ B hml hv
  obtain ⟨rfl, h0, hK, hG, ws, hP, hD, hV⟩ := hv
  have hts := atoms_spec (ws := .code y cc nl ret :: lw_ok) B.pre
  have hlen := ent_len args hc
  have hl := lv_entry args (n := nl) (by rw [hlen]; exact hn)
  rw [lg_entry_eq]
  refine body (p, l, e, s, m, args.toArray, below, meth, c) rfl ⟨B.exec, B.bytes, hml, hown ▸ findClass_of_methodNamed B.named, fun w hw => hts w (List.mem_cons_of_mem _ hw), B.returns, B.notSynchronized, fun hi => ((name_of_methodNamed B.named B.method).1).trans (hini hi), h0, hK, hG⟩ s.heap [] _ ws hP hD hV va_S.rf ⟨hl.1, hl.2.1, fun k v hk => ?_, fun k v hk => ?_⟩
  all_goals
    rw [hL] at hk
    have hk2 : args[k]? = some v := by
      by_cases hkl : k < args.length
      · rw [List.getElem?_append_left (by simpa using hkl), List.getElem?_map] at hk
        cases hx : args[k]? with
        | none => rw [hx] at hk; cases hk
        | some w => rw [hx] at hk; exact congrArg some (Option.some.inj (Option.some.inj hk))
      · rw [List.getElem?_append_right (by simpa using hkl)] at hk
        rw [List.getElem?_replicate] at hk
        split at hk <;> simp at hk
  · have := ent_args args 0 k v hc hk2
    rw [Nat.zero_add] at this
    exact hl.2.2 (k, v) this
  · have := List.all_eq_true.mp hc v (List.mem_of_getElem? hk2)
    simpa using this
