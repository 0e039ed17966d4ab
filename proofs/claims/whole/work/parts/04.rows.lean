/-! one row an instruction, over G -/
def Dk (cc : ByteArray) (pc : Nat) (i : Instr) (n : Nat) (pc' : Nat) : Prop := decode cc pc = .ok (i, n) ∧ pc + n = pc'
def Db (cc : ByteArray) (pc : Nat) (i : Instr) (off : Int) (pc' tgt : Nat) : Prop := decode cc pc = .ok (i, 3) ∧ pc + 3 = pc' ∧ (pc : Int) + off = (tgt : Int)
def lvl_pr (L : List (Option Value)) : List (Nat × Value) := (List.range L.length).filterMap (fun k => (L.getD k none).map (fun v => (k, v)))
theorem lvl_mem {L : List (Option Value)} {k : Nat} {v : Value} : (k, v) ∈ lvl_pr L ↔ L[k]? = some (some v) := by
  unfold lvl_pr
  rw [List.mem_filterMap]
  constructor
  · rintro ⟨j, hj, h⟩
    cases hx : L.getD j none with
    | none => rw [hx] at h; cases h
    | some w =>
      rw [hx] at h
      have h1 := Option.some.inj h
      have h2 : j = k := congrArg Prod.fst h1
      have h3 : w = v := congrArg Prod.snd h1
      subst h2; subst h3
      have hj' : j < L.length := List.mem_range.mp hj
      rw [List.getD_eq_getElem?_getD, List.getElem?_eq_getElem hj'] at hx
      rw [List.getElem?_eq_getElem hj']
      exact congrArg some hx
  · intro h
    have hk : k < L.length := (List.getElem?_eq_some_iff.mp h).1
    exact ⟨k, List.mem_range.mpr hk, by rw [List.getD_eq_getElem?_getD, h]; rfl⟩
theorem lvL.has {ls : Array Slot} {nl : Nat} {L : List (Option Value)} (h : lvL ls nl L) : lv_has ls nl (lvl_pr L) := ⟨h.1, h.2.1, fun q hq => h.2.2.1 q.1 q.2 (lvl_mem.mp hq)⟩
theorem lvL.at {ls : Array Slot} {nl : Nat} {L : List (Option Value)} (h : lvL ls nl L) {k : Nat} {v : Value} (hk : L[k]? = some (some v)) : ls[k]? = some (.val v) := h.2.2.1 k v hk
theorem lvL.of {ls : Array Slot} {nl : Nat} {L : List (Option Value)} (hc : ∀ (k : Nat) (v : Value), L[k]? = some (some v) → v.category = 1) {i : Nat} {v : Value} (hv : v.category = 1) (h : lv_has ls nl ((i, v) :: (lvl_pr L).filter (fun q => !(q.1 == i) && !(q.1 + 1 == i && q.2.category == 2)))) : lvL ls nl (L.set i (some v)) := by
  have key : ∀ (k : Nat) (w : Value), (L.set i (some v))[k]? = some (some w) → (k = i ∧ w = v) ∨ (k ≠ i ∧ L[k]? = some (some w)) := by
    intro k w hk
    by_cases hki : k = i
    · subst hki
      have hl : k < L.length := by
        have := (List.getElem?_eq_some_iff.mp hk).1
        rwa [List.length_set] at this
      rw [List.getElem?_set_self hl] at hk
      exact Or.inl ⟨rfl, (Option.some.inj (Option.some.inj hk)).symm⟩
    · rw [List.getElem?_set_ne (Ne.symm hki)] at hk
      exact Or.inr ⟨hki, hk⟩
  refine ⟨h.1, h.2.1, fun k w hk => ?_, fun k w hk => ?_⟩
  · rcases key k w hk with ⟨rfl, rfl⟩ | ⟨h1, h2⟩
    · exact h.2.2 (k, w) List.mem_cons_self
    · refine h.2.2 (k, w) (List.mem_cons_of_mem _ (List.mem_filter.mpr ⟨lvl_mem.mpr h2, ?_⟩))
      have := hc k w h2
      simp [h1, this]
  · rcases key k w hk with ⟨rfl, rfl⟩ | ⟨h1, h2⟩
    · exact hv
    · exact hc k w h2
theorem Cov.set {M : MH} {ws : va_W} {A : Nat → Prop} (hV : Cov M ws) (hD : va_D A ws) {k a : Nat} {e0 e : va_E} (hk : ws[k]? = some (a, e0)) : Cov (mset M a e) (ws.set k (a, e)) := by
  intro b f hb
  by_cases hba : b = a
  · subst hba
    rw [mset_self] at hb
    cases hb
    exact ⟨k, List.getElem?_set_self (List.getElem?_eq_some_iff.mp hk).1⟩
  · rw [mset_ne M e hba] at hb
    obtain ⟨j, hj⟩ := hV b f hb
    refine ⟨j, ?_⟩
    rw [List.getElem?_set_ne, hj]
    intro h
    subst h
    rw [hk] at hj
    exact hba (congrArg Prod.fst (Option.some.inj hj)).symm
theorem Cov.push {M : MH} {ws : va_W} (hV : Cov M ws) {q : Nat} {e : va_E} : Cov (mset M q e) (ws ++ [(q, e)]) := by
  intro b f hb
  by_cases hba : b = q
  · subst hba
    rw [mset_self] at hb
    cases hb
    exact ⟨ws.length, by simp⟩
  · rw [mset_ne M e hba] at hb
    obtain ⟨j, hj⟩ := hV b f hb
    exact ⟨j, by rw [List.getElem?_append_left (List.getElem?_eq_some_iff.mp hj).1]; exact hj⟩
theorem Cov.fresh {M : MH} {ws : va_W} {A : Nat → Prop} (hV : Cov M ws) {q : Nat} {e : va_E} (hD : va_D A (ws ++ [(q, e)])) : M q = none := by
  cases h : M q with
  | none => rfl
  | some f =>
    obtain ⟨j, hj⟩ := hV q f h
    have hl := (List.getElem?_eq_some_iff.mp hj).1
    have h1 := hD.1 j ws.length (q, f) (q, e) (by rw [List.getElem?_append_left hl]; exact hj) (by simp) rfl
    omega
/-- a field's link, its class's number, its place -/
def FL (own : String) (idx ci k : Nat) : Prop := ∃ (C : String) (T : u_T) (N : Nat) (ref : String), classes[ci]? = some (C, T, N) ∧ k < N ∧ Cond.fieldLink own idx ref (T k).2.1 (T k).2.2.1 ∈ lw_ok ∧ (ref = (T k).1 ∨ Cond.sameField ref (T k).1 (T k).2.1 (T k).2.2.1 ∈ lw_ok) ∧ ∀ w ∈ u_ws C T N, w ∈ lw_ok
def FP (own : String) (idx ci k : Nat) (ty : FieldType) : Prop := ∃ (C : String) (T : u_T) (N : Nat) (ref : String) (ty0 : Nat → FieldType), classes[ci]? = some (C, T, N) ∧ k < N ∧ Cond.fieldLink own idx ref (T k).2.1 (T k).2.2.1 ∈ lw_ok ∧ (ref = (T k).1 ∨ Cond.sameField ref (T k).1 (T k).2.1 (T k).2.2.1 ∈ lw_ok) ∧ (∀ w ∈ u_ws C T N, w ∈ lw_ok) ∧ (∀ k, k < N → parseFieldDescriptor (T k).2.2.1 = some (ty0 k)) ∧ (∀ a, a < N → ∀ b, b < N → a ≠ b → (T a).2.1 ≠ (T b).2.1) ∧ parseFieldDescriptor (T k).2.2.1 = some ty ∧ (T k).2.2.2 = false
def FPF (own : String) (idx ci k : Nat) (ty : FieldType) : Prop := ∃ (C : String) (T : u_T) (N : Nat) (ref : String) (ty0 : Nat → FieldType), classes[ci]? = some (C, T, N) ∧ k < N ∧ Cond.fieldLink own idx ref (T k).2.1 (T k).2.2.1 ∈ lw_ok ∧ (ref = (T k).1 ∨ Cond.sameField ref (T k).1 (T k).2.1 (T k).2.2.1 ∈ lw_ok) ∧ (∀ w ∈ u_ws C T N, w ∈ lw_ok) ∧ (∀ k, k < N → parseFieldDescriptor (T k).2.2.1 = some (ty0 k)) ∧ (∀ a, a < N → ∀ b, b < N → a ≠ b → (T a).2.1 ≠ (T b).2.1) ∧ parseFieldDescriptor (T k).2.2.1 = some ty ∧ (T k).2.2.2 = true ∧ (T k).1 = own
def NW (own : String) (idx ci N : Nat) (fs : List Value) : Prop := ∃ (C : String) (T : u_T) (ty : Nat → FieldType), classes[ci]? = some (C, T, N) ∧ (∀ w ∈ u_ws C T N, w ∈ lw_ok) ∧ (∀ k, k < N → parseFieldDescriptor (T k).2.2.1 = some (ty k)) ∧ Cond.classLink own idx C ∈ lw_ok ∧ Cond.instantiable C N ∈ lw_ok ∧ Cond.initialized C ∈ lw_ok ∧ ∀ j, j < N → defaultValue (ty j) = vp_V fs j
theorem FLs {args : Array Value} {s : State} (hts : ∀ w ∈ lw_ok, w.before args s = true) {ref decl n d : String} (h : ref = decl ∨ Cond.sameField ref decl n d ∈ lw_ok) : ∀ x, s.fieldFound? decl n d = some x → s.fieldFound? ref n d = some x := by
  intro x hx
  rcases h with rfl | h
  · exact hx
  · exact u_same (hts _ h) x hx
theorem Cok.kk {E : EN} {X : CX} {own : String} {cc : ByteArray} {nl : Nat} {ret : Option FieldType} {ini : Bool} (C : Cok E X own cc nl ret ini) : KK E (cxS X) := C.2.2.2.2.2.2.2.2.2.1
theorem Cok.hA {E : EN} {X : CX} {own : String} {cc : ByteArray} {nl : Nat} {ret : Option FieldType} {ini : Bool} (C : Cok E X own cc nl ret ini) : ∀ q, (cxS X).heap.size ≤ q → eA3 E q := fun _ h => Nat.le_trans C.2.2.2.2.2.2.2.2.1 h
theorem ac0 : Cond.arrayClass .int ∈ lw_tbl := List.mem_of_getElem? (i := 207) (by decide +kernel)
theorem ac1 : Cond.arrayClass .byte ∈ lw_tbl := List.mem_of_getElem? (i := 208) (by decide +kernel)
theorem ac2 : Cond.arrayClass .boolean ∈ lw_tbl := List.mem_of_getElem? (i := 1569) (by decide +kernel)
section ROWS
variable {E : EN} {X : CX} {own : String} {cc : ByteArray} {nl : Nat} {ret : Option FieldType} {ini : Bool} {rm : Room} {P : Option Value → MH → Prop} {M : MH} {L : List (Option Value)} {kc ks pc pc' tgt : Nat} {st : List Value}
theorem r_iload_n {k : Fin 4} {v : Int32} (hd : Dk cc pc (.iload_n k) 1 pc') (hv : L[(k : Nat)]? = some (some (.int v))) (K : G E X own cc nl ret ini rm P M L kc ks pc' (.int v :: st)) : G E X own cc nl ret ini rm P M L kc ks pc (st) := by
  intro C H locs ls ws hP hD hV hS hl
  obtain ⟨hd, rfl⟩ := hd
  exact lv_iload_n C.1 C.2.1 hd rfl (hl.at hv) (K C H locs ls ws hP hD hV hS hl)
theorem r_iload {k : Nat} {v : Int32} (hd : Dk cc pc (.iload k) 2 pc') (hv : L[k]? = some (some (.int v))) (K : G E X own cc nl ret ini rm P M L kc ks pc' (.int v :: st)) : G E X own cc nl ret ini rm P M L kc ks pc (st) := by
  intro C H locs ls ws hP hD hV hS hl
  obtain ⟨hd, rfl⟩ := hd
  exact lv_iload C.1 C.2.1 hd (hl.at hv) (K C H locs ls ws hP hD hV hS hl)
theorem r_aload_n {k : Fin 4} {v : Nat} (hd : Dk cc pc (.aload_n k) 1 pc') (hv : L[(k : Nat)]? = some (some (.ref v))) (K : G E X own cc nl ret ini rm P M L kc ks pc' (.ref v :: st)) : G E X own cc nl ret ini rm P M L kc ks pc (st) := by
  intro C H locs ls ws hP hD hV hS hl
  obtain ⟨hd, rfl⟩ := hd
  exact lv_aload_n C.1 C.2.1 hd rfl (hl.at hv) (K C H locs ls ws hP hD hV hS hl)
theorem r_aload {k : Nat} {v : Nat} (hd : Dk cc pc (.aload k) 2 pc') (hv : L[k]? = some (some (.ref v))) (K : G E X own cc nl ret ini rm P M L kc ks pc' (.ref v :: st)) : G E X own cc nl ret ini rm P M L kc ks pc (st) := by
  intro C H locs ls ws hP hD hV hS hl
  obtain ⟨hd, rfl⟩ := hd
  exact lv_aload C.1 C.2.1 hd (hl.at hv) (K C H locs ls ws hP hD hV hS hl)
theorem r_aload_nN {k : Fin 4} (hd : Dk cc pc (.aload_n k) 1 pc') (hv : L[(k : Nat)]? = some (some .null)) (K : G E X own cc nl ret ini rm P M L kc ks pc' (.null :: st)) : G E X own cc nl ret ini rm P M L kc ks pc (st) := by
  intro C H locs ls ws hP hD hV hS hl
  obtain ⟨hd, rfl⟩ := hd
  exact lv_aload_nN C.1 C.2.1 hd rfl (hl.at hv) (K C H locs ls ws hP hD hV hS hl)
theorem r_aloadN {k : Nat} (hd : Dk cc pc (.aload k) 2 pc') (hv : L[k]? = some (some .null)) (K : G E X own cc nl ret ini rm P M L kc ks pc' (.null :: st)) : G E X own cc nl ret ini rm P M L kc ks pc (st) := by
  intro C H locs ls ws hP hD hV hS hl
  obtain ⟨hd, rfl⟩ := hd
  exact lv_aloadN C.1 C.2.1 hd (hl.at hv) (K C H locs ls ws hP hD hV hS hl)
theorem r_iconst {n : Int} {v : Int32} (hd : Dk cc pc (.iconst n) 1 pc') (hv : Int32.ofInt n = v) (K : G E X own cc nl ret ini rm P M L kc ks pc' (.int v :: st)) : G E X own cc nl ret ini rm P M L kc ks pc (st) := by
  intro C H locs ls ws hP hD hV hS hl
  obtain ⟨hd, rfl⟩ := hd
  exact lv_iconst C.1 C.2.1 hd hv (K C H locs ls ws hP hD hV hS hl)
theorem r_bipush {n : Int} {v : Int32} (hd : Dk cc pc (.bipush n) 2 pc') (hv : (Int8.ofInt n).toInt32 = v) (K : G E X own cc nl ret ini rm P M L kc ks pc' (.int v :: st)) : G E X own cc nl ret ini rm P M L kc ks pc (st) := by
  intro C H locs ls ws hP hD hV hS hl
  obtain ⟨hd, rfl⟩ := hd
  exact lv_bipush C.1 C.2.1 hd hv (K C H locs ls ws hP hD hV hS hl)
theorem r_sipush {n : Int} {v : Int32} (hd : Dk cc pc (.sipush n) 3 pc') (hv : (Int16.ofInt n).toInt32 = v) (K : G E X own cc nl ret ini rm P M L kc ks pc' (.int v :: st)) : G E X own cc nl ret ini rm P M L kc ks pc (st) := by
  intro C H locs ls ws hP hD hV hS hl
  obtain ⟨hd, rfl⟩ := hd
  exact lv_sipush C.1 C.2.1 hd hv (K C H locs ls ws hP hD hV hS hl)
theorem r_null  (hd : Dk cc pc .aconst_null 1 pc')  (K : G E X own cc nl ret ini rm P M L kc ks pc' (.null :: st)) : G E X own cc nl ret ini rm P M L kc ks pc (st) := by
  intro C H locs ls ws hP hD hV hS hl
  obtain ⟨hd, rfl⟩ := hd
  exact lv_null C.1 C.2.1 hd (K C H locs ls ws hP hD hV hS hl)
theorem r_iadd {x y : Int32} (hd : Dk cc pc .iadd 1 pc')  (K : G E X own cc nl ret ini rm P M L kc ks pc' (.int (x + y) :: st)) : G E X own cc nl ret ini rm P M L kc ks pc (.int y :: .int x :: st) := by
  intro C H locs ls ws hP hD hV hS hl
  obtain ⟨hd, rfl⟩ := hd
  exact lv_iadd C.1 C.2.1 hd (K C H locs ls ws hP hD hV hS hl)
theorem r_isub {x y : Int32} (hd : Dk cc pc .isub 1 pc')  (K : G E X own cc nl ret ini rm P M L kc ks pc' (.int (x - y) :: st)) : G E X own cc nl ret ini rm P M L kc ks pc (.int y :: .int x :: st) := by
  intro C H locs ls ws hP hD hV hS hl
  obtain ⟨hd, rfl⟩ := hd
  exact lv_isub C.1 C.2.1 hd (K C H locs ls ws hP hD hV hS hl)
theorem r_imul {x y : Int32} (hd : Dk cc pc .imul 1 pc')  (K : G E X own cc nl ret ini rm P M L kc ks pc' (.int (x * y) :: st)) : G E X own cc nl ret ini rm P M L kc ks pc (.int y :: .int x :: st) := by
  intro C H locs ls ws hP hD hV hS hl
  obtain ⟨hd, rfl⟩ := hd
  exact lv_imul C.1 C.2.1 hd (K C H locs ls ws hP hD hV hS hl)
theorem r_iand {x y : Int32} (hd : Dk cc pc .iand 1 pc')  (K : G E X own cc nl ret ini rm P M L kc ks pc' (.int (x &&& y) :: st)) : G E X own cc nl ret ini rm P M L kc ks pc (.int y :: .int x :: st) := by
  intro C H locs ls ws hP hD hV hS hl
  obtain ⟨hd, rfl⟩ := hd
  exact lv_iand C.1 C.2.1 hd (K C H locs ls ws hP hD hV hS hl)
theorem r_ior {x y : Int32} (hd : Dk cc pc .ior 1 pc')  (K : G E X own cc nl ret ini rm P M L kc ks pc' (.int (x ||| y) :: st)) : G E X own cc nl ret ini rm P M L kc ks pc (.int y :: .int x :: st) := by
  intro C H locs ls ws hP hD hV hS hl
  obtain ⟨hd, rfl⟩ := hd
  exact lv_ior C.1 C.2.1 hd (K C H locs ls ws hP hD hV hS hl)
theorem r_ixor {x y : Int32} (hd : Dk cc pc .ixor 1 pc')  (K : G E X own cc nl ret ini rm P M L kc ks pc' (.int (x ^^^ y) :: st)) : G E X own cc nl ret ini rm P M L kc ks pc (.int y :: .int x :: st) := by
  intro C H locs ls ws hP hD hV hS hl
  obtain ⟨hd, rfl⟩ := hd
  exact lv_ixor C.1 C.2.1 hd (K C H locs ls ws hP hD hV hS hl)
theorem r_ishl {x y : Int32} (hd : Dk cc pc .ishl 1 pc')  (K : G E X own cc nl ret ini rm P M L kc ks pc' (.int (x <<< (y &&& 31)) :: st)) : G E X own cc nl ret ini rm P M L kc ks pc (.int y :: .int x :: st) := by
  intro C H locs ls ws hP hD hV hS hl
  obtain ⟨hd, rfl⟩ := hd
  exact lv_ishl C.1 C.2.1 hd (K C H locs ls ws hP hD hV hS hl)
theorem r_ishr {x y : Int32} (hd : Dk cc pc .ishr 1 pc')  (K : G E X own cc nl ret ini rm P M L kc ks pc' (.int (x >>> (y &&& 31)) :: st)) : G E X own cc nl ret ini rm P M L kc ks pc (.int y :: .int x :: st) := by
  intro C H locs ls ws hP hD hV hS hl
  obtain ⟨hd, rfl⟩ := hd
  exact lv_ishr C.1 C.2.1 hd (K C H locs ls ws hP hD hV hS hl)
theorem r_iushr {x y : Int32} (hd : Dk cc pc .iushr 1 pc')  (K : G E X own cc nl ret ini rm P M L kc ks pc' (.int (x.toUInt32 >>> (y.toUInt32 &&& Int32.toUInt32 31)).toInt32 :: st)) : G E X own cc nl ret ini rm P M L kc ks pc (.int y :: .int x :: st) := by
  intro C H locs ls ws hP hD hV hS hl
  obtain ⟨hd, rfl⟩ := hd
  exact lv_iushr C.1 C.2.1 hd rfl (K C H locs ls ws hP hD hV hS hl)
theorem r_idiv {x y : Int32} (hd : Dk cc pc .idiv 1 pc') (hn : ¬ y = 0) (K : G E X own cc nl ret ini rm P M L kc ks pc' (.int (x / y) :: st)) : G E X own cc nl ret ini rm P M L kc ks pc (.int y :: .int x :: st) := by
  intro C H locs ls ws hP hD hV hS hl
  obtain ⟨hd, rfl⟩ := hd
  exact lv_idiv C.1 C.2.1 hd hn (K C H locs ls ws hP hD hV hS hl)
theorem r_irem {x y : Int32} (hd : Dk cc pc .irem 1 pc') (hn : ¬ y = 0) (K : G E X own cc nl ret ini rm P M L kc ks pc' (.int (x - x / y * y) :: st)) : G E X own cc nl ret ini rm P M L kc ks pc (.int y :: .int x :: st) := by
  intro C H locs ls ws hP hD hV hS hl
  obtain ⟨hd, rfl⟩ := hd
  exact lv_irem C.1 C.2.1 hd hn (K C H locs ls ws hP hD hV hS hl)
theorem r_ineg {x : Int32} (hd : Dk cc pc .ineg 1 pc')  (K : G E X own cc nl ret ini rm P M L kc ks pc' (.int (-x) :: st)) : G E X own cc nl ret ini rm P M L kc ks pc (.int x :: st) := by
  intro C H locs ls ws hP hD hV hS hl
  obtain ⟨hd, rfl⟩ := hd
  exact lv_ineg C.1 C.2.1 hd (K C H locs ls ws hP hD hV hS hl)
theorem r_i2b {x : Int32} (hd : Dk cc pc .i2b 1 pc')  (K : G E X own cc nl ret ini rm P M L kc ks pc' (.int x.toInt8.toInt32 :: st)) : G E X own cc nl ret ini rm P M L kc ks pc (.int x :: st) := by
  intro C H locs ls ws hP hD hV hS hl
  obtain ⟨hd, rfl⟩ := hd
  exact lv_i2b C.1 C.2.1 hd rfl (K C H locs ls ws hP hD hV hS hl)
theorem r_i2c {x : Int32} (hd : Dk cc pc .i2c 1 pc')  (K : G E X own cc nl ret ini rm P M L kc ks pc' (.int (x.toUInt32 % 65536).toInt32 :: st)) : G E X own cc nl ret ini rm P M L kc ks pc (.int x :: st) := by
  intro C H locs ls ws hP hD hV hS hl
  obtain ⟨hd, rfl⟩ := hd
  exact lv_i2c C.1 C.2.1 hd rfl (K C H locs ls ws hP hD hV hS hl)
theorem r_dup {v : Value} (hd : Dk cc pc .dup 1 pc') (hv : v.category = 1) (K : G E X own cc nl ret ini rm P M L kc ks pc' (v :: v :: st)) : G E X own cc nl ret ini rm P M L kc ks pc (v :: st) := by
  intro C H locs ls ws hP hD hV hS hl
  obtain ⟨hd, rfl⟩ := hd
  exact lv_dup C.1 C.2.1 hd hv (K C H locs ls ws hP hD hV hS hl)
theorem r_pop {v : Value} (hd : Dk cc pc .pop 1 pc') (hv : v.category = 1) (K : G E X own cc nl ret ini rm P M L kc ks pc' (st)) : G E X own cc nl ret ini rm P M L kc ks pc (v :: st) := by
  intro C H locs ls ws hP hD hV hS hl
  obtain ⟨hd, rfl⟩ := hd
  exact lv_pop C.1 C.2.1 hd hv (K C H locs ls ws hP hD hV hS hl)
theorem r_dup_x1 {v w : Value} (hd : Dk cc pc .dup_x1 1 pc') (hv : v.category = 1) (hw : w.category = 1) (K : G E X own cc nl ret ini rm P M L kc ks pc' (v :: w :: v :: st)) : G E X own cc nl ret ini rm P M L kc ks pc (v :: w :: st) := by
  intro C H locs ls ws hP hD hV hS hl
  obtain ⟨hd, rfl⟩ := hd
  exact lv_dup_x1 C.1 C.2.1 hd hv hw (K C H locs ls ws hP hD hV hS hl)
theorem r_dup2 {v w : Value} (hd : Dk cc pc .dup2 1 pc') (hv : v.category = 1) (hw : w.category = 1) (K : G E X own cc nl ret ini rm P M L kc ks pc' (v :: w :: v :: w :: st)) : G E X own cc nl ret ini rm P M L kc ks pc (v :: w :: st) := by
  intro C H locs ls ws hP hD hV hS hl
  obtain ⟨hd, rfl⟩ := hd
  exact lv_dup2_11 C.1 C.2.1 hd hv hw (K C H locs ls ws hP hD hV hS hl)
theorem r_ldc {n : Nat} {v : Int32} (hd : Dk cc pc (.ldc n) 2 pc') (hw : Cond.constant own n v ∈ lw_ok) (K : G E X own cc nl ret ini rm P M L kc ks pc' (.int v :: st)) : G E X own cc nl ret ini rm P M L kc ks pc (st) := by
  intro C H locs ls ws hP hD hV hS hl
  obtain ⟨hd, rfl⟩ := hd
  exact lv_ldc C.1 C.2.1 C.2.2.2.1 (C.2.2.2.2.1 _ hw) hd (K C H locs ls ws hP hD hV hS hl)
theorem r_ldcw {n : Nat} {v : Int32} (hd : Dk cc pc (.ldc_w n) 3 pc') (hw : Cond.constant own n v ∈ lw_ok) (K : G E X own cc nl ret ini rm P M L kc ks pc' (.int v :: st)) : G E X own cc nl ret ini rm P M L kc ks pc (st) := by
  intro C H locs ls ws hP hD hV hS hl
  obtain ⟨hd, rfl⟩ := hd
  exact lv_ldcw C.1 C.2.1 C.2.2.2.1 (C.2.2.2.2.1 _ hw) hd (K C H locs ls ws hP hD hV hS hl)
theorem r_istore_n {k : Fin 4} {v : Int32} (hd : Dk cc pc (.istore_n k) 1 pc') (hk : (k : Nat) < nl) (K : G E X own cc nl ret ini rm P M (L.set (k : Nat) (some (.int v))) kc ks pc' st) : G E X own cc nl ret ini rm P M L kc ks pc (.int v :: st) := by
  intro C H locs ls ws hP hD hV hS hl
  obtain ⟨hd, rfl⟩ := hd
  exact lv_istore_n C.1 C.2.1 hd rfl hl.has hk rfl (fun ls' h => K C H locs ls' ws hP hD hV hS (lvL.of hl.2.2.2 rfl h))
theorem r_istore {k : Nat} {v : Int32} (hd : Dk cc pc (.istore k) 2 pc') (hk : k < nl) (K : G E X own cc nl ret ini rm P M (L.set k (some (.int v))) kc ks pc' st) : G E X own cc nl ret ini rm P M L kc ks pc (.int v :: st) := by
  intro C H locs ls ws hP hD hV hS hl
  obtain ⟨hd, rfl⟩ := hd
  exact lv_istore C.1 C.2.1 hd  hl.has hk rfl (fun ls' h => K C H locs ls' ws hP hD hV hS (lvL.of hl.2.2.2 rfl h))
theorem r_astore_n {k : Fin 4} {v : Nat} (hd : Dk cc pc (.astore_n k) 1 pc') (hk : (k : Nat) < nl) (K : G E X own cc nl ret ini rm P M (L.set (k : Nat) (some (.ref v))) kc ks pc' st) : G E X own cc nl ret ini rm P M L kc ks pc (.ref v :: st) := by
  intro C H locs ls ws hP hD hV hS hl
  obtain ⟨hd, rfl⟩ := hd
  exact lv_astore_n C.1 C.2.1 hd rfl hl.has hk rfl (fun ls' h => K C H locs ls' ws hP hD hV hS (lvL.of hl.2.2.2 rfl h))
theorem r_astore {k : Nat} {v : Nat} (hd : Dk cc pc (.astore k) 2 pc') (hk : k < nl) (K : G E X own cc nl ret ini rm P M (L.set k (some (.ref v))) kc ks pc' st) : G E X own cc nl ret ini rm P M L kc ks pc (.ref v :: st) := by
  intro C H locs ls ws hP hD hV hS hl
  obtain ⟨hd, rfl⟩ := hd
  exact lv_astore C.1 C.2.1 hd  hl.has hk rfl (fun ls' h => K C H locs ls' ws hP hD hV hS (lvL.of hl.2.2.2 rfl h))
theorem r_astore_nN {k : Fin 4} (hd : Dk cc pc (.astore_n k) 1 pc') (hk : (k : Nat) < nl) (K : G E X own cc nl ret ini rm P M (L.set (k : Nat) (some (.null))) kc ks pc' st) : G E X own cc nl ret ini rm P M L kc ks pc (.null :: st) := by
  intro C H locs ls ws hP hD hV hS hl
  obtain ⟨hd, rfl⟩ := hd
  exact lv_astore_nN C.1 C.2.1 hd rfl hl.has hk rfl (fun ls' h => K C H locs ls' ws hP hD hV hS (lvL.of hl.2.2.2 rfl h))
theorem r_astoreN {k : Nat} (hd : Dk cc pc (.astore k) 2 pc') (hk : k < nl) (K : G E X own cc nl ret ini rm P M (L.set k (some (.null))) kc ks pc' st) : G E X own cc nl ret ini rm P M L kc ks pc (.null :: st) := by
  intro C H locs ls ws hP hD hV hS hl
  obtain ⟨hd, rfl⟩ := hd
  exact lv_astoreN C.1 C.2.1 hd  hl.has hk rfl (fun ls' h => K C H locs ls' ws hP hD hV hS (lvL.of hl.2.2.2 rfl h))
theorem r_iinc {k : Nat} {n : Int} {x v : Int32} (hd : Dk cc pc (.iinc k n) 3 pc') (hv : L[k]? = some (some (.int x))) (hx : Int32.ofInt n = v) (hk : k < nl) (K : G E X own cc nl ret ini rm P M (L.set k (some (.int (x + v)))) kc ks pc' st) : G E X own cc nl ret ini rm P M L kc ks pc st := by
  intro C H locs ls ws hP hD hV hS hl
  obtain ⟨hd, rfl⟩ := hd
  subst hx
  obtain ⟨j, hj⟩ := List.getElem?_of_mem (lvl_mem.mpr hv)
  exact lv_iinc C.1 C.2.1 hd hl.has hj rfl hk rfl (fun ls' h => K C H locs ls' ws hP hD hV hS (lvL.of hl.2.2.2 rfl h))
theorem r_if_eq {x : Int32} {off : Int} (hd : Db cc pc (.ifCond .eq off) off pc' tgt) (kt : x = 0 → G E X own cc nl ret ini rm P M L kc ks tgt st) (kf : ¬ x = 0 → G E X own cc nl ret ini rm P M L kc ks pc' st) : G E X own cc nl ret ini rm P M L kc ks pc (.int x :: st) := by
  intro C H locs ls ws hP hD hV hS hl
  obtain ⟨hd, rfl, ht⟩ := hd
  exact lv_if_eq C.1 C.2.1 hd ht (fun h => kt h C H locs ls ws hP hD hV hS hl) (fun h => kf h C H locs ls ws hP hD hV hS hl)
theorem r_if_ne {x : Int32} {off : Int} (hd : Db cc pc (.ifCond .ne off) off pc' tgt) (kt : ¬ x = 0 → G E X own cc nl ret ini rm P M L kc ks tgt st) (kf : x = 0 → G E X own cc nl ret ini rm P M L kc ks pc' st) : G E X own cc nl ret ini rm P M L kc ks pc (.int x :: st) := by
  intro C H locs ls ws hP hD hV hS hl
  obtain ⟨hd, rfl, ht⟩ := hd
  exact lv_if_ne C.1 C.2.1 hd ht (fun h => kt h C H locs ls ws hP hD hV hS hl) (fun h => kf h C H locs ls ws hP hD hV hS hl)
theorem r_if_lt {x : Int32} {off : Int} (hd : Db cc pc (.ifCond .lt off) off pc' tgt) (kt : x < 0 → G E X own cc nl ret ini rm P M L kc ks tgt st) (kf : ¬ x < 0 → G E X own cc nl ret ini rm P M L kc ks pc' st) : G E X own cc nl ret ini rm P M L kc ks pc (.int x :: st) := by
  intro C H locs ls ws hP hD hV hS hl
  obtain ⟨hd, rfl, ht⟩ := hd
  exact lv_if_lt C.1 C.2.1 hd ht (fun h => kt h C H locs ls ws hP hD hV hS hl) (fun h => kf h C H locs ls ws hP hD hV hS hl)
theorem r_if_ge {x : Int32} {off : Int} (hd : Db cc pc (.ifCond .ge off) off pc' tgt) (kt : 0 ≤ x → G E X own cc nl ret ini rm P M L kc ks tgt st) (kf : ¬ 0 ≤ x → G E X own cc nl ret ini rm P M L kc ks pc' st) : G E X own cc nl ret ini rm P M L kc ks pc (.int x :: st) := by
  intro C H locs ls ws hP hD hV hS hl
  obtain ⟨hd, rfl, ht⟩ := hd
  exact lv_if_ge C.1 C.2.1 hd ht (fun h => kt h C H locs ls ws hP hD hV hS hl) (fun h => kf h C H locs ls ws hP hD hV hS hl)
theorem r_if_gt {x : Int32} {off : Int} (hd : Db cc pc (.ifCond .gt off) off pc' tgt) (kt : 0 < x → G E X own cc nl ret ini rm P M L kc ks tgt st) (kf : ¬ 0 < x → G E X own cc nl ret ini rm P M L kc ks pc' st) : G E X own cc nl ret ini rm P M L kc ks pc (.int x :: st) := by
  intro C H locs ls ws hP hD hV hS hl
  obtain ⟨hd, rfl, ht⟩ := hd
  exact lv_if_gt C.1 C.2.1 hd ht (fun h => kt h C H locs ls ws hP hD hV hS hl) (fun h => kf h C H locs ls ws hP hD hV hS hl)
theorem r_if_le {x : Int32} {off : Int} (hd : Db cc pc (.ifCond .le off) off pc' tgt) (kt : x ≤ 0 → G E X own cc nl ret ini rm P M L kc ks tgt st) (kf : ¬ x ≤ 0 → G E X own cc nl ret ini rm P M L kc ks pc' st) : G E X own cc nl ret ini rm P M L kc ks pc (.int x :: st) := by
  intro C H locs ls ws hP hD hV hS hl
  obtain ⟨hd, rfl, ht⟩ := hd
  exact lv_if_le C.1 C.2.1 hd ht (fun h => kt h C H locs ls ws hP hD hV hS hl) (fun h => kf h C H locs ls ws hP hD hV hS hl)
theorem r_icmp_eq {x y : Int32} {off : Int} (hd : Db cc pc (.if_icmp .eq off) off pc' tgt) (kt : x = y → G E X own cc nl ret ini rm P M L kc ks tgt st) (kf : ¬ x = y → G E X own cc nl ret ini rm P M L kc ks pc' st) : G E X own cc nl ret ini rm P M L kc ks pc (.int y :: .int x :: st) := by
  intro C H locs ls ws hP hD hV hS hl
  obtain ⟨hd, rfl, ht⟩ := hd
  exact lv_icmp_eq C.1 C.2.1 hd ht (fun h => kt h C H locs ls ws hP hD hV hS hl) (fun h => kf h C H locs ls ws hP hD hV hS hl)
theorem r_icmp_ne {x y : Int32} {off : Int} (hd : Db cc pc (.if_icmp .ne off) off pc' tgt) (kt : ¬ x = y → G E X own cc nl ret ini rm P M L kc ks tgt st) (kf : x = y → G E X own cc nl ret ini rm P M L kc ks pc' st) : G E X own cc nl ret ini rm P M L kc ks pc (.int y :: .int x :: st) := by
  intro C H locs ls ws hP hD hV hS hl
  obtain ⟨hd, rfl, ht⟩ := hd
  exact lv_icmp_ne C.1 C.2.1 hd ht (fun h => kt h C H locs ls ws hP hD hV hS hl) (fun h => kf h C H locs ls ws hP hD hV hS hl)
theorem r_icmp_lt {x y : Int32} {off : Int} (hd : Db cc pc (.if_icmp .lt off) off pc' tgt) (kt : x < y → G E X own cc nl ret ini rm P M L kc ks tgt st) (kf : ¬ x < y → G E X own cc nl ret ini rm P M L kc ks pc' st) : G E X own cc nl ret ini rm P M L kc ks pc (.int y :: .int x :: st) := by
  intro C H locs ls ws hP hD hV hS hl
  obtain ⟨hd, rfl, ht⟩ := hd
  exact lv_icmp_lt C.1 C.2.1 hd ht (fun h => kt h C H locs ls ws hP hD hV hS hl) (fun h => kf h C H locs ls ws hP hD hV hS hl)
theorem r_icmp_ge {x y : Int32} {off : Int} (hd : Db cc pc (.if_icmp .ge off) off pc' tgt) (kt : y ≤ x → G E X own cc nl ret ini rm P M L kc ks tgt st) (kf : ¬ y ≤ x → G E X own cc nl ret ini rm P M L kc ks pc' st) : G E X own cc nl ret ini rm P M L kc ks pc (.int y :: .int x :: st) := by
  intro C H locs ls ws hP hD hV hS hl
  obtain ⟨hd, rfl, ht⟩ := hd
  exact lv_icmp_ge C.1 C.2.1 hd ht (fun h => kt h C H locs ls ws hP hD hV hS hl) (fun h => kf h C H locs ls ws hP hD hV hS hl)
theorem r_icmp_gt {x y : Int32} {off : Int} (hd : Db cc pc (.if_icmp .gt off) off pc' tgt) (kt : y < x → G E X own cc nl ret ini rm P M L kc ks tgt st) (kf : ¬ y < x → G E X own cc nl ret ini rm P M L kc ks pc' st) : G E X own cc nl ret ini rm P M L kc ks pc (.int y :: .int x :: st) := by
  intro C H locs ls ws hP hD hV hS hl
  obtain ⟨hd, rfl, ht⟩ := hd
  exact lv_icmp_gt C.1 C.2.1 hd ht (fun h => kt h C H locs ls ws hP hD hV hS hl) (fun h => kf h C H locs ls ws hP hD hV hS hl)
theorem r_icmp_le {x y : Int32} {off : Int} (hd : Db cc pc (.if_icmp .le off) off pc' tgt) (kt : x ≤ y → G E X own cc nl ret ini rm P M L kc ks tgt st) (kf : ¬ x ≤ y → G E X own cc nl ret ini rm P M L kc ks pc' st) : G E X own cc nl ret ini rm P M L kc ks pc (.int y :: .int x :: st) := by
  intro C H locs ls ws hP hD hV hS hl
  obtain ⟨hd, rfl, ht⟩ := hd
  exact lv_icmp_le C.1 C.2.1 hd ht (fun h => kt h C H locs ls ws hP hD hV hS hl) (fun h => kf h C H locs ls ws hP hD hV hS hl)
theorem r_acmp_eq {x y : Option Nat} {off : Int} (hd : Db cc pc (.if_acmp .eq off) off pc' tgt) (kt : x = y → G E X own cc nl ret ini rm P M L kc ks tgt st) (kf : ¬ x = y → G E X own cc nl ret ini rm P M L kc ks pc' st) : G E X own cc nl ret ini rm P M L kc ks pc (va_rf y :: va_rf x :: st) := by
  intro C H locs ls ws hP hD hV hS hl
  obtain ⟨hd, rfl, ht⟩ := hd
  exact lv_acmp_eq C.1 C.2.1 hd ht (fun h => kt h C H locs ls ws hP hD hV hS hl) (fun h => kf h C H locs ls ws hP hD hV hS hl)
theorem r_acmp_ne {x y : Option Nat} {off : Int} (hd : Db cc pc (.if_acmp .ne off) off pc' tgt) (kt : ¬ x = y → G E X own cc nl ret ini rm P M L kc ks tgt st) (kf : x = y → G E X own cc nl ret ini rm P M L kc ks pc' st) : G E X own cc nl ret ini rm P M L kc ks pc (va_rf y :: va_rf x :: st) := by
  intro C H locs ls ws hP hD hV hS hl
  obtain ⟨hd, rfl, ht⟩ := hd
  exact lv_acmp_ne C.1 C.2.1 hd ht (fun h => kt h C H locs ls ws hP hD hV hS hl) (fun h => kf h C H locs ls ws hP hD hV hS hl)
theorem r_goto  {off : Int} (hd : Db cc pc (.goto off) off pc' tgt) (K : G E X own cc nl ret ini rm P M L kc ks tgt st) : G E X own cc nl ret ini rm P M L kc ks pc (st) := by
  intro C H locs ls ws hP hD hV hS hl
  obtain ⟨hd, rfl, ht⟩ := hd
  exact lv_goto C.1 C.2.1 hd ht (K C H locs ls ws hP hD hV hS hl)
theorem r_ifnull {a : Nat} {off : Int} (hd : Db cc pc (.ifnull off) off pc' tgt) (K : G E X own cc nl ret ini rm P M L kc ks pc' st) : G E X own cc nl ret ini rm P M L kc ks pc (.ref a :: st) := by
  intro C H locs ls ws hP hD hV hS hl
  obtain ⟨hd, rfl, ht⟩ := hd
  exact lv_ifnull C.1 C.2.1 hd  (K C H locs ls ws hP hD hV hS hl)
theorem r_ifnullN  {off : Int} (hd : Db cc pc (.ifnull off) off pc' tgt) (K : G E X own cc nl ret ini rm P M L kc ks tgt st) : G E X own cc nl ret ini rm P M L kc ks pc (.null :: st) := by
  intro C H locs ls ws hP hD hV hS hl
  obtain ⟨hd, rfl, ht⟩ := hd
  exact lv_ifnullN C.1 C.2.1 hd ht (K C H locs ls ws hP hD hV hS hl)
theorem r_ifnonnull {a : Nat} {off : Int} (hd : Db cc pc (.ifnonnull off) off pc' tgt) (K : G E X own cc nl ret ini rm P M L kc ks tgt st) : G E X own cc nl ret ini rm P M L kc ks pc (.ref a :: st) := by
  intro C H locs ls ws hP hD hV hS hl
  obtain ⟨hd, rfl, ht⟩ := hd
  exact lv_ifnonnull C.1 C.2.1 hd ht (K C H locs ls ws hP hD hV hS hl)
theorem r_ifnonnullN  {off : Int} (hd : Db cc pc (.ifnonnull off) off pc' tgt) (K : G E X own cc nl ret ini rm P M L kc ks pc' st) : G E X own cc nl ret ini rm P M L kc ks pc (.null :: st) := by
  intro C H locs ls ws hP hD hV hS hl
  obtain ⟨hd, rfl, ht⟩ := hd
  exact lv_ifnonnullN C.1 C.2.1 hd  (K C H locs ls ws hP hD hV hS hl)
theorem r_iald {a n : Nat} {f : Nat → Int32} {i : Int32} (hd : Dk cc pc .iaload 1 pc') (hM : M a = some (.inl (eI E, n, .inl f))) (hin : vp_in i n) (K : G E X own cc nl ret ini rm P M L kc ks pc' (.int (f i.toNatClampNeg) :: st)) : G E X own cc nl ret ini rm P M L kc ks pc (.int i :: .ref a :: st) := by
  intro C H locs ls ws hP hD hV hS hl
  obtain ⟨hd, rfl⟩ := hd
  obtain ⟨j, hj⟩ := hV a _ hM
  exact va_iald C.1 C.2.1 C.kk.1 hP j 0 hj rfl hin hd (K C H locs ls ws hP hD hV hS hl)
theorem r_bald {a n : Nat} {f : Nat → Int32} {i : Int32} (hd : Dk cc pc .baload 1 pc') (hM : M a = some (.inl (eB3 E, n, .inl f))) (hin : vp_in i n) (K : G E X own cc nl ret ini rm P M L kc ks pc' (.int (f i.toNatClampNeg) :: st)) : G E X own cc nl ret ini rm P M L kc ks pc (.int i :: .ref a :: st) := by
  intro C H locs ls ws hP hD hV hS hl
  obtain ⟨hd, rfl⟩ := hd
  obtain ⟨j, hj⟩ := hV a _ hM
  exact va_bald C.1 C.2.1 C.kk.1 hP j 1 hj rfl hin hd (K C H locs ls ws hP hD hV hS hl)
theorem r_zald {a n : Nat} {f : Nat → Int32} {i : Int32} (hd : Dk cc pc .baload 1 pc') (hM : M a = some (.inl (eZ E, n, .inl f))) (hin : vp_in i n) (K : G E X own cc nl ret ini rm P M L kc ks pc' (.int (f i.toNatClampNeg) :: st)) : G E X own cc nl ret ini rm P M L kc ks pc (.int i :: .ref a :: st) := by
  intro C H locs ls ws hP hD hV hS hl
  obtain ⟨hd, rfl⟩ := hd
  obtain ⟨j, hj⟩ := hV a _ hM
  exact va_zald C.1 C.2.1 C.kk.1 hP j 2 hj rfl hin hd (K C H locs ls ws hP hD hV hS hl)
theorem r_iast {a n : Nat} {f : Nat → Int32} {i x : Int32} (hd : Dk cc pc .iastore 1 pc') (hM : M a = some (.inl (eI E, n, .inl f))) (hin : vp_in i n) (K : G E X own cc nl ret ini rm P (mset M a (.inl (eI E, n, .inl (upd f i.toNatClampNeg x)))) L kc ks pc' st) : G E X own cc nl ret ini rm P M L kc ks pc (.int x :: .int i :: .ref a :: st) := by
  intro C H locs ls ws hP hD hV hS hl
  obtain ⟨hd, rfl⟩ := hd
  obtain ⟨j, hj⟩ := hV a _ hM
  exact va_iast C.1 C.2.1 C.kk.1 hP hD hS j 0 hj rfl hin hd (fun H1 locs1 hP1 hD1 hS1 => K C H1 locs1 ls _ hP1 hD1 (hV.set hD hj) hS1 hl)
theorem r_bast {a n : Nat} {f : Nat → Int32} {i x : Int32} (hd : Dk cc pc .bastore 1 pc') (hM : M a = some (.inl (eB3 E, n, .inl f))) (hin : vp_in i n) (K : G E X own cc nl ret ini rm P (mset M a (.inl (eB3 E, n, .inl (upd f i.toNatClampNeg (vp_nar .byte x))))) L kc ks pc' st) : G E X own cc nl ret ini rm P M L kc ks pc (.int x :: .int i :: .ref a :: st) := by
  intro C H locs ls ws hP hD hV hS hl
  obtain ⟨hd, rfl⟩ := hd
  obtain ⟨j, hj⟩ := hV a _ hM
  exact va_bast C.1 C.2.1 C.kk.1 hP hD hS j 1 hj rfl hin hd (fun H1 locs1 hP1 hD1 hS1 => K C H1 locs1 ls _ hP1 hD1 (hV.set hD hj) hS1 hl)
theorem r_zast {a n : Nat} {f : Nat → Int32} {i x : Int32} (hd : Dk cc pc .bastore 1 pc') (hM : M a = some (.inl (eZ E, n, .inl f))) (hin : vp_in i n) (K : G E X own cc nl ret ini rm P (mset M a (.inl (eZ E, n, .inl (upd f i.toNatClampNeg (vp_nar .boolean x))))) L kc ks pc' st) : G E X own cc nl ret ini rm P M L kc ks pc (.int x :: .int i :: .ref a :: st) := by
  intro C H locs ls ws hP hD hV hS hl
  obtain ⟨hd, rfl⟩ := hd
  obtain ⟨j, hj⟩ := hV a _ hM
  exact va_zast C.1 C.2.1 C.kk.1 hP hD hS j 2 hj rfl hin hd (fun H1 locs1 hP1 hD1 hS1 => K C H1 locs1 ls _ hP1 hD1 (hV.set hD hj) hS1 hl)
theorem r_newaI {n : Int32} {N : Nat} (hd : Dk cc pc (.newarray .int) 2 pc') (hn : ¬ n < 0) (hN : n.toNatClampNeg = N) (hb : N ≤ 1000000) (hr : kc + 1 ≤ rm.cells ∧ ks + N ≤ rm.slots) (K : ∀ q : Nat, M q = none → E.1 ≤ q → G E X own cc nl ret ini rm P (mset M q (.inl (eI E, N, .inl (fun _ => 0)))) L (kc + 1) (ks + N) pc' (.ref q :: st)) : G E X own cc nl ret ini rm P M L kc ks pc (.int n :: st) := by
  intro C H locs ls ws hP hD hV hS hl
  obtain ⟨hd, rfl⟩ := hd
  have hac : (Cond.arrayClass (newarray.typeOf .int)).before X.2.2.2.2.2.1 (cxS X) = true := C.2.2.2.2.1 _ (lw_ok_mem ac0 rfl)
  have hcb : N * componentBytes .int ≤ 536870912 := by
    have : componentBytes .int ≤ 8 := by decide
    have := Nat.mul_le_mul hb this
    omega
  refine va_newa C.1 C.2.1 (ty := .int) hac rfl C.kk.1 hP hD hS C.hA (a0 := (N, .inl (fun _ => 0))) (fun cA => vp_cell_i cA N (fun _ => 0)) hn hN hcb hr.1 hr.2 hd (fun q cA H1 hK1 hP1 hD1 hS1 => ?_)
  have hcA : cA = eI E := by
    have h1 := (hK1.2 4 (cA, .int) (by simp [tys])).2
    have h2 := (C.kk.1.2 0 (eI E, .int) rfl).2
    exact Option.some.inj (h1.symm.trans h2)
  subst hcA
  exact K q (hV.fresh hD1) (hD1.2 ws.length (q, .inl (eI E, N, .inl (fun _ => 0))) (by simp)) C H1 locs ls _ hP1 hD1 hV.push hS1 hl
theorem r_newaB {n : Int32} {N : Nat} (hd : Dk cc pc (.newarray .byte) 2 pc') (hn : ¬ n < 0) (hN : n.toNatClampNeg = N) (hb : N ≤ 1000000) (hr : kc + 1 ≤ rm.cells ∧ ks + N ≤ rm.slots) (K : ∀ q : Nat, M q = none → E.1 ≤ q → G E X own cc nl ret ini rm P (mset M q (.inl (eB3 E, N, .inl (fun _ => 0)))) L (kc + 1) (ks + N) pc' (.ref q :: st)) : G E X own cc nl ret ini rm P M L kc ks pc (.int n :: st) := by
  intro C H locs ls ws hP hD hV hS hl
  obtain ⟨hd, rfl⟩ := hd
  have hac : (Cond.arrayClass (newarray.typeOf .byte)).before X.2.2.2.2.2.1 (cxS X) = true := C.2.2.2.2.1 _ (lw_ok_mem ac1 rfl)
  have hcb : N * componentBytes .byte ≤ 536870912 := by
    have : componentBytes .byte ≤ 8 := by decide
    have := Nat.mul_le_mul hb this
    omega
  refine va_newa C.1 C.2.1 (ty := .byte) hac rfl C.kk.1 hP hD hS C.hA (a0 := (N, .inl (fun _ => 0))) (fun cA => vp_cell_i cA N (fun _ => 0)) hn hN hcb hr.1 hr.2 hd (fun q cA H1 hK1 hP1 hD1 hS1 => ?_)
  have hcA : cA = eB3 E := by
    have h1 := (hK1.2 4 (cA, .byte) (by simp [tys])).2
    have h2 := (C.kk.1.2 1 (eB3 E, .byte) rfl).2
    exact Option.some.inj (h1.symm.trans h2)
  subst hcA
  exact K q (hV.fresh hD1) (hD1.2 ws.length (q, .inl (eB3 E, N, .inl (fun _ => 0))) (by simp)) C H1 locs ls _ hP1 hD1 hV.push hS1 hl
theorem r_newaZ {n : Int32} {N : Nat} (hd : Dk cc pc (.newarray .boolean) 2 pc') (hn : ¬ n < 0) (hN : n.toNatClampNeg = N) (hb : N ≤ 1000000) (hr : kc + 1 ≤ rm.cells ∧ ks + N ≤ rm.slots) (K : ∀ q : Nat, M q = none → E.1 ≤ q → G E X own cc nl ret ini rm P (mset M q (.inl (eZ E, N, .inl (fun _ => 0)))) L (kc + 1) (ks + N) pc' (.ref q :: st)) : G E X own cc nl ret ini rm P M L kc ks pc (.int n :: st) := by
  intro C H locs ls ws hP hD hV hS hl
  obtain ⟨hd, rfl⟩ := hd
  have hac : (Cond.arrayClass (newarray.typeOf .boolean)).before X.2.2.2.2.2.1 (cxS X) = true := C.2.2.2.2.1 _ (lw_ok_mem ac2 rfl)
  have hcb : N * componentBytes .boolean ≤ 536870912 := by
    have : componentBytes .boolean ≤ 8 := by decide
    have := Nat.mul_le_mul hb this
    omega
  refine va_newa C.1 C.2.1 (ty := .boolean) hac rfl C.kk.1 hP hD hS C.hA (a0 := (N, .inl (fun _ => 0))) (fun cA => vp_cell_i cA N (fun _ => 0)) hn hN hcb hr.1 hr.2 hd (fun q cA H1 hK1 hP1 hD1 hS1 => ?_)
  have hcA : cA = eZ E := by
    have h1 := (hK1.2 4 (cA, .boolean) (by simp [tys])).2
    have h2 := (C.kk.1.2 2 (eZ E, .boolean) rfl).2
    exact Option.some.inj (h1.symm.trans h2)
  subst hcA
  exact K q (hV.fresh hD1) (hD1.2 ws.length (q, .inl (eZ E, N, .inl (fun _ => 0))) (by simp)) C H1 locs ls _ hP1 hD1 hV.push hS1 hl
theorem r_table {dflt lo hi : Int} {offs : Array Int} {len : Nat} {x : Int32} {off : Int} (hd : decode cc pc = .ok (.tableswitch dflt lo hi offs, len)) (h : (x.toInt < lo ∨ hi < x.toInt) ∧ off = dflt ∨ (¬ x.toInt < lo ∧ ¬ hi < x.toInt ∧ offs[(x.toInt - lo).toNat]? = some off)) (ht : (pc : Int) + off = (tgt : Int)) (K : G E X own cc nl ret ini rm P M L kc ks tgt st) : G E X own cc nl ret ini rm P M L kc ks pc (.int x :: st) := by
  intro C H locs ls ws hP hD hV hS hl
  rcases h with ⟨h1, rfl⟩ | ⟨h1, h2, h3⟩
  · exact lv_tableOut C.1 C.2.1 hd h1 ht (K C H locs ls ws hP hD hV hS hl)
  · exact lv_tableIn C.1 C.2.1 hd h1 h2 h3 ht (K C H locs ls ws hP hD hV hS hl)
theorem r_lookup {dflt : Int} {ps : Array (Int × Int)} {len : Nat} {x : Int32} {off : Int} (hd : decode cc pc = .ok (.lookupswitch dflt ps, len)) (hp : (ps.toList.zip (ps.toList.drop 1)).all (fun (a, next) => a.1 < next.1) = true) (ho : Op.lookupswitch.offset ps.toList dflt x.toInt = off) (ht : (pc : Int) + off = (tgt : Int)) (K : G E X own cc nl ret ini rm P M L kc ks tgt st) : G E X own cc nl ret ini rm P M L kc ks pc (.int x :: st) := by
  intro C H locs ls ws hP hD hV hS hl
  exact lv_lookup C.1 C.2.1 hd hp ho ht (K C H locs ls ws hP hD hV hS hl)
theorem r_get {idx ci k a : Nat} {fs : List Value} {v : Value} (hd : Dk cc pc (.getfield idx) 3 pc') (hf : FL own idx ci k) (hM : M a = some (.inr (ci, fs))) (hv : fs[k]? = some v) (K : G E X own cc nl ret ini rm P M L kc ks pc' (v :: st)) : G E X own cc nl ret ini rm P M L kc ks pc (.ref a :: st) := by
  intro C H locs ls ws hP hD hV hS hl
  obtain ⟨hd, rfl⟩ := hd
  obtain ⟨Cn, T, N, ref, hc, hk, hlk, hsm, hin⟩ := hf
  obtain ⟨j, hj⟩ := hV a _ hM
  exact va_get C.1 C.2.1 C.2.2.2.2.1 hin C.2.2.2.1 C.kk.1 hP j hj hc k hk (C.2.2.2.2.1 _ hlk) (FLs C.2.2.2.2.1 hsm) hv hd (K C H locs ls ws hP hD hV hS hl)
theorem r_put {idx ci k a : Nat} {fs : List Value} {v : Value} {ty : FieldType} (hd : Dk cc pc (.putfield idx) 3 pc') (hf : FP own idx ci k ty) (hM : M a = some (.inr (ci, fs))) (hn : narrow ty v = v) (hfit : fits ty v = true) (hl0 : k < fs.length) (K : G E X own cc nl ret ini rm P (mset M a (.inr (ci, fs.set k v))) L kc ks pc' st) : G E X own cc nl ret ini rm P M L kc ks pc (v :: .ref a :: st) := by
  intro C H locs ls ws hP hD hV hS hl
  obtain ⟨hd, rfl⟩ := hd
  obtain ⟨Cn, T, N, ref, ty0, hc, hk, hlk, hsm, hin, hty, hnm, hp, hfin⟩ := hf
  obtain ⟨j, hj⟩ := hV a _ hM
  exact va_put C.1 C.2.1 C.2.2.2.2.1 hin ty0 hty hnm C.2.2.2.1 C.kk.1 hP hD hS j hj hc k hk (C.2.2.2.2.1 _ hlk) (FLs C.2.2.2.2.1 hsm) hfin hp hn hfit hl0 hd (fun H1 locs1 hP1 hD1 hS1 => K C H1 locs1 ls _ hP1 hD1 (hV.set hD hj) hS1 hl)
theorem r_putF {idx ci k a : Nat} {fs : List Value} {v : Value} {ty : FieldType} (hd : Dk cc pc (.putfield idx) 3 pc') (hf : FPF own idx ci k ty) (hi : ini = true) (hM : M a = some (.inr (ci, fs))) (hn : narrow ty v = v) (hfit : fits ty v = true) (hl0 : k < fs.length) (K : G E X own cc nl ret ini rm P (mset M a (.inr (ci, fs.set k v))) L kc ks pc' st) : G E X own cc nl ret ini rm P M L kc ks pc (v :: .ref a :: st) := by
  intro C H locs ls ws hP hD hV hS hl
  obtain ⟨hd, rfl⟩ := hd
  obtain ⟨Cn, T, N, ref, ty0, hc, hk, hlk, hsm, hin, hty, hnm, hp, hfin, hown⟩ := hf
  obtain ⟨j, hj⟩ := hV a _ hM
  exact va_putF C.1 C.2.1 C.2.2.2.2.1 hin ty0 hty hnm C.2.2.2.1 C.kk.1 hP hD hS j hj hc k hk (C.2.2.2.2.1 _ hlk) (FLs C.2.2.2.2.1 hsm) hfin (C.2.2.2.2.2.2.2.1 hi) hown hp hn hfit hl0 hd (fun H1 locs1 hP1 hD1 hS1 => K C H1 locs1 ls _ hP1 hD1 (hV.set hD hj) hS1 hl)
theorem r_alen {a t : Nat} {cA : ClassId} {x : vp_A} {ty : FieldType} {v : Int32} (hd : Dk cc pc .arraylength 1 pc') (hM : M a = some (.inl (cA, x))) (ht : (tys E)[t]? = some (cA, ty)) (hv : Int32.ofNat x.1 = v) (K : G E X own cc nl ret ini rm P M L kc ks pc' (.int v :: st)) : G E X own cc nl ret ini rm P M L kc ks pc (.ref a :: st) := by
  intro C H locs ls ws hP hD hV hS hl
  obtain ⟨hd, rfl⟩ := hd
  obtain ⟨j, hj⟩ := hV a _ hM
  exact va_alen C.1 C.2.1 C.kk.1 hP j t hj ht hv hd (K C H locs ls ws hP hD hV hS hl)
theorem r_aald {a n : Nat} {f : Nat → Option Nat} {i : Int32} (hd : Dk cc pc .aaload 1 pc') (hM : M a = some (.inl (eO E, n, .inr (.inr (.inr (.inr f)))))) (hin : vp_in i n) (K : G E X own cc nl ret ini rm P M L kc ks pc' (va_rf (f i.toNatClampNeg) :: st)) : G E X own cc nl ret ini rm P M L kc ks pc (.int i :: .ref a :: st) := by
  intro C H locs ls ws hP hD hV hS hl
  obtain ⟨hd, rfl⟩ := hd
  obtain ⟨j, hj⟩ := hV a _ hM
  exact va_aldq C.1 C.2.1 C.kk.1 hP j 3 hj rfl hin hd (K C H locs ls ws hP hD hV hS hl)
theorem r_new {idx ci N : Nat} {fs : List Value} (hd : Dk cc pc (.new idx) 3 pc') (hw : NW own idx ci N fs) (hr : kc + 1 ≤ rm.cells ∧ ks + N ≤ rm.slots) (K : ∀ q : Nat, M q = none → E.1 ≤ q → G E X own cc nl ret ini rm P (mset M q (.inr (ci, fs))) L (kc + 1) (ks + N) pc' (.ref q :: st)) : G E X own cc nl ret ini rm P M L kc ks pc st := by
  intro C H locs ls ws hP hD hV hS hl
  obtain ⟨hd, rfl⟩ := hd
  obtain ⟨Cn, T, ty, hc, hin, hty, h1, h2, h3, hfs⟩ := hw
  exact va_new C.1 C.2.1 C.2.2.2.2.1 hin ty hty C.2.2.2.1 (C.2.2.2.2.1 _ h1) (C.2.2.2.2.1 _ h2) (C.2.2.2.2.1 _ h3) C.kk.1 hP hD hS C.hA hc hfs hr.1 hr.2 hd (fun q H1 hP1 hD1 hS1 => K q (hV.fresh hD1) (hD1.2 ws.length (q, .inr (ci, fs)) (by simp)) C H1 locs ls _ hP1 hD1 hV.push hS1 hl)
theorem r_iret {v : Int32} (hd : Dk cc pc .ireturn 1 pc') (hr : ret = some .int) (hk : kc ≤ rm.cells ∧ ks ≤ rm.slots) (hp : P (some (.int v)) M) : G E X own cc nl ret ini rm P M L kc ks pc [.int v] := by
  intro C H locs ls ws hP hD hV hS hl
  refine W.widen hk.1 hk.2 ?_
  exact W.iret C.1 C.2.1 (C.2.2.2.2.2.1.trans hr) (fun t ht _ => ⟨⟨_, M, rfl, hp, ws, by rw [ht]; exact hP, hD, hV⟩, hS.F ht⟩) hS.2.2 hd.1 C.2.2.2.2.2.2.1
theorem r_zret {v : Int32} {ty : FieldType} (hd : Dk cc pc .ireturn 1 pc') (hr : ret = some ty) (hn : narrow ty (.int v) = .int v) (hk : kc ≤ rm.cells ∧ ks ≤ rm.slots) (hp : P (some (.int v)) M) : G E X own cc nl ret ini rm P M L kc ks pc [.int v] := by
  intro C H locs ls ws hP hD hV hS hl
  refine W.widen hk.1 hk.2 ?_
  exact W.zret C.1 C.2.1 (C.2.2.2.2.2.1.trans hr) hn (fun t ht _ => ⟨⟨_, M, rfl, hp, ws, by rw [ht]; exact hP, hD, hV⟩, hS.F ht⟩) hS.2.2 hd.1 C.2.2.2.2.2.2.1
theorem r_vret (hd : Dk cc pc .return_ 1 pc') (hr : ret = none) (hk : kc ≤ rm.cells ∧ ks ≤ rm.slots) (hp : P none M) : G E X own cc nl ret ini rm P M L kc ks pc [] := by
  intro C H locs ls ws hP hD hV hS hl
  refine W.widen hk.1 hk.2 ?_
  exact W.vret C.1 C.2.1 (C.2.2.2.2.2.1.trans hr) (fun t ht _ => ⟨⟨_, M, rfl, hp, ws, by rw [ht]; exact hP, hD, hV⟩, hS.F ht⟩) hS.2.2 hd.1 C.2.2.2.2.2.2.1
theorem r_aret {v : Value} {rt : FieldType} (hd : Dk cc pc .areturn 1 pc') (hr : ret = some rt) (hrt : (∃ n, rt = .object n) ∨ ∃ t, rt = .array t) (hv : v = .null ∨ ∃ a, v = .ref a) (hk : kc ≤ rm.cells ∧ ks ≤ rm.slots) (hp : P (some v) M) : G E X own cc nl ret ini rm P M L kc ks pc [v] := by
  intro C H locs ls ws hP hD hV hS hl
  refine W.widen hk.1 hk.2 ?_
  exact W.aret C.1 C.2.1 (C.2.2.2.2.2.1.trans hr) hrt hv (fun t ht _ => ⟨⟨_, M, rfl, hp, ws, by rw [ht]; exact hP, hD, hV⟩, hS.F ht⟩) hS.2.2 hd.1 C.2.2.2.2.2.2.1

end ROWS
