/-! THE MAP HEAP: a method's world is a map from addresses to cells; G: the machine at a frame over a map. -/
abbrev MH : Type := Nat → Option va_E
def mset (M : MH) (a : Nat) (e : va_E) : MH := fun b => if b = a then some e else M b
theorem mset_self (M : MH) (a : Nat) (e : va_E) : mset M a e a = some e := if_pos rfl
theorem mset_ne (M : MH) {a b : Nat} (e : va_E) (h : b ≠ a) : mset M a e b = M b := if_neg h
/-- b0, the tables' numbers, the classes of int[], byte[], boolean[], Object[], strings' cells, their bytes' cells, static arrays' cells -/
abbrev EN : Type := Nat × va_G × ClassId × ClassId × ClassId × ClassId × (Nat → Nat) × (Nat → Nat) × (Nat → Nat)
def eD (E : EN) : va_G := E.2.1
def eI (E : EN) : ClassId := E.2.2.1
def eB3 (E : EN) : ClassId := E.2.2.2.1
def eZ (E : EN) : ClassId := E.2.2.2.2.1
def eO (E : EN) : ClassId := E.2.2.2.2.2.1
def eK (E : EN) : Nat → Nat := E.2.2.2.2.2.2.1
def eV (E : EN) : Nat → Nat := E.2.2.2.2.2.2.2.1
def eT (E : EN) : Nat → Nat := E.2.2.2.2.2.2.2.2
def eA3 (E : EN) : Nat → Prop := fun q => E.1 ≤ q
def tys (E : EN) : List (ClassId × FieldType) := [(eI E, .int), (eB3 E, .byte), (eZ E, .boolean), (eO E, .object "java/lang/Object")]
def lw_ok : List Cond := lw_tbl.filter goodWord
theorem lw_ok_mem {w : Cond} (h : w ∈ lw_tbl) (g : goodWord w = true) : w ∈ lw_ok := List.mem_filter.mpr ⟨h, g⟩
def nestW : List (String × Nat × MethodName × String) := [("UtilityBoard", 60, yX9_init, "UtilityBoard"), ("UtilityBoard", 67, yX4_init, "UtilityBoard"), ("UtilityBoard", 74, yX5_init, "UtilityBoard"), ("UtilityBoard$Drawing", 62, yX11_within, "UtilityBoard"), ("UtilityBoard$Thing", 44, yX11_within, "UtilityBoard"), ("UtilityBoard$Layout", 39, yX11_within, "UtilityBoard"), ("UtilityBoard$Thing", 62, yX11_roundedUp, "UtilityBoard")]
def strRef : List (String × Nat × String) := [("UtilityBoard$Reader", 65, "bmpcgdx"), ("UtilityBoard$Reader", 79, "pcgd"), ("UtilityBoard$Reader", 108, "wknqiatjh"), ("UtilityBoard$Reader", 104, "*/%"), ("UtilityBoard$Reader", 106, "+-"), ("UtilityBoard$Reader", 99, "<>="), ("UtilityBoard", 234, "pcgdmb")]
/-- what lies below b0 and is read: static arrays, strings -/
def Gnd (E : EN) (U : State) : Prop :=
  va_Z "UtilityBoard$Drawing" "BORNE" "[I" (.ref (eT E 0)) (eA3 E) U U.heap ∧ va_T .int (eT E 0) 3 (fun j => .int (([10, 25, 60] : List Int32).getD j 0)) (eA3 E) U U.heap ∧
  va_Z "UtilityBoard$Drawing" "USED" "[I" (.ref (eT E 1)) (eA3 E) U U.heap ∧ va_T .int (eT E 1) 3 (fun j => .int (([2, 4, 9] : List Int32).getD j 0)) (eA3 E) U U.heap ∧
  va_Z "java/util/ArrayList" "DEFAULTCAPACITY_EMPTY_ELEMENTDATA" "[Ljava/lang/Object;" (.ref (eT E 2)) (eA3 E) U U.heap ∧ va_T (.object "java/lang/Object") (eT E 2) 0 (fun _ => .null) (eA3 E) U U.heap ∧
  va_Z "java/lang/String" "COMPACT_STRINGS" "Z" (.int 1) (eA3 E) U U.heap ∧
  vk_S 7 strLen strByt (eK E) (eV E) (eA3 E) U U.heap ∧ (∀ (i : Nat) (q : String × Nat × String), strRef[i]? = some q → vk_R q.1 q.2.1 q.2.2 (eK E i) U) ∧
  va_Mi "[Ljava/lang/Object;" (eT E 3) U ∧ va_Zq "jdk/internal/util/Preconditions" "SIOOBE_FORMATTER" "Ljava/util/function/BiFunction;" (eA3 E) U U.heap
/-- the tables at a state: classes, array classes, nest mates -/
def KK (E : EN) (U : State) : Prop := va_K (eD E) classes (tys E) U ∧ (∀ q ∈ nestW, va_Nw (.methodLinkNest q.1 q.2.1 q.2.2.1 q.2.2.2) U) ∧ va_AO "java/lang/Object" U ∧ va_Dc U ∧ (∀ r ∈ classes, va_Nw (.castable r.1 "java/lang/Object") U) ∧ va_Nw (.castable "[I" "java/lang/Cloneable") U
def Cov (M : MH) (ws : va_W) : Prop := ∀ (a : Nat) (e : va_E), M a = some e → ∃ k : Nat, ws[k]? = some (a, e)
/-- the world of a state -/
def Wd (E : EN) (M : MH) (U : State) : Prop := E.1 ≤ U.heap.size ∧ KK E U ∧ Gnd E U ∧ ∃ ws : va_W, va_P (eD E) classes ws U.heap ∧ va_D (eA3 E) ws ∧ Cov M ws
def QP (E : EN) (P : Option Value → MH → Prop) : Array Value → State → Outcome → State → Prop := fun _ st oc t => (∃ (v : Option Value) (M : MH), oc = .returned v ∧ P v M ∧ ∃ ws : va_W, va_P (eD E) classes ws t.heap ∧ va_D (eA3 E) ws ∧ Cov M ws) ∧ va_F (eA3 E) st t
/-- a method's contract over maps -/
def Ct (E : EN) (l : Launch) (y : MethodName) (cc : ByteArray) (nl : Nat) (ret : Option FieldType) (rm : Room) (args : List Value) (M : MH) (P : Option Value → MH → Prop) : Prop :=
  Met l y (.code y cc nl ret :: lw_ok) rm (va_Pc args (fun U => Wd E M U)) (QP E P) rm.cells rm.slots (eA3 E)
abbrev CX : Type := Program × Launch × Env × State × MethodId × Array Value × List Frame × Method × Code
def cxS (X : CX) : State := X.2.2.2.1
def cxL (X : CX) : Launch := X.2.1
/-- what holds of a frame's method -/
def Cok (E : EN) (X : CX) (own : String) (cc : ByteArray) (nl : Nat) (ret : Option FieldType) (ini : Bool) : Prop :=
  X.1.tables.exec = Jvm.exec ∧ X.2.2.2.2.2.2.2.2.code = cc ∧ X.2.2.2.2.2.2.2.2.maxLocals = nl ∧ (cxS X).vm.findClass own = some X.2.2.2.2.1.cls ∧ (∀ w ∈ lw_ok, w.before X.2.2.2.2.2.1 (cxS X) = true) ∧ X.2.2.2.2.2.2.2.1.sig.returnType = ret ∧ X.2.2.2.2.2.2.2.1.locks = false ∧ (ini = true → X.2.2.2.2.2.2.2.1.name = "<init>") ∧ E.1 ≤ (cxS X).heap.size ∧ KK E (cxS X) ∧ Gnd E (cxS X)
def lvL (ls : Array Slot) (nl : Nat) (L : List (Option Value)) : Prop := ls.size = nl ∧ lv_wf ls ∧ (∀ (k : Nat) (v : Value), L[k]? = some (some v) → ls[k]? = some (.val v)) ∧ ∀ (k : Nat) (v : Value), L[k]? = some (some v) → v.category = 1
/-- the machine at pc with locals L, stack st, over the map M, kc cells of ks slots being made so far: it comes to an end with P -/
def G (E : EN) (X : CX) (own : String) (cc : ByteArray) (nl : Nat) (ret : Option FieldType) (ini : Bool) (rm : Room) (P : Option Value → MH → Prop) (M : MH) (L : List (Option Value)) (kc ks : Nat) (pc : Nat) (st : List Value) : Prop :=
  Cok E X own cc nl ret ini → ∀ (H : Heap) (locs : List Loc) (ls : Array Slot) (ws : va_W), va_P (eD E) classes ws H → va_D (eA3 E) ws → Cov M ws → va_S (eA3 E) (cxS X).heap H locs → lvL ls nl L →
    W X.1 X.2.1 X.2.2.1 rm (cxS X) X.2.2.2.2.1 X.2.2.2.2.2.1 X.2.2.2.2.2.2.1 X.2.2.2.2.2.2.2.1 X.2.2.2.2.2.2.2.2 H locs kc ks (MQ X.2.2.2.2.2.2.1 (QP E P) X.2.2.2.2.2.1 (cxS X) rm.cells rm.slots (eA3 E)) (F0 X.2.2.2.2.1 pc ls st)
/-- a decode row with the next place -/
def Dc (cc : ByteArray) (pc : Nat) (i : Instr) (pc' : Nat) : Prop := ∃ n, decode cc pc = .ok (i, n) ∧ pc + n = pc'
