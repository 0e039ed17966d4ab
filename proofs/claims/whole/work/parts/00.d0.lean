/-! THE PROGRAM AS FUNCTIONS over the typed state (by program) -/
def strLen : List Nat := [7, 4, 9, 3, 2, 3, 6]
def strByt : List (List Int32) := [[98, 109, 112, 99, 103, 100, 120], [112, 99, 103, 100], [119, 107, 110, 113, 105, 97, 116, 106, 104], [42, 47, 37], [43, 45], [60, 62, 61], [112, 99, 103, 100, 109, 98]]
abbrev St : Type := Nat → Nat → Nat → Int32
def setV (V : St) (v i j : Nat) (x : Int32) : St := fun v' i' j' => if v' = v ∧ i' = i ∧ j' = j then x else V v' i' j'
def cntV (V : St) (b : Nat) : Nat := if b < 1000 then b else (V b 0 0).toNatClampNeg
def lenV (V : St) (a i : Nat) : Nat := if a < 1000000 then a else (V (a - 1000000) i 0).toNatClampNeg
abbrev RR : Type := Option (Int32 × St)
def gd (c : Prop) [Decidable c] (a : RR) : RR := if c then a else none
def bd (m : RR) (k : Int32 → St → RR) : RR := match m with
  | none => none
  | some p => k p.1 p.2
def bv (x : St) (k : St → RR) : RR := k x
def F_X12_isAhead_82 (fu : Nat) (V : St) (s0 : Int32) : RR :=
  gd (s0 = 0 ∨ s0 = 1) <| some (s0, V)
def F_X12_isAhead_71 (fu : Nat) (V : St) (s0 : Int32) : RR :=
  gd (s0 = 0 ∨ s0 = 1) <| some (s0, V)
def F_X12_isAhead_35 (fu : Nat) (V : St) (s0 : Int32) : RR :=
  gd (s0 = 0 ∨ s0 = 1) <| some (s0, V)
def f_X12_isAhead (fu : Nat) (V : St) (x1 : Int32) (x2 : Int32) : RR :=
  gd (¬ (x1 < 0 ∨ 60 ≤ (x1).toNatClampNeg)) <| gd (¬ (x2 < 0 ∨ 60 ≤ (x2).toNatClampNeg)) <| if (V 2284 (0) (x1).toNatClampNeg) = (V 2284 (0) (x2).toNatClampNeg) then
    (gd (¬ (x1 < 0 ∨ 60 ≤ (x1).toNatClampNeg)) <| gd (¬ (x2 < 0 ∨ 60 ≤ (x2).toNatClampNeg)) <| if (V 2283 (0) (x1).toNatClampNeg) = (V 2283 (0) (x2).toNatClampNeg) then
      (if x2 ≤ x1 then
        (F_X12_isAhead_82 fu V ((0 : Int32)))
        else
        (F_X12_isAhead_82 fu V ((1 : Int32))))
      else
      (gd (¬ (x1 < 0 ∨ 60 ≤ (x1).toNatClampNeg)) <| gd (¬ (x2 < 0 ∨ 60 ≤ (x2).toNatClampNeg)) <| if (V 2283 (0) (x2).toNatClampNeg) ≤ (V 2283 (0) (x1).toNatClampNeg) then
        (F_X12_isAhead_71 fu V ((0 : Int32)))
        else
        (F_X12_isAhead_71 fu V ((1 : Int32)))))
    else
    (gd (¬ (x1 < 0 ∨ 60 ≤ (x1).toNatClampNeg)) <| gd (¬ (x2 < 0 ∨ 60 ≤ (x2).toNatClampNeg)) <| if (V 2284 (0) (x1).toNatClampNeg) ≤ (V 2284 (0) (x2).toNatClampNeg) then
      (F_X12_isAhead_35 fu V ((0 : Int32)))
      else
      (F_X12_isAhead_35 fu V ((1 : Int32))))
def F_X12_aheadOf_64 (fu : Nat) (V : St) (x2 : Int32) : RR :=
  some (x2, V)
def F_X12_aheadOf_56 (kh : St → Int32 → Int32 → Int32 → RR) (kx64 : St → Int32 → RR) (fu : Nat) (V : St) (x1 : Int32) (x3 : Int32) (s0 : Int32) (s1 : Int32) : RR :=
  kh V (x1) (s1 + s0) (x3 + 1)
def F_X12_aheadOf_55 (kh : St → Int32 → Int32 → Int32 → RR) (kx64 : St → Int32 → RR) (fu : Nat) (V : St) (x1 : Int32) (x3 : Int32) (s0 : Int32) : RR :=
  F_X12_aheadOf_56 kh kx64 fu V (x1) (x3) ((0 : Int32)) (s0)
def F_X12_aheadOf_4 (kh : St → Int32 → Int32 → Int32 → RR) (kx64 : St → Int32 → RR) (fu : Nat) (V : St) (x1 : Int32) (x2 : Int32) (x3 : Int32) : RR :=
  if (V 2280 0 0) ≤ x3 then
    (kx64 V (x2))
    else
    (if x3 = x1 then
      (F_X12_aheadOf_55 kh kx64 fu V (x1) (x3) (x2))
      else
      (gd (¬ (x3 < 0 ∨ 60 ≤ (x3).toNatClampNeg)) <| if (V 2285 (0) (x3).toNatClampNeg) = 0 then
        (F_X12_aheadOf_55 kh kx64 fu V (x1) (x3) (x2))
        else
        (gd (¬ (x3 < 0 ∨ 60 ≤ (x3).toNatClampNeg)) <| gd (¬ (x1 < 0 ∨ 60 ≤ (x1).toNatClampNeg)) <| if (V 2282 (0) (x3).toNatClampNeg) = (V 2282 (0) (x1).toNatClampNeg) then
          (bd (f_X12_isAhead fu V (x3) (x1)) fun r8 V9 => if r8 = 0 then
            (F_X12_aheadOf_55 kh kx64 fu V9 (x1) (x3) (x2))
            else
            (F_X12_aheadOf_56 kh kx64 fu V9 (x1) (x3) ((1 : Int32)) (x2)))
          else
          (F_X12_aheadOf_55 kh kx64 fu V (x1) (x3) (x2)))))
def Lp_X12_aheadOf_4 (kx64 : St → Int32 → RR) (fu : Nat) : Nat → St → Int32 → Int32 → Int32 → RR
  | 0, _, _, _, _ => none
  | n + 1, V, x1, x2, x3 => F_X12_aheadOf_4 (Lp_X12_aheadOf_4 kx64 fu n) kx64 fu V x1 x2 x3
def f_X12_aheadOf (fu : Nat) (V : St) (x1 : Int32) : RR :=
  Lp_X12_aheadOf_4 (F_X12_aheadOf_64 fu) fu fu V (x1) ((0 : Int32)) ((0 : Int32))
def F_X12_bits_24 (fu : Nat) (V : St) (x1 : Int32) : RR :=
  some (x1, V)
def F_X12_bits_4 (kh : St → Int32 → Int32 → Int32 → RR) (kx24 : St → Int32 → RR) (fu : Nat) (V : St) (x0 : Int32) (x1 : Int32) (x2 : Int32) : RR :=
  if (31 : Int32) ≤ x2 then
    (kx24 V (x1))
    else
    (kh V (x0) (x1 + ((x0 >>> (x2 &&& 31)) &&& (1 : Int32))) (x2 + 1))
def Lp_X12_bits_4 (kx24 : St → Int32 → RR) (fu : Nat) : Nat → St → Int32 → Int32 → Int32 → RR
  | 0, _, _, _, _ => none
  | n + 1, V, x0, x1, x2 => F_X12_bits_4 (Lp_X12_bits_4 kx24 fu n) kx24 fu V x0 x1 x2
def f_X12_bits (fu : Nat) (V : St) (x0 : Int32) : RR :=
  Lp_X12_bits_4 (F_X12_bits_24 fu) fu fu V (x0) ((0 : Int32)) ((0 : Int32))
def F_X12_areTold_28 (fu : Nat) (V : St) (s0 : Int32) : RR :=
  gd (s0 = 0 ∨ s0 = 1) <| some (s0, V)
def F_X12_areTold_27 (fu : Nat) (V : St) : RR :=
  F_X12_areTold_28 fu V ((0 : Int32))
def f_X12_areTold (fu : Nat) (V : St) (x1 : Int32) : RR :=
  if x1 < 0 then
    (F_X12_areTold_27 fu V)
    else
    (if (1 : Int32) <<< ((V 2232 0 0) &&& 31) ≤ x1 then
      (F_X12_areTold_27 fu V)
      else
      (bd (f_X12_bits fu V (x1)) fun r3 V4 => if (8 : Int32) < r3 then
        (F_X12_areTold_27 fu V4)
        else
        (F_X12_areTold_28 fu V4 ((1 : Int32)))))
def F_X12_bearsOf_21 (fu : Nat) (V : St) (s0 : Int32) : RR :=
  some (s0, V)
def f_X12_bearsOf (fu : Nat) (V : St) (x0 : Int32) : RR :=
  if x0 = 0 then
    (F_X12_bearsOf_21 fu V ((10 : Int32)))
    else
    (if x0 = (1 : Int32) then
      (F_X12_bearsOf_21 fu V ((25 : Int32)))
      else
      (F_X12_bearsOf_21 fu V ((60 : Int32))))
def F_X12_moreFlow_450 (fu : Nat) (V : St) (x3 : Int32) : RR :=
  some (x3, V)
def F_X12_moreFlow_445 (kh : St → Int32 → Int32 → Int32 → Int32 → RR) (kx450 : St → Int32 → RR) (fu : Nat) (V : St) (x1 : Int32) (x2 : Int32) (x3 : Int32) (s0 : Int32) : RR :=
  kh V (x1) (x2) (x3) (s0)
def F_X12_moreFlow_422 (kh : St → Int32 → Int32 → Int32 → Int32 → RR) (kx450 : St → Int32 → RR) (fu : Nat) (V : St) (x1 : Int32) (x2 : Int32) (x3 : Int32) (x6 : Int32) (x7 : Int32) (s0 : Int32) (s1 : Int32) : RR :=
  gd (¬ (s1 < 0 ∨ 8 ≤ (s1).toNatClampNeg)) <| bv (setV V 2228 (0) (s1).toNatClampNeg (s0)) fun V2 => if x7 = 0 then
    (gd (¬ (x6 < 0 ∨ 176 ≤ (x6).toNatClampNeg)) <| F_X12_moreFlow_445 kh kx450 fu V2 (x1) (x2) (x3) ((V2 2212 (0) (x6).toNatClampNeg)))
    else
    (gd (¬ (x6 < 0 ∨ 176 ≤ (x6).toNatClampNeg)) <| F_X12_moreFlow_445 kh kx450 fu V2 (x1) (x2) (x3) ((V2 2211 (0) (x6).toNatClampNeg)))
def F_X12_moreFlow_388 (kh : St → Int32 → Int32 → Int32 → Int32 → RR) (kx450 : St → Int32 → RR) (fu : Nat) (V : St) (x1 : Int32) (x2 : Int32) (x3 : Int32) (x5 : Int32) (x6 : Int32) (s0 : Int32) : RR :=
  if s0 = 0 then
    (gd (¬ (x5 < 0 ∨ 8 ≤ (x5).toNatClampNeg)) <| F_X12_moreFlow_422 kh kx450 fu V (x1) (x2) (x3) (x6) (s0) ((V 2228 (0) (x5).toNatClampNeg) - x3) (x5))
    else
    (gd (¬ (x5 < 0 ∨ 8 ≤ (x5).toNatClampNeg)) <| F_X12_moreFlow_422 kh kx450 fu V (x1) (x2) (x3) (x6) (s0) ((V 2228 (0) (x5).toNatClampNeg) + x3) (x5))
def F_X12_moreFlow_347 (kh : St → Int32 → Int32 → Int32 → Int32 → RR) (kx450 : St → Int32 → RR) (fu : Nat) (V : St) (x1 : Int32) (x2 : Int32) (x3 : Int32) (x4 : Int32) : RR :=
  if x4 = x2 then
    (kx450 V (x3))
    else
    (gd (¬ (x4 < 0 ∨ 8 ≤ (x4).toNatClampNeg)) <| gd (¬ (((8 : Int32) * x1) + (V 2229 (0) (x4).toNatClampNeg) < 0 ∨ 176 ≤ (((8 : Int32) * x1) + (V 2229 (0) (x4).toNatClampNeg)).toNatClampNeg)) <| if (V 2212 (0) (((8 : Int32) * x1) + (V 2229 (0) (x4).toNatClampNeg)).toNatClampNeg) = x4 then
      (F_X12_moreFlow_388 kh kx450 fu V (x1) (x2) (x3) ((V 2229 (0) (x4).toNatClampNeg)) (((8 : Int32) * x1) + (V 2229 (0) (x4).toNatClampNeg)) ((1 : Int32)))
      else
      (F_X12_moreFlow_388 kh kx450 fu V (x1) (x2) (x3) ((V 2229 (0) (x4).toNatClampNeg)) (((8 : Int32) * x1) + (V 2229 (0) (x4).toNatClampNeg)) ((0 : Int32))))
def Lp_X12_moreFlow_347 (kx450 : St → Int32 → RR) (fu : Nat) : Nat → St → Int32 → Int32 → Int32 → Int32 → RR
  | 0, _, _, _, _, _ => none
  | n + 1, V, x1, x2, x3, x4 => F_X12_moreFlow_347 (Lp_X12_moreFlow_347 kx450 fu n) kx450 fu V x1 x2 x3 x4
def F_X12_moreFlow_344 (fu : Nat) (V : St) (x1 : Int32) (x2 : Int32) (x3 : Int32) : RR :=
  Lp_X12_moreFlow_347 (F_X12_moreFlow_450 fu) fu fu V (x1) (x2) (x3) ((0 : Int32))
def F_X12_moreFlow_339 (kh : St → Int32 → Int32 → Int32 → Int32 → RR) (kx344 : St → Int32 → Int32 → Int32 → RR) (fu : Nat) (V : St) (x1 : Int32) (x2 : Int32) (x3 : Int32) (s0 : Int32) : RR :=
  kh V (x1) (x2) (x3) (s0)
def F_X12_moreFlow_309 (kh : St → Int32 → Int32 → Int32 → Int32 → RR) (kx344 : St → Int32 → Int32 → Int32 → RR) (fu : Nat) (V : St) (x1 : Int32) (x2 : Int32) (x4 : Int32) (x6 : Int32) (s0 : Int32) : RR :=
  gd (¬ (x6 < 0 ∨ 176 ≤ (x6).toNatClampNeg)) <| if (V 2212 (0) (x6).toNatClampNeg) = x4 then
    (gd (¬ (x6 < 0 ∨ 176 ≤ (x6).toNatClampNeg)) <| F_X12_moreFlow_339 kh kx344 fu V (x1) (x2) (s0) ((V 2211 (0) (x6).toNatClampNeg)))
    else
    (gd (¬ (x6 < 0 ∨ 176 ≤ (x6).toNatClampNeg)) <| F_X12_moreFlow_339 kh kx344 fu V (x1) (x2) (s0) ((V 2212 (0) (x6).toNatClampNeg)))
def F_X12_moreFlow_294 (kh : St → Int32 → Int32 → Int32 → Int32 → RR) (kx344 : St → Int32 → Int32 → Int32 → RR) (fu : Nat) (V : St) (x1 : Int32) (x2 : Int32) (x3 : Int32) (x4 : Int32) (x6 : Int32) (s0 : Int32) (s1 : Int32) : RR :=
  if x3 ≤ s1 - s0 then
    (F_X12_moreFlow_309 kh kx344 fu V (x1) (x2) (x4) (x6) (x3))
    else
    (F_X12_moreFlow_309 kh kx344 fu V (x1) (x2) (x4) (x6) (s1 - s0))
def F_X12_moreFlow_230 (kh : St → Int32 → Int32 → Int32 → Int32 → RR) (kx344 : St → Int32 → Int32 → Int32 → RR) (fu : Nat) (V : St) (x1 : Int32) (x2 : Int32) (x3 : Int32) (x4 : Int32) : RR :=
  if x4 = x2 then
    (kx344 V (x1) (x2) (x3))
    else
    (gd (¬ (x4 < 0 ∨ 8 ≤ (x4).toNatClampNeg)) <| gd (¬ ((V 2229 (0) (x4).toNatClampNeg) < 0 ∨ 8 ≤ ((V 2229 (0) (x4).toNatClampNeg)).toNatClampNeg)) <| bd (f_X12_bearsOf fu V ((V 2226 (0) ((V 2229 (0) (x4).toNatClampNeg)).toNatClampNeg))) fun r4 V5 => gd (¬ (((8 : Int32) * x1) + (V 2229 (0) (x4).toNatClampNeg) < 0 ∨ 176 ≤ (((8 : Int32) * x1) + (V 2229 (0) (x4).toNatClampNeg)).toNatClampNeg)) <| if (V5 2212 (0) (((8 : Int32) * x1) + (V 2229 (0) (x4).toNatClampNeg)).toNatClampNeg) = x4 then
      (gd (¬ ((V 2229 (0) (x4).toNatClampNeg) < 0 ∨ 8 ≤ ((V 2229 (0) (x4).toNatClampNeg)).toNatClampNeg)) <| F_X12_moreFlow_294 kh kx344 fu V5 (x1) (x2) (x3) (x4) (((8 : Int32) * x1) + (V 2229 (0) (x4).toNatClampNeg)) ((V5 2228 (0) ((V 2229 (0) (x4).toNatClampNeg)).toNatClampNeg)) (r4))
      else
      (gd (¬ ((V 2229 (0) (x4).toNatClampNeg) < 0 ∨ 8 ≤ ((V 2229 (0) (x4).toNatClampNeg)).toNatClampNeg)) <| F_X12_moreFlow_294 kh kx344 fu V5 (x1) (x2) (x3) (x4) (((8 : Int32) * x1) + (V 2229 (0) (x4).toNatClampNeg)) (-((V5 2228 (0) ((V 2229 (0) (x4).toNatClampNeg)).toNatClampNeg))) (r4)))
def Lp_X12_moreFlow_230 (kx344 : St → Int32 → Int32 → Int32 → RR) (fu : Nat) : Nat → St → Int32 → Int32 → Int32 → Int32 → RR
  | 0, _, _, _, _, _ => none
  | n + 1, V, x1, x2, x3, x4 => F_X12_moreFlow_230 (Lp_X12_moreFlow_230 kx344 fu n) kx344 fu V x1 x2 x3 x4
def F_X12_moreFlow_211 (fu : Nat) (V : St) (x1 : Int32) (x2 : Int32) : RR :=
  gd (¬ ((0 : Int32) < 0 ∨ 8 ≤ ((0 : Int32)).toNatClampNeg)) <| if (V 2229 (0) ((0 : Int32)).toNatClampNeg) = (-1 : Int32) then
    (some ((0 : Int32), V))
    else
    (Lp_X12_moreFlow_230 (F_X12_moreFlow_344 fu) fu fu V (x1) (x2) ((100000 : Int32)) ((0 : Int32)))
def F_X12_moreFlow_205 (kh : St → Int32 → Int32 → Int32 → RR) (kx211 : St → Int32 → Int32 → RR) (fu : Nat) (V : St) (x1 : Int32) (x2 : Int32) (x3 : Int32) : RR :=
  kh V (x1) (x2) (x3 + 1)
def F_X12_moreFlow_199 (kh : St → Int32 → Int32 → Int32 → Int32 → RR) (kx205 : St → Int32 → Int32 → Int32 → RR) (fu : Nat) (V : St) (x1 : Int32) (x2 : Int32) (x3 : Int32) (x4 : Int32) : RR :=
  kh V (x1) (x2) (x3) (x4 + 1)
def F_X12_moreFlow_140 (kh : St → Int32 → Int32 → Int32 → Int32 → RR) (kx205 : St → Int32 → Int32 → Int32 → RR) (fu : Nat) (V : St) (x1 : Int32) (x2 : Int32) (x3 : Int32) (x4 : Int32) (x5 : Int32) (x6 : Int32) : RR :=
  gd (¬ (x5 < 0 ∨ 176 ≤ (x5).toNatClampNeg)) <| gd (¬ ((V 2212 (0) (x5).toNatClampNeg) < 0 ∨ 8 ≤ ((V 2212 (0) (x5).toNatClampNeg)).toNatClampNeg)) <| if (V 2229 (0) ((V 2212 (0) (x5).toNatClampNeg)).toNatClampNeg) = (-1 : Int32) then
    (F_X12_moreFlow_199 kh kx205 fu V (x1) (x2) (x3) (x4))
    else
    (gd (¬ (x5 < 0 ∨ 176 ≤ (x5).toNatClampNeg)) <| gd (¬ ((V 2211 (0) (x5).toNatClampNeg) < 0 ∨ 8 ≤ ((V 2211 (0) (x5).toNatClampNeg)).toNatClampNeg)) <| if (V 2229 (0) ((V 2211 (0) (x5).toNatClampNeg)).toNatClampNeg) = (-1 : Int32) then
      (gd (¬ (x4 < 0 ∨ 8 ≤ (x4).toNatClampNeg)) <| if x6 ≤ -((V 2228 (0) (x4).toNatClampNeg)) then
        (F_X12_moreFlow_199 kh kx205 fu V (x1) (x2) (x3) (x4))
        else
        (gd (¬ (x5 < 0 ∨ 176 ≤ (x5).toNatClampNeg)) <| gd (¬ ((V 2211 (0) (x5).toNatClampNeg) < 0 ∨ 8 ≤ ((V 2211 (0) (x5).toNatClampNeg)).toNatClampNeg)) <| bv (setV V 2229 (0) ((V 2211 (0) (x5).toNatClampNeg)).toNatClampNeg (x4)) fun V11 => F_X12_moreFlow_199 kh kx205 fu V11 (x1) (x2) (x3) (x4)))
      else
      (F_X12_moreFlow_199 kh kx205 fu V (x1) (x2) (x3) (x4)))
def F_X12_moreFlow_50 (kh : St → Int32 → Int32 → Int32 → Int32 → RR) (kx205 : St → Int32 → Int32 → Int32 → RR) (fu : Nat) (V : St) (x1 : Int32) (x2 : Int32) (x3 : Int32) (x4 : Int32) : RR :=
  gd (¬ (x1 < 0 ∨ 22 ≤ (x1).toNatClampNeg)) <| if (V 2209 (0) (x1).toNatClampNeg) ≤ x4 then
    (kx205 V (x1) (x2) (x3))
    else
    (gd (¬ (x4 < 0 ∨ 8 ≤ (x4).toNatClampNeg)) <| bd (f_X12_bearsOf fu V ((V 2226 (0) (x4).toNatClampNeg))) fun r4 V5 => gd (¬ (((8 : Int32) * x1) + x4 < 0 ∨ 176 ≤ (((8 : Int32) * x1) + x4).toNatClampNeg)) <| gd (¬ ((V5 2211 (0) (((8 : Int32) * x1) + x4).toNatClampNeg) < 0 ∨ 8 ≤ ((V5 2211 (0) (((8 : Int32) * x1) + x4).toNatClampNeg)).toNatClampNeg)) <| if (V5 2229 (0) ((V5 2211 (0) (((8 : Int32) * x1) + x4).toNatClampNeg)).toNatClampNeg) = (-1 : Int32) then
      (F_X12_moreFlow_140 kh kx205 fu V5 (x1) (x2) (x3) (x4) (((8 : Int32) * x1) + x4) (r4))
      else
      (gd (¬ (((8 : Int32) * x1) + x4 < 0 ∨ 176 ≤ (((8 : Int32) * x1) + x4).toNatClampNeg)) <| gd (¬ ((V5 2212 (0) (((8 : Int32) * x1) + x4).toNatClampNeg) < 0 ∨ 8 ≤ ((V5 2212 (0) (((8 : Int32) * x1) + x4).toNatClampNeg)).toNatClampNeg)) <| if (V5 2229 (0) ((V5 2212 (0) (((8 : Int32) * x1) + x4).toNatClampNeg)).toNatClampNeg) = (-1 : Int32) then
        (gd (¬ (x4 < 0 ∨ 8 ≤ (x4).toNatClampNeg)) <| if r4 ≤ (V5 2228 (0) (x4).toNatClampNeg) then
          (F_X12_moreFlow_140 kh kx205 fu V5 (x1) (x2) (x3) (x4) (((8 : Int32) * x1) + x4) (r4))
          else
          (gd (¬ (((8 : Int32) * x1) + x4 < 0 ∨ 176 ≤ (((8 : Int32) * x1) + x4).toNatClampNeg)) <| gd (¬ ((V5 2212 (0) (((8 : Int32) * x1) + x4).toNatClampNeg) < 0 ∨ 8 ≤ ((V5 2212 (0) (((8 : Int32) * x1) + x4).toNatClampNeg)).toNatClampNeg)) <| bv (setV V5 2229 (0) ((V5 2212 (0) (((8 : Int32) * x1) + x4).toNatClampNeg)).toNatClampNeg (x4)) fun V17 => F_X12_moreFlow_140 kh kx205 fu V17 (x1) (x2) (x3) (x4) (((8 : Int32) * x1) + x4) (r4)))
        else
        (F_X12_moreFlow_140 kh kx205 fu V5 (x1) (x2) (x3) (x4) (((8 : Int32) * x1) + x4) (r4))))
def Lp_X12_moreFlow_50 (kx205 : St → Int32 → Int32 → Int32 → RR) (fu : Nat) : Nat → St → Int32 → Int32 → Int32 → Int32 → RR
  | 0, _, _, _, _, _ => none
  | n + 1, V, x1, x2, x3, x4 => F_X12_moreFlow_50 (Lp_X12_moreFlow_50 kx205 fu n) kx205 fu V x1 x2 x3 x4
def F_X12_moreFlow_31 (kh : St → Int32 → Int32 → Int32 → RR) (kx211 : St → Int32 → Int32 → RR) (fu : Nat) (V : St) (x1 : Int32) (x2 : Int32) (x3 : Int32) : RR :=
  if (8 : Int32) ≤ x3 then
    (kx211 V (x1) (x2))
    else
    (gd (¬ ((0 : Int32) < 0 ∨ 8 ≤ ((0 : Int32)).toNatClampNeg)) <| if (V 2229 (0) ((0 : Int32)).toNatClampNeg) = (-1 : Int32) then
      (Lp_X12_moreFlow_50 (F_X12_moreFlow_205 kh kx211 fu) fu fu V (x1) (x2) (x3) ((0 : Int32)))
      else
      (kx211 V (x1) (x2)))
def Lp_X12_moreFlow_31 (kx211 : St → Int32 → Int32 → RR) (fu : Nat) : Nat → St → Int32 → Int32 → Int32 → RR
  | 0, _, _, _, _ => none
  | n + 1, V, x1, x2, x3 => F_X12_moreFlow_31 (Lp_X12_moreFlow_31 kx211 fu n) kx211 fu V x1 x2 x3
def F_X12_moreFlow_21 (fu : Nat) (V : St) (x1 : Int32) (x2 : Int32) : RR :=
  gd (¬ (x2 < 0 ∨ 8 ≤ (x2).toNatClampNeg)) <| bv (setV V 2229 (0) (x2).toNatClampNeg ((8 : Int32))) fun V2 => Lp_X12_moreFlow_31 (F_X12_moreFlow_211 fu) fu fu V2 (x1) (x2) ((0 : Int32))
def F_X12_moreFlow_2 (kh : St → Int32 → Int32 → Int32 → RR) (kx21 : St → Int32 → Int32 → RR) (fu : Nat) (V : St) (x1 : Int32) (x2 : Int32) (x3 : Int32) : RR :=
  if (8 : Int32) ≤ x3 then
    (kx21 V (x1) (x2))
    else
    (gd (¬ (x3 < 0 ∨ 8 ≤ (x3).toNatClampNeg)) <| bv (setV V 2229 (0) (x3).toNatClampNeg ((-1 : Int32))) fun V3 => kh V3 (x1) (x2) (x3 + 1))
def Lp_X12_moreFlow_2 (kx21 : St → Int32 → Int32 → RR) (fu : Nat) : Nat → St → Int32 → Int32 → Int32 → RR
  | 0, _, _, _, _ => none
  | n + 1, V, x1, x2, x3 => F_X12_moreFlow_2 (Lp_X12_moreFlow_2 kx21 fu n) kx21 fu V x1 x2 x3
def f_X12_moreFlow (fu : Nat) (V : St) (x1 : Int32) (x2 : Int32) : RR :=
  Lp_X12_moreFlow_2 (F_X12_moreFlow_21 fu) fu fu V (x1) (x2) ((0 : Int32))
def F_X12_isBearing_92 (fu : Nat) (V : St) : RR :=
  some ((1 : Int32), V)
def F_X12_isBearing_84 (fu : Nat) (V : St) : RR :=
  some ((0 : Int32), V)
def F_X12_isBearing_69 (kh : St → Int32 → Int32 → RR) (kx84 : St → RR) (kx92 : St → RR) (fu : Nat) (V : St) (x1 : Int32) (x2 : Int32) (x3 : Int32) : RR :=
  gd (¬ (((8 : Int32) * x1) + x2 < 0 ∨ 176 ≤ (((8 : Int32) * x1) + x2).toNatClampNeg)) <| if (V 2215 (0) (((8 : Int32) * x1) + x2).toNatClampNeg) ≤ x3 then
    (kh V (x1) (x2 + 1))
    else
    (kx84 V)
def F_X12_isBearing_38 (kh : St → Int32 → Int32 → Int32 → Int32 → RR) (kx69 : St → Int32 → Int32 → Int32 → RR) (fu : Nat) (V : St) (x1 : Int32) (x2 : Int32) (x3 : Int32) (x4 : Int32) : RR :=
  if x4 ≤ 0 then
    (kx69 V (x1) (x2) (x3))
    else
    (gd (¬ (((8 : Int32) * x1) + x2 < 0 ∨ 176 ≤ (((8 : Int32) * x1) + x2).toNatClampNeg)) <| bd (f_X12_moreFlow fu V (x1) ((V 2214 (0) (((8 : Int32) * x1) + x2).toNatClampNeg))) fun r3 V4 => kh V4 (x1) (x2) (x3 + r3) (r3))
def Lp_X12_isBearing_38 (kx69 : St → Int32 → Int32 → Int32 → RR) (fu : Nat) : Nat → St → Int32 → Int32 → Int32 → Int32 → RR
  | 0, _, _, _, _, _ => none
  | n + 1, V, x1, x2, x3, x4 => F_X12_isBearing_38 (Lp_X12_isBearing_38 kx69 fu n) kx69 fu V x1 x2 x3 x4
def F_X12_isBearing_33 (kh : St → Int32 → Int32 → RR) (kx84 : St → RR) (kx92 : St → RR) (fu : Nat) (V : St) (x1 : Int32) (x2 : Int32) : RR :=
  Lp_X12_isBearing_38 (F_X12_isBearing_69 kh kx84 kx92 fu) fu fu V (x1) (x2) ((0 : Int32)) ((1 : Int32))
def F_X12_isBearing_14 (kh : St → Int32 → Int32 → Int32 → RR) (kx33 : St → Int32 → Int32 → RR) (fu : Nat) (V : St) (x1 : Int32) (x2 : Int32) (x3 : Int32) : RR :=
  if (8 : Int32) ≤ x3 then
    (kx33 V (x1) (x2))
    else
    (gd (¬ (x3 < 0 ∨ 8 ≤ (x3).toNatClampNeg)) <| bv (setV V 2228 (0) (x3).toNatClampNeg ((0 : Int32))) fun V3 => kh V3 (x1) (x2) (x3 + 1))
def Lp_X12_isBearing_14 (kx33 : St → Int32 → Int32 → RR) (fu : Nat) : Nat → St → Int32 → Int32 → Int32 → RR
  | 0, _, _, _, _ => none
  | n + 1, V, x1, x2, x3 => F_X12_isBearing_14 (Lp_X12_isBearing_14 kx33 fu n) kx33 fu V x1 x2 x3
def F_X12_isBearing_2 (kh : St → Int32 → Int32 → RR) (kx84 : St → RR) (kx92 : St → RR) (fu : Nat) (V : St) (x1 : Int32) (x2 : Int32) : RR :=
  gd (¬ (x1 < 0 ∨ 22 ≤ (x1).toNatClampNeg)) <| if (V 2210 (0) (x1).toNatClampNeg) ≤ x2 then
    (kx92 V)
    else
    (Lp_X12_isBearing_14 (F_X12_isBearing_33 kh kx84 kx92 fu) fu fu V (x1) (x2) ((0 : Int32)))
def Lp_X12_isBearing_2 (kx84 : St → RR) (kx92 : St → RR) (fu : Nat) : Nat → St → Int32 → Int32 → RR
  | 0, _, _, _ => none
  | n + 1, V, x1, x2 => F_X12_isBearing_2 (Lp_X12_isBearing_2 kx84 kx92 fu n) kx84 kx92 fu V x1 x2
def f_X12_isBearing (fu : Nat) (V : St) (x1 : Int32) : RR :=
  Lp_X12_isBearing_2 (F_X12_isBearing_84 fu) (F_X12_isBearing_92 fu) fu fu V (x1) ((0 : Int32))
def F_X12_isDrawing_17 (fu : Nat) (V : St) (s0 : Int32) : RR :=
  gd (s0 = 0 ∨ s0 = 1) <| some (s0, V)
def F_X12_isDrawing_16 (fu : Nat) (V : St) : RR :=
  F_X12_isDrawing_17 fu V ((0 : Int32))
def f_X12_isDrawing (fu : Nat) (V : St) (x1 : Int32) : RR :=
  if x1 < 0 then
    (F_X12_isDrawing_16 fu V)
    else
    (if (V 2203 0 0) ≤ x1 then
      (F_X12_isDrawing_16 fu V)
      else
      (F_X12_isDrawing_17 fu V ((1 : Int32))))
def F_X12_bears_58 (fu : Nat) (V : St) (s0 : Int32) : RR :=
  some (s0, V)
def F_X12_bears_45 (fu : Nat) (V : St) (x1 : Int32) : RR :=
  bd (f_X12_isBearing fu V (x1)) fun r1 V2 => if r1 = 0 then
    (F_X12_bears_58 fu V2 ((0 : Int32)))
    else
    (F_X12_bears_58 fu V2 ((1 : Int32)))
def F_X12_bears_12 (kh : St → Int32 → Int32 → RR) (kx45 : St → Int32 → RR) (fu : Nat) (V : St) (x1 : Int32) (x2 : Int32) : RR :=
  gd (¬ (x1 < 0 ∨ 22 ≤ (x1).toNatClampNeg)) <| if (V 2209 (0) (x1).toNatClampNeg) ≤ x2 then
    (kx45 V (x1))
    else
    (gd (¬ (((8 : Int32) * x1) + x2 < 0 ∨ 176 ≤ (((8 : Int32) * x1) + x2).toNatClampNeg)) <| gd (¬ (x2 < 0 ∨ 8 ≤ (x2).toNatClampNeg)) <| bv (setV V 2226 (0) (x2).toNatClampNeg ((V 2213 (0) (((8 : Int32) * x1) + x2).toNatClampNeg))) fun V5 => kh V5 (x1) (x2 + 1))
def Lp_X12_bears_12 (kx45 : St → Int32 → RR) (fu : Nat) : Nat → St → Int32 → Int32 → RR
  | 0, _, _, _ => none
  | n + 1, V, x1, x2 => F_X12_bears_12 (Lp_X12_bears_12 kx45 fu n) kx45 fu V x1 x2
def f_X12_bears (fu : Nat) (V : St) (x1 : Int32) : RR :=
  bd (f_X12_isDrawing fu V (x1)) fun r1 V2 => if r1 = 0 then
    (some ((-1 : Int32), V2))
    else
    (Lp_X12_bears_12 (F_X12_bears_45 fu) fu fu V2 (x1) ((0 : Int32)))
def F_X12_in_15 (fu : Nat) (V : St) (s0 : Int32) : RR :=
  gd (s0 = 0 ∨ s0 = 1) <| some (s0, V)
def F_X12_in_14 (fu : Nat) (V : St) : RR :=
  F_X12_in_15 fu V ((0 : Int32))
def f_X12_in (fu : Nat) (V : St) (x0 : Int32) (x1 : Int32) (x2 : Int32) : RR :=
  if x0 < x1 then
    (F_X12_in_14 fu V)
    else
    (if x2 < x0 then
      (F_X12_in_14 fu V)
      else
      (F_X12_in_15 fu V ((1 : Int32))))
def f_X12_bench (fu : Nat) (V : St) (x1 : Int32) : RR :=
  bd (f_X12_in fu V (x1) ((1 : Int32)) ((1000 : Int32))) fun r1 V2 => if r1 = 0 then
    (some ((0 : Int32), V2))
    else
    (bv (setV V2 2288 0 0 (x1)) fun V5 => some ((1 : Int32), V5))
def F_X12_reckon_96 (fu : Nat) (V : St) (s0 : Int32) : RR :=
  some (s0, V)
def F_X12_reckon_85 (fu : Nat) (V : St) (s0 : Int32) : RR :=
  some (s0, V)
def F_X12_reckon_74 (fu : Nat) (V : St) (s0 : Int32) : RR :=
  some (s0, V)
def f_X12_reckon (fu : Nat) (V : St) (x0 : Int32) (x1 : Int32) (x2 : Int32) : RR :=
  if x0 = 2 then (some (x1 + x2, V)) else
    if x0 = 3 then (some (x1 - x2, V)) else
    if x0 = 4 then (some (x1 * x2, V)) else
    if x0 = 5 then (gd (¬ x2 = 0) <| some ((x1) / (x2), V)) else
    if x0 = 6 then (gd (¬ x2 = 0) <| some ((x1) - (x1) / (x2) * (x2), V)) else
    if x0 = 7 then (if x2 ≤ x1 then
      (F_X12_reckon_74 fu V ((0 : Int32)))
      else
      (F_X12_reckon_74 fu V ((1 : Int32)))) else
    if x0 = 8 then (if x1 ≤ x2 then
      (F_X12_reckon_85 fu V ((0 : Int32)))
      else
      (F_X12_reckon_85 fu V ((1 : Int32)))) else
    if x1 = x2 then
    (F_X12_reckon_96 fu V ((1 : Int32)))
    else
    (F_X12_reckon_96 fu V ((0 : Int32)))
def F_X12_holds_257 (fu : Nat) (V : St) (s0 : Int32) : RR :=
  gd (s0 = 0 ∨ s0 = 1) <| some (s0, V)
def F_X12_holds_242 (fu : Nat) (V : St) : RR :=
  gd (¬ ((0 : Int32) < 0 ∨ 180 ≤ ((0 : Int32)).toNatClampNeg)) <| if (V 2271 (0) ((0 : Int32)).toNatClampNeg) = (1 : Int32) then
    (F_X12_holds_257 fu V ((1 : Int32)))
    else
    (F_X12_holds_257 fu V ((0 : Int32)))
def F_X12_holds_239 (kh : St → Int32 → Int32 → Int32 → Int32 → RR) (kx210 : St → RR) (kx242 : St → RR) (fu : Nat) (V : St) (x1 : Int32) (x2 : Int32) (x3 : Int32) (x4 : Int32) : RR :=
  kh V (x1) (x2) (x3) (x4)
def F_X12_holds_212 (kh : St → Int32 → Int32 → Int32 → Int32 → RR) (kx210 : St → RR) (kx242 : St → RR) (fu : Nat) (V : St) (x1 : Int32) (x2 : Int32) (x3 : Int32) (x4 : Int32) (x5 : Int32) : RR :=
  gd (¬ (x2 - (1 : Int32) < 0 ∨ 180 ≤ (x2 - (1 : Int32)).toNatClampNeg)) <| gd (¬ (x2 < 0 ∨ 180 ≤ (x2).toNatClampNeg)) <| bd (f_X12_reckon fu V (x5) ((V 2271 (0) (x2 - (1 : Int32)).toNatClampNeg)) ((V 2271 (0) (x2).toNatClampNeg))) fun r3 V4 => gd (¬ (x2 - (1 : Int32) < 0 ∨ 180 ≤ (x2 - (1 : Int32)).toNatClampNeg)) <| bv (setV V4 2271 (0) (x2 - (1 : Int32)).toNatClampNeg (r3)) fun V7 => F_X12_holds_239 kh kx210 kx242 fu V7 (x1) (x2) (x3) (x4)
def F_X12_holds_210 (fu : Nat) (V : St) : RR :=
  some ((0 : Int32), V)
def F_X12_holds_201 (kh : St → Int32 → Int32 → Int32 → Int32 → RR) (kx210 : St → RR) (kx242 : St → RR) (fu : Nat) (V : St) (x1 : Int32) (x2 : Int32) (x3 : Int32) (x4 : Int32) (x5 : Int32) : RR :=
  gd (¬ (x2 < 0 ∨ 180 ≤ (x2).toNatClampNeg)) <| if (V 2271 (0) (x2).toNatClampNeg) = 0 then
    (kx210 V)
    else
    (F_X12_holds_212 kh kx210 kx242 fu V (x1) (x2) (x3) (x4) (x5))
def F_X12_holds_165 (kh : St → Int32 → Int32 → Int32 → Int32 → RR) (kx210 : St → RR) (kx242 : St → RR) (fu : Nat) (V : St) (x1 : Int32) (x2 : Int32) (x3 : Int32) (x4 : Int32) (x6 : Int32) (s0 : Int32) (s1 : Int32) : RR :=
  if s1 = s0 then
    (F_X12_holds_239 kh kx210 kx242 fu V (x1) (x2) (x3) (x3 + x6))
    else
    (F_X12_holds_239 kh kx210 kx242 fu V (x1) (x2 - (1 : Int32)) (x3) (x4))
def F_X12_holds_145 (kh : St → Int32 → Int32 → Int32 → Int32 → RR) (kx210 : St → RR) (kx242 : St → RR) (fu : Nat) (V : St) (x1 : Int32) (x2 : Int32) (x3 : Int32) (x4 : Int32) (x5 : Int32) (x6 : Int32) : RR :=
  gd (¬ (x2 - (1 : Int32) < 0 ∨ 180 ≤ (x2 - (1 : Int32)).toNatClampNeg)) <| if x5 = (12 : Int32) then
    (F_X12_holds_165 kh kx210 kx242 fu V (x1) (x2) (x3) (x4) (x6) ((1 : Int32)) ((V 2271 (0) (x2 - (1 : Int32)).toNatClampNeg)))
    else
    (F_X12_holds_165 kh kx210 kx242 fu V (x1) (x2) (x3) (x4) (x6) ((0 : Int32)) ((V 2271 (0) (x2 - (1 : Int32)).toNatClampNeg)))
def F_X12_holds_95 (kh : St → Int32 → Int32 → Int32 → Int32 → RR) (kx210 : St → RR) (kx242 : St → RR) (fu : Nat) (V : St) (x1 : Int32) (x2 : Int32) (x3 : Int32) (x4 : Int32) (s0 : Int32) (s1 : Int32) : RR :=
  gd (¬ (s1 < 0 ∨ 180 ≤ (s1).toNatClampNeg)) <| bv (setV V 2271 (0) (s1).toNatClampNeg (s0)) fun V2 => F_X12_holds_239 kh kx210 kx242 fu V2 (x1) (x2 + (1 : Int32)) (x3) (x4)
def F_X12_holds_73 (kh : St → Int32 → Int32 → Int32 → Int32 → RR) (kx210 : St → RR) (kx242 : St → RR) (fu : Nat) (V : St) (x1 : Int32) (x2 : Int32) (x3 : Int32) (x4 : Int32) (x5 : Int32) (x6 : Int32) : RR :=
  if x5 = 0 then
    (F_X12_holds_95 kh kx210 kx242 fu V (x1) (x2) (x3) (x4) (x6) (x2))
    else
    (gd (¬ (x6 < 0 ∨ 9 ≤ (x6).toNatClampNeg)) <| F_X12_holds_95 kh kx210 kx242 fu V (x1) (x2) (x3) (x4) ((V 2272 (0) (x6).toNatClampNeg)) (x2))
def F_X12_holds_19 (kh : St → Int32 → Int32 → Int32 → Int32 → RR) (kx210 : St → RR) (kx242 : St → RR) (fu : Nat) (V : St) (x1 : Int32) (x2 : Int32) (x3 : Int32) (x4 : Int32) : RR :=
  gd (¬ (x1 < 0 ∨ 360 ≤ (x1).toNatClampNeg)) <| if (V 2267 (0) (x1).toNatClampNeg) ≤ x4 then
    (kx242 V)
    else
    (gd (¬ (x4 < 0 ∨ 5400 ≤ (x4).toNatClampNeg)) <| gd (¬ (x4 < 0 ∨ 5400 ≤ (x4).toNatClampNeg)) <| if ((V 2260 (0) (x4).toNatClampNeg)) / ((1048576 : Int32)) = 0 then
      (F_X12_holds_73 kh kx210 kx242 fu V (x1) (x2) (x3) (x4 + (1 : Int32)) (((V 2260 (0) (x4).toNatClampNeg)) / ((1048576 : Int32))) (((V 2260 (0) (x4).toNatClampNeg)) - ((V 2260 (0) (x4).toNatClampNeg)) / ((1048576 : Int32)) * ((1048576 : Int32))))
      else
      (if ((V 2260 (0) (x4).toNatClampNeg)) / ((1048576 : Int32)) = (1 : Int32) then
        (F_X12_holds_73 kh kx210 kx242 fu V (x1) (x2) (x3) (x4 + (1 : Int32)) (((V 2260 (0) (x4).toNatClampNeg)) / ((1048576 : Int32))) (((V 2260 (0) (x4).toNatClampNeg)) - ((V 2260 (0) (x4).toNatClampNeg)) / ((1048576 : Int32)) * ((1048576 : Int32))))
        else
        (if ((V 2260 (0) (x4).toNatClampNeg)) / ((1048576 : Int32)) = (10 : Int32) then
          (gd (¬ (x2 - (1 : Int32) < 0 ∨ 180 ≤ (x2 - (1 : Int32)).toNatClampNeg)) <| gd (¬ (x2 - (1 : Int32) < 0 ∨ 180 ≤ (x2 - (1 : Int32)).toNatClampNeg)) <| bv (setV V 2271 (0) (x2 - (1 : Int32)).toNatClampNeg ((1 : Int32) - (V 2271 (0) (x2 - (1 : Int32)).toNatClampNeg))) fun V10 => F_X12_holds_239 kh kx210 kx242 fu V10 (x1) (x2) (x3) (x4 + (1 : Int32)))
          else
          (if ((V 2260 (0) (x4).toNatClampNeg)) / ((1048576 : Int32)) = (11 : Int32) then
            (F_X12_holds_145 kh kx210 kx242 fu V (x1) (x2) (x3) (x4 + (1 : Int32)) (((V 2260 (0) (x4).toNatClampNeg)) / ((1048576 : Int32))) (((V 2260 (0) (x4).toNatClampNeg)) - ((V 2260 (0) (x4).toNatClampNeg)) / ((1048576 : Int32)) * ((1048576 : Int32))))
            else
            (if ((V 2260 (0) (x4).toNatClampNeg)) / ((1048576 : Int32)) = (12 : Int32) then
              (F_X12_holds_145 kh kx210 kx242 fu V (x1) (x2) (x3) (x4 + (1 : Int32)) (((V 2260 (0) (x4).toNatClampNeg)) / ((1048576 : Int32))) (((V 2260 (0) (x4).toNatClampNeg)) - ((V 2260 (0) (x4).toNatClampNeg)) / ((1048576 : Int32)) * ((1048576 : Int32))))
              else
              (if ((V 2260 (0) (x4).toNatClampNeg)) / ((1048576 : Int32)) = (5 : Int32) then
                (F_X12_holds_201 kh kx210 kx242 fu V (x1) (x2 - (1 : Int32)) (x3) (x4 + (1 : Int32)) (((V 2260 (0) (x4).toNatClampNeg)) / ((1048576 : Int32))))
                else
                (if ((V 2260 (0) (x4).toNatClampNeg)) / ((1048576 : Int32)) = (6 : Int32) then
                  (F_X12_holds_201 kh kx210 kx242 fu V (x1) (x2 - (1 : Int32)) (x3) (x4 + (1 : Int32)) (((V 2260 (0) (x4).toNatClampNeg)) / ((1048576 : Int32))))
                  else
                  (F_X12_holds_212 kh kx210 kx242 fu V (x1) (x2 - (1 : Int32)) (x3) (x4 + (1 : Int32)) (((V 2260 (0) (x4).toNatClampNeg)) / ((1048576 : Int32)))))))))))
def Lp_X12_holds_19 (kx210 : St → RR) (kx242 : St → RR) (fu : Nat) : Nat → St → Int32 → Int32 → Int32 → Int32 → RR
  | 0, _, _, _, _, _ => none
  | n + 1, V, x1, x2, x3, x4 => F_X12_holds_19 (Lp_X12_holds_19 kx210 kx242 fu n) kx210 kx242 fu V x1 x2 x3 x4
def f_X12_holds (fu : Nat) (V : St) (x1 : Int32) : RR :=
  gd (¬ (x1 < 0 ∨ 360 ≤ (x1).toNatClampNeg)) <| Lp_X12_holds_19 (F_X12_holds_210 fu) (F_X12_holds_242 fu) fu fu V (x1) ((0 : Int32)) ((180 : Int32) * ((x1) / ((12 : Int32)))) ((V 2266 (0) (x1).toNatClampNeg))
def F_X12_isForce_42 (fu : Nat) (V : St) (s0 : Int32) : RR :=
  gd (s0 = 0 ∨ s0 = 1) <| some (s0, V)
def F_X12_isForce_41 (fu : Nat) (V : St) : RR :=
  F_X12_isForce_42 fu V ((0 : Int32))
def f_X12_isForce (fu : Nat) (V : St) (x1 : Int32) (x2 : Int32) (x3 : Int32) : RR :=
  if x1 = (V 2259 0 0) then
    (F_X12_isForce_41 fu V)
    else
    (gd (¬ (x1 < 0 ∨ 30 ≤ (x1).toNatClampNeg)) <| if x3 < (V 2263 (0) (x1).toNatClampNeg) then
      (F_X12_isForce_41 fu V)
      else
      (gd (¬ (x1 < 0 ∨ 30 ≤ (x1).toNatClampNeg)) <| gd (¬ (x1 < 0 ∨ 30 ≤ (x1).toNatClampNeg)) <| bd (f_X12_in fu V (x2) ((V 2261 (0) (x1).toNatClampNeg)) ((V 2262 (0) (x1).toNatClampNeg))) fun r6 V7 => if r6 = 0 then
        (F_X12_isForce_41 fu V7)
        else
        (F_X12_isForce_42 fu V7 ((1 : Int32)))))
def F_X12_setsFacts_203 (fu : Nat) (V : St) : RR :=
  some (0, V)
def F_X12_setsFacts_189 (fu : Nat) (V : St) (x2 : Int32) (s0 : Int32) (s1 : Int32) : RR :=
  gd (¬ (s1 < 0 ∨ 9 ≤ (s1).toNatClampNeg)) <| bv (setV V 2272 (0) (s1).toNatClampNeg (s0)) fun V2 => gd (¬ (x2 < 0 ∨ 12 ≤ (x2).toNatClampNeg)) <| gd (¬ ((8 : Int32) < 0 ∨ 9 ≤ ((8 : Int32)).toNatClampNeg)) <| bv (setV V2 2272 (0) ((8 : Int32)).toNatClampNeg ((V2 2235 (0) (x2).toNatClampNeg))) fun V6 => F_X12_setsFacts_203 fu V6
def F_X12_setsFacts_151 (fu : Nat) (V : St) (x2 : Int32) : RR :=
  if x2 = (-1 : Int32) then
    (F_X12_setsFacts_203 fu V)
    else
    (gd (¬ (x2 < 0 ∨ 12 ≤ (x2).toNatClampNeg)) <| gd (¬ ((6 : Int32) < 0 ∨ 9 ≤ ((6 : Int32)).toNatClampNeg)) <| bv (setV V 2272 (0) ((6 : Int32)).toNatClampNeg ((V 2233 (0) (x2).toNatClampNeg))) fun V4 => gd (¬ (x2 < 0 ∨ 12 ≤ (x2).toNatClampNeg)) <| if (V4 2240 (0) (x2).toNatClampNeg) = 0 then
      (F_X12_setsFacts_189 fu V4 (x2) ((0 : Int32)) ((7 : Int32)))
      else
      (F_X12_setsFacts_189 fu V4 (x2) ((1 : Int32)) ((7 : Int32))))
def F_X12_setsFacts_150 (fu : Nat) (V : St) (x2 : Int32) (s0 : Int32) (s1 : Int32) : RR :=
  gd (¬ (s1 < 0 ∨ 9 ≤ (s1).toNatClampNeg)) <| bv (setV V 2272 (0) (s1).toNatClampNeg (s0)) fun V2 => F_X12_setsFacts_151 fu V2 (x2)
def F_X12_setsFacts_96 (fu : Nat) (V : St) (x1 : Int32) (x2 : Int32) (s0 : Int32) (s1 : Int32) : RR :=
  gd (¬ (s1 < 0 ∨ 9 ≤ (s1).toNatClampNeg)) <| bv (setV V 2272 (0) (s1).toNatClampNeg (s0)) fun V2 => gd (¬ (x1 < 0 ∨ 30 ≤ (x1).toNatClampNeg)) <| gd (¬ ((3 : Int32) < 0 ∨ 9 ≤ ((3 : Int32)).toNatClampNeg)) <| bv (setV V2 2272 (0) ((3 : Int32)).toNatClampNeg ((V2 2218 (0) (x1).toNatClampNeg))) fun V6 => gd (¬ (x1 < 0 ∨ 30 ≤ (x1).toNatClampNeg)) <| gd (¬ ((4 : Int32) < 0 ∨ 9 ≤ ((4 : Int32)).toNatClampNeg)) <| bv (setV V6 2272 (0) ((4 : Int32)).toNatClampNeg ((V6 2219 (0) (x1).toNatClampNeg))) fun V10 => gd (¬ (x1 < 0 ∨ 30 ≤ (x1).toNatClampNeg)) <| if (V10 2216 (0) (x1).toNatClampNeg) = 0 then
    (gd (¬ (x1 < 0 ∨ 30 ≤ (x1).toNatClampNeg)) <| gd (¬ ((V10 2217 (0) (x1).toNatClampNeg) < 0 ∨ 20 ≤ ((V10 2217 (0) (x1).toNatClampNeg)).toNatClampNeg)) <| F_X12_setsFacts_150 fu V10 (x2) ((V10 2206 (0) ((V10 2217 (0) (x1).toNatClampNeg)).toNatClampNeg)) ((5 : Int32)))
    else
    (F_X12_setsFacts_150 fu V10 (x2) ((0 : Int32)) ((5 : Int32)))
def F_X12_setsFacts_24 (fu : Nat) (V : St) (x1 : Int32) (x2 : Int32) (x3 : Int32) : RR :=
  gd (¬ ((0 : Int32) < 0 ∨ 9 ≤ ((0 : Int32)).toNatClampNeg)) <| bv (setV V 2272 (0) ((0 : Int32)).toNatClampNeg (x3)) fun V2 => if x1 = (-1 : Int32) then
    (F_X12_setsFacts_151 fu V2 (x2))
    else
    (gd (¬ (x1 < 0 ∨ 30 ≤ (x1).toNatClampNeg)) <| gd (¬ ((1 : Int32) < 0 ∨ 9 ≤ ((1 : Int32)).toNatClampNeg)) <| bv (setV V2 2272 (0) ((1 : Int32)).toNatClampNeg ((V2 2216 (0) (x1).toNatClampNeg))) fun V7 => gd (¬ (x1 < 0 ∨ 30 ≤ (x1).toNatClampNeg)) <| if (V7 2216 (0) (x1).toNatClampNeg) = 0 then
      (gd (¬ (x1 < 0 ∨ 30 ≤ (x1).toNatClampNeg)) <| gd (¬ ((V7 2217 (0) (x1).toNatClampNeg) < 0 ∨ 20 ≤ ((V7 2217 (0) (x1).toNatClampNeg)).toNatClampNeg)) <| F_X12_setsFacts_96 fu V7 (x1) (x2) ((V7 2205 (0) ((V7 2217 (0) (x1).toNatClampNeg)).toNatClampNeg)) ((2 : Int32)))
      else
      (gd (¬ (x1 < 0 ∨ 30 ≤ (x1).toNatClampNeg)) <| if (V7 2216 (0) (x1).toNatClampNeg) = (1 : Int32) then
        (gd (¬ (x1 < 0 ∨ 30 ≤ (x1).toNatClampNeg)) <| F_X12_setsFacts_96 fu V7 (x1) (x2) ((V7 2217 (0) (x1).toNatClampNeg)) ((2 : Int32)))
        else
        (F_X12_setsFacts_96 fu V7 (x1) (x2) ((0 : Int32)) ((2 : Int32)))))
def F_X12_setsFacts_3 (kh : St → Int32 → Int32 → Int32 → Int32 → RR) (kx24 : St → Int32 → Int32 → Int32 → RR) (fu : Nat) (V : St) (x1 : Int32) (x2 : Int32) (x3 : Int32) (x4 : Int32) : RR :=
  if (9 : Int32) ≤ x4 then
    (kx24 V (x1) (x2) (x3))
    else
    (gd (¬ (x4 < 0 ∨ 9 ≤ (x4).toNatClampNeg)) <| bv (setV V 2272 (0) (x4).toNatClampNeg ((0 : Int32))) fun V3 => kh V3 (x1) (x2) (x3) (x4 + 1))
def Lp_X12_setsFacts_3 (kx24 : St → Int32 → Int32 → Int32 → RR) (fu : Nat) : Nat → St → Int32 → Int32 → Int32 → Int32 → RR
  | 0, _, _, _, _, _ => none
  | n + 1, V, x1, x2, x3, x4 => F_X12_setsFacts_3 (Lp_X12_setsFacts_3 kx24 fu n) kx24 fu V x1 x2 x3 x4
def f_X12_setsFacts (fu : Nat) (V : St) (x1 : Int32) (x2 : Int32) (x3 : Int32) : RR :=
  Lp_X12_setsFacts_3 (F_X12_setsFacts_24 fu) fu fu V (x1) (x2) (x3) ((0 : Int32))
def F_X12_strikes_155 (fu : Nat) (V : St) : RR :=
  some (0, V)
def F_X12_strikes_149 (kh : St → Int32 → Int32 → Int32 → RR) (kx155 : St → RR) (fu : Nat) (V : St) (x1 : Int32) (x2 : Int32) (x3 : Int32) : RR :=
  kh V (x1) (x2) (x3 + (-1))
def F_X12_strikes_143 (kh : St → Int32 → Int32 → Int32 → Int32 → RR) (kx149 : St → Int32 → Int32 → Int32 → RR) (fu : Nat) (V : St) (x1 : Int32) (x2 : Int32) (x3 : Int32) (x4 : Int32) : RR :=
  kh V (x1) (x2) (x3) (x4 + 1)
def F_X12_strikes_40 (kh : St → Int32 → Int32 → Int32 → Int32 → RR) (kx149 : St → Int32 → Int32 → Int32 → RR) (fu : Nat) (V : St) (x1 : Int32) (x2 : Int32) (x3 : Int32) (x4 : Int32) : RR :=
  gd (¬ (x3 < 0 ∨ 30 ≤ (x3).toNatClampNeg)) <| if (V 2264 (0) (x3).toNatClampNeg) ≤ x4 then
    (kx149 V (x1) (x2) (x3))
    else
    (bd (f_X12_isForce fu V (x3) (x1) (x2)) fun r3 V4 => if r3 = 0 then
      (kx149 V4 (x1) (x2) (x3))
      else
      (gd (¬ (((12 : Int32) * x3) + x4 < 0 ∨ 360 ≤ (((12 : Int32) * x3) + x4).toNatClampNeg)) <| if (V4 2265 (0) (((12 : Int32) * x3) + x4).toNatClampNeg) = (120 : Int32) then
        (gd (¬ (((12 : Int32) * x3) + x4 < 0 ∨ 360 ≤ (((12 : Int32) * x3) + x4).toNatClampNeg)) <| if (V4 2270 (0) (((12 : Int32) * x3) + x4).toNatClampNeg) = 0 then
          (gd (¬ (((12 : Int32) * x3) + x4 < 0 ∨ 360 ≤ (((12 : Int32) * x3) + x4).toNatClampNeg)) <| if x3 ≤ (V4 2268 (0) (((12 : Int32) * x3) + x4).toNatClampNeg) then
            (F_X12_strikes_143 kh kx149 fu V4 (x1) (x2) (x3) (x4))
            else
            (gd (¬ (((12 : Int32) * x3) + x4 < 0 ∨ 360 ≤ (((12 : Int32) * x3) + x4).toNatClampNeg)) <| bd (f_X12_isForce fu V4 ((V4 2268 (0) (((12 : Int32) * x3) + x4).toNatClampNeg)) (x1) (x2)) fun r14 V15 => if r14 = 0 then
              (F_X12_strikes_143 kh kx149 fu V15 (x1) (x2) (x3) (x4))
              else
              (gd (¬ (((12 : Int32) * x3) + x4 < 0 ∨ 360 ≤ (((12 : Int32) * x3) + x4).toNatClampNeg)) <| gd (¬ (((12 : Int32) * x3) + x4 < 0 ∨ 360 ≤ (((12 : Int32) * x3) + x4).toNatClampNeg)) <| gd (¬ (((12 : Int32) * (V15 2268 (0) (((12 : Int32) * x3) + x4).toNatClampNeg)) + (V15 2269 (0) (((12 : Int32) * x3) + x4).toNatClampNeg) < 0 ∨ 360 ≤ (((12 : Int32) * (V15 2268 (0) (((12 : Int32) * x3) + x4).toNatClampNeg)) + (V15 2269 (0) (((12 : Int32) * x3) + x4).toNatClampNeg)).toNatClampNeg)) <| bv (setV V15 2270 (0) (((12 : Int32) * (V15 2268 (0) (((12 : Int32) * x3) + x4).toNatClampNeg)) + (V15 2269 (0) (((12 : Int32) * x3) + x4).toNatClampNeg)).toNatClampNeg ((1 : Int32))) fun V21 => F_X12_strikes_143 kh kx149 fu V21 (x1) (x2) (x3) (x4))))
          else
          (F_X12_strikes_143 kh kx149 fu V4 (x1) (x2) (x3) (x4)))
        else
        (F_X12_strikes_143 kh kx149 fu V4 (x1) (x2) (x3) (x4))))
def Lp_X12_strikes_40 (kx149 : St → Int32 → Int32 → Int32 → RR) (fu : Nat) : Nat → St → Int32 → Int32 → Int32 → Int32 → RR
  | 0, _, _, _, _, _ => none
  | n + 1, V, x1, x2, x3, x4 => F_X12_strikes_40 (Lp_X12_strikes_40 kx149 fu n) kx149 fu V x1 x2 x3 x4
def F_X12_strikes_33 (kh : St → Int32 → Int32 → Int32 → RR) (kx155 : St → RR) (fu : Nat) (V : St) (x1 : Int32) (x2 : Int32) (x3 : Int32) : RR :=
  if x3 < 0 then
    (kx155 V)
    else
    (Lp_X12_strikes_40 (F_X12_strikes_149 kh kx155 fu) fu fu V (x1) (x2) (x3) ((0 : Int32)))
def Lp_X12_strikes_33 (kx155 : St → RR) (fu : Nat) : Nat → St → Int32 → Int32 → Int32 → RR
  | 0, _, _, _, _ => none
  | n + 1, V, x1, x2, x3 => F_X12_strikes_33 (Lp_X12_strikes_33 kx155 fu n) kx155 fu V x1 x2 x3
def F_X12_strikes_26 (fu : Nat) (V : St) (x1 : Int32) (x2 : Int32) : RR :=
  Lp_X12_strikes_33 (F_X12_strikes_155 fu) fu fu V (x1) (x2) ((V 2258 0 0) - (1 : Int32))
def F_X12_strikes_2 (kh : St → Int32 → Int32 → Int32 → RR) (kx26 : St → Int32 → Int32 → RR) (fu : Nat) (V : St) (x1 : Int32) (x2 : Int32) (x3 : Int32) : RR :=
  if (12 : Int32) * (V 2258 0 0) ≤ x3 then
    (kx26 V (x1) (x2))
    else
    (gd (¬ (x3 < 0 ∨ 360 ≤ (x3).toNatClampNeg)) <| bv (setV V 2270 (0) (x3).toNatClampNeg ((0 : Int32))) fun V3 => kh V3 (x1) (x2) (x3 + 1))
def Lp_X12_strikes_2 (kx26 : St → Int32 → Int32 → RR) (fu : Nat) : Nat → St → Int32 → Int32 → Int32 → RR
  | 0, _, _, _, _ => none
  | n + 1, V, x1, x2, x3 => F_X12_strikes_2 (Lp_X12_strikes_2 kx26 fu n) kx26 fu V x1 x2 x3
def f_X12_strikes (fu : Nat) (V : St) (x1 : Int32) (x2 : Int32) : RR :=
  Lp_X12_strikes_2 (F_X12_strikes_26 fu) fu fu V (x1) (x2) ((0 : Int32))
def F_X12_isSome_125 (fu : Nat) (V : St) : RR :=
  some ((0 : Int32), V)
def F_X12_isSome_119 (kh : St → Int32 → Int32 → Int32 → Int32 → RR) (kx99 : St → Int32 → Int32 → RR) (kx125 : St → RR) (fu : Nat) (V : St) (x1 : Int32) (x4 : Int32) (x5 : Int32) (x6 : Int32) : RR :=
  kh V (x1) (x4) (x5) (x6 + 1)
def F_X12_isSome_113 (kh : St → Int32 → Int32 → Int32 → Int32 → Int32 → RR) (kx99 : St → Int32 → Int32 → RR) (kx119 : St → Int32 → Int32 → Int32 → Int32 → RR) (fu : Nat) (V : St) (x1 : Int32) (x4 : Int32) (x5 : Int32) (x6 : Int32) (x7 : Int32) : RR :=
  kh V (x1) (x4) (x5) (x6) (x7 + 1)
def F_X12_isSome_99 (fu : Nat) (V : St) (x6 : Int32) (x7 : Int32) : RR :=
  bv (setV V 2273 0 0 (x6)) fun V1 => bv (setV V1 2274 0 0 (x7)) fun V3 => some ((1 : Int32), V3)
def F_X12_isSome_31 (kh : St → Int32 → Int32 → Int32 → Int32 → Int32 → RR) (kx99 : St → Int32 → Int32 → RR) (kx119 : St → Int32 → Int32 → Int32 → Int32 → RR) (fu : Nat) (V : St) (x1 : Int32) (x4 : Int32) (x5 : Int32) (x6 : Int32) (x7 : Int32) : RR :=
  gd (¬ (x6 < 0 ∨ 30 ≤ (x6).toNatClampNeg)) <| if (V 2264 (0) (x6).toNatClampNeg) ≤ x7 then
    (kx119 V (x1) (x4) (x5) (x6))
    else
    (bd (f_X12_isForce fu V (x6) (x4) (x5)) fun r3 V4 => if r3 = 0 then
      (kx119 V4 (x1) (x4) (x5) (x6))
      else
      (gd (¬ (((12 : Int32) * x6) + x7 < 0 ∨ 360 ≤ (((12 : Int32) * x6) + x7).toNatClampNeg)) <| if (V4 2265 (0) (((12 : Int32) * x6) + x7).toNatClampNeg) = x1 then
        (gd (¬ (((12 : Int32) * x6) + x7 < 0 ∨ 360 ≤ (((12 : Int32) * x6) + x7).toNatClampNeg)) <| if (V4 2270 (0) (((12 : Int32) * x6) + x7).toNatClampNeg) = 0 then
          (bd (f_X12_holds fu V4 (((12 : Int32) * x6) + x7)) fun r11 V12 => if r11 = 0 then
            (F_X12_isSome_113 kh kx99 kx119 fu V12 (x1) (x4) (x5) (x6) (x7))
            else
            (kx99 V12 (x6) (x7)))
          else
          (F_X12_isSome_113 kh kx99 kx119 fu V4 (x1) (x4) (x5) (x6) (x7)))
        else
        (F_X12_isSome_113 kh kx99 kx119 fu V4 (x1) (x4) (x5) (x6) (x7))))
def Lp_X12_isSome_31 (kx99 : St → Int32 → Int32 → RR) (kx119 : St → Int32 → Int32 → Int32 → Int32 → RR) (fu : Nat) : Nat → St → Int32 → Int32 → Int32 → Int32 → Int32 → RR
  | 0, _, _, _, _, _, _ => none
  | n + 1, V, x1, x4, x5, x6, x7 => F_X12_isSome_31 (Lp_X12_isSome_31 kx99 kx119 fu n) kx99 kx119 fu V x1 x4 x5 x6 x7
def F_X12_isSome_19 (kh : St → Int32 → Int32 → Int32 → Int32 → RR) (kx99 : St → Int32 → Int32 → RR) (kx125 : St → RR) (fu : Nat) (V : St) (x1 : Int32) (x4 : Int32) (x5 : Int32) (x6 : Int32) : RR :=
  if (V 2258 0 0) ≤ x6 then
    (kx125 V)
    else
    (Lp_X12_isSome_31 kx99 (F_X12_isSome_119 kh kx99 kx125 fu) fu fu V (x1) (x4) (x5) (x6) ((0 : Int32)))
def Lp_X12_isSome_19 (kx99 : St → Int32 → Int32 → RR) (kx125 : St → RR) (fu : Nat) : Nat → St → Int32 → Int32 → Int32 → Int32 → RR
  | 0, _, _, _, _, _ => none
  | n + 1, V, x1, x4, x5, x6 => F_X12_isSome_19 (Lp_X12_isSome_19 kx99 kx125 fu n) kx99 kx125 fu V x1 x4 x5 x6
def f_X12_isSome (fu : Nat) (V : St) (x1 : Int32) (x2 : Int32) (x3 : Int32) (x4 : Int32) (x5 : Int32) : RR :=
  bd (f_X12_strikes fu V (x4) (x5)) fun r1 V2 => bd (f_X12_setsFacts fu V2 (x2) (x3) (x4)) fun r4 V5 => Lp_X12_isSome_19 (F_X12_isSome_99 fu) (F_X12_isSome_125 fu) fu fu V5 (x1) (x4) (x5) ((0 : Int32))
def F_X12_beside_97 (fu : Nat) (V : St) (x2 : Int32) : RR :=
  bv (setV V 2259 0 0 ((-1 : Int32))) fun V1 => some (x2, V1)
def F_X12_beside_86 (kh : St → Int32 → Int32 → RR) (kx97 : St → Int32 → RR) (fu : Nat) (V : St) (x2 : Int32) (x3 : Int32) (x4 : Int32) : RR :=
  kh V (x2 + x4) (x3 + 1)
def F_X12_beside_78 (kh : St → Int32 → Int32 → Int32 → Int32 → RR) (kx86 : St → Int32 → Int32 → Int32 → RR) (fu : Nat) (V : St) (x2 : Int32) (x3 : Int32) (x5 : Int32) (s0 : Int32) : RR :=
  kh V (x2) (x3) (s0) (x5 + 1)
def F_X12_beside_39 (kh : St → Int32 → Int32 → Int32 → Int32 → RR) (kx86 : St → Int32 → Int32 → Int32 → RR) (fu : Nat) (V : St) (x2 : Int32) (x3 : Int32) (x4 : Int32) (x5 : Int32) : RR :=
  if (V 2232 0 0) ≤ x5 then
    (kx86 V (x2) (x3) (x4))
    else
    (if x4 = 0 then
      (bd (f_X12_isSome fu V ((98 : Int32)) (x3) (x5) ((V 2201 0 0)) ((V 2201 0 0))) fun r3 V4 => if r3 = 0 then
        (F_X12_beside_78 kh kx86 fu V4 (x2) (x3) (x5) ((1 : Int32)))
        else
        (F_X12_beside_78 kh kx86 fu V4 (x2) (x3) (x5) ((0 : Int32))))
      else
      (kx86 V (x2) (x3) (x4)))
def Lp_X12_beside_39 (kx86 : St → Int32 → Int32 → Int32 → RR) (fu : Nat) : Nat → St → Int32 → Int32 → Int32 → Int32 → RR
  | 0, _, _, _, _, _ => none
  | n + 1, V, x2, x3, x4, x5 => F_X12_beside_39 (Lp_X12_beside_39 kx86 fu n) kx86 fu V x2 x3 x4 x5
def F_X12_beside_25 (kh : St → Int32 → Int32 → RR) (kx97 : St → Int32 → RR) (fu : Nat) (V : St) (x2 : Int32) (x3 : Int32) : RR :=
  if (V 2204 0 0) ≤ x3 then
    (kx97 V (x2))
    else
    (Lp_X12_beside_39 (F_X12_beside_86 kh kx97 fu) fu fu V (x2) (x3) ((0 : Int32)) ((0 : Int32)))
def Lp_X12_beside_25 (kx97 : St → Int32 → RR) (fu : Nat) : Nat → St → Int32 → Int32 → RR
  | 0, _, _, _ => none
  | n + 1, V, x2, x3 => F_X12_beside_25 (Lp_X12_beside_25 kx97 fu n) kx97 fu V x2 x3
def f_X12_beside (fu : Nat) (V : St) (x1 : Int32) : RR :=
  bd (f_X12_in fu V (x1) ((-1 : Int32)) ((V 2258 0 0) - (1 : Int32))) fun r1 V2 => if r1 = 0 then
    (some ((-1 : Int32), V2))
    else
    (bv (setV V2 2259 0 0 (x1)) fun V5 => Lp_X12_beside_25 (F_X12_beside_97 fu) fu fu V5 ((0 : Int32)) ((0 : Int32)))
def F_X12_isPerson_17 (fu : Nat) (V : St) (s0 : Int32) : RR :=
  gd (s0 = 0 ∨ s0 = 1) <| some (s0, V)
def F_X12_isPerson_16 (fu : Nat) (V : St) : RR :=
  F_X12_isPerson_17 fu V ((0 : Int32))
def f_X12_isPerson (fu : Nat) (V : St) (x1 : Int32) : RR :=
  if x1 < 0 then
    (F_X12_isPerson_16 fu V)
    else
    (if (V 2277 0 0) ≤ x1 then
      (F_X12_isPerson_16 fu V)
      else
      (F_X12_isPerson_17 fu V ((1 : Int32))))
def F_X12_bombed_73 (fu : Nat) (V : St) (x2 : Int32) : RR :=
  some (x2, V)
def F_X12_bombed_67 (kh : St → Int32 → Int32 → Int32 → RR) (kx73 : St → Int32 → RR) (fu : Nat) (V : St) (x1 : Int32) (x2 : Int32) (x3 : Int32) : RR :=
  kh V (x1) (x2) (x3 + 1)
def F_X12_bombed_14 (kh : St → Int32 → Int32 → Int32 → RR) (kx73 : St → Int32 → RR) (fu : Nat) (V : St) (x1 : Int32) (x2 : Int32) (x3 : Int32) : RR :=
  if (V 2280 0 0) ≤ x3 then
    (kx73 V (x2))
    else
    (gd (¬ (x3 < 0 ∨ 60 ≤ (x3).toNatClampNeg)) <| if (V 2281 (0) (x3).toNatClampNeg) = x1 then
      (gd (¬ (x3 < 0 ∨ 60 ≤ (x3).toNatClampNeg)) <| if (V 2285 (0) (x3).toNatClampNeg) = 0 then
        (F_X12_bombed_67 kh kx73 fu V (x1) (x2) (x3))
        else
        (gd (¬ (x3 < 0 ∨ 60 ≤ (x3).toNatClampNeg)) <| if (V 2284 (0) (x3).toNatClampNeg) = (99 : Int32) then
          (F_X12_bombed_67 kh kx73 fu V (x1) (x2) (x3))
          else
          (gd (¬ (x3 < 0 ∨ 60 ≤ (x3).toNatClampNeg)) <| bv (setV V 2284 (0) (x3).toNatClampNeg ((99 : Int32))) fun V9 => F_X12_bombed_67 kh kx73 fu V9 (x1) (x2 + (1 : Int32)) (x3))))
      else
      (F_X12_bombed_67 kh kx73 fu V (x1) (x2) (x3)))
def Lp_X12_bombed_14 (kx73 : St → Int32 → RR) (fu : Nat) : Nat → St → Int32 → Int32 → Int32 → RR
  | 0, _, _, _, _ => none
  | n + 1, V, x1, x2, x3 => F_X12_bombed_14 (Lp_X12_bombed_14 kx73 fu n) kx73 fu V x1 x2 x3
def f_X12_bombed (fu : Nat) (V : St) (x1 : Int32) : RR :=
  bd (f_X12_isPerson fu V (x1)) fun r1 V2 => if r1 = 0 then
    (some ((-1 : Int32), V2))
    else
    (Lp_X12_bombed_14 (F_X12_bombed_73 fu) fu fu V2 (x1) ((0 : Int32)) ((0 : Int32)))
def F_X12_isThing_17 (fu : Nat) (V : St) (s0 : Int32) : RR :=
  gd (s0 = 0 ∨ s0 = 1) <| some (s0, V)
def F_X12_isThing_16 (fu : Nat) (V : St) : RR :=
  F_X12_isThing_17 fu V ((0 : Int32))
def f_X12_isThing (fu : Nat) (V : St) (x1 : Int32) : RR :=
  if x1 < 0 then
    (F_X12_isThing_16 fu V)
    else
    (if (V 2204 0 0) ≤ x1 then
      (F_X12_isThing_16 fu V)
      else
      (F_X12_isThing_17 fu V ((1 : Int32))))
def F_X12_numberBy_118 (fu : Nat) (V : St) : RR :=
  some ((-1 : Int32), V)
def F_X12_numberBy_112 (kh : St → Int32 → Int32 → Int32 → Int32 → RR) (kx98 : St → Int32 → RR) (kx118 : St → RR) (fu : Nat) (V : St) (x1 : Int32) (x4 : Int32) (x5 : Int32) (x6 : Int32) : RR :=
  kh V (x1) (x4) (x5) (x6 + (-1))
def F_X12_numberBy_106 (kh : St → Int32 → Int32 → Int32 → Int32 → Int32 → RR) (kx98 : St → Int32 → RR) (kx112 : St → Int32 → Int32 → Int32 → Int32 → RR) (fu : Nat) (V : St) (x1 : Int32) (x4 : Int32) (x5 : Int32) (x6 : Int32) (x7 : Int32) : RR :=
  kh V (x1) (x4) (x5) (x6) (x7 + (-1))
def F_X12_numberBy_98 (fu : Nat) (V : St) (x8 : Int32) : RR :=
  gd (¬ (x8 < 0 ∨ 360 ≤ (x8).toNatClampNeg)) <| some ((V 2268 (0) (x8).toNatClampNeg), V)
def F_X12_numberBy_40 (kh : St → Int32 → Int32 → Int32 → Int32 → Int32 → RR) (kx98 : St → Int32 → RR) (kx112 : St → Int32 → Int32 → Int32 → Int32 → RR) (fu : Nat) (V : St) (x1 : Int32) (x4 : Int32) (x5 : Int32) (x6 : Int32) (x7 : Int32) : RR :=
  if x7 < 0 then
    (kx112 V (x1) (x4) (x5) (x6))
    else
    (bd (f_X12_isForce fu V (x6) (x4) (x5)) fun r2 V3 => if r2 = 0 then
      (kx112 V3 (x1) (x4) (x5) (x6))
      else
      (gd (¬ (((12 : Int32) * x6) + x7 < 0 ∨ 360 ≤ (((12 : Int32) * x6) + x7).toNatClampNeg)) <| if (V3 2265 (0) (((12 : Int32) * x6) + x7).toNatClampNeg) = x1 then
        (gd (¬ (((12 : Int32) * x6) + x7 < 0 ∨ 360 ≤ (((12 : Int32) * x6) + x7).toNatClampNeg)) <| if (V3 2270 (0) (((12 : Int32) * x6) + x7).toNatClampNeg) = 0 then
          (bd (f_X12_holds fu V3 (((12 : Int32) * x6) + x7)) fun r10 V11 => if r10 = 0 then
            (F_X12_numberBy_106 kh kx98 kx112 fu V11 (x1) (x4) (x5) (x6) (x7))
            else
            (kx98 V11 (((12 : Int32) * x6) + x7)))
          else
          (F_X12_numberBy_106 kh kx98 kx112 fu V3 (x1) (x4) (x5) (x6) (x7)))
        else
        (F_X12_numberBy_106 kh kx98 kx112 fu V3 (x1) (x4) (x5) (x6) (x7))))
def Lp_X12_numberBy_40 (kx98 : St → Int32 → RR) (kx112 : St → Int32 → Int32 → Int32 → Int32 → RR) (fu : Nat) : Nat → St → Int32 → Int32 → Int32 → Int32 → Int32 → RR
  | 0, _, _, _, _, _, _ => none
  | n + 1, V, x1, x4, x5, x6, x7 => F_X12_numberBy_40 (Lp_X12_numberBy_40 kx98 kx112 fu n) kx98 kx112 fu V x1 x4 x5 x6 x7
def F_X12_numberBy_24 (kh : St → Int32 → Int32 → Int32 → Int32 → RR) (kx98 : St → Int32 → RR) (kx118 : St → RR) (fu : Nat) (V : St) (x1 : Int32) (x4 : Int32) (x5 : Int32) (x6 : Int32) : RR :=
  if x6 < 0 then
    (kx118 V)
    else
    (gd (¬ (x6 < 0 ∨ 30 ≤ (x6).toNatClampNeg)) <| Lp_X12_numberBy_40 kx98 (F_X12_numberBy_112 kh kx98 kx118 fu) fu fu V (x1) (x4) (x5) (x6) ((V 2264 (0) (x6).toNatClampNeg) - (1 : Int32)))
def Lp_X12_numberBy_24 (kx98 : St → Int32 → RR) (kx118 : St → RR) (fu : Nat) : Nat → St → Int32 → Int32 → Int32 → Int32 → RR
  | 0, _, _, _, _, _ => none
  | n + 1, V, x1, x4, x5, x6 => F_X12_numberBy_24 (Lp_X12_numberBy_24 kx98 kx118 fu n) kx98 kx118 fu V x1 x4 x5 x6
def f_X12_numberBy (fu : Nat) (V : St) (x1 : Int32) (x2 : Int32) (x3 : Int32) (x4 : Int32) (x5 : Int32) : RR :=
  bd (f_X12_strikes fu V (x4) (x5)) fun r1 V2 => bd (f_X12_setsFacts fu V2 (x2) (x3) (x4)) fun r4 V5 => Lp_X12_numberBy_24 (F_X12_numberBy_98 fu) (F_X12_numberBy_118 fu) fu fu V5 (x1) (x4) (x5) ((V5 2258 0 0) - (1 : Int32))
def F_X12_orNothing_25 (fu : Nat) (V : St) (s0 : Int32) : RR :=
  some (s0, V)
def f_X12_orNothing (fu : Nat) (V : St) (x1 : Int32) (x2 : Int32) (x3 : Int32) (x4 : Int32) (x5 : Int32) : RR :=
  bd (f_X12_numberBy fu V (x1) (x2) (x3) (x4) (x5)) fun r1 V2 => if r1 = (-1 : Int32) then
    (F_X12_orNothing_25 fu V2 ((0 : Int32)))
    else
    (F_X12_orNothing_25 fu V2 (r1))
def F_X12_paidFor_42 (fu : Nat) (V : St) (s0 : Int32) : RR :=
  some (s0, V)
def F_X12_paidFor_36 (fu : Nat) (V : St) (x1 : Int32) : RR :=
  gd (¬ (x1 < 0 ∨ 30 ≤ (x1).toNatClampNeg)) <| F_X12_paidFor_42 fu V ((V 2220 (0) (x1).toNatClampNeg))
def f_X12_paidFor (fu : Nat) (V : St) (x1 : Int32) : RR :=
  bd (f_X12_numberBy fu V ((99 : Int32)) (x1) ((-1 : Int32)) ((V 2201 0 0)) ((V 2201 0 0))) fun r1 V2 => if r1 = (-1 : Int32) then
    (F_X12_paidFor_36 fu V2 (x1))
    else
    (gd (¬ (x1 < 0 ∨ 30 ≤ (x1).toNatClampNeg)) <| if (V2 2220 (0) (x1).toNatClampNeg) ≤ r1 then
      (F_X12_paidFor_36 fu V2 (x1))
      else
      (F_X12_paidFor_42 fu V2 (r1)))
def F_X12_buys_241 (fu : Nat) (V : St) (x5 : Int32) : RR :=
  some (x5, V)
def F_X12_buys_235 (kh : St → Int32 → Int32 → Int32 → Int32 → RR) (kx241 : St → Int32 → RR) (fu : Nat) (V : St) (x1 : Int32) (x2 : Int32) (x5 : Int32) (x6 : Int32) : RR :=
  kh V (x1) (x2) (x5) (x6 + 1)
def F_X12_buys_196 (kh : St → Int32 → Int32 → Int32 → Int32 → RR) (kx241 : St → Int32 → RR) (fu : Nat) (V : St) (x1 : Int32) (x2 : Int32) (x5 : Int32) (x6 : Int32) : RR :=
  if (V 2280 0 0) ≤ x6 then
    (kx241 V (x5))
    else
    (gd (¬ (x6 < 0 ∨ 60 ≤ (x6).toNatClampNeg)) <| if (V 2281 (0) (x6).toNatClampNeg) = x1 then
      (gd (¬ (x6 < 0 ∨ 60 ≤ (x6).toNatClampNeg)) <| if (V 2282 (0) (x6).toNatClampNeg) = x2 then
        (gd (¬ (x6 < 0 ∨ 60 ≤ (x6).toNatClampNeg)) <| bv (setV V 2285 (0) (x6).toNatClampNeg ((0 : Int32))) fun V7 => F_X12_buys_235 kh kx241 fu V7 (x1) (x2) (x5) (x6))
        else
        (F_X12_buys_235 kh kx241 fu V (x1) (x2) (x5) (x6)))
      else
      (F_X12_buys_235 kh kx241 fu V (x1) (x2) (x5) (x6)))
def Lp_X12_buys_196 (kx241 : St → Int32 → RR) (fu : Nat) : Nat → St → Int32 → Int32 → Int32 → Int32 → RR
  | 0, _, _, _, _, _ => none
  | n + 1, V, x1, x2, x5, x6 => F_X12_buys_196 (Lp_X12_buys_196 kx241 fu n) kx241 fu V x1 x2 x5 x6
def F_X12_buys_193 (fu : Nat) (V : St) (x1 : Int32) (x2 : Int32) (x5 : Int32) : RR :=
  Lp_X12_buys_196 (F_X12_buys_241 fu) fu fu V (x1) (x2) (x5) ((0 : Int32))
def F_X12_buys_37 (fu : Nat) (V : St) (x1 : Int32) (x2 : Int32) (x3 : Int32) (s0 : Int32) : RR :=
  if s0 = 0 then
    (some ((-2 : Int32), V))
    else
    (bd (f_X12_orNothing fu V ((112 : Int32)) (x2) ((-1 : Int32)) ((V 2201 0 0)) ((V 2201 0 0))) fun r2 V3 => gd (¬ (x1 < 0 ∨ 40 ≤ (x1).toNatClampNeg)) <| if r2 ≤ (V3 2278 (0) (x1).toNatClampNeg) then
      (bd (f_X12_paidFor fu V3 (x2)) fun r7 V8 => gd (¬ (x1 < 0 ∨ 40 ≤ (x1).toNatClampNeg)) <| if r7 ≤ (V8 2279 (0) (x1).toNatClampNeg) then
        (gd (¬ (x1 < 0 ∨ 40 ≤ (x1).toNatClampNeg)) <| gd (¬ (x1 < 0 ∨ 40 ≤ (x1).toNatClampNeg)) <| bv (setV V8 2278 (0) (x1).toNatClampNeg ((V8 2278 (0) (x1).toNatClampNeg) - r2)) fun V14 => gd (¬ (x1 < 0 ∨ 40 ≤ (x1).toNatClampNeg)) <| gd (¬ (x1 < 0 ∨ 40 ≤ (x1).toNatClampNeg)) <| bv (setV V14 2279 (0) (x1).toNatClampNeg ((V14 2279 (0) (x1).toNatClampNeg) - r7)) fun V18 => if x3 = 0 then
          (gd (¬ (x2 < 0 ∨ 30 ≤ (x2).toNatClampNeg)) <| gd (¬ (x2 < 0 ∨ 30 ≤ (x2).toNatClampNeg)) <| bv (setV V18 2221 (0) (x2).toNatClampNeg ((V18 2221 (0) (x2).toNatClampNeg) - (1 : Int32))) fun V23 => F_X12_buys_193 fu V23 (x1) (x2) (r7))
          else
          (gd (¬ (x2 < 0 ∨ 30 ≤ (x2).toNatClampNeg)) <| gd (¬ (x2 < 0 ∨ 30 ≤ (x2).toNatClampNeg)) <| bv (setV V18 2222 (0) (x2).toNatClampNeg ((V18 2222 (0) (x2).toNatClampNeg) - (1 : Int32))) fun V27 => gd (¬ (((500 : Int32) * x2) + (V27 2201 0 0) < 0 ∨ 15000 ≤ (((500 : Int32) * x2) + (V27 2201 0 0)).toNatClampNeg)) <| gd (¬ (((500 : Int32) * x2) + (V27 2201 0 0) < 0 ∨ 15000 ≤ (((500 : Int32) * x2) + (V27 2201 0 0)).toNatClampNeg)) <| bv (setV V27 2276 (0) (((500 : Int32) * x2) + (V27 2201 0 0)).toNatClampNeg ((V27 2276 (0) (((500 : Int32) * x2) + (V27 2201 0 0)).toNatClampNeg) + (1 : Int32))) fun V31 => F_X12_buys_193 fu V31 (x1) (x2) (r7)))
        else
        (some ((-4 : Int32), V8)))
      else
      (some ((-3 : Int32), V3)))
def F_X12_buys_16 (fu : Nat) (V : St) : RR :=
  some ((-1 : Int32), V)
def f_X12_buys (fu : Nat) (V : St) (x1 : Int32) (x2 : Int32) (x3 : Int32) : RR :=
  bd (f_X12_isPerson fu V (x1)) fun r1 V2 => if r1 = 0 then
    (F_X12_buys_16 fu V2)
    else
    (bd (f_X12_isThing fu V2 (x2)) fun r5 V6 => if r5 = 0 then
      (F_X12_buys_16 fu V6)
      else
      (if x3 = 0 then
        (gd (¬ (x2 < 0 ∨ 30 ≤ (x2).toNatClampNeg)) <| F_X12_buys_37 fu V6 (x1) (x2) (x3) ((V6 2221 (0) (x2).toNatClampNeg)))
        else
        (gd (¬ (x2 < 0 ∨ 30 ≤ (x2).toNatClampNeg)) <| F_X12_buys_37 fu V6 (x1) (x2) (x3) ((V6 2222 (0) (x2).toNatClampNeg)))))
def F_X12_usesOf_19 (fu : Nat) (V : St) (s0 : Int32) : RR :=
  some (s0, V)
def f_X12_usesOf (fu : Nat) (V : St) (x0 : Int32) : RR :=
  if x0 = 0 then
    (F_X12_usesOf_19 fu V ((2 : Int32)))
    else
    (if x0 = (1 : Int32) then
      (F_X12_usesOf_19 fu V ((4 : Int32)))
      else
      (F_X12_usesOf_19 fu V ((9 : Int32))))
def F_X12_cheapest_210 (fu : Nat) (V : St) (s0 : Int32) : RR :=
  some (s0, V)
def F_X12_cheapest_199 (fu : Nat) (V : St) (x5 : Int32) : RR :=
  F_X12_cheapest_210 fu V (x5)
def F_X12_cheapest_188 (fu : Nat) (V : St) (x2 : Int32) (x5 : Int32) : RR :=
  if x5 = (-1 : Int32) then
    (F_X12_cheapest_199 fu V (x5))
    else
    (if x2 = (-1 : Int32) then
      (F_X12_cheapest_199 fu V (x5))
      else
      (gd (¬ (x2 < 0 ∨ 8 ≤ (x2).toNatClampNeg)) <| F_X12_cheapest_210 fu V ((V 2227 (0) (x2).toNatClampNeg))))
def F_X12_cheapest_182 (kh : St → Int32 → Int32 → Int32 → Int32 → Int32 → Int32 → RR) (kx188 : St → Int32 → Int32 → RR) (fu : Nat) (V : St) (x1 : Int32) (x2 : Int32) (x3 : Int32) (x4 : Int32) (x5 : Int32) (x6 : Int32) : RR :=
  kh V (x1) (x2) (x3) (x4) (x5) (x6 + 1)
def F_X12_cheapest_156 (kh : St → Int32 → Int32 → Int32 → Int32 → Int32 → Int32 → Int32 → RR) (kx182 : St → Int32 → Int32 → Int32 → Int32 → Int32 → Int32 → RR) (fu : Nat) (V : St) (x1 : Int32) (x2 : Int32) (x3 : Int32) (x4 : Int32) (x5 : Int32) (x6 : Int32) (x9 : Int32) : RR :=
  if x3 ≤ x9 then
    (kx182 V (x1) (x2) (x3) (x4) (x5) (x6))
    else
    (gd (¬ (x9 < 0 ∨ 8 ≤ (x9).toNatClampNeg)) <| gd (¬ (x9 < 0 ∨ 8 ≤ (x9).toNatClampNeg)) <| bv (setV V 2227 (0) (x9).toNatClampNeg ((V 2226 (0) (x9).toNatClampNeg))) fun V4 => kh V4 (x1) (x2) (x3) (x4) (x5) (x6) (x9 + 1))
def Lp_X12_cheapest_156 (kx182 : St → Int32 → Int32 → Int32 → Int32 → Int32 → Int32 → RR) (fu : Nat) : Nat → St → Int32 → Int32 → Int32 → Int32 → Int32 → Int32 → Int32 → RR
  | 0, _, _, _, _, _, _, _, _ => none
  | n + 1, V, x1, x2, x3, x4, x5, x6, x9 => F_X12_cheapest_156 (Lp_X12_cheapest_156 kx182 fu n) kx182 fu V x1 x2 x3 x4 x5 x6 x9
def F_X12_cheapest_138 (kh : St → Int32 → Int32 → Int32 → Int32 → Int32 → Int32 → RR) (kx188 : St → Int32 → Int32 → RR) (fu : Nat) (V : St) (x1 : Int32) (x2 : Int32) (x3 : Int32) (x4 : Int32) (x5 : Int32) (x6 : Int32) (x8 : Int32) : RR :=
  bd (f_X12_isBearing fu V (x1)) fun r1 V2 => if r1 = 0 then
    (F_X12_cheapest_182 kh kx188 fu V2 (x1) (x2) (x3) (x4) (x5) (x6))
    else
    (Lp_X12_cheapest_156 (F_X12_cheapest_182 kh kx188 fu) fu fu V2 (x1) (x2) (x3) (x4) (x8) (x6) ((0 : Int32)))
def F_X12_cheapest_125 (kh : St → Int32 → Int32 → Int32 → Int32 → Int32 → Int32 → RR) (kx188 : St → Int32 → Int32 → RR) (fu : Nat) (V : St) (x1 : Int32) (x2 : Int32) (x3 : Int32) (x4 : Int32) (x5 : Int32) (x6 : Int32) (x8 : Int32) : RR :=
  if x5 = (-1 : Int32) then
    (F_X12_cheapest_138 kh kx188 fu V (x1) (x2) (x3) (x4) (x5) (x6) (x8))
    else
    (if x5 ≤ x8 then
      (F_X12_cheapest_182 kh kx188 fu V (x1) (x2) (x3) (x4) (x5) (x6))
      else
      (F_X12_cheapest_138 kh kx188 fu V (x1) (x2) (x3) (x4) (x5) (x6) (x8)))
def F_X12_cheapest_82 (kh : St → Int32 → Int32 → Int32 → Int32 → Int32 → Int32 → Int32 → Int32 → Int32 → RR) (kx125 : St → Int32 → Int32 → Int32 → Int32 → Int32 → Int32 → Int32 → RR) (fu : Nat) (V : St) (x1 : Int32) (x2 : Int32) (x3 : Int32) (x4 : Int32) (x5 : Int32) (x6 : Int32) (x7 : Int32) (x8 : Int32) (x9 : Int32) : RR :=
  if x9 < 0 then
    (kx125 V (x1) (x2) (x3) (x4) (x5) (x6) (x8))
    else
    (gd (¬ (x9 < 0 ∨ 8 ≤ (x9).toNatClampNeg)) <| bv (setV V 2226 (0) (x9).toNatClampNeg ((x7) - (x7) / ((3 : Int32)) * ((3 : Int32)))) fun V3 => gd (¬ (x9 < 0 ∨ 8 ≤ (x9).toNatClampNeg)) <| bd (f_X12_usesOf fu V3 ((V3 2226 (0) (x9).toNatClampNeg))) fun r6 V7 => kh V7 (x1) (x2) (x3) (x4) (x5) (x6) ((x7) / ((3 : Int32))) (x8 + r6) (x9 + (-1)))
def Lp_X12_cheapest_82 (kx125 : St → Int32 → Int32 → Int32 → Int32 → Int32 → Int32 → Int32 → RR) (fu : Nat) : Nat → St → Int32 → Int32 → Int32 → Int32 → Int32 → Int32 → Int32 → Int32 → Int32 → RR
  | 0, _, _, _, _, _, _, _, _, _, _ => none
  | n + 1, V, x1, x2, x3, x4, x5, x6, x7, x8, x9 => F_X12_cheapest_82 (Lp_X12_cheapest_82 kx125 fu n) kx125 fu V x1 x2 x3 x4 x5 x6 x7 x8 x9
def F_X12_cheapest_63 (kh : St → Int32 → Int32 → Int32 → Int32 → Int32 → Int32 → RR) (kx188 : St → Int32 → Int32 → RR) (fu : Nat) (V : St) (x1 : Int32) (x2 : Int32) (x3 : Int32) (x4 : Int32) (x5 : Int32) (x6 : Int32) : RR :=
  if x4 ≤ x6 then
    (kx188 V (x2) (x5))
    else
    (Lp_X12_cheapest_82 (F_X12_cheapest_125 kh kx188 fu) fu fu V (x1) (x2) (x3) (x4) (x5) (x6) (x6) ((0 : Int32)) (x3 - (1 : Int32)))
def Lp_X12_cheapest_63 (kx188 : St → Int32 → Int32 → RR) (fu : Nat) : Nat → St → Int32 → Int32 → Int32 → Int32 → Int32 → Int32 → RR
  | 0, _, _, _, _, _, _, _ => none
  | n + 1, V, x1, x2, x3, x4, x5, x6 => F_X12_cheapest_63 (Lp_X12_cheapest_63 kx188 fu n) kx188 fu V x1 x2 x3 x4 x5 x6
def F_X12_cheapest_57 (fu : Nat) (V : St) (x1 : Int32) (x2 : Int32) (x3 : Int32) (x4 : Int32) : RR :=
  Lp_X12_cheapest_63 (F_X12_cheapest_188 fu) fu fu V (x1) (x2) (x3) (x4) ((-1 : Int32)) ((0 : Int32))
def F_X12_cheapest_39 (kh : St → Int32 → Int32 → Int32 → Int32 → Int32 → RR) (kx57 : St → Int32 → Int32 → Int32 → Int32 → RR) (fu : Nat) (V : St) (x1 : Int32) (x2 : Int32) (x3 : Int32) (x4 : Int32) (x5 : Int32) : RR :=
  if x3 ≤ x5 then
    (kx57 V (x1) (x2) (x3) (x4))
    else
    (kh V (x1) (x2) (x3) ((3 : Int32) * x4) (x5 + 1))
def Lp_X12_cheapest_39 (kx57 : St → Int32 → Int32 → Int32 → Int32 → RR) (fu : Nat) : Nat → St → Int32 → Int32 → Int32 → Int32 → Int32 → RR
  | 0, _, _, _, _, _, _ => none
  | n + 1, V, x1, x2, x3, x4, x5 => F_X12_cheapest_39 (Lp_X12_cheapest_39 kx57 fu n) kx57 fu V x1 x2 x3 x4 x5
def F_X12_cheapest_24 (fu : Nat) (V : St) : RR :=
  some ((-1 : Int32), V)
def f_X12_cheapest (fu : Nat) (V : St) (x1 : Int32) (x2 : Int32) : RR :=
  bd (f_X12_isDrawing fu V (x1)) fun r1 V2 => if r1 = 0 then
    (F_X12_cheapest_24 fu V2)
    else
    (gd (¬ (x1 < 0 ∨ 22 ≤ (x1).toNatClampNeg)) <| bd (f_X12_in fu V2 (x2) ((-1 : Int32)) ((V2 2209 (0) (x1).toNatClampNeg) - (1 : Int32))) fun r6 V7 => if r6 = 0 then
      (F_X12_cheapest_24 fu V7)
      else
      (gd (¬ (x1 < 0 ∨ 22 ≤ (x1).toNatClampNeg)) <| Lp_X12_cheapest_39 (F_X12_cheapest_57 fu) fu fu V7 (x1) (x2) ((V7 2209 (0) (x1).toNatClampNeg)) ((1 : Int32)) ((0 : Int32))))
def F_X12_tapeNumber_37 (fu : Nat) (V : St) (x2 : Int32) : RR :=
  some (x2, V)
def F_X12_tapeNumber_6 (kh : St → Int32 → Int32 → Int32 → RR) (kx37 : St → Int32 → RR) (fu : Nat) (V : St) (x1 : Int32) (x2 : Int32) (x3 : Int32) : RR :=
  if ((4 : Int32) * x1) + (4 : Int32) ≤ x3 then
    (kx37 V (x2))
    else
    (gd (¬ (x3 < 0 ∨ 400 ≤ (x3).toNatClampNeg)) <| kh V (x1) ((x2 <<< ((8 : Int32) &&& 31)) ||| ((V 2241 (0) (x3).toNatClampNeg) &&& (255 : Int32))) (x3 + 1))
def Lp_X12_tapeNumber_6 (kx37 : St → Int32 → RR) (fu : Nat) : Nat → St → Int32 → Int32 → Int32 → RR
  | 0, _, _, _, _ => none
  | n + 1, V, x1, x2, x3 => F_X12_tapeNumber_6 (Lp_X12_tapeNumber_6 kx37 fu n) kx37 fu V x1 x2 x3
def f_X12_tapeNumber (fu : Nat) (V : St) (x1 : Int32) : RR :=
  Lp_X12_tapeNumber_6 (F_X12_tapeNumber_37 fu) fu fu V (x1) ((0 : Int32)) ((4 : Int32) * x1)
def F_X12_check_153 (fu : Nat) (V : St) (s0 : Int32) : RR :=
  some (s0, V)
def F_X12_check_141 (fu : Nat) (V : St) (x1 : Int32) (x2 : Int32) : RR :=
  if (3 : Int32) * x1 ≤ x2 then
    (F_X12_check_153 fu V ((-1 : Int32)))
    else
    (F_X12_check_153 fu V (x2))
def F_X12_check_135 (kh : St → Int32 → Int32 → Int32 → RR) (kx91 : St → Int32 → RR) (kx105 : St → Int32 → RR) (kx121 : St → Int32 → RR) (kx141 : St → Int32 → Int32 → RR) (fu : Nat) (V : St) (x1 : Int32) (x2 : Int32) (x3 : Int32) : RR :=
  kh V (x1) (x2) (x3 + 1)
def F_X12_check_129 (kh : St → Int32 → Int32 → Int32 → Int32 → RR) (kx91 : St → Int32 → RR) (kx105 : St → Int32 → RR) (kx121 : St → Int32 → RR) (kx135 : St → Int32 → Int32 → Int32 → RR) (fu : Nat) (V : St) (x1 : Int32) (x2 : Int32) (x3 : Int32) (x4 : Int32) : RR :=
  kh V (x1) (x2) (x3) (x4 + 1)
def F_X12_check_121 (fu : Nat) (V : St) (x2 : Int32) : RR :=
  some (x2 + (2 : Int32), V)
def F_X12_check_105 (fu : Nat) (V : St) (x2 : Int32) : RR :=
  some (x2 + (1 : Int32), V)
def F_X12_check_91 (fu : Nat) (V : St) (x2 : Int32) : RR :=
  some (x2, V)
def F_X12_check_65 (kh : St → Int32 → Int32 → Int32 → Int32 → RR) (kx91 : St → Int32 → RR) (kx105 : St → Int32 → RR) (kx121 : St → Int32 → RR) (kx135 : St → Int32 → Int32 → Int32 → RR) (fu : Nat) (V : St) (x1 : Int32) (x2 : Int32) (x3 : Int32) (x4 : Int32) (s0 : Int32) : RR :=
  if s0 = 0 then
    (F_X12_check_129 kh kx91 kx105 kx121 kx135 fu V (x1) (x2) (x3) (x4))
    else
    (if x2 = (3 : Int32) * x1 then
      (kx91 V (x2))
      else
      (bd (f_X12_tapeNumber fu V (x2)) fun r3 V4 => if r3 = x3 then
        (bd (f_X12_tapeNumber fu V4 (x2 + (1 : Int32))) fun r7 V8 => if r7 = x4 then
          (bd (f_X12_tapeNumber fu V8 (x2 + (2 : Int32))) fun r11 V12 => if r11 = s0 then
            (F_X12_check_129 kh kx91 kx105 kx121 kx135 fu V12 (x1) (x2 + (3 : Int32)) (x3) (x4))
            else
            (kx121 V12 (x2)))
          else
          (kx105 V8 (x2)))
        else
        (kx91 V4 (x2))))
def F_X12_check_38 (kh : St → Int32 → Int32 → Int32 → Int32 → RR) (kx91 : St → Int32 → RR) (kx105 : St → Int32 → RR) (kx121 : St → Int32 → RR) (kx135 : St → Int32 → Int32 → Int32 → RR) (fu : Nat) (V : St) (x1 : Int32) (x2 : Int32) (x3 : Int32) (x4 : Int32) : RR :=
  if (2 : Int32) ≤ x4 then
    (kx135 V (x1) (x2) (x3))
    else
    (if x4 = (1 : Int32) then
      (gd (¬ (x3 < 0 ∨ 30 ≤ (x3).toNatClampNeg)) <| F_X12_check_65 kh kx91 kx105 kx121 kx135 fu V (x1) (x2) (x3) (x4) ((V 2222 (0) (x3).toNatClampNeg)))
      else
      (gd (¬ (x3 < 0 ∨ 30 ≤ (x3).toNatClampNeg)) <| F_X12_check_65 kh kx91 kx105 kx121 kx135 fu V (x1) (x2) (x3) (x4) ((V 2221 (0) (x3).toNatClampNeg))))
def Lp_X12_check_38 (kx91 : St → Int32 → RR) (kx105 : St → Int32 → RR) (kx121 : St → Int32 → RR) (kx135 : St → Int32 → Int32 → Int32 → RR) (fu : Nat) : Nat → St → Int32 → Int32 → Int32 → Int32 → RR
  | 0, _, _, _, _, _ => none
  | n + 1, V, x1, x2, x3, x4 => F_X12_check_38 (Lp_X12_check_38 kx91 kx105 kx121 kx135 fu n) kx91 kx105 kx121 kx135 fu V x1 x2 x3 x4
def F_X12_check_27 (kh : St → Int32 → Int32 → Int32 → RR) (kx91 : St → Int32 → RR) (kx105 : St → Int32 → RR) (kx121 : St → Int32 → RR) (kx141 : St → Int32 → Int32 → RR) (fu : Nat) (V : St) (x1 : Int32) (x2 : Int32) (x3 : Int32) : RR :=
  if (V 2204 0 0) ≤ x3 then
    (kx141 V (x1) (x2))
    else
    (Lp_X12_check_38 kx91 kx105 kx121 (F_X12_check_135 kh kx91 kx105 kx121 kx141 fu) fu fu V (x1) (x2) (x3) ((0 : Int32)))
def Lp_X12_check_27 (kx91 : St → Int32 → RR) (kx105 : St → Int32 → RR) (kx121 : St → Int32 → RR) (kx141 : St → Int32 → Int32 → RR) (fu : Nat) : Nat → St → Int32 → Int32 → Int32 → RR
  | 0, _, _, _, _ => none
  | n + 1, V, x1, x2, x3 => F_X12_check_27 (Lp_X12_check_27 kx91 kx105 kx121 kx141 fu n) kx91 kx105 kx121 kx141 fu V x1 x2 x3
def F_X12_check_15 (fu : Nat) (V : St) : RR :=
  some ((-2 : Int32), V)
def f_X12_check (fu : Nat) (V : St) (x1 : Int32) : RR :=
  if x1 < 0 then
    (F_X12_check_15 fu V)
    else
    (if x1 ≤ ((V 2242 0 0)) / ((12 : Int32)) then
      (bv (setV V 2242 0 0 ((0 : Int32))) fun V3 => Lp_X12_check_27 (F_X12_check_91 fu) (F_X12_check_105 fu) (F_X12_check_121 fu) (F_X12_check_141 fu) fu fu V3 (x1) ((0 : Int32)) ((0 : Int32)))
      else
      (F_X12_check_15 fu V))
def f_X12_says (fu : Nat) (V : St) (x1 : Int32) (x2 : Int32) : RR :=
  gd (¬ ((V 2248 0 0) < 0 ∨ 180 ≤ ((V 2248 0 0)).toNatClampNeg)) <| bv (setV V 2251 (0) ((V 2248 0 0)).toNatClampNeg (((1048576 : Int32) * x1) + x2)) fun V2 => bv (setV V2 2248 0 0 ((V2 2248 0 0) + (1 : Int32))) fun V4 => some (0, V4)
def F_X12_top_26 (fu : Nat) (V : St) (s0 : Int32) : RR :=
  some (s0, V)
def f_X12_top (fu : Nat) (V : St) : RR :=
  if (V 2249 0 0) = 0 then
    (F_X12_top_26 fu V ((-1 : Int32)))
    else
    (gd (¬ ((V 2249 0 0) - (1 : Int32) < 0 ∨ 180 ≤ ((V 2249 0 0) - (1 : Int32)).toNatClampNeg)) <| F_X12_top_26 fu V (((V 2252 (0) ((V 2249 0 0) - (1 : Int32)).toNatClampNeg)) / ((1048576 : Int32))))
def F_X12_closesSums_59 (fu : Nat) (V : St) : RR :=
  some (0, V)
def F_X12_closesSums_37 (kh : St → Int32 → RR) (kx59 : St → RR) (fu : Nat) (V : St) (x1 : Int32) : RR :=
  bd (f_X12_top fu V) fun r1 V2 => bd (f_X12_says fu V2 (r1) ((0 : Int32))) fun r4 V5 => bv (setV V5 2249 0 0 ((V5 2249 0 0) - (1 : Int32))) fun V7 => kh V7 (x1)
def F_X12_closesSums_17 (kh : St → Int32 → RR) (kx59 : St → RR) (fu : Nat) (V : St) (x1 : Int32) : RR :=
  if x1 = 0 then
    (kx59 V)
    else
    (bd (f_X12_top fu V) fun r2 V3 => if r2 = (2 : Int32) then
      (F_X12_closesSums_37 kh kx59 fu V3 (x1))
      else
      (bd (f_X12_top fu V3) fun r6 V7 => if r6 = (3 : Int32) then
        (F_X12_closesSums_37 kh kx59 fu V7 (x1))
        else
        (kx59 V7)))
def F_X12_closesSums_0 (kh : St → Int32 → RR) (kx59 : St → RR) (fu : Nat) (V : St) (x1 : Int32) : RR :=
  bd (f_X12_top fu V) fun r1 V2 => if r1 < (4 : Int32) then
    (F_X12_closesSums_17 kh kx59 fu V2 (x1))
    else
    (bd (f_X12_top fu V2) fun r5 V6 => if r5 ≤ (6 : Int32) then
      (F_X12_closesSums_37 kh kx59 fu V6 (x1))
      else
      (F_X12_closesSums_17 kh kx59 fu V6 (x1)))
def Lp_X12_closesSums_0 (kx59 : St → RR) (fu : Nat) : Nat → St → Int32 → RR
  | 0, _, _ => none
  | n + 1, V, x1 => F_X12_closesSums_0 (Lp_X12_closesSums_0 kx59 fu n) kx59 fu V x1
def f_X12_closesSums (fu : Nat) (V : St) (x1 : Int32) : RR :=
  Lp_X12_closesSums_0 (F_X12_closesSums_59 fu) fu fu V (x1)
def F_X12_cloth_76 (fu : Nat) (V : St) (x1 : Int32) (x2 : Int32) (x3 : Int32) : RR :=
  gd (¬ ((V 2202 0 0) < 0 ∨ 20 ≤ ((V 2202 0 0)).toNatClampNeg)) <| bv (setV V 2205 (0) ((V 2202 0 0)).toNatClampNeg (x1)) fun V2 => gd (¬ ((V2 2202 0 0) < 0 ∨ 20 ≤ ((V2 2202 0 0)).toNatClampNeg)) <| bv (setV V2 2206 (0) ((V2 2202 0 0)).toNatClampNeg (x2)) fun V5 => gd (¬ ((V5 2202 0 0) < 0 ∨ 20 ≤ ((V5 2202 0 0)).toNatClampNeg)) <| bv (setV V5 2207 (0) ((V5 2202 0 0)).toNatClampNeg (x3)) fun V8 => bv (setV V8 2202 0 0 ((V8 2202 0 0) + (1 : Int32))) fun V10 => some ((V10 2202 0 0) - (1 : Int32), V10)
def F_X12_cloth_68 (fu : Nat) (V : St) : RR :=
  some ((-1 : Int32), V)
def F_X12_cloth_48 (kh : St → Int32 → Int32 → Int32 → Int32 → RR) (kx68 : St → RR) (kx76 : St → Int32 → Int32 → Int32 → RR) (fu : Nat) (V : St) (x1 : Int32) (x2 : Int32) (x3 : Int32) (x4 : Int32) : RR :=
  if (V 2202 0 0) ≤ x4 then
    (kx76 V (x1) (x2) (x3))
    else
    (gd (¬ (x4 < 0 ∨ 20 ≤ (x4).toNatClampNeg)) <| if (V 2205 (0) (x4).toNatClampNeg) = x1 then
      (kx68 V)
      else
      (kh V (x1) (x2) (x3) (x4 + 1)))
def Lp_X12_cloth_48 (kx68 : St → RR) (kx76 : St → Int32 → Int32 → Int32 → RR) (fu : Nat) : Nat → St → Int32 → Int32 → Int32 → Int32 → RR
  | 0, _, _, _, _, _ => none
  | n + 1, V, x1, x2, x3, x4 => F_X12_cloth_48 (Lp_X12_cloth_48 kx68 kx76 fu n) kx68 kx76 fu V x1 x2 x3 x4
def F_X12_cloth_43 (fu : Nat) (V : St) : RR :=
  some ((-1 : Int32), V)
def f_X12_cloth (fu : Nat) (V : St) (x1 : Int32) (x2 : Int32) (x3 : Int32) : RR :=
  bd (f_X12_in fu V (x1) ((100 : Int32)) ((999 : Int32))) fun r1 V2 => if r1 = 0 then
    (F_X12_cloth_43 fu V2)
    else
    (bd (f_X12_in fu V2 (x2) ((1 : Int32)) ((1000 : Int32))) fun r5 V6 => if r5 = 0 then
      (F_X12_cloth_43 fu V6)
      else
      (bd (f_X12_in fu V6 (x3) ((1 : Int32)) ((10000 : Int32))) fun r9 V10 => if r9 = 0 then
        (F_X12_cloth_43 fu V10)
        else
        (if (V10 2202 0 0) = (20 : Int32) then
          (F_X12_cloth_43 fu V10)
          else
          (Lp_X12_cloth_48 (F_X12_cloth_68 fu) (F_X12_cloth_76 fu) fu fu V10 (x1) (x2) (x3) ((0 : Int32))))))
def F_X12_count_199 (fu : Nat) (V : St) (s0 : Int32) : RR :=
  some (s0, V)
def f_X12_count (fu : Nat) (V : St) (x1 : Int32) : RR :=
  if x1 = 0 then (some ((V 2201 0 0), V)) else
    if x1 = 1 then (some ((V 2202 0 0), V)) else
    if x1 = 2 then (some ((V 2203 0 0), V)) else
    if x1 = 3 then (some ((V 2204 0 0), V)) else
    if x1 = 4 then (some ((V 2232 0 0), V)) else
    if x1 = 5 then (some ((V 2258 0 0), V)) else
    if x1 = 6 then (some ((V 2277 0 0), V)) else
    if x1 = 7 then (some ((V 2280 0 0), V)) else
    if x1 = 8 then (some ((V 2286 0 0), V)) else
    if x1 = 9 then (some ((V 2287 0 0), V)) else
    if x1 = 10 then (some ((V 2242 0 0), V)) else
    bd (f_X12_in fu V (x1) ((20 : Int32)) ((19 : Int32) + (V 2258 0 0))) fun r13 V14 => if r13 = 0 then
    (bd (f_X12_in fu V14 (x1) ((100 : Int32)) ((99 : Int32) + (V14 2204 0 0))) fun r17 V18 => if r17 = 0 then
      (bd (f_X12_in fu V18 (x1) ((200 : Int32)) ((199 : Int32) + (V18 2204 0 0))) fun r21 V22 => if r21 = 0 then
        (F_X12_count_199 fu V22 ((-1 : Int32)))
        else
        (gd (¬ (x1 - (200 : Int32) < 0 ∨ 30 ≤ (x1 - (200 : Int32)).toNatClampNeg)) <| F_X12_count_199 fu V22 ((V22 2222 (0) (x1 - (200 : Int32)).toNatClampNeg))))
      else
      (gd (¬ (x1 - (100 : Int32) < 0 ∨ 30 ≤ (x1 - (100 : Int32)).toNatClampNeg)) <| some ((V18 2221 (0) (x1 - (100 : Int32)).toNatClampNeg), V18)))
    else
    (gd (¬ (x1 - (20 : Int32) < 0 ∨ 30 ≤ (x1 - (20 : Int32)).toNatClampNeg)) <| some ((V14 2264 (0) (x1 - (20 : Int32)).toNatClampNeg), V14))
def F_X12_docket_48 (fu : Nat) (V : St) : RR :=
  some ((-1 : Int32), V)
def f_X12_docket (fu : Nat) (V : St) (x1 : Int32) (x2 : Int32) (x3 : Int32) (x4 : Int32) : RR :=
  bd (f_X12_isPerson fu V (x1)) fun r1 V2 => if r1 = 0 then
    (F_X12_docket_48 fu V2)
    else
    (bd (f_X12_isThing fu V2 (x2)) fun r5 V6 => if r5 = 0 then
      (F_X12_docket_48 fu V6)
      else
      (bd (f_X12_in fu V6 (x3) ((0 : Int32)) ((V6 2201 0 0))) fun r9 V10 => if r9 = 0 then
        (F_X12_docket_48 fu V10)
        else
        (bd (f_X12_in fu V10 (x4) ((0 : Int32)) ((99 : Int32))) fun r13 V14 => if r13 = 0 then
          (F_X12_docket_48 fu V14)
          else
          (if (V14 2280 0 0) = (60 : Int32) then
            (F_X12_docket_48 fu V14)
            else
            (gd (¬ ((V14 2280 0 0) < 0 ∨ 60 ≤ ((V14 2280 0 0)).toNatClampNeg)) <| bv (setV V14 2281 (0) ((V14 2280 0 0)).toNatClampNeg (x1)) fun V19 => gd (¬ ((V19 2280 0 0) < 0 ∨ 60 ≤ ((V19 2280 0 0)).toNatClampNeg)) <| bv (setV V19 2282 (0) ((V19 2280 0 0)).toNatClampNeg (x2)) fun V22 => gd (¬ ((V22 2280 0 0) < 0 ∨ 60 ≤ ((V22 2280 0 0)).toNatClampNeg)) <| bv (setV V22 2283 (0) ((V22 2280 0 0)).toNatClampNeg (x3)) fun V25 => gd (¬ ((V25 2280 0 0) < 0 ∨ 60 ≤ ((V25 2280 0 0)).toNatClampNeg)) <| bv (setV V25 2284 (0) ((V25 2280 0 0)).toNatClampNeg (x4)) fun V28 => gd (¬ ((V28 2280 0 0) < 0 ∨ 60 ≤ ((V28 2280 0 0)).toNatClampNeg)) <| bv (setV V28 2285 (0) ((V28 2280 0 0)).toNatClampNeg ((1 : Int32))) fun V31 => bv (setV V31 2280 0 0 ((V31 2280 0 0) + (1 : Int32))) fun V33 => some ((V33 2280 0 0) - (1 : Int32), V33))))))
def F_X12_drawing_19 (fu : Nat) (V : St) : RR :=
  some ((-1 : Int32), V)
def f_X12_drawing (fu : Nat) (V : St) (x1 : Int32) : RR :=
  bd (f_X12_in fu V (x1) ((2 : Int32)) ((8 : Int32))) fun r1 V2 => if r1 = 0 then
    (F_X12_drawing_19 fu V2)
    else
    (if (V2 2203 0 0) = (22 : Int32) then
      (F_X12_drawing_19 fu V2)
      else
      (gd (¬ ((V2 2203 0 0) < 0 ∨ 22 ≤ ((V2 2203 0 0)).toNatClampNeg)) <| bv (setV V2 2208 (0) ((V2 2203 0 0)).toNatClampNeg (x1)) fun V7 => bv (setV V7 2203 0 0 ((V7 2203 0 0) + (1 : Int32))) fun V9 => some ((V9 2203 0 0) - (1 : Int32), V9)))
def F_X12_endsPiece_39 (fu : Nat) (V : St) : RR :=
  some (0, V)
def F_X12_endsPiece_0 (kh : St → RR) (kx39 : St → RR) (fu : Nat) (V : St) : RR :=
  bd (f_X12_top fu V) fun r1 V2 => if r1 = (10 : Int32) then
    (bd (f_X12_says fu V2 ((10 : Int32)) ((0 : Int32))) fun r5 V6 => bv (setV V6 2249 0 0 ((V6 2249 0 0) - (1 : Int32))) fun V8 => bv (setV V8 2247 0 0 ((V8 2247 0 0) - (1 : Int32))) fun V10 => kh V10)
    else
    (kx39 V2)
def Lp_X12_endsPiece_0 (kx39 : St → RR) (fu : Nat) : Nat → St → RR
  | 0, _ => none
  | n + 1, V => F_X12_endsPiece_0 (Lp_X12_endsPiece_0 kx39 fu n) kx39 fu V
def f_X12_endsPiece (fu : Nat) (V : St) : RR :=
  Lp_X12_endsPiece_0 (F_X12_endsPiece_39 fu) fu fu V
def f_X12_factOf (fu : Nat) (V : St) (x0 : Int32) : RR :=
  if x0 = 97 then (some ((5 : Int32), V)) else
    if x0 = 104 then (some ((8 : Int32), V)) else
    if x0 = 105 then (some ((4 : Int32), V)) else
    if x0 = 106 then (some ((7 : Int32), V)) else
    if x0 = 107 then (some ((1 : Int32), V)) else
    if x0 = 110 then (some ((2 : Int32), V)) else
    if x0 = 113 then (some ((3 : Int32), V)) else
    if x0 = 116 then (some ((6 : Int32), V)) else
    if x0 = 119 then (some ((0 : Int32), V)) else
    some ((-1 : Int32), V)
def F_X12_falsely_157 (fu : Nat) (V : St) (x2 : Int32) : RR :=
  some (x2, V)
def F_X12_falsely_151 (kh : St → Int32 → Int32 → Int32 → RR) (kx157 : St → Int32 → RR) (fu : Nat) (V : St) (x1 : Int32) (x2 : Int32) (x3 : Int32) : RR :=
  kh V (x1) (x2) (x3 + 1)
def F_X12_falsely_150 (kh : St → Int32 → Int32 → Int32 → RR) (kx157 : St → Int32 → RR) (fu : Nat) (V : St) (x1 : Int32) (x3 : Int32) (s0 : Int32) : RR :=
  F_X12_falsely_151 kh kx157 fu V (x1) (s0) (x3)
def F_X12_falsely_138 (kh : St → Int32 → Int32 → Int32 → RR) (kx157 : St → Int32 → RR) (fu : Nat) (V : St) (x1 : Int32) (x2 : Int32) (x3 : Int32) (x4 : Int32) : RR :=
  if x4 ≤ x2 then
    (F_X12_falsely_150 kh kx157 fu V (x1) (x3) (x2))
    else
    (F_X12_falsely_150 kh kx157 fu V (x1) (x3) (x4))
def F_X12_falsely_114 (kh : St → Int32 → Int32 → Int32 → Int32 → Int32 → RR) (kx138 : St → Int32 → Int32 → Int32 → Int32 → RR) (fu : Nat) (V : St) (x1 : Int32) (x2 : Int32) (x3 : Int32) (x4 : Int32) (x5 : Int32) : RR :=
  gd (¬ (((500 : Int32) * x1) + x5 < 0 ∨ 15000 ≤ (((500 : Int32) * x1) + x5).toNatClampNeg)) <| kh V (x1) (x2) (x3) (x4 + (V 2276 (0) (((500 : Int32) * x1) + x5).toNatClampNeg)) (x5 + 1)
def F_X12_falsely_105 (kh : St → Int32 → Int32 → Int32 → Int32 → Int32 → Int32 → RR) (kx114 : St → Int32 → Int32 → Int32 → Int32 → Int32 → RR) (fu : Nat) (V : St) (x1 : Int32) (x2 : Int32) (x3 : Int32) (x5 : Int32) (x6 : Int32) (s0 : Int32) (s1 : Int32) : RR :=
  kh V (x1) (x2) (x3) (s1 - s0) (x5) (x6 + 1)
def F_X12_falsely_60 (kh : St → Int32 → Int32 → Int32 → Int32 → Int32 → Int32 → RR) (kx114 : St → Int32 → Int32 → Int32 → Int32 → Int32 → RR) (fu : Nat) (V : St) (x1 : Int32) (x2 : Int32) (x3 : Int32) (x4 : Int32) (x5 : Int32) (x6 : Int32) : RR :=
  if (V 2232 0 0) ≤ x6 then
    (kx114 V (x1) (x2) (x3) (x4) (x5))
    else
    (gd (¬ (x6 < 0 ∨ 12 ≤ (x6).toNatClampNeg)) <| if (V 2240 (0) (x6).toNatClampNeg) = 0 then
      (F_X12_falsely_105 kh kx114 fu V (x1) (x2) (x3) (x5) (x6) ((0 : Int32)) (x4))
      else
      (gd (¬ ((((15000 : Int32) * x6) + ((500 : Int32) * x1)) + x5 < 0 ∨ 180000 ≤ ((((15000 : Int32) * x6) + ((500 : Int32) * x1)) + x5).toNatClampNeg)) <| F_X12_falsely_105 kh kx114 fu V (x1) (x2) (x3) (x5) (x6) ((V 2275 (0) ((((15000 : Int32) * x6) + ((500 : Int32) * x1)) + x5).toNatClampNeg)) (x4)))
def Lp_X12_falsely_60 (kx114 : St → Int32 → Int32 → Int32 → Int32 → Int32 → RR) (fu : Nat) : Nat → St → Int32 → Int32 → Int32 → Int32 → Int32 → Int32 → RR
  | 0, _, _, _, _, _, _, _ => none
  | n + 1, V, x1, x2, x3, x4, x5, x6 => F_X12_falsely_60 (Lp_X12_falsely_60 kx114 fu n) kx114 fu V x1 x2 x3 x4 x5 x6
def F_X12_falsely_46 (kh : St → Int32 → Int32 → Int32 → Int32 → Int32 → RR) (kx138 : St → Int32 → Int32 → Int32 → Int32 → RR) (fu : Nat) (V : St) (x1 : Int32) (x2 : Int32) (x3 : Int32) (x4 : Int32) (x5 : Int32) : RR :=
  gd (¬ (x3 < 0 ∨ 100 ≤ (x3).toNatClampNeg)) <| if (V 2290 (0) (x3).toNatClampNeg) < x5 then
    (kx138 V (x1) (x2) (x3) (x4))
    else
    (Lp_X12_falsely_60 (F_X12_falsely_114 kh kx138 fu) fu fu V (x1) (x2) (x3) (x4) (x5) ((0 : Int32)))
def Lp_X12_falsely_46 (kx138 : St → Int32 → Int32 → Int32 → Int32 → RR) (fu : Nat) : Nat → St → Int32 → Int32 → Int32 → Int32 → Int32 → RR
  | 0, _, _, _, _, _, _ => none
  | n + 1, V, x1, x2, x3, x4, x5 => F_X12_falsely_46 (Lp_X12_falsely_46 kx138 fu n) kx138 fu V x1 x2 x3 x4 x5
def F_X12_falsely_14 (kh : St → Int32 → Int32 → Int32 → RR) (kx157 : St → Int32 → RR) (fu : Nat) (V : St) (x1 : Int32) (x2 : Int32) (x3 : Int32) : RR :=
  if (V 2286 0 0) ≤ x3 then
    (kx157 V (x2))
    else
    (gd (¬ (x3 < 0 ∨ 100 ≤ (x3).toNatClampNeg)) <| if (V 2289 (0) (x3).toNatClampNeg) = x1 then
      (gd (¬ (x3 < 0 ∨ 100 ≤ (x3).toNatClampNeg)) <| Lp_X12_falsely_46 (F_X12_falsely_138 kh kx157 fu) fu fu V (x1) (x2) (x3) ((V 2291 (0) (x3).toNatClampNeg)) ((0 : Int32)))
      else
      (F_X12_falsely_151 kh kx157 fu V (x1) (x2) (x3)))
def Lp_X12_falsely_14 (kx157 : St → Int32 → RR) (fu : Nat) : Nat → St → Int32 → Int32 → Int32 → RR
  | 0, _, _, _, _ => none
  | n + 1, V, x1, x2, x3 => F_X12_falsely_14 (Lp_X12_falsely_14 kx157 fu n) kx157 fu V x1 x2 x3
def f_X12_falsely (fu : Nat) (V : St) (x1 : Int32) : RR :=
  bd (f_X12_isThing fu V (x1)) fun r1 V2 => if r1 = 0 then
    (some ((-1 : Int32), V2))
    else
    (Lp_X12_falsely_14 (F_X12_falsely_157 fu) fu fu V2 (x1) ((0 : Int32)) ((0 : Int32)))
def F_X12_types_38 (fu : Nat) (V : St) : RR :=
  some (0, V)
def F_X12_types_2 (kh : St → Int32 → Int32 → RR) (kx38 : St → RR) (fu : Nat) (V : St) (x1 : Int32) (x2 : Int32) : RR :=
  if x2 < 0 then
    (kx38 V)
    else
    (gd (¬ ((V 2242 0 0) < 0 ∨ 400 ≤ ((V 2242 0 0)).toNatClampNeg)) <| bv (setV V 2241 (0) ((V 2242 0 0)).toNatClampNeg (vp_nar .byte ((x1 >>> (((8 : Int32) * x2) &&& 31)).toInt8.toInt32))) fun V3 => bv (setV V3 2242 0 0 ((V3 2242 0 0) + (1 : Int32))) fun V5 => kh V5 (x1) (x2 + (-1)))
def Lp_X12_types_2 (kx38 : St → RR) (fu : Nat) : Nat → St → Int32 → Int32 → RR
  | 0, _, _, _ => none
  | n + 1, V, x1, x2 => F_X12_types_2 (Lp_X12_types_2 kx38 fu n) kx38 fu V x1 x2
def f_X12_types (fu : Nat) (V : St) (x1 : Int32) : RR :=
  Lp_X12_types_2 (F_X12_types_38 fu) fu fu V (x1) ((3 : Int32))
def f_X12_feed (fu : Nat) (V : St) (x1 : Int32) (x2 : Int32) (x3 : Int32) (x4 : Int32) (x5 : Int32) : RR :=
  if (V 2242 0 0) + (20 : Int32) ≤ (400 : Int32) then
    (bd (f_X12_types fu V (x1)) fun r2 V3 => bd (f_X12_types fu V3 (x2)) fun r5 V6 => bd (f_X12_types fu V6 (x3)) fun r8 V9 => bd (f_X12_types fu V9 (x4)) fun r11 V12 => bd (f_X12_types fu V12 (x5)) fun r14 V15 => some ((V15 2242 0 0), V15))
    else
    (some ((-1 : Int32), V))
def F_X12_hasTown_47 (fu : Nat) (V : St) (s0 : Int32) : RR :=
  gd (s0 = 0 ∨ s0 = 1) <| some (s0, V)
def F_X12_hasTown_37 (fu : Nat) (V : St) (x2 : Int32) : RR :=
  if x2 = (-1 : Int32) then
    (F_X12_hasTown_47 fu V ((1 : Int32)))
    else
    (F_X12_hasTown_47 fu V ((0 : Int32)))
def F_X12_hasTown_31 (kh : St → Int32 → Int32 → Int32 → RR) (kx29 : St → RR) (kx37 : St → Int32 → RR) (fu : Nat) (V : St) (x1 : Int32) (x2 : Int32) (x3 : Int32) : RR :=
  kh V (x1) (x2) (x3 + 1)
def F_X12_hasTown_29 (fu : Nat) (V : St) : RR :=
  some ((1 : Int32), V)
def F_X12_hasTown_2 (kh : St → Int32 → Int32 → Int32 → RR) (kx29 : St → RR) (kx37 : St → Int32 → RR) (fu : Nat) (V : St) (x1 : Int32) (x2 : Int32) (x3 : Int32) : RR :=
  if (V 2232 0 0) ≤ x3 then
    (kx37 V (x2))
    else
    (if (x1 >>> (x3 &&& 31)) &&& (1 : Int32) = (1 : Int32) then
      (gd (¬ (x3 < 0 ∨ 12 ≤ (x3).toNatClampNeg)) <| if (V 2233 (0) (x3).toNatClampNeg) = x2 then
        (kx29 V)
        else
        (F_X12_hasTown_31 kh kx29 kx37 fu V (x1) (x2) (x3)))
      else
      (F_X12_hasTown_31 kh kx29 kx37 fu V (x1) (x2) (x3)))
def Lp_X12_hasTown_2 (kx29 : St → RR) (kx37 : St → Int32 → RR) (fu : Nat) : Nat → St → Int32 → Int32 → Int32 → RR
  | 0, _, _, _, _ => none
  | n + 1, V, x1, x2, x3 => F_X12_hasTown_2 (Lp_X12_hasTown_2 kx29 kx37 fu n) kx29 kx37 fu V x1 x2 x3
def f_X12_hasTown (fu : Nat) (V : St) (x1 : Int32) (x2 : Int32) : RR :=
  Lp_X12_hasTown_2 (F_X12_hasTown_29 fu) (F_X12_hasTown_37 fu) fu fu V (x1) (x2) ((0 : Int32))
def f_X12_up (fu : Nat) (V : St) (x0 : Int32) (x1 : Int32) : RR :=
  gd (¬ x1 = 0) <| some (((x0 + x1) - (1 : Int32)) / (x1), V)
def F_X12_neededBy_212 (fu : Nat) (V : St) (s0 : Int32) : RR :=
  some (s0, V)
def F_X12_neededBy_199 (fu : Nat) (V : St) (x5 : Int32) (x6 : Int32) : RR :=
  if x6 < x5 then
    (F_X12_neededBy_212 fu V ((-1 : Int32)))
    else
    (F_X12_neededBy_212 fu V (x5))
def F_X12_neededBy_170 (kh : St → Int32 → Int32 → Int32 → Int32 → Int32 → RR) (kx135 : St → RR) (kx199 : St → Int32 → Int32 → RR) (fu : Nat) (V : St) (x2 : Int32) (x4 : Int32) (x5 : Int32) (x6 : Int32) (x7 : Int32) (x8 : Int32) (s0 : Int32) : RR :=
  gd (¬ (x8 < 0 ∨ 12 ≤ (x8).toNatClampNeg)) <| bd (f_X12_up fu V (s0) ((V 2236 (0) (x8).toNatClampNeg))) fun r2 V3 => kh V3 (x2) (x4 - s0) (x5 + r2) (x6) (x7)
def F_X12_neededBy_135 (fu : Nat) (V : St) : RR :=
  some ((-1 : Int32), V)
def F_X12_neededBy_129 (kh : St → Int32 → Int32 → Int32 → Int32 → Int32 → RR) (kx135 : St → RR) (kx199 : St → Int32 → Int32 → RR) (fu : Nat) (V : St) (x2 : Int32) (x4 : Int32) (x5 : Int32) (x6 : Int32) (x7 : Int32) (x8 : Int32) : RR :=
  if x8 = (-1 : Int32) then
    (kx135 V)
    else
    (gd (¬ (x8 < 0 ∨ 12 ≤ (x8).toNatClampNeg)) <| if (V 2234 (0) (x8).toNatClampNeg) ≤ x4 then
      (gd (¬ (x8 < 0 ∨ 12 ≤ (x8).toNatClampNeg)) <| F_X12_neededBy_170 kh kx135 kx199 fu V (x2) (x4) (x5) (x6) (x7 ||| ((1 : Int32) <<< (x8 &&& 31))) (x8) ((V 2234 (0) (x8).toNatClampNeg)))
      else
      (F_X12_neededBy_170 kh kx135 kx199 fu V (x2) (x4) (x5) (x6) (x7 ||| ((1 : Int32) <<< (x8 &&& 31))) (x8) (x4)))
def F_X12_neededBy_123 (kh : St → Int32 → Int32 → Int32 → Int32 → Int32 → Int32 → Int32 → RR) (kx129 : St → Int32 → Int32 → Int32 → Int32 → Int32 → Int32 → RR) (fu : Nat) (V : St) (x2 : Int32) (x4 : Int32) (x5 : Int32) (x6 : Int32) (x7 : Int32) (x8 : Int32) (x9 : Int32) : RR :=
  kh V (x2) (x4) (x5) (x6) (x7) (x8) (x9 + 1)
