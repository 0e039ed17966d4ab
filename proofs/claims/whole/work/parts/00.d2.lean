/-! THE PROGRAM AS FUNCTIONS over the typed state (by program) -/
def gT0 (x : Int32) : Int32 := ([10, 25, 60] : List Int32).getD x.toNatClampNeg 0
def gT1 (x : Int32) : Int32 := ([2, 4, 9] : List Int32).getD x.toNatClampNeg 0
def f_J6_bitCount_0f7a4 (fu : Nat) (V : St) (x0 : Int32) : RR :=
  some ((((((((x0 - ((((x0).toUInt32 >>> (((1 : Int32) : Int32).toUInt32 &&& Int32.toUInt32 31)).toInt32) &&& (1431655765 : Int32))) &&& (858993459 : Int32)) + ((((x0 - ((((x0).toUInt32 >>> (((1 : Int32) : Int32).toUInt32 &&& Int32.toUInt32 31)).toInt32) &&& (1431655765 : Int32))).toUInt32 >>> (((2 : Int32) : Int32).toUInt32 &&& Int32.toUInt32 31)).toInt32) &&& (858993459 : Int32))) + (((((x0 - ((((x0).toUInt32 >>> (((1 : Int32) : Int32).toUInt32 &&& Int32.toUInt32 31)).toInt32) &&& (1431655765 : Int32))) &&& (858993459 : Int32)) + ((((x0 - ((((x0).toUInt32 >>> (((1 : Int32) : Int32).toUInt32 &&& Int32.toUInt32 31)).toInt32) &&& (1431655765 : Int32))).toUInt32 >>> (((2 : Int32) : Int32).toUInt32 &&& Int32.toUInt32 31)).toInt32) &&& (858993459 : Int32))).toUInt32 >>> (((4 : Int32) : Int32).toUInt32 &&& Int32.toUInt32 31)).toInt32)) &&& (252645135 : Int32)) + (((((((x0 - ((((x0).toUInt32 >>> (((1 : Int32) : Int32).toUInt32 &&& Int32.toUInt32 31)).toInt32) &&& (1431655765 : Int32))) &&& (858993459 : Int32)) + ((((x0 - ((((x0).toUInt32 >>> (((1 : Int32) : Int32).toUInt32 &&& Int32.toUInt32 31)).toInt32) &&& (1431655765 : Int32))).toUInt32 >>> (((2 : Int32) : Int32).toUInt32 &&& Int32.toUInt32 31)).toInt32) &&& (858993459 : Int32))) + (((((x0 - ((((x0).toUInt32 >>> (((1 : Int32) : Int32).toUInt32 &&& Int32.toUInt32 31)).toInt32) &&& (1431655765 : Int32))) &&& (858993459 : Int32)) + ((((x0 - ((((x0).toUInt32 >>> (((1 : Int32) : Int32).toUInt32 &&& Int32.toUInt32 31)).toInt32) &&& (1431655765 : Int32))).toUInt32 >>> (((2 : Int32) : Int32).toUInt32 &&& Int32.toUInt32 31)).toInt32) &&& (858993459 : Int32))).toUInt32 >>> (((4 : Int32) : Int32).toUInt32 &&& Int32.toUInt32 31)).toInt32)) &&& (252645135 : Int32)).toUInt32 >>> (((8 : Int32) : Int32).toUInt32 &&& Int32.toUInt32 31)).toInt32)) + ((((((((x0 - ((((x0).toUInt32 >>> (((1 : Int32) : Int32).toUInt32 &&& Int32.toUInt32 31)).toInt32) &&& (1431655765 : Int32))) &&& (858993459 : Int32)) + ((((x0 - ((((x0).toUInt32 >>> (((1 : Int32) : Int32).toUInt32 &&& Int32.toUInt32 31)).toInt32) &&& (1431655765 : Int32))).toUInt32 >>> (((2 : Int32) : Int32).toUInt32 &&& Int32.toUInt32 31)).toInt32) &&& (858993459 : Int32))) + (((((x0 - ((((x0).toUInt32 >>> (((1 : Int32) : Int32).toUInt32 &&& Int32.toUInt32 31)).toInt32) &&& (1431655765 : Int32))) &&& (858993459 : Int32)) + ((((x0 - ((((x0).toUInt32 >>> (((1 : Int32) : Int32).toUInt32 &&& Int32.toUInt32 31)).toInt32) &&& (1431655765 : Int32))).toUInt32 >>> (((2 : Int32) : Int32).toUInt32 &&& Int32.toUInt32 31)).toInt32) &&& (858993459 : Int32))).toUInt32 >>> (((4 : Int32) : Int32).toUInt32 &&& Int32.toUInt32 31)).toInt32)) &&& (252645135 : Int32)) + (((((((x0 - ((((x0).toUInt32 >>> (((1 : Int32) : Int32).toUInt32 &&& Int32.toUInt32 31)).toInt32) &&& (1431655765 : Int32))) &&& (858993459 : Int32)) + ((((x0 - ((((x0).toUInt32 >>> (((1 : Int32) : Int32).toUInt32 &&& Int32.toUInt32 31)).toInt32) &&& (1431655765 : Int32))).toUInt32 >>> (((2 : Int32) : Int32).toUInt32 &&& Int32.toUInt32 31)).toInt32) &&& (858993459 : Int32))) + (((((x0 - ((((x0).toUInt32 >>> (((1 : Int32) : Int32).toUInt32 &&& Int32.toUInt32 31)).toInt32) &&& (1431655765 : Int32))) &&& (858993459 : Int32)) + ((((x0 - ((((x0).toUInt32 >>> (((1 : Int32) : Int32).toUInt32 &&& Int32.toUInt32 31)).toInt32) &&& (1431655765 : Int32))).toUInt32 >>> (((2 : Int32) : Int32).toUInt32 &&& Int32.toUInt32 31)).toInt32) &&& (858993459 : Int32))).toUInt32 >>> (((4 : Int32) : Int32).toUInt32 &&& Int32.toUInt32 31)).toInt32)) &&& (252645135 : Int32)).toUInt32 >>> (((8 : Int32) : Int32).toUInt32 &&& Int32.toUInt32 31)).toInt32)).toUInt32 >>> (((16 : Int32) : Int32).toUInt32 &&& Int32.toUInt32 31)).toInt32)) &&& (63 : Int32), V)
def F_J6_numberOfTrailingZeros_0f7a4_74 (fu : Nat) (V : St) (x0 : Int32) (x1 : Int32) : RR :=
  some (x1 + (((x0).toUInt32 >>> (((1 : Int32) : Int32).toUInt32 &&& Int32.toUInt32 31)).toInt32), V)
def F_J6_numberOfTrailingZeros_0f7a4_62 (fu : Nat) (V : St) (x0 : Int32) (x1 : Int32) : RR :=
  if x0 ≤ (4 : Int32) then
    (F_J6_numberOfTrailingZeros_0f7a4_74 fu V (x0) (x1))
    else
    (F_J6_numberOfTrailingZeros_0f7a4_74 fu V (((x0).toUInt32 >>> (((2 : Int32) : Int32).toUInt32 &&& Int32.toUInt32 31)).toInt32) (x1 + 2))
def F_J6_numberOfTrailingZeros_0f7a4_49 (fu : Nat) (V : St) (x0 : Int32) (x1 : Int32) : RR :=
  if x0 ≤ (16 : Int32) then
    (F_J6_numberOfTrailingZeros_0f7a4_62 fu V (x0) (x1))
    else
    (F_J6_numberOfTrailingZeros_0f7a4_62 fu V (((x0).toUInt32 >>> (((4 : Int32) : Int32).toUInt32 &&& Int32.toUInt32 31)).toInt32) (x1 + 4))
def F_J6_numberOfTrailingZeros_0f7a4_34 (fu : Nat) (V : St) (x0 : Int32) (x1 : Int32) : RR :=
  if x0 ≤ (256 : Int32) then
    (F_J6_numberOfTrailingZeros_0f7a4_49 fu V (x0) (x1))
    else
    (F_J6_numberOfTrailingZeros_0f7a4_49 fu V (((x0).toUInt32 >>> (((8 : Int32) : Int32).toUInt32 &&& Int32.toUInt32 31)).toInt32) (x1 + 8))
def f_J6_numberOfTrailingZeros_0f7a4 (fu : Nat) (V : St) (x0 : Int32) : RR :=
  if 0 < (x0 ^^^ (-1 : Int32)) &&& (x0 - (1 : Int32)) then
    (if (x0 ^^^ (-1 : Int32)) &&& (x0 - (1 : Int32)) ≤ (65536 : Int32) then
      (F_J6_numberOfTrailingZeros_0f7a4_34 fu V ((x0 ^^^ (-1 : Int32)) &&& (x0 - (1 : Int32))) ((1 : Int32)))
      else
      (F_J6_numberOfTrailingZeros_0f7a4_34 fu V ((((x0 ^^^ (-1 : Int32)) &&& (x0 - (1 : Int32))).toUInt32 >>> (((16 : Int32) : Int32).toUInt32 &&& Int32.toUInt32 31)).toInt32) ((1 : Int32) + 16)))
    else
    (some (((x0 ^^^ (-1 : Int32)) &&& (x0 - (1 : Int32))) &&& (32 : Int32), V))
def F_X11_within_15 (fu : Nat) (V : St) (s0 : Int32) : RR :=
  gd (s0 = 0 ∨ s0 = 1) <| some (s0, V)
def F_X11_within_14 (fu : Nat) (V : St) : RR :=
  F_X11_within_15 fu V ((0 : Int32))
def f_X11_within (fu : Nat) (V : St) (x0 : Int32) (x1 : Int32) (x2 : Int32) : RR :=
  if x0 < x1 then
    (F_X11_within_14 fu V)
    else
    (if x2 < x0 then
      (F_X11_within_14 fu V)
      else
      (F_X11_within_15 fu V ((1 : Int32))))
def F_X10_addPiece_32 (fu : Nat) (V : St) : RR :=
  some ((-1 : Int32), V)
def f_X10_addPiece (fu : Nat) (V : St) (x0 : Int32) (x1 : Int32) (x2 : Int32) : RR :=
  bd (f_X11_within fu V (x1) ((1 : Int32)) ((60 : Int32))) fun r1 V2 => if r1 = 0 then
    (F_X10_addPiece_32 fu V2)
    else
    (bd (f_X11_within fu V2 (x2) ((1 : Int32)) ((60 : Int32))) fun r5 V6 => if r5 = 0 then
      (F_X10_addPiece_32 fu V6)
      else
      (gd (¬ x0 < 0 ∧ (x0).toNatClampNeg < cntV V6 2105) <| if (V6 2009 (x0).toNatClampNeg 0) < (nI (lenV V6 1002090 ((x0).toNatClampNeg))) then
        (gd (¬ ((V6 2009 (x0).toNatClampNeg 0) < 0 ∨ lenV V6 1002090 ((x0).toNatClampNeg) ≤ ((V6 2009 (x0).toNatClampNeg 0)).toNatClampNeg)) <| bv (setV V6 2007 ((x0).toNatClampNeg) ((V6 2009 (x0).toNatClampNeg 0)).toNatClampNeg (x1)) fun V13 => gd (¬ ((V13 2009 (x0).toNatClampNeg 0) < 0 ∨ lenV V13 1002090 ((x0).toNatClampNeg) ≤ ((V13 2009 (x0).toNatClampNeg 0)).toNatClampNeg)) <| bv (setV V13 2008 ((x0).toNatClampNeg) ((V13 2009 (x0).toNatClampNeg 0)).toNatClampNeg (x2)) fun V17 => bv (setV V17 2009 (x0).toNatClampNeg 0 ((V17 2009 (x0).toNatClampNeg 0) + (1 : Int32))) fun V20 => some ((V20 2009 (x0).toNatClampNeg 0) - (1 : Int32), V20))
        else
        (F_X10_addPiece_32 fu V6)))
def F_X10_sign_31 (fu : Nat) (V : St) (s0 : Int32) : RR :=
  some (s0, V)
def f_X10_sign (fu : Nat) (V : St) (x0 : Int32) : RR :=
  gd (¬ x0 < 0 ∧ (x0).toNatClampNeg < cntV V 2105) <| if (V 2003 (x0).toNatClampNeg 0) < 0 then
    (if (V 2001 (x0).toNatClampNeg 0) = (1 : Int32) then
      (F_X10_sign_31 fu V ((V 2002 (x0).toNatClampNeg 0)))
      else
      (F_X10_sign_31 fu V ((0 : Int32))))
    else
    (gd (¬ (V 2003 (x0).toNatClampNeg 0) < 0 ∧ ((V 2003 (x0).toNatClampNeg 0)).toNatClampNeg < cntV V 2103) <| some ((V 1001 ((V 2003 (x0).toNatClampNeg 0)).toNatClampNeg 0), V))
def F_X11_roundedUp_15 (fu : Nat) (V : St) (s0 : Int32) : RR :=
  some (s0, V)
def f_X11_roundedUp (fu : Nat) (V : St) (x0 : Int32) (x1 : Int32) : RR :=
  if 0 < x1 then
    (gd (¬ x1 = 0) <| F_X11_roundedUp_15 fu V (((x0 + x1) - (1 : Int32)) / (x1)))
    else
    (F_X11_roundedUp_15 fu V ((0 : Int32)))
def F_X10_stuffCost_41 (fu : Nat) (V : St) (s0 : Int32) : RR :=
  some (s0, V)
def f_X10_stuffCost (fu : Nat) (V : St) (x0 : Int32) : RR :=
  gd (¬ x0 < 0 ∧ (x0).toNatClampNeg < cntV V 2105) <| if (V 2003 (x0).toNatClampNeg 0) < 0 then
    (if (V 2001 (x0).toNatClampNeg 0) = (1 : Int32) then
      (F_X10_stuffCost_41 fu V ((V 2005 (x0).toNatClampNeg 0)))
      else
      (F_X10_stuffCost_41 fu V ((0 : Int32))))
    else
    (gd (¬ (V 2003 (x0).toNatClampNeg 0) < 0 ∧ ((V 2003 (x0).toNatClampNeg 0)).toNatClampNeg < cntV V 2103) <| bd (f_X11_roundedUp fu V ((V 2005 (x0).toNatClampNeg 0) * (V 1003 ((V 2003 (x0).toNatClampNeg 0)).toNatClampNeg 0)) ((36 : Int32))) fun r6 V7 => some (r6, V7))
def F_X10_widest_29 (fu : Nat) (V : St) (x1 : Int32) : RR :=
  some (x1, V)
def F_X10_widest_4 (kh : St → Int32 → Int32 → Int32 → RR) (kx29 : St → Int32 → RR) (fu : Nat) (V : St) (x0 : Int32) (x1 : Int32) (x2 : Int32) : RR :=
  gd (¬ x0 < 0 ∧ (x0).toNatClampNeg < cntV V 2105) <| if (V 2009 (x0).toNatClampNeg 0) ≤ x2 then
    (kx29 V (x1))
    else
    (gd (¬ (x2 < 0 ∨ lenV V 1002090 ((x0).toNatClampNeg) ≤ (x2).toNatClampNeg)) <| kh V (x0) ((if x1 < (V 2008 ((x0).toNatClampNeg) (x2).toNatClampNeg) then (V 2008 ((x0).toNatClampNeg) (x2).toNatClampNeg) else x1)) (x2 + 1))
def Lp_X10_widest_4 (kx29 : St → Int32 → RR) (fu : Nat) : Nat → St → Int32 → Int32 → Int32 → RR
  | 0, _, _, _, _ => none
  | n + 1, V, x0, x1, x2 => F_X10_widest_4 (Lp_X10_widest_4 kx29 fu n) kx29 fu V x0 x1 x2
def f_X10_widest (fu : Nat) (V : St) (x0 : Int32) : RR :=
  Lp_X10_widest_4 (F_X10_widest_29 fu) fu fu V (x0) ((0 : Int32)) ((0 : Int32))
def F_X4_counts_39 (fu : Nat) (V : St) (s0 : Int32) : RR :=
  gd (s0 = 0 ∨ s0 = 1) <| some (s0, V)
def F_X4_counts_38 (fu : Nat) (V : St) : RR :=
  F_X4_counts_39 fu V ((0 : Int32))
def f_X4_counts (fu : Nat) (V : St) (x1 : Int32) (x2 : Int32) (x3 : Int32) : RR :=
  gd (¬ (x1 < 0 ∨ 30 ≤ (x1).toNatClampNeg)) <| if ((V 1402 (0) (x1).toNatClampNeg) >>> (x2 &&& 31)) &&& (1 : Int32) = (1 : Int32) then
    (gd (¬ x1 < 0 ∧ (x1).toNatClampNeg < cntV V 1401) <| gd (¬ (x2 < 0 ∨ lenV V 1001704 ((x1).toNatClampNeg) ≤ (x2).toNatClampNeg)) <| if (V 1705 ((x1).toNatClampNeg) (x2).toNatClampNeg) = x3 then
      (F_X4_counts_39 fu V ((1 : Int32)))
      else
      (F_X4_counts_38 fu V))
    else
    (F_X4_counts_38 fu V)
def f_X4_pop (fu : Nat) (V : St) : RR :=
  if 0 < (V 1405 0 0) then
    (bv (setV V 1405 0 0 ((V 1405 0 0) - (1 : Int32))) fun V2 => gd (¬ ((V2 1405 0 0) < 0 ∨ 160 ≤ ((V2 1405 0 0)).toNatClampNeg)) <| some ((V2 1404 (0) ((V2 1405 0 0)).toNatClampNeg), V2))
    else
    (some ((0 : Int32), V))
def F_X4_push_32 (fu : Nat) (V : St) : RR :=
  some (0, V)
def f_X4_push (fu : Nat) (V : St) (x1 : Int32) : RR :=
  if (nI (lenV V 160 (0))) ≤ (V 1405 0 0) then
    (F_X4_push_32 fu V)
    else
    (gd (¬ ((V 1405 0 0) < 0 ∨ 160 ≤ ((V 1405 0 0)).toNatClampNeg)) <| bv (setV V 1404 (0) ((V 1405 0 0)).toNatClampNeg (x1)) fun V3 => bv (setV V3 1405 0 0 ((V3 1405 0 0) + (1 : Int32))) fun V5 => F_X4_push_32 fu V5)
def F_X4_join_180 (fu : Nat) (V : St) : RR :=
  some (0, V)
def F_X4_join_177 (fu : Nat) (V : St) (s0 : Int32) : RR :=
  bd (f_X4_push fu V (s0)) fun r1 V2 => F_X4_join_180 fu V2
def F_X4_join_113 (fu : Nat) (V : St) (s0 : Int32) : RR :=
  gd (s0 = 0 ∨ s0 = 1) <| bv (setV V 1407 0 0 (s0)) fun V2 => F_X4_join_180 fu V2
def F_X4_join_96 (fu : Nat) (V : St) (s0 : Int32) : RR :=
  gd (s0 = 0 ∨ s0 = 1) <| bv (setV V 1407 0 0 (s0)) fun V2 => F_X4_join_180 fu V2
def F_X4_join_79 (fu : Nat) (V : St) (s0 : Int32) : RR :=
  gd (s0 = 0 ∨ s0 = 1) <| bv (setV V 1407 0 0 (s0)) fun V2 => F_X4_join_180 fu V2
def f_X4_join (fu : Nat) (V : St) (x1 : Int32) : RR :=
  bd (f_X4_pop fu V) fun r1 V2 => bd (f_X4_pop fu V2) fun r4 V5 => if x1 = 42 then (bd (f_X4_push fu V5 (r4 * r1)) fun r8 V9 => F_X4_join_180 fu V9) else
    if x1 = 43 then (bd (f_X4_push fu V5 (r4 + r1)) fun r12 V13 => F_X4_join_180 fu V13) else
    if x1 = 45 then (bd (f_X4_push fu V5 (r4 - r1)) fun r16 V17 => F_X4_join_180 fu V17) else
    if x1 = 60 then (if r1 ≤ r4 then
      (F_X4_join_79 fu V5 ((0 : Int32)))
      else
      (F_X4_join_79 fu V5 ((1 : Int32)))) else
    if x1 = 61 then (if r4 = r1 then
      (F_X4_join_113 fu V5 ((1 : Int32)))
      else
      (F_X4_join_113 fu V5 ((0 : Int32)))) else
    if x1 = 62 then (if r4 ≤ r1 then
      (F_X4_join_96 fu V5 ((0 : Int32)))
      else
      (F_X4_join_96 fu V5 ((1 : Int32)))) else
    if r1 = 0 then
    (bv (setV V5 1408 0 0 ((1 : Int32))) fun V24 => F_X4_join_180 fu V24)
    else
    (if x1 = (47 : Int32) then
      (gd (¬ r1 = 0) <| F_X4_join_177 fu V5 ((r4) / (r1)))
      else
      (gd (¬ r1 = 0) <| F_X4_join_177 fu V5 ((r4) - (r4) / (r1) * (r1))))
def F_X4_step_166 (fu : Nat) (V : St) : RR :=
  some (0, V)
def F_X4_step_155 (fu : Nat) (V : St) (s0 : Int32) : RR :=
  bv (setV V 1406 0 0 (s0)) fun V1 => F_X4_step_166 fu V1
def F_X4_step_133 (fu : Nat) (V : St) (s0 : Int32) : RR :=
  bv (setV V 1406 0 0 (s0)) fun V1 => F_X4_step_166 fu V1
def F_X4_step_111 (fu : Nat) (V : St) (s0 : Int32) : RR :=
  gd (s0 = 0 ∨ s0 = 1) <| bv (setV V 1407 0 0 (s0)) fun V2 => F_X4_step_166 fu V2
def F_X4_step_92 (fu : Nat) (V : St) (s0 : Int32) : RR :=
  bd (f_X4_push fu V (s0)) fun r1 V2 => F_X4_step_166 fu V2
def f_X4_step (fu : Nat) (V : St) (x1 : Int32) : RR :=
  if x1 &&& (255 : Int32) = 33 then (if (V 1407 0 0) = 0 then
      (F_X4_step_111 fu V ((1 : Int32)))
      else
      (F_X4_step_111 fu V ((0 : Int32)))) else
    if x1 &&& (255 : Int32) = 35 then (bd (f_X4_push fu V (x1 >>> ((8 : Int32) &&& 31))) fun r3 V4 => F_X4_step_166 fu V4) else
    if x1 &&& (255 : Int32) = 38 then (if (V 1407 0 0) = 0 then
      (F_X4_step_133 fu V (x1 >>> ((8 : Int32) &&& 31)))
      else
      (F_X4_step_133 fu V ((V 1406 0 0)))) else
    if x1 &&& (255 : Int32) = 64 then (if (nI (lenV V 9 (0))) ≤ x1 >>> ((8 : Int32) &&& 31) then
      (F_X4_step_92 fu V ((0 : Int32)))
      else
      (gd (¬ (x1 >>> ((8 : Int32) &&& 31) < 0 ∨ 9 ≤ (x1 >>> ((8 : Int32) &&& 31)).toNatClampNeg)) <| F_X4_step_92 fu V ((V 1403 (0) (x1 >>> ((8 : Int32) &&& 31)).toNatClampNeg)))) else
    if x1 &&& (255 : Int32) = 124 then (if (V 1407 0 0) = 0 then
      (F_X4_step_155 fu V ((V 1406 0 0)))
      else
      (F_X4_step_155 fu V (x1 >>> ((8 : Int32) &&& 31)))) else
    bd (f_X4_join fu V (x1 &&& (255 : Int32))) fun r10 V11 => F_X4_step_166 fu V11
def F_X4_holds_103 (fu : Nat) (V : St) (s0 : Int32) : RR :=
  gd (s0 = 0 ∨ s0 = 1) <| some (s0, V)
def F_X4_holds_102 (fu : Nat) (V : St) : RR :=
  F_X4_holds_103 fu V ((0 : Int32))
def F_X4_holds_84 (fu : Nat) (V : St) : RR :=
  if (V 1407 0 0) = 0 then
    (F_X4_holds_102 fu V)
    else
    (if (V 1408 0 0) = 0 then
      (F_X4_holds_103 fu V ((1 : Int32)))
      else
      (F_X4_holds_102 fu V))
def F_X4_holds_78 (kh : St → Int32 → Int32 → Int32 → RR) (kx84 : St → RR) (fu : Nat) (V : St) (x1 : Int32) (x2 : Int32) (x4 : Int32) : RR :=
  kh V (x1) (x2) (x4 + 1)
def F_X4_holds_40 (kh : St → Int32 → Int32 → Int32 → RR) (kx84 : St → RR) (fu : Nat) (V : St) (x1 : Int32) (x2 : Int32) (x4 : Int32) : RR :=
  gd (¬ x1 < 0 ∧ (x1).toNatClampNeg < cntV V 1401) <| gd (¬ (x2 < 0 ∨ lenV V 1001704 ((x1).toNatClampNeg) ≤ (x2).toNatClampNeg)) <| if (V 1708 ((x1).toNatClampNeg) (x2).toNatClampNeg) ≤ x4 then
    (kx84 V)
    else
    (if (V 1408 0 0) = 0 then
      (if x4 < (V 1406 0 0) then
        (F_X4_holds_78 kh kx84 fu V (x1) (x2) (x4))
        else
        (gd (¬ (x4 < 0 ∨ lenV V 1001790 ((x1).toNatClampNeg) ≤ (x4).toNatClampNeg)) <| bd (f_X4_step fu V ((V 1709 ((x1).toNatClampNeg) (x4).toNatClampNeg))) fun r8 V9 => F_X4_holds_78 kh kx84 fu V9 (x1) (x2) (x4)))
      else
      (kx84 V))
def Lp_X4_holds_40 (kx84 : St → RR) (fu : Nat) : Nat → St → Int32 → Int32 → Int32 → RR
  | 0, _, _, _, _ => none
  | n + 1, V, x1, x2, x4 => F_X4_holds_40 (Lp_X4_holds_40 kx84 fu n) kx84 fu V x1 x2 x4
def F_X4_holds_16 (fu : Nat) (V : St) (x1 : Int32) (x2 : Int32) (s0 : Int32) : RR :=
  bv (setV V 1405 0 0 ((0 : Int32))) fun V1 => bv (setV V1 1406 0 0 (s0)) fun V3 => bv (setV V3 1407 0 0 ((0 : Int32))) fun V5 => bv (setV V5 1408 0 0 ((0 : Int32))) fun V7 => Lp_X4_holds_40 (F_X4_holds_84 fu) fu fu V7 (x1) (x2) (s0)
def f_X4_holds (fu : Nat) (V : St) (x1 : Int32) (x2 : Int32) : RR :=
  if x2 = 0 then
    (F_X4_holds_16 fu V (x1) (x2) ((0 : Int32)))
    else
    (gd (¬ x1 < 0 ∧ (x1).toNatClampNeg < cntV V 1401) <| gd (¬ (x2 - (1 : Int32) < 0 ∨ lenV V 1001704 ((x1).toNatClampNeg) ≤ (x2 - (1 : Int32)).toNatClampNeg)) <| F_X4_holds_16 fu V (x1) (x2) ((V 1708 ((x1).toNatClampNeg) (x2 - (1 : Int32)).toNatClampNeg)))
def F_X4_lastNumber_80 (fu : Nat) (V : St) : RR :=
  some ((-1 : Int32), V)
def F_X4_lastNumber_74 (kh : St → Int32 → Int32 → RR) (kx60 : St → Int32 → Int32 → RR) (kx80 : St → RR) (fu : Nat) (V : St) (x1 : Int32) (x2 : Int32) : RR :=
  kh V (x1) (x2 + (-1))
def F_X4_lastNumber_68 (kh : St → Int32 → Int32 → Int32 → Int32 → RR) (kx60 : St → Int32 → Int32 → RR) (kx74 : St → Int32 → Int32 → RR) (fu : Nat) (V : St) (x1 : Int32) (x2 : Int32) (x3 : Int32) (x4 : Int32) : RR :=
  kh V (x1) (x2) (x3) (x4 + (-1))
def F_X4_lastNumber_60 (fu : Nat) (V : St) (x3 : Int32) (x4 : Int32) : RR :=
  gd (¬ x3 < 0 ∧ (x3).toNatClampNeg < cntV V 1401) <| gd (¬ (x4 < 0 ∨ lenV V 1001704 ((x3).toNatClampNeg) ≤ (x4).toNatClampNeg)) <| some ((V 1706 ((x3).toNatClampNeg) (x4).toNatClampNeg), V)
def F_X4_lastNumber_34 (kh : St → Int32 → Int32 → Int32 → Int32 → RR) (kx60 : St → Int32 → Int32 → RR) (kx74 : St → Int32 → Int32 → RR) (fu : Nat) (V : St) (x1 : Int32) (x2 : Int32) (x3 : Int32) (x4 : Int32) : RR :=
  if x4 < 0 then
    (kx74 V (x1) (x2))
    else
    (bd (f_X4_counts fu V (x2) (x4) (x1)) fun r2 V3 => if r2 = 0 then
      (F_X4_lastNumber_68 kh kx60 kx74 fu V3 (x1) (x2) (x3) (x4))
      else
      (bd (f_X4_holds fu V3 (x3) (x4)) fun r6 V7 => if r6 = 0 then
        (F_X4_lastNumber_68 kh kx60 kx74 fu V7 (x1) (x2) (x3) (x4))
        else
        (kx60 V7 (x3) (x4))))
def Lp_X4_lastNumber_34 (kx60 : St → Int32 → Int32 → RR) (kx74 : St → Int32 → Int32 → RR) (fu : Nat) : Nat → St → Int32 → Int32 → Int32 → Int32 → RR
  | 0, _, _, _, _, _ => none
  | n + 1, V, x1, x2, x3, x4 => F_X4_lastNumber_34 (Lp_X4_lastNumber_34 kx60 kx74 fu n) kx60 kx74 fu V x1 x2 x3 x4
def F_X4_lastNumber_10 (kh : St → Int32 → Int32 → RR) (kx60 : St → Int32 → Int32 → RR) (kx80 : St → RR) (fu : Nat) (V : St) (x1 : Int32) (x2 : Int32) : RR :=
  if x2 < 0 then
    (kx80 V)
    else
    (gd (¬ x2 < 0 ∧ (x2).toNatClampNeg < cntV V 1401) <| Lp_X4_lastNumber_34 kx60 (F_X4_lastNumber_74 kh kx60 kx80 fu) fu fu V (x1) (x2) (x2) ((V 1704 (x2).toNatClampNeg 0) - (1 : Int32)))
def Lp_X4_lastNumber_10 (kx60 : St → Int32 → Int32 → RR) (kx80 : St → RR) (fu : Nat) : Nat → St → Int32 → Int32 → RR
  | 0, _, _, _ => none
  | n + 1, V, x1, x2 => F_X4_lastNumber_10 (Lp_X4_lastNumber_10 kx60 kx80 fu n) kx60 kx80 fu V x1 x2
def f_X4_lastNumber (fu : Nat) (V : St) (x1 : Int32) : RR :=
  Lp_X4_lastNumber_10 (F_X4_lastNumber_60 fu) (F_X4_lastNumber_80 fu) fu fu V (x1) ((V 1401 0 0) - (1 : Int32))
def F_X4_setLetters_167 (fu : Nat) (V : St) (s0 : Int32) (s1 : Int32) : RR :=
  gd (¬ (s1 < 0 ∨ 9 ≤ (s1).toNatClampNeg)) <| bv (setV V 1403 (0) (s1).toNatClampNeg (s0)) fun V2 => some (0, V2)
def F_X4_setLetters_148 (fu : Nat) (V : St) (x3 : Int32) (s0 : Int32) (s1 : Int32) : RR :=
  gd (¬ (s1 < 0 ∨ 9 ≤ (s1).toNatClampNeg)) <| bv (setV V 1403 (0) (s1).toNatClampNeg (s0)) fun V2 => if x3 < 0 then
    (F_X4_setLetters_167 fu V2 ((0 : Int32)) ((8 : Int32)))
    else
    (gd (¬ x3 < 0 ∧ (x3).toNatClampNeg < cntV V2 2106) <| F_X4_setLetters_167 fu V2 ((V2 1603 (x3).toNatClampNeg 0)) ((8 : Int32)))
def F_X4_setLetters_143 (fu : Nat) (V : St) (x3 : Int32) (s0 : Int32) : RR :=
  F_X4_setLetters_148 fu V (x3) ((0 : Int32)) (s0)
def F_X4_setLetters_125 (fu : Nat) (V : St) (x3 : Int32) (s0 : Int32) (s1 : Int32) : RR :=
  gd (¬ (s1 < 0 ∨ 9 ≤ (s1).toNatClampNeg)) <| bv (setV V 1403 (0) (s1).toNatClampNeg (s0)) fun V2 => if x3 < 0 then
    (F_X4_setLetters_143 fu V2 (x3) ((7 : Int32)))
    else
    (gd (¬ x3 < 0 ∧ (x3).toNatClampNeg < cntV V2 2106) <| if (V2 1607 (x3).toNatClampNeg 0) = 0 then
      (F_X4_setLetters_143 fu V2 (x3) ((7 : Int32)))
      else
      (F_X4_setLetters_148 fu V2 (x3) ((1 : Int32)) ((7 : Int32))))
def F_X4_setLetters_106 (fu : Nat) (V : St) (x3 : Int32) (s0 : Int32) (s1 : Int32) : RR :=
  gd (¬ (s1 < 0 ∨ 9 ≤ (s1).toNatClampNeg)) <| bv (setV V 1403 (0) (s1).toNatClampNeg (s0)) fun V2 => if x3 < 0 then
    (F_X4_setLetters_125 fu V2 (x3) ((0 : Int32)) ((6 : Int32)))
    else
    (gd (¬ x3 < 0 ∧ (x3).toNatClampNeg < cntV V2 2106) <| F_X4_setLetters_125 fu V2 (x3) ((V2 1601 (x3).toNatClampNeg 0)) ((6 : Int32)))
def F_X4_setLetters_95 (fu : Nat) (V : St) (x3 : Int32) (s0 : Int32) : RR :=
  F_X4_setLetters_106 fu V (x3) ((0 : Int32)) (s0)
def F_X4_setLetters_78 (fu : Nat) (V : St) (x2 : Int32) (x3 : Int32) (s0 : Int32) (s1 : Int32) : RR :=
  gd (¬ (s1 < 0 ∨ 9 ≤ (s1).toNatClampNeg)) <| bv (setV V 1403 (0) (s1).toNatClampNeg (s0)) fun V2 => if x2 < 0 then
    (F_X4_setLetters_95 fu V2 (x3) ((5 : Int32)))
    else
    (gd (¬ x2 < 0 ∧ (x2).toNatClampNeg < cntV V2 2105) <| if (V2 2003 (x2).toNatClampNeg 0) < 0 then
      (F_X4_setLetters_95 fu V2 (x3) ((5 : Int32)))
      else
      (gd (¬ (V2 2003 (x2).toNatClampNeg 0) < 0 ∧ ((V2 2003 (x2).toNatClampNeg 0)).toNatClampNeg < cntV V2 2103) <| F_X4_setLetters_106 fu V2 (x3) ((V2 1002 ((V2 2003 (x2).toNatClampNeg 0)).toNatClampNeg 0)) ((5 : Int32))))
def F_X4_setLetters_60 (fu : Nat) (V : St) (x2 : Int32) (x3 : Int32) (s0 : Int32) (s1 : Int32) : RR :=
  gd (¬ (s1 < 0 ∨ 9 ≤ (s1).toNatClampNeg)) <| bv (setV V 1403 (0) (s1).toNatClampNeg (s0)) fun V2 => if x2 < 0 then
    (F_X4_setLetters_78 fu V2 (x2) (x3) ((0 : Int32)) ((4 : Int32)))
    else
    (gd (¬ x2 < 0 ∧ (x2).toNatClampNeg < cntV V2 2105) <| F_X4_setLetters_78 fu V2 (x2) (x3) ((V2 2005 (x2).toNatClampNeg 0)) ((4 : Int32)))
def F_X4_setLetters_42 (fu : Nat) (V : St) (x2 : Int32) (x3 : Int32) (s0 : Int32) (s1 : Int32) : RR :=
  gd (¬ (s1 < 0 ∨ 9 ≤ (s1).toNatClampNeg)) <| bv (setV V 1403 (0) (s1).toNatClampNeg (s0)) fun V2 => if x2 < 0 then
    (F_X4_setLetters_60 fu V2 (x2) (x3) ((0 : Int32)) ((3 : Int32)))
    else
    (gd (¬ x2 < 0 ∧ (x2).toNatClampNeg < cntV V2 2105) <| F_X4_setLetters_60 fu V2 (x2) (x3) ((V2 2004 (x2).toNatClampNeg 0)) ((3 : Int32)))
def F_X4_setLetters_24 (fu : Nat) (V : St) (x2 : Int32) (x3 : Int32) (s0 : Int32) (s1 : Int32) : RR :=
  gd (¬ (s1 < 0 ∨ 9 ≤ (s1).toNatClampNeg)) <| bv (setV V 1403 (0) (s1).toNatClampNeg (s0)) fun V2 => if x2 < 0 then
    (F_X4_setLetters_42 fu V2 (x2) (x3) ((0 : Int32)) ((2 : Int32)))
    else
    (gd (¬ x2 < 0 ∧ (x2).toNatClampNeg < cntV V2 2105) <| bd (f_X10_sign fu V2 (x2)) fun r5 V6 => F_X4_setLetters_42 fu V6 (x2) (x3) (r5) ((2 : Int32)))
def f_X4_setLetters (fu : Nat) (V : St) (x1 : Int32) (x2 : Int32) (x3 : Int32) : RR :=
  gd (¬ ((0 : Int32) < 0 ∨ 9 ≤ ((0 : Int32)).toNatClampNeg)) <| bv (setV V 1403 (0) ((0 : Int32)).toNatClampNeg (x1)) fun V2 => if x2 < 0 then
    (F_X4_setLetters_24 fu V2 (x2) (x3) ((0 : Int32)) ((1 : Int32)))
    else
    (gd (¬ x2 < 0 ∧ (x2).toNatClampNeg < cntV V2 2105) <| F_X4_setLetters_24 fu V2 (x2) (x3) ((V2 2001 (x2).toNatClampNeg 0)) ((1 : Int32)))
def F_X4_weigh_209 (fu : Nat) (V : St) : RR :=
  some (0, V)
def F_X4_weigh_203 (kh : St → Int32 → RR) (kx209 : St → RR) (fu : Nat) (V : St) (x4 : Int32) : RR :=
  kh V (x4 + (-1))
def F_X4_weigh_197 (kh : St → Int32 → Int32 → Int32 → RR) (kx203 : St → Int32 → RR) (fu : Nat) (V : St) (x4 : Int32) (x5 : Int32) (x6 : Int32) : RR :=
  kh V (x4) (x5) (x6 + 1)
def F_X4_weigh_133 (kh : St → Int32 → Int32 → Int32 → RR) (kx203 : St → Int32 → RR) (fu : Nat) (V : St) (x4 : Int32) (x5 : Int32) (x6 : Int32) : RR :=
  gd (¬ x5 < 0 ∧ (x5).toNatClampNeg < cntV V 1401) <| if (V 1704 (x5).toNatClampNeg 0) ≤ x6 then
    (kx203 V (x4))
    else
    (bd (f_X4_counts fu V (x4) (x6) ((120 : Int32))) fun r4 V5 => if r4 = 0 then
      (F_X4_weigh_197 kh kx203 fu V5 (x4) (x5) (x6))
      else
      (gd (¬ x5 < 0 ∧ (x5).toNatClampNeg < cntV V5 1401) <| gd (¬ (x6 < 0 ∨ lenV V5 1001704 ((x5).toNatClampNeg) ≤ (x6).toNatClampNeg)) <| if x4 ≤ (V5 1706 ((x5).toNatClampNeg) (x6).toNatClampNeg) then
        (F_X4_weigh_197 kh kx203 fu V5 (x4) (x5) (x6))
        else
        (gd (¬ (x6 < 0 ∨ lenV V5 1001704 ((x5).toNatClampNeg) ≤ (x6).toNatClampNeg)) <| gd (¬ ((V5 1706 ((x5).toNatClampNeg) (x6).toNatClampNeg) < 0 ∨ 30 ≤ ((V5 1706 ((x5).toNatClampNeg) (x6).toNatClampNeg)).toNatClampNeg)) <| gd (¬ (x6 < 0 ∨ lenV V5 1001704 ((x5).toNatClampNeg) ≤ (x6).toNatClampNeg)) <| gd (¬ ((V5 1706 ((x5).toNatClampNeg) (x6).toNatClampNeg) < 0 ∨ 30 ≤ ((V5 1706 ((x5).toNatClampNeg) (x6).toNatClampNeg)).toNatClampNeg)) <| bv (setV V5 1402 (0) ((V5 1706 ((x5).toNatClampNeg) (x6).toNatClampNeg)).toNatClampNeg ((V5 1402 (0) ((V5 1706 ((x5).toNatClampNeg) (x6).toNatClampNeg)).toNatClampNeg) &&& (((1 : Int32) <<< ((V5 1707 ((x5).toNatClampNeg) (x6).toNatClampNeg) &&& 31)) ^^^ (-1 : Int32)))) fun V16 => F_X4_weigh_197 kh kx203 fu V16 (x4) (x5) (x6))))
def Lp_X4_weigh_133 (kx203 : St → Int32 → RR) (fu : Nat) : Nat → St → Int32 → Int32 → Int32 → RR
  | 0, _, _, _, _ => none
  | n + 1, V, x4, x5, x6 => F_X4_weigh_133 (Lp_X4_weigh_133 kx203 fu n) kx203 fu V x4 x5 x6
def F_X4_weigh_111 (kh : St → Int32 → RR) (kx209 : St → RR) (fu : Nat) (V : St) (x4 : Int32) : RR :=
  if x4 < 0 then
    (kx209 V)
    else
    (gd (¬ x4 < 0 ∧ (x4).toNatClampNeg < cntV V 1401) <| Lp_X4_weigh_133 (F_X4_weigh_203 kh kx209 fu) fu fu V (x4) (x4) ((0 : Int32)))
def Lp_X4_weigh_111 (kx209 : St → RR) (fu : Nat) : Nat → St → Int32 → RR
  | 0, _, _ => none
  | n + 1, V, x4 => F_X4_weigh_111 (Lp_X4_weigh_111 kx209 fu n) kx209 fu V x4
def F_X4_weigh_100 (fu : Nat) (V : St) : RR :=
  Lp_X4_weigh_111 (F_X4_weigh_209 fu) fu fu V ((V 1401 0 0) - (1 : Int32))
def F_X4_weigh_93 (kh : St → Int32 → Int32 → Int32 → Int32 → RR) (kx100 : St → RR) (fu : Nat) (V : St) (x1 : Int32) (x2 : Int32) (x3 : Int32) (x4 : Int32) (s0 : Int32) (s1 : Int32) : RR :=
  gd (¬ (s1 < 0 ∨ 30 ≤ (s1).toNatClampNeg)) <| bv (setV V 1402 (0) (s1).toNatClampNeg (s0)) fun V2 => kh V2 (x1) (x2) (x3) (x4 + 1)
def F_X4_weigh_92 (kh : St → Int32 → Int32 → Int32 → Int32 → RR) (kx100 : St → RR) (fu : Nat) (V : St) (x1 : Int32) (x2 : Int32) (x3 : Int32) (x4 : Int32) (s0 : Int32) : RR :=
  F_X4_weigh_93 kh kx100 fu V (x1) (x2) (x3) (x4) ((0 : Int32)) (s0)
def F_X4_weigh_61 (kh : St → Int32 → Int32 → Int32 → Int32 → RR) (kx100 : St → RR) (fu : Nat) (V : St) (x1 : Int32) (x2 : Int32) (x3 : Int32) (x4 : Int32) (x5 : Int32) (s0 : Int32) : RR :=
  if s0 = 0 then
    (F_X4_weigh_92 kh kx100 fu V (x1) (x2) (x3) (x4) (x4))
    else
    (if x4 = x3 then
      (F_X4_weigh_92 kh kx100 fu V (x1) (x2) (x3) (x4) (x4))
      else
      (gd (¬ x5 < 0 ∧ (x5).toNatClampNeg < cntV V 1401) <| F_X4_weigh_93 kh kx100 fu V (x1) (x2) (x3) (x4) (((1 : Int32) <<< ((V 1704 (x5).toNatClampNeg 0) &&& 31)) - (1 : Int32)) (x4)))
def F_X4_weigh_60 (kh : St → Int32 → Int32 → Int32 → Int32 → RR) (kx100 : St → RR) (fu : Nat) (V : St) (x1 : Int32) (x2 : Int32) (x3 : Int32) (x4 : Int32) (x5 : Int32) : RR :=
  F_X4_weigh_61 kh kx100 fu V (x1) (x2) (x3) (x4) (x5) ((0 : Int32))
def F_X4_weigh_3 (kh : St → Int32 → Int32 → Int32 → Int32 → RR) (kx100 : St → RR) (fu : Nat) (V : St) (x1 : Int32) (x2 : Int32) (x3 : Int32) (x4 : Int32) : RR :=
  if (V 1401 0 0) ≤ x4 then
    (kx100 V)
    else
    (gd (¬ x4 < 0 ∧ (x4).toNatClampNeg < cntV V 1401) <| if x2 < (V 1703 (x4).toNatClampNeg 0) then
      (F_X4_weigh_60 kh kx100 fu V (x1) (x2) (x3) (x4) (x4))
      else
      (if x1 < (V 1701 (x4).toNatClampNeg 0) then
        (F_X4_weigh_60 kh kx100 fu V (x1) (x2) (x3) (x4) (x4))
        else
        (if (V 1702 (x4).toNatClampNeg 0) < x1 then
          (F_X4_weigh_60 kh kx100 fu V (x1) (x2) (x3) (x4) (x4))
          else
          (F_X4_weigh_61 kh kx100 fu V (x1) (x2) (x3) (x4) (x4) ((1 : Int32))))))
def Lp_X4_weigh_3 (kx100 : St → RR) (fu : Nat) : Nat → St → Int32 → Int32 → Int32 → Int32 → RR
  | 0, _, _, _, _, _ => none
  | n + 1, V, x1, x2, x3, x4 => F_X4_weigh_3 (Lp_X4_weigh_3 kx100 fu n) kx100 fu V x1 x2 x3 x4
def f_X4_weigh (fu : Nat) (V : St) (x1 : Int32) (x2 : Int32) (x3 : Int32) : RR :=
  Lp_X4_weigh_3 (F_X4_weigh_100 fu) fu fu V (x1) (x2) (x3) ((0 : Int32))
def f_X11_askNow (fu : Nat) (V : St) (x1 : Int32) (x2 : Int32) (x3 : Int32) : RR :=
  bd (f_X4_weigh fu V ((V 2101 0 0)) ((V 2101 0 0)) ((-1 : Int32))) fun r1 V2 => bd (f_X4_setLetters fu V2 ((V2 2101 0 0)) (x2) (x3)) fun r4 V5 => bd (f_X4_lastNumber fu V5 (x1)) fun r7 V8 => some (r7, V8)
def F_X11_findDrawing_32 (fu : Nat) (V : St) (s0 : Int32) : RR :=
  some (s0, V)
def f_X11_findDrawing (fu : Nat) (V : St) (x1 : Int32) : RR :=
  bd (f_X11_within fu V (x1) ((0 : Int32)) ((V 2104 0 0) - (1 : Int32))) fun r1 V2 => if r1 = 0 then
    (F_X11_findDrawing_32 fu V2 ((-1)))
    else
    (gd (¬ x1 < 0 ∧ (x1).toNatClampNeg < cntV V2 2104) <| F_X11_findDrawing_32 fu V2 (x1))
def F_X2_addCut_100 (fu : Nat) (V : St) : RR :=
  some (0, V)
def F_X2_addCut_40 (fu : Nat) (V : St) (x0 : Int32) (x1 : Int32) (x2 : Int32) : RR :=
  gd (¬ x0 < 0 ∧ (x0).toNatClampNeg < cntV V 2104) <| if (127 : Int32) ≤ (V 1214 (x0).toNatClampNeg 0) then
    (F_X2_addCut_100 fu V)
    else
    (gd (¬ ((V 1214 (x0).toNatClampNeg 0) < 0 ∨ 127 ≤ ((V 1214 (x0).toNatClampNeg 0)).toNatClampNeg)) <| bv (setV V 1207 ((x0).toNatClampNeg) ((V 1214 (x0).toNatClampNeg 0)).toNatClampNeg (x1)) fun V5 => gd (¬ ((V5 1214 (x0).toNatClampNeg 0) < 0 ∨ 127 ≤ ((V5 1214 (x0).toNatClampNeg 0)).toNatClampNeg)) <| bv (setV V5 1208 ((x0).toNatClampNeg) ((V5 1214 (x0).toNatClampNeg 0)).toNatClampNeg (x2)) fun V9 => gd (¬ ((2 : Int32) < 0 ∨ 3 ≤ ((2 : Int32)).toNatClampNeg)) <| bd (f_J6_bitCount_0f7a4 fu V9 (x1)) fun r13 V14 => gd (¬ x0 < 0 ∧ (x0).toNatClampNeg < cntV V14 2104) <| gd (¬ ((V9 1214 (x0).toNatClampNeg 0) < 0 ∨ 127 ≤ ((V9 1214 (x0).toNatClampNeg 0)).toNatClampNeg)) <| bv (setV V14 1209 ((x0).toNatClampNeg) ((V9 1214 (x0).toNatClampNeg 0)).toNatClampNeg (((gT0 ((2 : Int32))) * r13) - x2)) fun V19 => bv (setV V19 1214 (x0).toNatClampNeg 0 ((V19 1214 (x0).toNatClampNeg 0) + (1 : Int32))) fun V22 => F_X2_addCut_100 fu V22)
def F_X2_addCut_34 (kh : St → Int32 → Int32 → Int32 → Int32 → RR) (kx33 : St → RR) (kx40 : St → Int32 → Int32 → Int32 → RR) (fu : Nat) (V : St) (x0 : Int32) (x1 : Int32) (x2 : Int32) (x3 : Int32) : RR :=
  kh V (x0) (x1) (x2) (x3 + 1)
def F_X2_addCut_33 (fu : Nat) (V : St) : RR :=
  some (0, V)
def F_X2_addCut_2 (kh : St → Int32 → Int32 → Int32 → Int32 → RR) (kx33 : St → RR) (kx40 : St → Int32 → Int32 → Int32 → RR) (fu : Nat) (V : St) (x0 : Int32) (x1 : Int32) (x2 : Int32) (x3 : Int32) : RR :=
  gd (¬ x0 < 0 ∧ (x0).toNatClampNeg < cntV V 2104) <| if (V 1214 (x0).toNatClampNeg 0) ≤ x3 then
    (kx40 V (x0) (x1) (x2))
    else
    (gd (¬ (x3 < 0 ∨ 127 ≤ (x3).toNatClampNeg)) <| if (V 1207 ((x0).toNatClampNeg) (x3).toNatClampNeg) &&& (x1 ^^^ (-1 : Int32)) = 0 then
      (gd (¬ (x3 < 0 ∨ 127 ≤ (x3).toNatClampNeg)) <| if (V 1208 ((x0).toNatClampNeg) (x3).toNatClampNeg) < x2 then
        (F_X2_addCut_34 kh kx33 kx40 fu V (x0) (x1) (x2) (x3))
        else
        (kx33 V))
      else
      (F_X2_addCut_34 kh kx33 kx40 fu V (x0) (x1) (x2) (x3)))
def Lp_X2_addCut_2 (kx33 : St → RR) (kx40 : St → Int32 → Int32 → Int32 → RR) (fu : Nat) : Nat → St → Int32 → Int32 → Int32 → Int32 → RR
  | 0, _, _, _, _, _ => none
  | n + 1, V, x0, x1, x2, x3 => F_X2_addCut_2 (Lp_X2_addCut_2 kx33 kx40 fu n) kx33 kx40 fu V x0 x1 x2 x3
def f_X2_addCut (fu : Nat) (V : St) (x0 : Int32) (x1 : Int32) (x2 : Int32) : RR :=
  Lp_X2_addCut_2 (F_X2_addCut_33 fu) (F_X2_addCut_40 fu) fu fu V (x0) (x1) (x2) ((0 : Int32))
def F_X2_greatestLoad_43 (fu : Nat) (V : St) (x2 : Int32) : RR :=
  some (x2, V)
def F_X2_greatestLoad_37 (kh : St → Int32 → Int32 → Int32 → Int32 → RR) (kx43 : St → Int32 → RR) (fu : Nat) (V : St) (x0 : Int32) (x1 : Int32) (x2 : Int32) (x3 : Int32) : RR :=
  kh V (x0) (x1) (x2) (x3 + 1)
def F_X2_greatestLoad_4 (kh : St → Int32 → Int32 → Int32 → Int32 → RR) (kx43 : St → Int32 → RR) (fu : Nat) (V : St) (x0 : Int32) (x1 : Int32) (x2 : Int32) (x3 : Int32) : RR :=
  gd (¬ x0 < 0 ∧ (x0).toNatClampNeg < cntV V 2104) <| if (V 1213 (x0).toNatClampNeg 0) ≤ x3 then
    (kx43 V (x2))
    else
    (gd (¬ (x3 < 0 ∨ 8 ≤ (x3).toNatClampNeg)) <| if (x1 >>> ((V 1205 ((x0).toNatClampNeg) (x3).toNatClampNeg) &&& 31)) &&& (1 : Int32) = (1 : Int32) then
      (gd (¬ (x3 < 0 ∨ 8 ≤ (x3).toNatClampNeg)) <| F_X2_greatestLoad_37 kh kx43 fu V (x0) (x1) ((if x2 < (V 1206 ((x0).toNatClampNeg) (x3).toNatClampNeg) then (V 1206 ((x0).toNatClampNeg) (x3).toNatClampNeg) else x2)) (x3))
      else
      (F_X2_greatestLoad_37 kh kx43 fu V (x0) (x1) (x2) (x3)))
def Lp_X2_greatestLoad_4 (kx43 : St → Int32 → RR) (fu : Nat) : Nat → St → Int32 → Int32 → Int32 → Int32 → RR
  | 0, _, _, _, _, _ => none
  | n + 1, V, x0, x1, x2, x3 => F_X2_greatestLoad_4 (Lp_X2_greatestLoad_4 kx43 fu n) kx43 fu V x0 x1 x2 x3
def f_X2_greatestLoad (fu : Nat) (V : St) (x0 : Int32) (x1 : Int32) : RR :=
  Lp_X2_greatestLoad_4 (F_X2_greatestLoad_43 fu) fu fu V (x0) (x1) ((0 : Int32)) ((0 : Int32))
def F_X2_sticksOutOf_47 (fu : Nat) (V : St) (x2 : Int32) : RR :=
  some (x2, V)
def F_X2_sticksOutOf_41 (kh : St → Int32 → Int32 → Int32 → Int32 → RR) (kx47 : St → Int32 → RR) (fu : Nat) (V : St) (x0 : Int32) (x1 : Int32) (x2 : Int32) (x3 : Int32) : RR :=
  kh V (x0) (x1) (x2) (x3 + 1)
def F_X2_sticksOutOf_4 (kh : St → Int32 → Int32 → Int32 → Int32 → RR) (kx47 : St → Int32 → RR) (fu : Nat) (V : St) (x0 : Int32) (x1 : Int32) (x2 : Int32) (x3 : Int32) : RR :=
  gd (¬ x0 < 0 ∧ (x0).toNatClampNeg < cntV V 2104) <| if (V 1212 (x0).toNatClampNeg 0) ≤ x3 then
    (kx47 V (x2))
    else
    (gd (¬ (x3 < 0 ∨ 8 ≤ (x3).toNatClampNeg)) <| gd (¬ (x3 < 0 ∨ 8 ≤ (x3).toNatClampNeg)) <| if (x1 >>> ((V 1202 ((x0).toNatClampNeg) (x3).toNatClampNeg) &&& 31)) &&& (1 : Int32) = (x1 >>> ((V 1203 ((x0).toNatClampNeg) (x3).toNatClampNeg) &&& 31)) &&& (1 : Int32) then
      (F_X2_sticksOutOf_41 kh kx47 fu V (x0) (x1) (x2) (x3))
      else
      (F_X2_sticksOutOf_41 kh kx47 fu V (x0) (x1) (x2 ||| ((1 : Int32) <<< (x3 &&& 31))) (x3)))
def Lp_X2_sticksOutOf_4 (kx47 : St → Int32 → RR) (fu : Nat) : Nat → St → Int32 → Int32 → Int32 → Int32 → RR
  | 0, _, _, _, _, _ => none
  | n + 1, V, x0, x1, x2, x3 => F_X2_sticksOutOf_4 (Lp_X2_sticksOutOf_4 kx47 fu n) kx47 fu V x0 x1 x2 x3
def f_X2_sticksOutOf (fu : Nat) (V : St) (x0 : Int32) (x1 : Int32) : RR :=
  Lp_X2_sticksOutOf_4 (F_X2_sticksOutOf_47 fu) fu fu V (x0) (x1) ((0 : Int32)) ((0 : Int32))
def F_X2_findCuts_45 (fu : Nat) (V : St) : RR :=
  some (0, V)
def F_X2_findCuts_39 (kh : St → Int32 → Int32 → Int32 → RR) (kx45 : St → RR) (fu : Nat) (V : St) (x0 : Int32) (x1 : Int32) (x2 : Int32) : RR :=
  kh V (x0) (x1) (x2 + 2)
def F_X2_findCuts_14 (kh : St → Int32 → Int32 → Int32 → RR) (kx45 : St → RR) (fu : Nat) (V : St) (x0 : Int32) (x1 : Int32) (x2 : Int32) : RR :=
  if x1 ≤ x2 then
    (kx45 V)
    else
    (gd (¬ x0 < 0 ∧ (x0).toNatClampNeg < cntV V 2104) <| bd (f_X2_greatestLoad fu V (x0) (x2)) fun r2 V3 => if r2 ≤ 0 then
      (F_X2_findCuts_39 kh kx45 fu V3 (x0) (x1) (x2))
      else
      (gd (¬ x0 < 0 ∧ (x0).toNatClampNeg < cntV V3 2104) <| bd (f_X2_sticksOutOf fu V3 (x0) (x2)) fun r8 V9 => gd (¬ x0 < 0 ∧ (x0).toNatClampNeg < cntV V9 2104) <| bd (f_X2_addCut fu V9 (x0) (r8) (r2)) fun r13 V14 => F_X2_findCuts_39 kh kx45 fu V14 (x0) (x1) (x2)))
def Lp_X2_findCuts_14 (kx45 : St → RR) (fu : Nat) : Nat → St → Int32 → Int32 → Int32 → RR
  | 0, _, _, _, _ => none
  | n + 1, V, x0, x1, x2 => F_X2_findCuts_14 (Lp_X2_findCuts_14 kx45 fu n) kx45 fu V x0 x1 x2
def f_X2_findCuts (fu : Nat) (V : St) (x0 : Int32) : RR :=
  gd (¬ x0 < 0 ∧ (x0).toNatClampNeg < cntV V 2104) <| bv (setV V 1214 (x0).toNatClampNeg 0 ((0 : Int32))) fun V3 => Lp_X2_findCuts_14 (F_X2_findCuts_45 fu) fu fu V3 (x0) ((1 : Int32) <<< ((V3 1201 (x0).toNatClampNeg 0) &&& 31)) ((2 : Int32))
def F_X2_isSound_27 (fu : Nat) (V : St) : RR :=
  some ((1 : Int32), V)
def F_X2_isSound_19 (fu : Nat) (V : St) : RR :=
  some ((0 : Int32), V)
def F_X2_isSound_2 (kh : St → Int32 → Int32 → RR) (kx19 : St → RR) (kx27 : St → RR) (fu : Nat) (V : St) (x0 : Int32) (x1 : Int32) : RR :=
  gd (¬ x0 < 0 ∧ (x0).toNatClampNeg < cntV V 2104) <| if (V 1214 (x0).toNatClampNeg 0) ≤ x1 then
    (kx27 V)
    else
    (gd (¬ (x1 < 0 ∨ 127 ≤ (x1).toNatClampNeg)) <| if 0 ≤ (V 1209 ((x0).toNatClampNeg) (x1).toNatClampNeg) then
      (kh V (x0) (x1 + 1))
      else
      (kx19 V))
def Lp_X2_isSound_2 (kx19 : St → RR) (kx27 : St → RR) (fu : Nat) : Nat → St → Int32 → Int32 → RR
  | 0, _, _, _ => none
  | n + 1, V, x0, x1 => F_X2_isSound_2 (Lp_X2_isSound_2 kx19 kx27 fu n) kx19 kx27 fu V x0 x1
def f_X2_isSound (fu : Nat) (V : St) (x0 : Int32) : RR :=
  Lp_X2_isSound_2 (F_X2_isSound_19 fu) (F_X2_isSound_27 fu) fu fu V (x0) ((0 : Int32))
def F_X2_takeFromCuts_40 (fu : Nat) (V : St) : RR :=
  some (0, V)
def F_X2_takeFromCuts_34 (kh : St → Int32 → Int32 → Int32 → Int32 → RR) (kx40 : St → RR) (fu : Nat) (V : St) (x0 : Int32) (x1 : Int32) (x2 : Int32) (x3 : Int32) : RR :=
  kh V (x0) (x1) (x2) (x3 + 1)
def F_X2_takeFromCuts_2 (kh : St → Int32 → Int32 → Int32 → Int32 → RR) (kx40 : St → RR) (fu : Nat) (V : St) (x0 : Int32) (x1 : Int32) (x2 : Int32) (x3 : Int32) : RR :=
  gd (¬ x0 < 0 ∧ (x0).toNatClampNeg < cntV V 2104) <| if (V 1214 (x0).toNatClampNeg 0) ≤ x3 then
    (kx40 V)
    else
    (gd (¬ (x3 < 0 ∨ 127 ≤ (x3).toNatClampNeg)) <| if ((V 1207 ((x0).toNatClampNeg) (x3).toNatClampNeg) >>> (x1 &&& 31)) &&& (1 : Int32) = (1 : Int32) then
      (gd (¬ (x3 < 0 ∨ 127 ≤ (x3).toNatClampNeg)) <| gd (¬ (x3 < 0 ∨ 127 ≤ (x3).toNatClampNeg)) <| bv (setV V 1209 ((x0).toNatClampNeg) (x3).toNatClampNeg ((V 1209 ((x0).toNatClampNeg) (x3).toNatClampNeg) - x2)) fun V8 => F_X2_takeFromCuts_34 kh kx40 fu V8 (x0) (x1) (x2) (x3))
      else
      (F_X2_takeFromCuts_34 kh kx40 fu V (x0) (x1) (x2) (x3)))
def Lp_X2_takeFromCuts_2 (kx40 : St → RR) (fu : Nat) : Nat → St → Int32 → Int32 → Int32 → Int32 → RR
  | 0, _, _, _, _, _ => none
  | n + 1, V, x0, x1, x2, x3 => F_X2_takeFromCuts_2 (Lp_X2_takeFromCuts_2 kx40 fu n) kx40 fu V x0 x1 x2 x3
def f_X2_takeFromCuts (fu : Nat) (V : St) (x0 : Int32) (x1 : Int32) (x2 : Int32) : RR :=
  Lp_X2_takeFromCuts_2 (F_X2_takeFromCuts_40 fu) fu fu V (x0) (x1) (x2) ((0 : Int32))
def F_X2_holdsUp_41 (fu : Nat) (V : St) (x0 : Int32) : RR :=
  gd (¬ x0 < 0 ∧ (x0).toNatClampNeg < cntV V 2104) <| bd (f_X2_isSound fu V (x0)) fun r1 V2 => gd (r1 = 0 ∨ r1 = 1) <| some (r1, V2)
def F_X2_holdsUp_6 (kh : St → Int32 → Int32 → RR) (kx41 : St → Int32 → RR) (fu : Nat) (V : St) (x0 : Int32) (x1 : Int32) : RR :=
  gd (¬ x0 < 0 ∧ (x0).toNatClampNeg < cntV V 2104) <| if (V 1212 (x0).toNatClampNeg 0) ≤ x1 then
    (kx41 V (x0))
    else
    (gd (¬ ((2 : Int32) < 0 ∨ 3 ≤ ((2 : Int32)).toNatClampNeg)) <| gd (¬ (x1 < 0 ∨ 8 ≤ (x1).toNatClampNeg)) <| gd (¬ ((V 1204 ((x0).toNatClampNeg) (x1).toNatClampNeg) < 0 ∨ 3 ≤ ((V 1204 ((x0).toNatClampNeg) (x1).toNatClampNeg)).toNatClampNeg)) <| bd (f_X2_takeFromCuts fu V (x0) (x1) ((gT0 ((2 : Int32))) - (gT0 ((V 1204 ((x0).toNatClampNeg) (x1).toNatClampNeg))))) fun r7 V8 => kh V8 (x0) (x1 + 1))
def Lp_X2_holdsUp_6 (kx41 : St → Int32 → RR) (fu : Nat) : Nat → St → Int32 → Int32 → RR
  | 0, _, _, _ => none
  | n + 1, V, x0, x1 => F_X2_holdsUp_6 (Lp_X2_holdsUp_6 kx41 fu n) kx41 fu V x0 x1
def f_X2_holdsUp (fu : Nat) (V : St) (x0 : Int32) : RR :=
  gd (¬ x0 < 0 ∧ (x0).toNatClampNeg < cntV V 2104) <| bd (f_X2_findCuts fu V (x0)) fun r1 V2 => Lp_X2_holdsUp_6 (F_X2_holdsUp_41 fu) fu fu V2 (x0) ((0 : Int32))
def F_X11_bears_24 (fu : Nat) (V : St) (s0 : Int32) : RR :=
  some (s0, V)
def f_X11_bears (fu : Nat) (V : St) (x1 : Int32) : RR :=
  bd (f_X11_findDrawing fu V (x1)) fun r1 V2 => if r1 < 0 then
    (some ((-1 : Int32), V2))
    else
    (gd (¬ r1 < 0 ∧ (r1).toNatClampNeg < cntV V2 2104) <| bd (f_X2_holdsUp fu V2 (r1)) fun r5 V6 => if r5 = 0 then
      (F_X11_bears_24 fu V6 ((0 : Int32)))
      else
      (F_X11_bears_24 fu V6 ((1 : Int32))))
def f_X11_bench (fu : Nat) (V : St) (x1 : Int32) : RR :=
  bd (f_X11_within fu V (x1) ((1 : Int32)) ((1000 : Int32))) fun r1 V2 => if r1 = 0 then
    (some ((0 : Int32), V2))
    else
    (bv (setV V2 2102 0 0 (x1)) fun V5 => some ((1 : Int32), V5))
def F_X11_isLetToSomeMaker_57 (fu : Nat) (V : St) : RR :=
  some ((0 : Int32), V)
def F_X11_isLetToSomeMaker_49 (fu : Nat) (V : St) : RR :=
  some ((1 : Int32), V)
def F_X11_isLetToSomeMaker_2 (kh : St → Int32 → Int32 → RR) (kx49 : St → RR) (kx57 : St → RR) (fu : Nat) (V : St) (x1 : Int32) (x2 : Int32) : RR :=
  if (V 2106 0 0) ≤ x2 then
    (kx57 V)
    else
    (gd (¬ x2 < 0 ∧ (x2).toNatClampNeg < cntV V 2106) <| bd (f_X4_setLetters fu V ((V 2101 0 0)) (x1) (x2)) fun r4 V5 => bd (f_X4_lastNumber fu V5 ((98 : Int32))) fun r7 V8 => if r7 = (-1 : Int32) then
      (kx49 V8)
      else
      (kh V8 (x1) (x2 + 1)))
def Lp_X11_isLetToSomeMaker_2 (kx49 : St → RR) (kx57 : St → RR) (fu : Nat) : Nat → St → Int32 → Int32 → RR
  | 0, _, _, _ => none
  | n + 1, V, x1, x2 => F_X11_isLetToSomeMaker_2 (Lp_X11_isLetToSomeMaker_2 kx49 kx57 fu n) kx49 kx57 fu V x1 x2
def f_X11_isLetToSomeMaker (fu : Nat) (V : St) (x1 : Int32) : RR :=
  Lp_X11_isLetToSomeMaker_2 (F_X11_isLetToSomeMaker_49 fu) (F_X11_isLetToSomeMaker_57 fu) fu fu V (x1) ((0 : Int32))
def F_X11_beside_80 (fu : Nat) (V : St) (x2 : Int32) : RR :=
  some (x2, V)
def F_X11_beside_74 (kh : St → Int32 → Int32 → RR) (kx80 : St → Int32 → RR) (fu : Nat) (V : St) (x2 : Int32) (x3 : Int32) : RR :=
  kh V (x2) (x3 + 1)
def F_X11_beside_42 (kh : St → Int32 → Int32 → RR) (kx80 : St → Int32 → RR) (fu : Nat) (V : St) (x2 : Int32) (x3 : Int32) : RR :=
  if (V 2105 0 0) ≤ x3 then
    (kx80 V (x2))
    else
    (gd (¬ x3 < 0 ∧ (x3).toNatClampNeg < cntV V 2105) <| bd (f_X11_isLetToSomeMaker fu V (x3)) fun r4 V5 => if r4 = 0 then
      (F_X11_beside_74 kh kx80 fu V5 (x2) (x3))
      else
      (F_X11_beside_74 kh kx80 fu V5 (x2 + 1) (x3)))
def Lp_X11_beside_42 (kx80 : St → Int32 → RR) (fu : Nat) : Nat → St → Int32 → Int32 → RR
  | 0, _, _, _ => none
  | n + 1, V, x2, x3 => F_X11_beside_42 (Lp_X11_beside_42 kx80 fu n) kx80 fu V x2 x3
def f_X11_beside (fu : Nat) (V : St) (x1 : Int32) : RR :=
  bd (f_X11_within fu V (x1) ((-1 : Int32)) ((V 1401 0 0) - (1 : Int32))) fun r1 V2 => if r1 = 0 then
    (some ((-1 : Int32), V2))
    else
    (bd (f_X4_weigh fu V2 ((V2 2101 0 0)) ((V2 2101 0 0)) (x1)) fun r5 V6 => Lp_X11_beside_42 (F_X11_beside_80 fu) fu fu V6 ((0 : Int32)) ((0 : Int32)))
def F_X11_findPerson_32 (fu : Nat) (V : St) (s0 : Int32) : RR :=
  some (s0, V)
def f_X11_findPerson (fu : Nat) (V : St) (x1 : Int32) : RR :=
  bd (f_X11_within fu V (x1) ((0 : Int32)) ((V 2108 0 0) - (1 : Int32))) fun r1 V2 => if r1 = 0 then
    (F_X11_findPerson_32 fu V2 ((-1)))
    else
    (gd (¬ x1 < 0 ∧ (x1).toNatClampNeg < cntV V2 2108) <| F_X11_findPerson_32 fu V2 (x1))
def F_X11_bombed_81 (fu : Nat) (V : St) (x2 : Int32) : RR :=
  some (x2, V)
def F_X11_bombed_75 (kh : St → Int32 → Int32 → Int32 → RR) (kx81 : St → Int32 → RR) (fu : Nat) (V : St) (x1 : Int32) (x2 : Int32) (x3 : Int32) : RR :=
  kh V (x1) (x2) (x3 + 1)
def F_X11_bombed_14 (kh : St → Int32 → Int32 → Int32 → RR) (kx81 : St → Int32 → RR) (fu : Nat) (V : St) (x1 : Int32) (x2 : Int32) (x3 : Int32) : RR :=
  if (V 2109 0 0) ≤ x3 then
    (kx81 V (x2))
    else
    (gd (¬ x3 < 0 ∧ (x3).toNatClampNeg < cntV V 2109) <| if (V 1105 (x3).toNatClampNeg 0) = 0 then
      (F_X11_bombed_75 kh kx81 fu V (x1) (x2) (x3))
      else
      (if (V 1101 (x3).toNatClampNeg 0) = x1 then
        (if (V 1104 (x3).toNatClampNeg 0) = (99 : Int32) then
          (F_X11_bombed_75 kh kx81 fu V (x1) (x2) (x3))
          else
          (bv (setV V 1104 (x3).toNatClampNeg 0 ((99 : Int32))) fun V7 => F_X11_bombed_75 kh kx81 fu V7 (x1) (x2 + 1) (x3)))
        else
        (F_X11_bombed_75 kh kx81 fu V (x1) (x2) (x3))))
def Lp_X11_bombed_14 (kx81 : St → Int32 → RR) (fu : Nat) : Nat → St → Int32 → Int32 → Int32 → RR
  | 0, _, _, _, _ => none
  | n + 1, V, x1, x2, x3 => F_X11_bombed_14 (Lp_X11_bombed_14 kx81 fu n) kx81 fu V x1 x2 x3
def f_X11_bombed (fu : Nat) (V : St) (x1 : Int32) : RR :=
  bd (f_X11_findPerson fu V (x1)) fun r1 V2 => if r1 < 0 then
    (some ((-1 : Int32), V2))
    else
    (Lp_X11_bombed_14 (F_X11_bombed_81 fu) fu fu V2 (x1) ((0 : Int32)) ((0 : Int32)))
def F_X11_numberOnTape_44 (fu : Nat) (V : St) (x2 : Int32) : RR :=
  some (x2, V)
def F_X11_numberOnTape_6 (kh : St → Int32 → Int32 → Int32 → RR) (kx44 : St → Int32 → RR) (fu : Nat) (V : St) (x1 : Int32) (x2 : Int32) (x3 : Int32) : RR :=
  if ((4 : Int32) * x1) + (4 : Int32) ≤ x3 then
    (kx44 V (x2))
    else
    (if (400 : Int32) ≤ x3 then
      (kx44 V (x2))
      else
      (gd (¬ (x3 < 0 ∨ lenV V 1002190 (0) ≤ (x3).toNatClampNeg)) <| kh V (x1) ((x2 <<< ((8 : Int32) &&& 31)) ||| ((V 2113 (0) (x3).toNatClampNeg) &&& (255 : Int32))) (x3 + 1)))
def Lp_X11_numberOnTape_6 (kx44 : St → Int32 → RR) (fu : Nat) : Nat → St → Int32 → Int32 → Int32 → RR
  | 0, _, _, _, _ => none
  | n + 1, V, x1, x2, x3 => F_X11_numberOnTape_6 (Lp_X11_numberOnTape_6 kx44 fu n) kx44 fu V x1 x2 x3
def f_X11_numberOnTape (fu : Nat) (V : St) (x1 : Int32) : RR :=
  Lp_X11_numberOnTape_6 (F_X11_numberOnTape_44 fu) fu fu V (x1) ((0 : Int32)) ((4 : Int32) * x1)
def F_X11_firstWrong_129 (fu : Nat) (V : St) (s0 : Int32) : RR :=
  some (s0, V)
def F_X11_firstWrong_119 (fu : Nat) (V : St) (x1 : Int32) (x2 : Int32) : RR :=
  if x1 ≤ x2 then
    (F_X11_firstWrong_129 fu V ((-1 : Int32)))
    else
    (F_X11_firstWrong_129 fu V (x2))
def F_X11_firstWrong_113 (kh : St → Int32 → Int32 → Int32 → RR) (kx96 : St → Int32 → RR) (kx119 : St → Int32 → Int32 → RR) (fu : Nat) (V : St) (x1 : Int32) (x2 : Int32) (x3 : Int32) : RR :=
  kh V (x1) (x2) (x3 + 1)
def F_X11_firstWrong_107 (kh : St → Int32 → Int32 → Int32 → Int32 → RR) (kx96 : St → Int32 → RR) (kx113 : St → Int32 → Int32 → Int32 → RR) (fu : Nat) (V : St) (x1 : Int32) (x2 : Int32) (x3 : Int32) (x4 : Int32) : RR :=
  kh V (x1) (x2) (x3) (x4 + 1)
def F_X11_firstWrong_96 (fu : Nat) (V : St) (x2 : Int32) : RR :=
  some (x2, V)
def F_X11_firstWrong_79 (kh : St → Int32 → Int32 → Int32 → Int32 → Int32 → Int32 → RR) (kx96 : St → Int32 → RR) (kx107 : St → Int32 → Int32 → Int32 → Int32 → RR) (fu : Nat) (V : St) (x1 : Int32) (x2 : Int32) (x3 : Int32) (x4 : Int32) (x5 : Int32) (x6 : Int32) (s0 : Int32) : RR :=
  if x1 ≤ x2 then
    (kx96 V (x2))
    else
    (bd (f_X11_numberOnTape fu V (x2)) fun r2 V3 => if r2 = s0 then
      (kh V3 (x1) (x2 + 1) (x3) (x4) (x5) (x6 + 1))
      else
      (kx96 V3 (x2)))
def F_X11_firstWrong_46 (kh : St → Int32 → Int32 → Int32 → Int32 → Int32 → Int32 → RR) (kx96 : St → Int32 → RR) (kx107 : St → Int32 → Int32 → Int32 → Int32 → RR) (fu : Nat) (V : St) (x1 : Int32) (x2 : Int32) (x3 : Int32) (x4 : Int32) (x5 : Int32) (x6 : Int32) : RR :=
  if x5 ≤ 0 then
    (kx107 V (x1) (x2) (x3) (x4))
    else
    (if (3 : Int32) ≤ x6 then
      (kx107 V (x1) (x2) (x3) (x4))
      else
      (if x6 = 0 then
        (F_X11_firstWrong_79 kh kx96 kx107 fu V (x1) (x2) (x3) (x4) (x5) (x6) (x3))
        else
        (if x6 = (1 : Int32) then
          (F_X11_firstWrong_79 kh kx96 kx107 fu V (x1) (x2) (x3) (x4) (x5) (x6) (x4))
          else
          (F_X11_firstWrong_79 kh kx96 kx107 fu V (x1) (x2) (x3) (x4) (x5) (x6) (x5)))))
def Lp_X11_firstWrong_46 (kx96 : St → Int32 → RR) (kx107 : St → Int32 → Int32 → Int32 → Int32 → RR) (fu : Nat) : Nat → St → Int32 → Int32 → Int32 → Int32 → Int32 → Int32 → RR
  | 0, _, _, _, _, _, _, _ => none
  | n + 1, V, x1, x2, x3, x4, x5, x6 => F_X11_firstWrong_46 (Lp_X11_firstWrong_46 kx96 kx107 fu n) kx96 kx107 fu V x1 x2 x3 x4 x5 x6
def F_X11_firstWrong_18 (kh : St → Int32 → Int32 → Int32 → Int32 → RR) (kx96 : St → Int32 → RR) (kx113 : St → Int32 → Int32 → Int32 → RR) (fu : Nat) (V : St) (x1 : Int32) (x2 : Int32) (x3 : Int32) (x4 : Int32) : RR :=
  if (2 : Int32) ≤ x4 then
    (kx113 V (x1) (x2) (x3))
    else
    (gd (¬ x3 < 0 ∧ (x3).toNatClampNeg < cntV V 2105) <| gd (¬ (x4 < 0 ∨ 2 ≤ (x4).toNatClampNeg)) <| Lp_X11_firstWrong_46 kx96 (F_X11_firstWrong_107 kh kx96 kx113 fu) fu fu V (x1) (x2) (x3) (x4) ((V 2006 ((x3).toNatClampNeg) (x4).toNatClampNeg)) ((0 : Int32)))
def Lp_X11_firstWrong_18 (kx96 : St → Int32 → RR) (kx113 : St → Int32 → Int32 → Int32 → RR) (fu : Nat) : Nat → St → Int32 → Int32 → Int32 → Int32 → RR
  | 0, _, _, _, _, _ => none
  | n + 1, V, x1, x2, x3, x4 => F_X11_firstWrong_18 (Lp_X11_firstWrong_18 kx96 kx113 fu n) kx96 kx113 fu V x1 x2 x3 x4
def F_X11_firstWrong_4 (kh : St → Int32 → Int32 → Int32 → RR) (kx96 : St → Int32 → RR) (kx119 : St → Int32 → Int32 → RR) (fu : Nat) (V : St) (x1 : Int32) (x2 : Int32) (x3 : Int32) : RR :=
  if (V 2105 0 0) ≤ x3 then
    (kx119 V (x1) (x2))
    else
    (Lp_X11_firstWrong_18 kx96 (F_X11_firstWrong_113 kh kx96 kx119 fu) fu fu V (x1) (x2) (x3) ((0 : Int32)))
def Lp_X11_firstWrong_4 (kx96 : St → Int32 → RR) (kx119 : St → Int32 → Int32 → RR) (fu : Nat) : Nat → St → Int32 → Int32 → Int32 → RR
  | 0, _, _, _, _ => none
  | n + 1, V, x1, x2, x3 => F_X11_firstWrong_4 (Lp_X11_firstWrong_4 kx96 kx119 fu n) kx96 kx119 fu V x1 x2 x3
def f_X11_firstWrong (fu : Nat) (V : St) (x1 : Int32) : RR :=
  Lp_X11_firstWrong_4 (F_X11_firstWrong_96 fu) (F_X11_firstWrong_119 fu) fu fu V (x1) ((0 : Int32)) ((0 : Int32))
def f_X11_check (fu : Nat) (V : St) (x1 : Int32) : RR :=
  bd (f_X11_within fu V (x1) ((0 : Int32)) (((V 2114 0 0)) / ((12 : Int32)))) fun r1 V2 => if r1 = 0 then
    (some ((-2 : Int32), V2))
    else
    (bv (setV V2 2114 0 0 ((0 : Int32))) fun V5 => bd (f_X11_firstWrong fu V5 ((3 : Int32) * x1)) fun r7 V8 => some (r7, V8))
def F_X11_closeDockets_56 (fu : Nat) (V : St) : RR :=
  some (0, V)
def F_X11_closeDockets_50 (kh : St → Int32 → Int32 → Int32 → RR) (kx56 : St → RR) (fu : Nat) (V : St) (x1 : Int32) (x2 : Int32) (x3 : Int32) : RR :=
  kh V (x1) (x2) (x3 + 1)
def F_X11_closeDockets_2 (kh : St → Int32 → Int32 → Int32 → RR) (kx56 : St → RR) (fu : Nat) (V : St) (x1 : Int32) (x2 : Int32) (x3 : Int32) : RR :=
  if (V 2109 0 0) ≤ x3 then
    (kx56 V)
    else
    (gd (¬ x3 < 0 ∧ (x3).toNatClampNeg < cntV V 2109) <| if (V 1101 (x3).toNatClampNeg 0) = x1 then
      (if (V 1102 (x3).toNatClampNeg 0) = x2 then
        (bv (setV V 1105 (x3).toNatClampNeg 0 ((0 : Int32))) fun V6 => F_X11_closeDockets_50 kh kx56 fu V6 (x1) (x2) (x3))
        else
        (F_X11_closeDockets_50 kh kx56 fu V (x1) (x2) (x3)))
      else
      (F_X11_closeDockets_50 kh kx56 fu V (x1) (x2) (x3)))
def Lp_X11_closeDockets_2 (kx56 : St → RR) (fu : Nat) : Nat → St → Int32 → Int32 → Int32 → RR
  | 0, _, _, _, _ => none
  | n + 1, V, x1, x2, x3 => F_X11_closeDockets_2 (Lp_X11_closeDockets_2 kx56 fu n) kx56 fu V x1 x2 x3
def f_X11_closeDockets (fu : Nat) (V : St) (x1 : Int32) (x2 : Int32) : RR :=
  Lp_X11_closeDockets_2 (F_X11_closeDockets_56 fu) fu fu V (x1) (x2) ((0 : Int32))
def f_X11_plainCount (fu : Nat) (V : St) (x1 : Int32) : RR :=
  if x1 = 0 then (some ((V 2101 0 0), V)) else
    if x1 = 1 then (some ((V 2103 0 0), V)) else
    if x1 = 2 then (some ((V 2104 0 0), V)) else
    if x1 = 3 then (some ((V 2105 0 0), V)) else
    if x1 = 4 then (some ((V 2106 0 0), V)) else
    if x1 = 5 then (some ((V 1401 0 0), V)) else
    if x1 = 6 then (some ((V 2108 0 0), V)) else
    if x1 = 7 then (some ((V 2109 0 0), V)) else
    if x1 = 8 then (some ((V 2110 0 0), V)) else
    if x1 = 9 then (some ((V 2111 0 0), V)) else
    if x1 = 10 then (some ((V 2114 0 0), V)) else
    some ((-1 : Int32), V)
def f_X11_count (fu : Nat) (V : St) (x1 : Int32) : RR :=
  bd (f_X11_within fu V (x1) ((20 : Int32)) (((20 : Int32) + (V 1401 0 0)) - (1 : Int32))) fun r1 V2 => if r1 = 0 then
    (bd (f_X11_within fu V2 (x1) ((100 : Int32)) (((100 : Int32) + (V2 2105 0 0)) - (1 : Int32))) fun r5 V6 => if r5 = 0 then
      (bd (f_X11_within fu V6 (x1) ((200 : Int32)) (((200 : Int32) + (V6 2105 0 0)) - (1 : Int32))) fun r9 V10 => if r9 = 0 then
        (bd (f_X11_plainCount fu V10 (x1)) fun r13 V14 => some (r13, V14))
        else
        (gd (¬ x1 - (200 : Int32) < 0 ∧ (x1 - (200 : Int32)).toNatClampNeg < cntV V10 2105) <| gd (¬ ((1 : Int32) < 0 ∨ 2 ≤ ((1 : Int32)).toNatClampNeg)) <| some ((V10 2006 ((x1 - (200 : Int32)).toNatClampNeg) ((1 : Int32)).toNatClampNeg), V10)))
      else
      (gd (¬ x1 - (100 : Int32) < 0 ∧ (x1 - (100 : Int32)).toNatClampNeg < cntV V6 2105) <| gd (¬ ((0 : Int32) < 0 ∨ 2 ≤ ((0 : Int32)).toNatClampNeg)) <| some ((V6 2006 ((x1 - (100 : Int32)).toNatClampNeg) ((0 : Int32)).toNatClampNeg), V6)))
    else
    (gd (¬ x1 - (20 : Int32) < 0 ∧ (x1 - (20 : Int32)).toNatClampNeg < cntV V2 1401) <| some ((V2 1704 (x1 - (20 : Int32)).toNatClampNeg 0), V2))
def F_X11_findThing_32 (fu : Nat) (V : St) (s0 : Int32) : RR :=
  some (s0, V)
def f_X11_findThing (fu : Nat) (V : St) (x1 : Int32) : RR :=
  bd (f_X11_within fu V (x1) ((0 : Int32)) ((V 2105 0 0) - (1 : Int32))) fun r1 V2 => if r1 = 0 then
    (F_X11_findThing_32 fu V2 ((-1)))
    else
    (gd (¬ x1 < 0 ∧ (x1).toNatClampNeg < cntV V2 2105) <| F_X11_findThing_32 fu V2 (x1))
def F_X11_findMaker_32 (fu : Nat) (V : St) (s0 : Int32) : RR :=
  some (s0, V)
def f_X11_findMaker (fu : Nat) (V : St) (x1 : Int32) : RR :=
  bd (f_X11_within fu V (x1) ((0 : Int32)) ((V 2106 0 0) - (1 : Int32))) fun r1 V2 => if r1 = 0 then
    (F_X11_findMaker_32 fu V2 ((-1)))
    else
    (gd (¬ x1 < 0 ∧ (x1).toNatClampNeg < cntV V2 2106) <| F_X11_findMaker_32 fu V2 (x1))
def F_X11_trulyMarked_98 (fu : Nat) (V : St) (x3 : Int32) : RR :=
  some (x3, V)
def F_X11_trulyMarked_92 (kh : St → Int32 → Int32 → Int32 → Int32 → RR) (kx98 : St → Int32 → RR) (fu : Nat) (V : St) (x1 : Int32) (x2 : Int32) (x3 : Int32) (x4 : Int32) : RR :=
  kh V (x1) (x2) (x3) (x4 + 1)
def F_X11_trulyMarked_5 (kh : St → Int32 → Int32 → Int32 → Int32 → RR) (kx98 : St → Int32 → RR) (fu : Nat) (V : St) (x1 : Int32) (x2 : Int32) (x3 : Int32) (x4 : Int32) : RR :=
  if (V 2112 0 0) ≤ x4 then
    (kx98 V (x3))
    else
    (gd (¬ x4 < 0 ∧ (x4).toNatClampNeg < cntV V 2112) <| if (V 1361 (x4).toNatClampNeg 0) = x1 then
      (if x2 < (V 1363 (x4).toNatClampNeg 0) then
        (F_X11_trulyMarked_92 kh kx98 fu V (x1) (x2) (x3) (x4))
        else
        (bd (f_X11_findMaker fu V ((V 1362 (x4).toNatClampNeg 0))) fun r6 V7 => if r6 < 0 then
          (gd (¬ x4 < 0 ∧ (x4).toNatClampNeg < cntV V7 2112) <| F_X11_trulyMarked_92 kh kx98 fu V7 (x1) (x2) (x3 - (V7 1364 (x4).toNatClampNeg 0)) (x4))
          else
          (gd (¬ r6 < 0 ∧ (r6).toNatClampNeg < cntV V7 2106) <| if (V7 1607 (r6).toNatClampNeg 0) = 0 then
            (F_X11_trulyMarked_92 kh kx98 fu V7 (x1) (x2) (x3) (x4))
            else
            (gd (¬ x4 < 0 ∧ (x4).toNatClampNeg < cntV V7 2112) <| F_X11_trulyMarked_92 kh kx98 fu V7 (x1) (x2) (x3 + (V7 1364 (x4).toNatClampNeg 0)) (x4)))))
      else
      (F_X11_trulyMarked_92 kh kx98 fu V (x1) (x2) (x3) (x4)))
def Lp_X11_trulyMarked_5 (kx98 : St → Int32 → RR) (fu : Nat) : Nat → St → Int32 → Int32 → Int32 → Int32 → RR
  | 0, _, _, _, _, _ => none
  | n + 1, V, x1, x2, x3, x4 => F_X11_trulyMarked_5 (Lp_X11_trulyMarked_5 kx98 fu n) kx98 fu V x1 x2 x3 x4
def f_X11_trulyMarked (fu : Nat) (V : St) (x1 : Int32) (x2 : Int32) : RR :=
  Lp_X11_trulyMarked_5 (F_X11_trulyMarked_98 fu) fu fu V (x1) (x2) ((0 : Int32)) ((0 : Int32))
def F_X11_falsely_74 (fu : Nat) (V : St) (x2 : Int32) : RR :=
  some (x2, V)
def F_X11_falsely_68 (kh : St → Int32 → Int32 → Int32 → RR) (kx74 : St → Int32 → RR) (fu : Nat) (V : St) (x1 : Int32) (x2 : Int32) (x3 : Int32) : RR :=
  kh V (x1) (x2) (x3 + 1)
def F_X11_falsely_14 (kh : St → Int32 → Int32 → Int32 → RR) (kx74 : St → Int32 → RR) (fu : Nat) (V : St) (x1 : Int32) (x2 : Int32) (x3 : Int32) : RR :=
  if (V 2110 0 0) ≤ x3 then
    (kx74 V (x2))
    else
    (gd (¬ x3 < 0 ∧ (x3).toNatClampNeg < cntV V 2110) <| if (V 1301 (x3).toNatClampNeg 0) = x1 then
      (bd (f_X11_trulyMarked fu V (x1) ((V 1303 (x3).toNatClampNeg 0))) fun r5 V6 => F_X11_falsely_68 kh kx74 fu V6 (x1) ((if x2 < (V 1304 (x3).toNatClampNeg 0) - r5 then (V 1304 (x3).toNatClampNeg 0) - r5 else x2)) (x3))
      else
      (F_X11_falsely_68 kh kx74 fu V (x1) (x2) (x3)))
def Lp_X11_falsely_14 (kx74 : St → Int32 → RR) (fu : Nat) : Nat → St → Int32 → Int32 → Int32 → RR
  | 0, _, _, _, _ => none
  | n + 1, V, x1, x2, x3 => F_X11_falsely_14 (Lp_X11_falsely_14 kx74 fu n) kx74 fu V x1 x2 x3
def f_X11_falsely (fu : Nat) (V : St) (x1 : Int32) : RR :=
  bd (f_X11_findThing fu V (x1)) fun r1 V2 => if r1 < 0 then
    (some ((-1 : Int32), V2))
    else
    (Lp_X11_falsely_14 (F_X11_falsely_74 fu) fu fu V2 (x1) ((0 : Int32)) ((0 : Int32)))
def F_X11_putOnTape_46 (fu : Nat) (V : St) : RR :=
  some (0, V)
def F_X11_putOnTape_3 (kh : St → Int32 → Int32 → RR) (kx46 : St → RR) (fu : Nat) (V : St) (x1 : Int32) (x2 : Int32) : RR :=
  if x2 < 0 then
    (kx46 V)
    else
    (if (400 : Int32) ≤ (V 2114 0 0) then
      (kx46 V)
      else
      (gd (¬ ((V 2114 0 0) < 0 ∨ lenV V 1002190 (0) ≤ ((V 2114 0 0)).toNatClampNeg)) <| bv (setV V 2113 (0) ((V 2114 0 0)).toNatClampNeg (vp_nar .byte ((x1 >>> (x2 &&& 31)).toInt8.toInt32))) fun V4 => bv (setV V4 2114 0 0 ((V4 2114 0 0) + (1 : Int32))) fun V6 => kh V6 (x1) (x2 + (-8))))
def Lp_X11_putOnTape_3 (kx46 : St → RR) (fu : Nat) : Nat → St → Int32 → Int32 → RR
  | 0, _, _, _ => none
  | n + 1, V, x1, x2 => F_X11_putOnTape_3 (Lp_X11_putOnTape_3 kx46 fu n) kx46 fu V x1 x2
def f_X11_putOnTape (fu : Nat) (V : St) (x1 : Int32) : RR :=
  Lp_X11_putOnTape_3 (F_X11_putOnTape_46 fu) fu fu V (x1) ((24 : Int32))
def f_X11_feed (fu : Nat) (V : St) (x1 : Int32) (x2 : Int32) (x3 : Int32) (x4 : Int32) (x5 : Int32) : RR :=
  if (V 2114 0 0) + (20 : Int32) ≤ (400 : Int32) then
    (bd (f_X11_putOnTape fu V (x1)) fun r2 V3 => bd (f_X11_putOnTape fu V3 (x2)) fun r5 V6 => bd (f_X11_putOnTape fu V6 (x3)) fun r8 V9 => bd (f_X11_putOnTape fu V9 (x4)) fun r11 V12 => bd (f_X11_putOnTape fu V12 (x5)) fun r14 V15 => some ((V15 2114 0 0), V15))
    else
    (some ((-1 : Int32), V))
def F_X11_handsToDo_136 (fu : Nat) (V : St) (s0 : Int32) : RR :=
  some (s0, V)
def F_X11_handsToDo_129 (fu : Nat) (V : St) : RR :=
  F_X11_handsToDo_136 fu V ((-2 : Int32))
def F_X11_handsToDo_117 (fu : Nat) (V : St) (x4 : Int32) (x5 : Int32) (x6 : Int32) : RR :=
  if 0 < x6 then
    (F_X11_handsToDo_129 fu V)
    else
    (if x5 ≤ x4 then
      (F_X11_handsToDo_136 fu V (x5))
      else
      (F_X11_handsToDo_129 fu V))
def F_X11_handsToDo_111 (kh : St → Int32 → Int32 → Int32 → Int32 → Int32 → Int32 → RR) (kx117 : St → Int32 → Int32 → Int32 → RR) (fu : Nat) (V : St) (x1 : Int32) (x2 : Int32) (x4 : Int32) (x5 : Int32) (x6 : Int32) (x7 : Int32) : RR :=
  kh V (x1) (x2) (x4) (x5) (x6) (x7 + 1)
def F_X11_handsToDo_67 (kh : St → Int32 → Int32 → Int32 → Int32 → Int32 → Int32 → RR) (kx117 : St → Int32 → Int32 → Int32 → RR) (fu : Nat) (V : St) (x1 : Int32) (x2 : Int32) (x4 : Int32) (x5 : Int32) (x6 : Int32) (x7 : Int32) (x8 : Int32) (x9 : Int32) : RR :=
  if (x2 >>> (x8 &&& 31)) &&& (1 : Int32) = (1 : Int32) then
    (gd (¬ x9 < 0 ∧ (x9).toNatClampNeg < cntV V 2106) <| bd (f_X11_roundedUp fu V ((if x6 < (V 1602 (x9).toNatClampNeg 0) then x6 else (V 1602 (x9).toNatClampNeg 0))) ((V 1604 (x9).toNatClampNeg 0))) fun r4 V5 => F_X11_handsToDo_111 kh kx117 fu V5 (x1) (x2) (x4) (x5 + r4) (x6 - (if x6 < (V 1602 (x9).toNatClampNeg 0) then x6 else (V 1602 (x9).toNatClampNeg 0))) (x7))
    else
    (F_X11_handsToDo_111 kh kx117 fu V (x1) (x2) (x4) (x5) (x6) (x7))
def F_X11_handsToDo_12 (kh : St → Int32 → Int32 → Int32 → Int32 → Int32 → Int32 → RR) (kx117 : St → Int32 → Int32 → Int32 → RR) (fu : Nat) (V : St) (x1 : Int32) (x2 : Int32) (x4 : Int32) (x5 : Int32) (x6 : Int32) (x7 : Int32) : RR :=
  if (V 2106 0 0) ≤ x7 then
    (kx117 V (x4) (x5) (x6))
    else
    (gd (¬ (x7 < 0 ∨ 12 ≤ (x7).toNatClampNeg)) <| gd (¬ (V 2107 (0) (x7).toNatClampNeg) < 0 ∧ ((V 2107 (0) (x7).toNatClampNeg)).toNatClampNeg < cntV V 2106) <| if (x1 >>> ((V 2107 (0) (x7).toNatClampNeg) &&& 31)) &&& (1 : Int32) = (1 : Int32) then
      (F_X11_handsToDo_67 kh kx117 fu V (x1) (x2) (x4 + (V 1603 ((V 2107 (0) (x7).toNatClampNeg)).toNatClampNeg 0)) (x5) (x6) (x7) ((V 2107 (0) (x7).toNatClampNeg)) ((V 2107 (0) (x7).toNatClampNeg)))
      else
      (F_X11_handsToDo_67 kh kx117 fu V (x1) (x2) (x4) (x5) (x6) (x7) ((V 2107 (0) (x7).toNatClampNeg)) ((V 2107 (0) (x7).toNatClampNeg))))
def Lp_X11_handsToDo_12 (kx117 : St → Int32 → Int32 → Int32 → RR) (fu : Nat) : Nat → St → Int32 → Int32 → Int32 → Int32 → Int32 → Int32 → RR
  | 0, _, _, _, _, _, _, _ => none
  | n + 1, V, x1, x2, x4, x5, x6, x7 => F_X11_handsToDo_12 (Lp_X11_handsToDo_12 kx117 fu n) kx117 fu V x1 x2 x4 x5 x6 x7
def f_X11_handsToDo (fu : Nat) (V : St) (x1 : Int32) (x2 : Int32) (x3 : Int32) : RR :=
  Lp_X11_handsToDo_12 (F_X11_handsToDo_117 fu) fu fu V (x1) (x2) ((0 : Int32)) ((0 : Int32)) (x3) ((0 : Int32))
def F_X11_isInTown_48 (fu : Nat) (V : St) : RR :=
  some ((0 : Int32), V)
def F_X11_isInTown_42 (kh : St → Int32 → Int32 → Int32 → RR) (kx40 : St → RR) (kx48 : St → RR) (fu : Nat) (V : St) (x1 : Int32) (x2 : Int32) (x3 : Int32) : RR :=
  kh V (x1) (x2) (x3 + 1)
def F_X11_isInTown_40 (fu : Nat) (V : St) : RR :=
  some ((1 : Int32), V)
def F_X11_isInTown_2 (kh : St → Int32 → Int32 → Int32 → RR) (kx40 : St → RR) (kx48 : St → RR) (fu : Nat) (V : St) (x1 : Int32) (x2 : Int32) (x3 : Int32) : RR :=
  if (V 2106 0 0) ≤ x3 then
    (kx48 V)
    else
    (if (x1 >>> (x3 &&& 31)) &&& (1 : Int32) = (1 : Int32) then
      (gd (¬ x3 < 0 ∧ (x3).toNatClampNeg < cntV V 2106) <| if (V 1601 (x3).toNatClampNeg 0) = x2 then
        (kx40 V)
        else
        (F_X11_isInTown_42 kh kx40 kx48 fu V (x1) (x2) (x3)))
      else
      (F_X11_isInTown_42 kh kx40 kx48 fu V (x1) (x2) (x3)))
def Lp_X11_isInTown_2 (kx40 : St → RR) (kx48 : St → RR) (fu : Nat) : Nat → St → Int32 → Int32 → Int32 → RR
  | 0, _, _, _, _ => none
  | n + 1, V, x1, x2, x3 => F_X11_isInTown_2 (Lp_X11_isInTown_2 kx40 kx48 fu n) kx40 kx48 fu V x1 x2 x3
def f_X11_isInTown (fu : Nat) (V : St) (x1 : Int32) (x2 : Int32) : RR :=
  Lp_X11_isInTown_2 (F_X11_isInTown_40 fu) (F_X11_isInTown_48 fu) fu fu V (x1) (x2) ((0 : Int32))
def F_X11_mayBeTold_34 (fu : Nat) (V : St) (s0 : Int32) : RR :=
  gd (s0 = 0 ∨ s0 = 1) <| some (s0, V)
def F_X11_mayBeTold_33 (fu : Nat) (V : St) : RR :=
  F_X11_mayBeTold_34 fu V ((0 : Int32))
def f_X11_mayBeTold (fu : Nat) (V : St) (x1 : Int32) : RR :=
  if x1 &&& ((((1 : Int32) <<< ((V 2106 0 0) &&& 31)) - (1 : Int32)) ^^^ (-1 : Int32)) = 0 then
    (bd (f_J6_bitCount_0f7a4 fu V (x1)) fun r2 V3 => if (8 : Int32) < r2 then
      (F_X11_mayBeTold_33 fu V3)
      else
      (F_X11_mayBeTold_34 fu V3 ((1 : Int32))))
    else
    (F_X11_mayBeTold_33 fu V)
def F_X11_fewest_132 (fu : Nat) (V : St) (x4 : Int32) : RR :=
  some (x4, V)
def F_X11_fewest_126 (kh : St → Int32 → Int32 → Int32 → Int32 → Int32 → Int32 → RR) (kx132 : St → Int32 → RR) (fu : Nat) (V : St) (x1 : Int32) (x2 : Int32) (x3 : Int32) (x4 : Int32) (x5 : Int32) (x6 : Int32) : RR :=
  kh V (x1) (x2) (x3) (x4) (x5) (x6 + 1)
def F_X11_fewest_118 (kh : St → Int32 → Int32 → Int32 → Int32 → Int32 → Int32 → RR) (kx132 : St → Int32 → RR) (fu : Nat) (V : St) (x1 : Int32) (x2 : Int32) (x3 : Int32) (x6 : Int32) (x7 : Int32) : RR :=
  F_X11_fewest_126 kh kx132 fu V (x1) (x2) (x3) (x6) (x7) (x6)
def F_X11_fewest_70 (kh : St → Int32 → Int32 → Int32 → Int32 → Int32 → Int32 → RR) (kx132 : St → Int32 → RR) (fu : Nat) (V : St) (x1 : Int32) (x2 : Int32) (x3 : Int32) (x4 : Int32) (x5 : Int32) (x6 : Int32) : RR :=
  bd (f_X11_handsToDo fu V (x1) (x6) (x2)) fun r1 V2 => if r1 < 0 then
    (F_X11_fewest_126 kh kx132 fu V2 (x1) (x2) (x3) (x4) (x5) (x6))
    else
    (if x4 = (-1 : Int32) then
      (F_X11_fewest_118 kh kx132 fu V2 (x1) (x2) (x3) (x6) (r1))
      else
      (if r1 < x5 then
        (F_X11_fewest_118 kh kx132 fu V2 (x1) (x2) (x3) (x6) (r1))
        else
        (if r1 = x5 then
          (bd (f_J6_bitCount_0f7a4 fu V2 (x6)) fun r8 V9 => bd (f_J6_bitCount_0f7a4 fu V9 (x4)) fun r11 V12 => if r11 ≤ r8 then
            (F_X11_fewest_126 kh kx132 fu V12 (x1) (x2) (x3) (x4) (x5) (x6))
            else
            (F_X11_fewest_118 kh kx132 fu V12 (x1) (x2) (x3) (x6) (r1)))
          else
          (F_X11_fewest_126 kh kx132 fu V2 (x1) (x2) (x3) (x4) (x5) (x6)))))
def F_X11_fewest_40 (kh : St → Int32 → Int32 → Int32 → Int32 → Int32 → Int32 → RR) (kx132 : St → Int32 → RR) (fu : Nat) (V : St) (x1 : Int32) (x2 : Int32) (x3 : Int32) (x4 : Int32) (x5 : Int32) (x6 : Int32) : RR :=
  if x1 < x6 then
    (kx132 V (x4))
    else
    (if x6 &&& (x1 ^^^ (-1 : Int32)) = 0 then
      (if x3 = (-1 : Int32) then
        (F_X11_fewest_70 kh kx132 fu V (x1) (x2) (x3) (x4) (x5) (x6))
        else
        (bd (f_X11_isInTown fu V (x6) (x3)) fun r4 V5 => if r4 = 0 then
          (F_X11_fewest_126 kh kx132 fu V5 (x1) (x2) (x3) (x4) (x5) (x6))
          else
          (F_X11_fewest_70 kh kx132 fu V5 (x1) (x2) (x3) (x4) (x5) (x6))))
      else
      (F_X11_fewest_126 kh kx132 fu V (x1) (x2) (x3) (x4) (x5) (x6)))
def Lp_X11_fewest_40 (kx132 : St → Int32 → RR) (fu : Nat) : Nat → St → Int32 → Int32 → Int32 → Int32 → Int32 → Int32 → RR
  | 0, _, _, _, _, _, _, _ => none
  | n + 1, V, x1, x2, x3, x4, x5, x6 => F_X11_fewest_40 (Lp_X11_fewest_40 kx132 fu n) kx132 fu V x1 x2 x3 x4 x5 x6
def F_X11_fewest_29 (fu : Nat) (V : St) : RR :=
  some ((-1 : Int32), V)
def f_X11_fewest (fu : Nat) (V : St) (x1 : Int32) (x2 : Int32) (x3 : Int32) : RR :=
  bd (f_X11_mayBeTold fu V (x1)) fun r1 V2 => if r1 = 0 then
    (F_X11_fewest_29 fu V2)
    else
    (bd (f_X11_within fu V2 (x2) ((1 : Int32)) ((100000 : Int32))) fun r5 V6 => if r5 = 0 then
      (F_X11_fewest_29 fu V6)
      else
      (bd (f_X11_within fu V6 (x3) ((-1 : Int32)) ((7 : Int32))) fun r9 V10 => if r9 = 0 then
        (F_X11_fewest_29 fu V10)
        else
        (Lp_X11_fewest_40 (F_X11_fewest_132 fu) fu fu V10 (x1) (x2) (x3) ((-1 : Int32)) ((0 : Int32)) ((1 : Int32)))))
def F_X11_findCloth_32 (fu : Nat) (V : St) (s0 : Int32) : RR :=
  some (s0, V)
def f_X11_findCloth (fu : Nat) (V : St) (x1 : Int32) : RR :=
  bd (f_X11_within fu V (x1) ((0 : Int32)) ((V 2103 0 0) - (1 : Int32))) fun r1 V2 => if r1 = 0 then
    (F_X11_findCloth_32 fu V2 ((-1)))
    else
    (gd (¬ x1 < 0 ∧ (x1).toNatClampNeg < cntV V2 2103) <| F_X11_findCloth_32 fu V2 (x1))
def F_X11_findCoat_22 (fu : Nat) (V : St) (s0 : Int32) : RR :=
  some (s0, V)
def F_X11_findCoat_21 (fu : Nat) (V : St) : RR :=
  F_X11_findCoat_22 fu V ((-1))
def f_X11_findCoat (fu : Nat) (V : St) (x1 : Int32) : RR :=
  bd (f_X11_findThing fu V (x1)) fun r1 V2 => if r1 < 0 then
    (F_X11_findCoat_21 fu V2)
    else
    (gd (¬ r1 < 0 ∧ (r1).toNatClampNeg < cntV V2 2105) <| if (V2 2001 (r1).toNatClampNeg 0) = 0 then
      (F_X11_findCoat_22 fu V2 (r1))
      else
      (F_X11_findCoat_21 fu V2))
def F_X1_goesBefore_59 (fu : Nat) (V : St) (s0 : Int32) : RR :=
  gd (s0 = 0 ∨ s0 = 1) <| some (s0, V)
def F_X1_goesBefore_27 (fu : Nat) (V : St) (s0 : Int32) : RR :=
  gd (s0 = 0 ∨ s0 = 1) <| some (s0, V)
def f_X1_goesBefore (fu : Nat) (V : St) (x0 : Int32) (x1 : Int32) (x2 : Int32) : RR :=
  gd (¬ x0 < 0 ∧ (x0).toNatClampNeg < cntV V 2109) <| gd (¬ x1 < 0 ∧ (x1).toNatClampNeg < cntV V 2109) <| if (V 1104 (x0).toNatClampNeg 0) = (V 1104 (x1).toNatClampNeg 0) then
    (if (V 1103 (x0).toNatClampNeg 0) = (V 1103 (x1).toNatClampNeg 0) then
      (F_X1_goesBefore_59 fu V (x2))
      else
      (if (V 1103 (x1).toNatClampNeg 0) ≤ (V 1103 (x0).toNatClampNeg 0) then
        (F_X1_goesBefore_59 fu V ((0 : Int32)))
        else
        (F_X1_goesBefore_59 fu V ((1 : Int32)))))
    else
    (if (V 1104 (x0).toNatClampNeg 0) ≤ (V 1104 (x1).toNatClampNeg 0) then
      (F_X1_goesBefore_27 fu V ((0 : Int32)))
      else
      (F_X1_goesBefore_27 fu V ((1 : Int32))))
def F_X11_howManyBefore_98 (fu : Nat) (V : St) (x3 : Int32) : RR :=
  some (x3, V)
def F_X11_howManyBefore_92 (kh : St → Int32 → Int32 → Int32 → Int32 → RR) (kx98 : St → Int32 → RR) (fu : Nat) (V : St) (x1 : Int32) (x2 : Int32) (x3 : Int32) (x4 : Int32) : RR :=
  kh V (x1) (x2) (x3) (x4 + 1)
def F_X11_howManyBefore_83 (kh : St → Int32 → Int32 → Int32 → Int32 → RR) (kx98 : St → Int32 → RR) (fu : Nat) (V : St) (x1 : Int32) (x2 : Int32) (x3 : Int32) (x4 : Int32) (s0 : Int32) (s1 : Int32) (s2 : Int32) : RR :=
  gd (¬ s2 < 0 ∧ (s2).toNatClampNeg < cntV V 2109) <| bd (f_X1_goesBefore fu V (s2) (s1) (s0)) fun r1 V2 => if r1 = 0 then
    (F_X11_howManyBefore_92 kh kx98 fu V2 (x1) (x2) (x3) (x4))
    else
    (F_X11_howManyBefore_92 kh kx98 fu V2 (x1) (x2) (x3 + 1) (x4))
def F_X11_howManyBefore_17 (kh : St → Int32 → Int32 → Int32 → Int32 → RR) (kx98 : St → Int32 → RR) (fu : Nat) (V : St) (x1 : Int32) (x2 : Int32) (x3 : Int32) (x4 : Int32) : RR :=
  if (V 2109 0 0) ≤ x4 then
    (kx98 V (x3))
    else
    (gd (¬ x4 < 0 ∧ (x4).toNatClampNeg < cntV V 2109) <| if x4 = x1 then
      (F_X11_howManyBefore_92 kh kx98 fu V (x1) (x2) (x3) (x4))
      else
      (if (V 1105 (x4).toNatClampNeg 0) = 0 then
        (F_X11_howManyBefore_92 kh kx98 fu V (x1) (x2) (x3) (x4))
        else
        (gd (¬ x2 < 0 ∧ (x2).toNatClampNeg < cntV V 2109) <| if (V 1102 (x4).toNatClampNeg 0) = (V 1102 (x2).toNatClampNeg 0) then
          (if x1 ≤ x4 then
            (F_X11_howManyBefore_83 kh kx98 fu V (x1) (x2) (x3) (x4) ((0 : Int32)) (x2) (x4))
            else
            (F_X11_howManyBefore_83 kh kx98 fu V (x1) (x2) (x3) (x4) ((1 : Int32)) (x2) (x4)))
          else
          (F_X11_howManyBefore_92 kh kx98 fu V (x1) (x2) (x3) (x4)))))
def Lp_X11_howManyBefore_17 (kx98 : St → Int32 → RR) (fu : Nat) : Nat → St → Int32 → Int32 → Int32 → Int32 → RR
  | 0, _, _, _, _, _ => none
  | n + 1, V, x1, x2, x3, x4 => F_X11_howManyBefore_17 (Lp_X11_howManyBefore_17 kx98 fu n) kx98 fu V x1 x2 x3 x4
def f_X11_howManyBefore (fu : Nat) (V : St) (x1 : Int32) : RR :=
  gd (¬ x1 < 0 ∧ (x1).toNatClampNeg < cntV V 2109) <| Lp_X11_howManyBefore_17 (F_X11_howManyBefore_98 fu) fu fu V (x1) (x1) ((0 : Int32)) ((0 : Int32))
def F_X11_first_60 (fu : Nat) (V : St) : RR :=
  some ((-1 : Int32), V)
def F_X11_first_54 (kh : St → Int32 → Int32 → Int32 → RR) (kx52 : St → Int32 → RR) (kx60 : St → RR) (fu : Nat) (V : St) (x1 : Int32) (x2 : Int32) (x3 : Int32) : RR :=
  kh V (x1) (x2) (x3 + 1)
def F_X11_first_52 (fu : Nat) (V : St) (x3 : Int32) : RR :=
  some (x3, V)
def F_X11_first_2 (kh : St → Int32 → Int32 → Int32 → RR) (kx52 : St → Int32 → RR) (kx60 : St → RR) (fu : Nat) (V : St) (x1 : Int32) (x2 : Int32) (x3 : Int32) : RR :=
  if (V 2109 0 0) ≤ x3 then
    (kx60 V)
    else
    (gd (¬ x3 < 0 ∧ (x3).toNatClampNeg < cntV V 2109) <| if (V 1105 (x3).toNatClampNeg 0) = 0 then
      (F_X11_first_54 kh kx52 kx60 fu V (x1) (x2) (x3))
      else
      (if (V 1102 (x3).toNatClampNeg 0) = x1 then
        (bd (f_X11_howManyBefore fu V (x3)) fun r6 V7 => if r6 = x2 then
          (kx52 V7 (x3))
          else
          (F_X11_first_54 kh kx52 kx60 fu V7 (x1) (x2) (x3)))
        else
        (F_X11_first_54 kh kx52 kx60 fu V (x1) (x2) (x3))))
def Lp_X11_first_2 (kx52 : St → Int32 → RR) (kx60 : St → RR) (fu : Nat) : Nat → St → Int32 → Int32 → Int32 → RR
  | 0, _, _, _, _ => none
  | n + 1, V, x1, x2, x3 => F_X11_first_2 (Lp_X11_first_2 kx52 kx60 fu n) kx52 kx60 fu V x1 x2 x3
def f_X11_first (fu : Nat) (V : St) (x1 : Int32) (x2 : Int32) : RR :=
  Lp_X11_first_2 (F_X11_first_52 fu) (F_X11_first_60 fu) fu fu V (x1) (x2) ((0 : Int32))
def F_X11_goes_115 (fu : Nat) (V : St) : RR :=
  some ((V 2101 0 0), V)
def F_X11_goes_83 (kh : St → Int32 → RR) (kx115 : St → RR) (fu : Nat) (V : St) (x2 : Int32) : RR :=
  if (V 2106 0 0) ≤ x2 then
    (kx115 V)
    else
    (gd (¬ x2 < 0 ∧ (x2).toNatClampNeg < cntV V 2106) <| bv (setV V 1608 (x2).toNatClampNeg 0 ((0 : Int32))) fun V4 => kh V4 (x2 + 1))
def Lp_X11_goes_83 (kx115 : St → RR) (fu : Nat) : Nat → St → Int32 → RR
  | 0, _, _ => none
  | n + 1, V, x2 => F_X11_goes_83 (Lp_X11_goes_83 kx115 fu n) kx115 fu V x2
def F_X11_goes_81 (fu : Nat) (V : St) : RR :=
  Lp_X11_goes_83 (F_X11_goes_115 fu) fu fu V ((0 : Int32))
def F_X11_goes_37 (kh : St → Int32 → Int32 → RR) (kx81 : St → RR) (fu : Nat) (V : St) (x1 : Int32) (x2 : Int32) : RR :=
  if (V 2108 0 0) ≤ x2 then
    (kx81 V)
    else
    (gd (¬ x2 < 0 ∧ (x2).toNatClampNeg < cntV V 2108) <| bv (setV V 1801 (x2).toNatClampNeg 0 ((if (V 1801 (x2).toNatClampNeg 0) + x1 < (1000000 : Int32) then (V 1801 (x2).toNatClampNeg 0) + x1 else (1000000 : Int32)))) fun V4 => kh V4 (x1) (x2 + 1))
def Lp_X11_goes_37 (kx81 : St → RR) (fu : Nat) : Nat → St → Int32 → Int32 → RR
  | 0, _, _, _ => none
  | n + 1, V, x1, x2 => F_X11_goes_37 (Lp_X11_goes_37 kx81 fu n) kx81 fu V x1 x2
def f_X11_goes (fu : Nat) (V : St) : RR :=
  if (V 2101 0 0) < (499 : Int32) then
    (bv (setV V 2101 0 0 ((V 2101 0 0) + (1 : Int32))) fun V2 => bd (f_X11_askNow fu V2 ((103 : Int32)) ((-1)) ((-1))) fun r4 V5 => Lp_X11_goes_37 (F_X11_goes_81 fu) fu fu V5 ((if (0 : Int32) < r4 then r4 else (0 : Int32))) ((0 : Int32)))
    else
    (some ((-1 : Int32), V))
def F_X11_gone_60 (fu : Nat) (V : St) (s0 : Int32) : RR :=
  some (s0, V)
def F_X11_gone_21 (fu : Nat) (V : St) : RR :=
  some ((-1 : Int32), V)
def f_X11_gone (fu : Nat) (V : St) (x1 : Int32) (x2 : Int32) : RR :=
  bd (f_X11_findThing fu V (x1)) fun r1 V2 => if r1 < 0 then
    (F_X11_gone_21 fu V2)
    else
    (bd (f_X11_within fu V2 (x2) ((1 : Int32)) ((100000 : Int32))) fun r5 V6 => if r5 = 0 then
      (F_X11_gone_21 fu V6)
      else
      (gd (¬ r1 < 0 ∧ (r1).toNatClampNeg < cntV V6 2105) <| gd (¬ ((0 : Int32) < 0 ∨ 2 ≤ ((0 : Int32)).toNatClampNeg)) <| gd (¬ ((1 : Int32) < 0 ∨ 2 ≤ ((1 : Int32)).toNatClampNeg)) <| if (V6 2006 ((r1).toNatClampNeg) ((0 : Int32)).toNatClampNeg) + (V6 2006 ((r1).toNatClampNeg) ((1 : Int32)).toNatClampNeg) = 0 then
        (F_X11_gone_60 fu V6 ((-1 : Int32)))
        else
        (bd (f_X11_roundedUp fu V6 ((V6 2006 ((r1).toNatClampNeg) ((0 : Int32)).toNatClampNeg) + (V6 2006 ((r1).toNatClampNeg) ((1 : Int32)).toNatClampNeg)) (x2)) fun r14 V15 => F_X11_gone_60 fu V15 (((V6 2101 0 0) + r14) - (1 : Int32)))))
def F_X11_isMadeOf_66 (fu : Nat) (V : St) (s0 : Int32) : RR :=
  gd (s0 = 0 ∨ s0 = 1) <| some (s0, V)
def F_X11_isMadeOf_55 (fu : Nat) (V : St) (s0 : Int32) : RR :=
  gd (s0 = 0 ∨ s0 = 1) <| some (s0, V)
def F_X11_isMadeOf_41 (fu : Nat) (V : St) (s0 : Int32) : RR :=
  gd (s0 = 0 ∨ s0 = 1) <| some (s0, V)
def f_X11_isMadeOf (fu : Nat) (V : St) (x1 : Int32) (x2 : Int32) : RR :=
  if x1 = 0 then (bd (f_X11_findCloth fu V (x2)) fun r2 V3 => if r2 < 0 then
      (F_X11_isMadeOf_41 fu V3 ((0 : Int32)))
      else
      (F_X11_isMadeOf_41 fu V3 ((1 : Int32)))) else
    if x1 = 1 then (bd (f_X11_findDrawing fu V (x2)) fun r6 V7 => if r6 < 0 then
      (F_X11_isMadeOf_55 fu V7 ((0 : Int32)))
      else
      (F_X11_isMadeOf_55 fu V7 ((1 : Int32)))) else
    if x1 = 2 then (if x2 = (-1 : Int32) then
      (F_X11_isMadeOf_66 fu V ((1 : Int32)))
      else
      (F_X11_isMadeOf_66 fu V ((0 : Int32)))) else
    some ((0 : Int32), V)
def F_X11_isTaken_39 (fu : Nat) (V : St) : RR :=
  some ((0 : Int32), V)
def F_X11_isTaken_31 (fu : Nat) (V : St) : RR :=
  some ((1 : Int32), V)
def F_X11_isTaken_2 (kh : St → Int32 → Int32 → RR) (kx31 : St → RR) (kx39 : St → RR) (fu : Nat) (V : St) (x1 : Int32) (x2 : Int32) : RR :=
  if (V 2103 0 0) ≤ x2 then
    (kx39 V)
    else
    (gd (¬ x2 < 0 ∧ (x2).toNatClampNeg < cntV V 2103) <| if (V 1001 (x2).toNatClampNeg 0) = x1 then
      (kx31 V)
      else
      (kh V (x1) (x2 + 1)))
def Lp_X11_isTaken_2 (kx31 : St → RR) (kx39 : St → RR) (fu : Nat) : Nat → St → Int32 → Int32 → RR
  | 0, _, _, _ => none
  | n + 1, V, x1, x2 => F_X11_isTaken_2 (Lp_X11_isTaken_2 kx31 kx39 fu n) kx31 kx39 fu V x1 x2
def f_X11_isTaken (fu : Nat) (V : St) (x1 : Int32) : RR :=
  Lp_X11_isTaken_2 (F_X11_isTaken_31 fu) (F_X11_isTaken_39 fu) fu fu V (x1) ((0 : Int32))
def F_X11_isTrue_151 (fu : Nat) (V : St) (s0 : Int32) : RR :=
  some (s0, V)
def F_X11_isTrue_150 (fu : Nat) (V : St) : RR :=
  F_X11_isTrue_151 fu V ((2 : Int32))
def F_X11_isTrue_133 (fu : Nat) (V : St) (x6 : Int32) (x7 : Int32) : RR :=
  if x6 < (2 : Int32) then
    (F_X11_isTrue_150 fu V)
    else
    (if x7 = x6 then
      (F_X11_isTrue_151 fu V ((1 : Int32)))
      else
      (F_X11_isTrue_150 fu V))
def F_X11_isTrue_127 (kh : St → Int32 → Int32 → Int32 → Int32 → Int32 → Int32 → RR) (kx125 : St → RR) (kx133 : St → Int32 → Int32 → RR) (fu : Nat) (V : St) (x1 : Int32) (x2 : Int32) (x5 : Int32) (x6 : Int32) (x7 : Int32) (x8 : Int32) : RR :=
  kh V (x1) (x2) (x5) (x6) (x7) (x8 + 1)
def F_X11_isTrue_125 (fu : Nat) (V : St) : RR :=
  some ((0 : Int32), V)
def F_X11_isTrue_53 (kh : St → Int32 → Int32 → Int32 → Int32 → Int32 → Int32 → RR) (kx125 : St → RR) (kx133 : St → Int32 → Int32 → RR) (fu : Nat) (V : St) (x1 : Int32) (x2 : Int32) (x5 : Int32) (x6 : Int32) (x7 : Int32) (x8 : Int32) : RR :=
  if (V 2111 0 0) ≤ x8 then
    (kx133 V (x6) (x7))
    else
    (gd (¬ x8 < 0 ∧ (x8).toNatClampNeg < cntV V 2111) <| if (V 1331 (x8).toNatClampNeg 0) = x1 then
      (if x2 < (V 1333 (x8).toNatClampNeg 0) then
        (F_X11_isTrue_127 kh kx125 kx133 fu V (x1) (x2) (x5) (x6) (x7) (x8))
        else
        (if (V 1334 (x8).toNatClampNeg 0) < x5 then
          (if (V 1332 (x8).toNatClampNeg 0) = (1 : Int32) then
            (kx125 V)
            else
            (F_X11_isTrue_127 kh kx125 kx133 fu V (x1) (x2) (x5) (x6 + 1) (x7) (x8)))
          else
          (F_X11_isTrue_127 kh kx125 kx133 fu V (x1) (x2) (x5) (x6 + 1) (x7 + 1) (x8))))
      else
      (F_X11_isTrue_127 kh kx125 kx133 fu V (x1) (x2) (x5) (x6) (x7) (x8)))
def Lp_X11_isTrue_53 (kx125 : St → RR) (kx133 : St → Int32 → Int32 → RR) (fu : Nat) : Nat → St → Int32 → Int32 → Int32 → Int32 → Int32 → Int32 → RR
  | 0, _, _, _, _, _, _, _ => none
  | n + 1, V, x1, x2, x5, x6, x7, x8 => F_X11_isTrue_53 (Lp_X11_isTrue_53 kx125 kx133 fu n) kx125 kx133 fu V x1 x2 x5 x6 x7 x8
def F_X11_isTrue_21 (fu : Nat) (V : St) : RR :=
  some ((-1 : Int32), V)
def f_X11_isTrue (fu : Nat) (V : St) (x1 : Int32) (x2 : Int32) : RR :=
  bd (f_X11_findCloth fu V (x1)) fun r1 V2 => if r1 < 0 then
    (F_X11_isTrue_21 fu V2)
    else
    (bd (f_X11_within fu V2 (x2) ((0 : Int32)) ((499 : Int32))) fun r5 V6 => if r5 = 0 then
      (F_X11_isTrue_21 fu V6)
      else
      (gd (¬ r1 < 0 ∧ (r1).toNatClampNeg < cntV V6 2103) <| Lp_X11_isTrue_53 (F_X11_isTrue_125 fu) (F_X11_isTrue_133 fu) fu fu V6 (x1) (x2) (((V6 1002 (r1).toNatClampNeg 0) * (V6 2102 0 0)) - (((V6 1002 (r1).toNatClampNeg 0) * (V6 2102 0 0)) / ((10 : Int32)))) ((0 : Int32)) ((0 : Int32)) ((0 : Int32))))
def F_X5_isWholeOrder_74 (fu : Nat) (V : St) : RR :=
  some ((1 : Int32), V)
def F_X5_isWholeOrder_55 (fu : Nat) (V : St) : RR :=
  some ((0 : Int32), V)
def F_X5_isWholeOrder_22 (kh : St → Int32 → Int32 → Int32 → RR) (kx55 : St → RR) (kx74 : St → RR) (fu : Nat) (V : St) (x3 : Int32) (x4 : Int32) (x5 : Int32) : RR :=
  if x3 ≤ x5 then
    (kx74 V)
    else
    (gd (¬ (x5 < 0 ∨ lenV V 1002190 (0) ≤ (x5).toNatClampNeg)) <| bd (f_X11_within fu V ((V 2113 (0) (x5).toNatClampNeg)) ((0 : Int32)) (x3 - (1 : Int32))) fun r3 V4 => if r3 = 0 then
      (kx55 V4)
      else
      (gd (¬ (x5 < 0 ∨ lenV V4 1002190 (0) ≤ (x5).toNatClampNeg)) <| if (x4 >>> ((V4 2113 (0) (x5).toNatClampNeg) &&& 31)) &&& (1 : Int32) = (1 : Int32) then
        (kx55 V4)
        else
        (gd (¬ (x5 < 0 ∨ lenV V4 1002190 (0) ≤ (x5).toNatClampNeg)) <| kh V4 (x3) (x4 ||| ((1 : Int32) <<< ((V4 2113 (0) (x5).toNatClampNeg) &&& 31))) (x5 + 1))))
def Lp_X5_isWholeOrder_22 (kx55 : St → RR) (kx74 : St → RR) (fu : Nat) : Nat → St → Int32 → Int32 → Int32 → RR
  | 0, _, _, _, _ => none
  | n + 1, V, x3, x4, x5 => F_X5_isWholeOrder_22 (Lp_X5_isWholeOrder_22 kx55 kx74 fu n) kx55 kx74 fu V x3 x4 x5
def F_X5_isWholeOrder_14 (fu : Nat) (V : St) : RR :=
  some ((0 : Int32), V)
def f_X5_isWholeOrder (fu : Nat) (V : St) (x1 : Int32) (x3 : Int32) : RR :=
  gd (¬ x1 < 0 ∧ (x1).toNatClampNeg < cntV V 2105) <| if x3 = (V 2009 (x1).toNatClampNeg 0) then
    (if x3 ≤ (nI (lenV V 1002190 (0))) then
      (Lp_X5_isWholeOrder_22 (F_X5_isWholeOrder_55 fu) (F_X5_isWholeOrder_74 fu) fu fu V (x3) ((0 : Int32)) ((0 : Int32)))
      else
      (F_X5_isWholeOrder_14 fu V))
    else
    (F_X5_isWholeOrder_14 fu V)
def F_X5_lengthOf_84 (fu : Nat) (V : St) (x4 : Int32) (x6 : Int32) : RR :=
  some (x4 + x6, V)
def F_X5_lengthOf_52 (kh : St → Int32 → Int32 → Int32 → Int32 → Int32 → Int32 → RR) (kx84 : St → Int32 → Int32 → RR) (fu : Nat) (V : St) (x1 : Int32) (x2 : Int32) (x4 : Int32) (x5 : Int32) (x6 : Int32) (x7 : Int32) (x8 : Int32) : RR :=
  gd (¬ x1 < 0 ∧ (x1).toNatClampNeg < cntV V 2105) <| gd (¬ (x8 < 0 ∨ lenV V 1002090 ((x1).toNatClampNeg) ≤ (x8).toNatClampNeg)) <| gd (¬ (x8 < 0 ∨ lenV V 1002090 ((x1).toNatClampNeg) ≤ (x8).toNatClampNeg)) <| kh V (x1) (x2) (x4) (x5 - (V 2008 ((x1).toNatClampNeg) (x8).toNatClampNeg)) ((if x6 < (V 2007 ((x1).toNatClampNeg) (x8).toNatClampNeg) then (V 2007 ((x1).toNatClampNeg) (x8).toNatClampNeg) else x6)) (x7 + 1)
def F_X5_lengthOf_12 (kh : St → Int32 → Int32 → Int32 → Int32 → Int32 → Int32 → RR) (kx84 : St → Int32 → Int32 → RR) (fu : Nat) (V : St) (x1 : Int32) (x2 : Int32) (x4 : Int32) (x5 : Int32) (x6 : Int32) (x7 : Int32) : RR :=
  gd (¬ x1 < 0 ∧ (x1).toNatClampNeg < cntV V 2105) <| if (V 2009 (x1).toNatClampNeg 0) ≤ x7 then
    (kx84 V (x4) (x6))
    else
    (gd (¬ (x7 < 0 ∨ lenV V 1002190 (0) ≤ (x7).toNatClampNeg)) <| gd (¬ ((V 2113 (0) (x7).toNatClampNeg) < 0 ∨ lenV V 1002090 ((x1).toNatClampNeg) ≤ ((V 2113 (0) (x7).toNatClampNeg)).toNatClampNeg)) <| if (V 2008 ((x1).toNatClampNeg) ((V 2113 (0) (x7).toNatClampNeg)).toNatClampNeg) ≤ x5 then
      (F_X5_lengthOf_52 kh kx84 fu V (x1) (x2) (x4) (x5) (x6) (x7) ((V 2113 (0) (x7).toNatClampNeg)))
      else
      (F_X5_lengthOf_52 kh kx84 fu V (x1) (x2) (x4 + x6) (x2) ((0 : Int32)) (x7) ((V 2113 (0) (x7).toNatClampNeg))))
def Lp_X5_lengthOf_12 (kx84 : St → Int32 → Int32 → RR) (fu : Nat) : Nat → St → Int32 → Int32 → Int32 → Int32 → Int32 → Int32 → RR
  | 0, _, _, _, _, _, _, _ => none
  | n + 1, V, x1, x2, x4, x5, x6, x7 => F_X5_lengthOf_12 (Lp_X5_lengthOf_12 kx84 fu n) kx84 fu V x1 x2 x4 x5 x6 x7
def f_X5_lengthOf (fu : Nat) (V : St) (x1 : Int32) (x2 : Int32) : RR :=
  Lp_X5_lengthOf_12 (F_X5_lengthOf_84 fu) fu fu V (x1) (x2) ((0 : Int32)) ((0 : Int32)) ((0 : Int32)) ((0 : Int32))
def F_X11_laid_68 (fu : Nat) (V : St) : RR :=
  some ((-2 : Int32), V)
def F_X11_laid_35 (fu : Nat) (V : St) : RR :=
  some ((-1 : Int32), V)
def f_X11_laid (fu : Nat) (V : St) (x1 : Int32) (x2 : Int32) (x3 : Int32) : RR :=
  bd (f_X11_findCoat fu V (x1)) fun r1 V2 => if r1 < 0 then
    (F_X11_laid_35 fu V2)
    else
    (bd (f_X11_within fu V2 (x2) ((1 : Int32)) ((200 : Int32))) fun r5 V6 => if r5 = 0 then
      (F_X11_laid_35 fu V6)
      else
      (bd (f_X11_within fu V6 (x3) ((0 : Int32)) ((V6 2114 0 0))) fun r9 V10 => if r9 = 0 then
        (F_X11_laid_35 fu V10)
        else
        (bv (setV V10 2114 0 0 ((0 : Int32))) fun V13 => bd (f_X5_isWholeOrder fu V13 (r1) (x3)) fun r15 V16 => if r15 = 0 then
          (F_X11_laid_68 fu V16)
          else
          (gd (¬ r1 < 0 ∧ (r1).toNatClampNeg < cntV V16 2105) <| bd (f_X10_widest fu V16 (r1)) fun r19 V20 => if r19 ≤ x2 then
            (bd (f_X5_lengthOf fu V20 (r1) (x2)) fun r25 V26 => some (r25, V26))
            else
            (F_X11_laid_68 fu V20)))))
def F_X2_addLoad_34 (fu : Nat) (V : St) : RR :=
  some ((0 : Int32), V)
def f_X2_addLoad (fu : Nat) (V : St) (x0 : Int32) (x1 : Int32) (x2 : Int32) : RR :=
  gd (¬ x0 < 0 ∧ (x0).toNatClampNeg < cntV V 2104) <| bd (f_X11_within fu V (x1) ((1 : Int32)) ((V 1201 (x0).toNatClampNeg 0) - (1 : Int32))) fun r3 V4 => if r3 = 0 then
    (F_X2_addLoad_34 fu V4)
    else
    (bd (f_X11_within fu V4 (x2) ((1 : Int32)) ((500 : Int32))) fun r7 V8 => if r7 = 0 then
      (F_X2_addLoad_34 fu V8)
      else
      (gd (¬ x0 < 0 ∧ (x0).toNatClampNeg < cntV V8 2104) <| if (V8 1213 (x0).toNatClampNeg 0) < (8 : Int32) then
        (gd (¬ ((V8 1213 (x0).toNatClampNeg 0) < 0 ∨ 8 ≤ ((V8 1213 (x0).toNatClampNeg 0)).toNatClampNeg)) <| bv (setV V8 1205 ((x0).toNatClampNeg) ((V8 1213 (x0).toNatClampNeg 0)).toNatClampNeg (x1)) fun V15 => gd (¬ ((V15 1213 (x0).toNatClampNeg 0) < 0 ∨ 8 ≤ ((V15 1213 (x0).toNatClampNeg 0)).toNatClampNeg)) <| bv (setV V15 1206 ((x0).toNatClampNeg) ((V15 1213 (x0).toNatClampNeg 0)).toNatClampNeg (x2)) fun V19 => bv (setV V19 1213 (x0).toNatClampNeg 0 ((V19 1213 (x0).toNatClampNeg 0) + (1 : Int32))) fun V22 => bv (setV V22 1216 (x0).toNatClampNeg 0 ((0 : Int32))) fun V25 => some ((1 : Int32), V25))
        else
        (F_X2_addLoad_34 fu V8)))
