/-! THE PROGRAM AS FUNCTIONS over the typed state (by program) -/
def F_X11_load_27 (fu : Nat) (V : St) (s0 : Int32) : RR :=
  gd (s0 = 0 ∨ s0 = 1) <| some (s0, V)
def F_X11_load_26 (fu : Nat) (V : St) : RR :=
  F_X11_load_27 fu V ((0 : Int32))
def f_X11_load (fu : Nat) (V : St) (x1 : Int32) (x2 : Int32) (x3 : Int32) : RR :=
  bd (f_X11_findDrawing fu V (x1)) fun r1 V2 => if r1 < 0 then
    (F_X11_load_26 fu V2)
    else
    (gd (¬ r1 < 0 ∧ (r1).toNatClampNeg < cntV V2 2104) <| bd (f_X2_addLoad fu V2 (r1) (x2) (x3)) fun r5 V6 => if r5 = 0 then
      (F_X11_load_26 fu V6)
      else
      (F_X11_load_27 fu V6 ((1 : Int32))))
def F_X11_look_98 (fu : Nat) (V : St) (s0 : Int32) : RR :=
  some (s0, V)
def F_X11_look_75 (fu : Nat) (V : St) : RR :=
  some ((-1 : Int32), V)
def F_X11_look_53 (fu : Nat) (V : St) (x2 : Int32) (s0 : Int32) : RR :=
  if s0 < 0 then
    (F_X11_look_75 fu V)
    else
    (bd (f_X11_within fu V (x2) ((0 : Int32)) ((V 2103 0 0))) fun r2 V3 => if r2 = 0 then
      (F_X11_look_75 fu V3)
      else
      (if x2 = 0 then
        (gd (¬ s0 < 0 ∧ (s0).toNatClampNeg < cntV V3 2106) <| F_X11_look_98 fu V3 ((V3 1608 (s0).toNatClampNeg 0)))
        else
        (gd (¬ s0 < 0 ∧ (s0).toNatClampNeg < cntV V3 2106) <| gd (¬ (x2 - (1 : Int32) < 0 ∨ 20 ≤ (x2 - (1 : Int32)).toNatClampNeg)) <| F_X11_look_98 fu V3 ((V3 1606 ((s0).toNatClampNeg) (x2 - (1 : Int32)).toNatClampNeg)))))
def F_X11_look_34 (fu : Nat) (V : St) (s0 : Int32) : RR :=
  some (s0, V)
def f_X11_look (fu : Nat) (V : St) (x1 : Int32) (x2 : Int32) : RR :=
  bd (f_X11_findPerson fu V (x1)) fun r1 V2 => if r1 < 0 then
    (if x1 < (100 : Int32) then
      (F_X11_look_53 fu V2 (x2) ((-1)))
      else
      (bd (f_X11_findMaker fu V2 (x1 - (100 : Int32))) fun r6 V7 => F_X11_look_53 fu V7 (x2) (r6)))
    else
    (if x2 = 0 then
      (gd (¬ r1 < 0 ∧ (r1).toNatClampNeg < cntV V2 2108) <| F_X11_look_34 fu V2 ((V2 1801 (r1).toNatClampNeg 0)))
      else
      (if x2 = (1 : Int32) then
        (gd (¬ r1 < 0 ∧ (r1).toNatClampNeg < cntV V2 2108) <| F_X11_look_34 fu V2 ((V2 1802 (r1).toNatClampNeg 0)))
        else
        (F_X11_look_34 fu V2 ((-1 : Int32)))))
def F_X11_paidNow_29 (fu : Nat) (V : St) (s0 : Int32) : RR :=
  some (s0, V)
def f_X11_paidNow (fu : Nat) (V : St) (x1 : Int32) : RR :=
  bd (f_X11_askNow fu V ((99 : Int32)) (x1) ((-1))) fun r1 V2 => if r1 = (-1 : Int32) then
    (gd (¬ x1 < 0 ∧ (x1).toNatClampNeg < cntV V2 2105) <| F_X11_paidNow_29 fu V2 ((V2 2010 (x1).toNatClampNeg 0)))
    else
    (gd (¬ x1 < 0 ∧ (x1).toNatClampNeg < cntV V2 2105) <| F_X11_paidNow_29 fu V2 ((if r1 < (V2 2010 (x1).toNatClampNeg 0) then r1 else (V2 2010 (x1).toNatClampNeg 0))))
def F_X11_loses_22 (fu : Nat) (V : St) : RR :=
  some ((-1000000000 : Int32), V)
def f_X11_loses (fu : Nat) (V : St) (x1 : Int32) (x2 : Int32) : RR :=
  bd (f_X11_findMaker fu V (x1)) fun r1 V2 => bd (f_X11_findThing fu V2 (x2)) fun r4 V5 => if r1 < 0 then
    (F_X11_loses_22 fu V5)
    else
    (if r4 < 0 then
      (F_X11_loses_22 fu V5)
      else
      (bd (f_X11_paidNow fu V5 (r4)) fun r9 V10 => bd (f_X11_askNow fu V10 ((100 : Int32)) (r4) ((-1))) fun r12 V13 => gd (¬ r4 < 0 ∧ (r4).toNatClampNeg < cntV V13 2105) <| bd (f_X10_stuffCost fu V13 (r4)) fun r15 V16 => gd (¬ r1 < 0 ∧ (r1).toNatClampNeg < cntV V16 2106) <| bd (f_X11_roundedUp fu V16 ((V16 1605 (r1).toNatClampNeg 0)) ((V16 1604 (r1).toNatClampNeg 0))) fun r22 V23 => some ((r15 + r22) - (r9 - ((r9 * (if (0 : Int32) < r12 then r12 else (0 : Int32))) / ((100 : Int32)))), V23)))
def F_X11_named_18 (fu : Nat) (V : St) : RR :=
  some ((0 : Int32), V)
def f_X11_named (fu : Nat) (V : St) (x1 : Int32) (x2 : Int32) : RR :=
  bd (f_X11_findMaker fu V (x1)) fun r1 V2 => if r1 < 0 then
    (F_X11_named_18 fu V2)
    else
    (gd (¬ r1 < 0 ∧ (r1).toNatClampNeg < cntV V2 2106) <| if (V2 1607 (r1).toNatClampNeg 0) = x2 then
      (F_X11_named_18 fu V2)
      else
      (gd (x2 = 0 ∨ x2 = 1) <| bv (setV V2 1607 (r1).toNatClampNeg 0 (x2)) fun V9 => some ((1 : Int32), V9)))
def F_X11_needs_31 (fu : Nat) (V : St) : RR :=
  some ((-1 : Int32), V)
def f_X11_needs (fu : Nat) (V : St) (x1 : Int32) (x2 : Int32) (x3 : Int32) : RR :=
  bd (f_X11_mayBeTold fu V (x1)) fun r1 V2 => if r1 = 0 then
    (F_X11_needs_31 fu V2)
    else
    (if x2 = 0 then
      (F_X11_needs_31 fu V2)
      else
      (if x2 &&& (x1 ^^^ (-1 : Int32)) = 0 then
        (bd (f_X11_within fu V2 (x3) ((1 : Int32)) ((100000 : Int32))) fun r7 V8 => if r7 = 0 then
          (F_X11_needs_31 fu V8)
          else
          (bd (f_X11_handsToDo fu V8 (x1) (x2) (x3)) fun r11 V12 => some (r11, V12)))
        else
        (F_X11_needs_31 fu V2)))
def F_X11_piece_23 (fu : Nat) (V : St) (s0 : Int32) : RR :=
  some (s0, V)
def f_X11_piece (fu : Nat) (V : St) (x1 : Int32) (x2 : Int32) (x3 : Int32) : RR :=
  bd (f_X11_findCoat fu V (x1)) fun r1 V2 => if r1 < 0 then
    (F_X11_piece_23 fu V2 ((-1 : Int32)))
    else
    (gd (¬ r1 < 0 ∧ (r1).toNatClampNeg < cntV V2 2105) <| bd (f_X10_addPiece fu V2 (r1) (x2) (x3)) fun r5 V6 => F_X11_piece_23 fu V6 (r5))
def F_X11_price_21 (fu : Nat) (V : St) : RR :=
  some ((0 : Int32), V)
def f_X11_price (fu : Nat) (V : St) (x1 : Int32) (x2 : Int32) : RR :=
  bd (f_X11_findThing fu V (x1)) fun r1 V2 => if r1 < 0 then
    (F_X11_price_21 fu V2)
    else
    (bd (f_X11_within fu V2 (x2) ((1 : Int32)) ((100000 : Int32))) fun r5 V6 => if r5 = 0 then
      (F_X11_price_21 fu V6)
      else
      (gd (¬ r1 < 0 ∧ (r1).toNatClampNeg < cntV V6 2105) <| bv (setV V6 2010 (r1).toNatClampNeg 0 (x2)) fun V11 => some ((1 : Int32), V11)))
def F_X11_putByRate_67 (fu : Nat) (V : St) (x1 : Int32) (x3 : Int32) : RR :=
  gd (¬ (x3 < 0 ∨ 12 ≤ (x3).toNatClampNeg)) <| bv (setV V 2107 (0) (x3).toNatClampNeg (x1)) fun V2 => some (0, V2)
def F_X11_putByRate_39 (kh : St → Int32 → Int32 → Int32 → RR) (kx67 : St → Int32 → Int32 → RR) (fu : Nat) (V : St) (x1 : Int32) (x3 : Int32) (x4 : Int32) : RR :=
  if x4 ≤ x3 then
    (kx67 V (x1) (x3))
    else
    (gd (¬ (x4 - (1 : Int32) < 0 ∨ 12 ≤ (x4 - (1 : Int32)).toNatClampNeg)) <| gd (¬ (x4 < 0 ∨ 12 ≤ (x4).toNatClampNeg)) <| bv (setV V 2107 (0) (x4).toNatClampNeg ((V 2107 (0) (x4 - (1 : Int32)).toNatClampNeg))) fun V4 => kh V4 (x1) (x3) (x4 + (-1)))
def Lp_X11_putByRate_39 (kx67 : St → Int32 → Int32 → RR) (fu : Nat) : Nat → St → Int32 → Int32 → Int32 → RR
  | 0, _, _, _, _ => none
  | n + 1, V, x1, x3, x4 => F_X11_putByRate_39 (Lp_X11_putByRate_39 kx67 fu n) kx67 fu V x1 x3 x4
def F_X11_putByRate_36 (fu : Nat) (V : St) (x1 : Int32) (x3 : Int32) : RR :=
  Lp_X11_putByRate_39 (F_X11_putByRate_67 fu) fu fu V (x1) (x3) (x1)
def F_X11_putByRate_2 (kh : St → Int32 → Int32 → Int32 → RR) (kx36 : St → Int32 → Int32 → RR) (fu : Nat) (V : St) (x1 : Int32) (x2 : Int32) (x3 : Int32) : RR :=
  if x1 ≤ x3 then
    (kx36 V (x1) (x3))
    else
    (gd (¬ (x3 < 0 ∨ 12 ≤ (x3).toNatClampNeg)) <| gd (¬ (V 2107 (0) (x3).toNatClampNeg) < 0 ∧ ((V 2107 (0) (x3).toNatClampNeg)).toNatClampNeg < cntV V 2106) <| if (V 1604 ((V 2107 (0) (x3).toNatClampNeg)).toNatClampNeg 0) < x2 then
      (kx36 V (x1) (x3))
      else
      (kh V (x1) (x2) (x3 + 1)))
def Lp_X11_putByRate_2 (kx36 : St → Int32 → Int32 → RR) (fu : Nat) : Nat → St → Int32 → Int32 → Int32 → RR
  | 0, _, _, _, _ => none
  | n + 1, V, x1, x2, x3 => F_X11_putByRate_2 (Lp_X11_putByRate_2 kx36 fu n) kx36 fu V x1 x2 x3
def f_X11_putByRate (fu : Nat) (V : St) (x1 : Int32) (x2 : Int32) : RR :=
  Lp_X11_putByRate_2 (F_X11_putByRate_36 fu) fu fu V (x1) (x2) ((0 : Int32))
def F_X2_addStick_53 (fu : Nat) (V : St) : RR :=
  some ((-1 : Int32), V)
def F_X2_addStick_33 (fu : Nat) (V : St) : RR :=
  some ((-1 : Int32), V)
def f_X2_addStick (fu : Nat) (V : St) (x0 : Int32) (x1 : Int32) (x2 : Int32) (x3 : Int32) : RR :=
  gd (¬ x0 < 0 ∧ (x0).toNatClampNeg < cntV V 2104) <| bd (f_X11_within fu V (x1) ((0 : Int32)) ((V 1201 (x0).toNatClampNeg 0) - (1 : Int32))) fun r3 V4 => if r3 = 0 then
    (F_X2_addStick_33 fu V4)
    else
    (gd (¬ x0 < 0 ∧ (x0).toNatClampNeg < cntV V4 2104) <| bd (f_X11_within fu V4 (x2) ((0 : Int32)) ((V4 1201 (x0).toNatClampNeg 0) - (1 : Int32))) fun r9 V10 => if r9 = 0 then
      (F_X2_addStick_33 fu V10)
      else
      (if x1 = x2 then
        (F_X2_addStick_33 fu V10)
        else
        (bd (f_X11_within fu V10 (x3) ((0 : Int32)) ((2 : Int32))) fun r14 V15 => if r14 = 0 then
          (F_X2_addStick_53 fu V15)
          else
          (gd (¬ x0 < 0 ∧ (x0).toNatClampNeg < cntV V15 2104) <| if (V15 1212 (x0).toNatClampNeg 0) < (8 : Int32) then
            (gd (¬ ((V15 1212 (x0).toNatClampNeg 0) < 0 ∨ 8 ≤ ((V15 1212 (x0).toNatClampNeg 0)).toNatClampNeg)) <| bv (setV V15 1202 ((x0).toNatClampNeg) ((V15 1212 (x0).toNatClampNeg 0)).toNatClampNeg (x1)) fun V22 => gd (¬ ((V22 1212 (x0).toNatClampNeg 0) < 0 ∨ 8 ≤ ((V22 1212 (x0).toNatClampNeg 0)).toNatClampNeg)) <| bv (setV V22 1203 ((x0).toNatClampNeg) ((V22 1212 (x0).toNatClampNeg 0)).toNatClampNeg (x2)) fun V26 => gd (¬ ((V26 1212 (x0).toNatClampNeg 0) < 0 ∨ 8 ≤ ((V26 1212 (x0).toNatClampNeg 0)).toNatClampNeg)) <| bv (setV V26 1204 ((x0).toNatClampNeg) ((V26 1212 (x0).toNatClampNeg 0)).toNatClampNeg (x3)) fun V30 => bv (setV V30 1212 (x0).toNatClampNeg 0 ((V30 1212 (x0).toNatClampNeg 0) + (1 : Int32))) fun V33 => bv (setV V33 1216 (x0).toNatClampNeg 0 ((0 : Int32))) fun V36 => some ((V36 1212 (x0).toNatClampNeg 0) - (1 : Int32), V36))
            else
            (F_X2_addStick_53 fu V15)))))
def F_X11_stick_25 (fu : Nat) (V : St) (s0 : Int32) : RR :=
  some (s0, V)
def f_X11_stick (fu : Nat) (V : St) (x1 : Int32) (x2 : Int32) (x3 : Int32) (x4 : Int32) : RR :=
  bd (f_X11_findDrawing fu V (x1)) fun r1 V2 => if r1 < 0 then
    (F_X11_stick_25 fu V2 ((-1 : Int32)))
    else
    (gd (¬ r1 < 0 ∧ (r1).toNatClampNeg < cntV V2 2104) <| bd (f_X2_addStick fu V2 (r1) (x2) (x3) (x4)) fun r5 V6 => F_X11_stick_25 fu V6 (r5))
def F_X11_waits_57 (fu : Nat) (V : St) (s0 : Int32) : RR :=
  some (s0, V)
def F_X11_waits_27 (fu : Nat) (V : St) : RR :=
  some ((-1 : Int32), V)
def f_X11_waits (fu : Nat) (V : St) (x1 : Int32) (x2 : Int32) : RR :=
  bd (f_X11_within fu V (x1) ((0 : Int32)) ((V 2109 0 0) - (1 : Int32))) fun r1 V2 => if r1 = 0 then
    (F_X11_waits_27 fu V2)
    else
    (bd (f_X11_within fu V2 (x2) ((1 : Int32)) ((100 : Int32))) fun r5 V6 => if r5 = 0 then
      (F_X11_waits_27 fu V6)
      else
      (gd (¬ x1 < 0 ∧ (x1).toNatClampNeg < cntV V6 2109) <| if (V6 1105 (x1).toNatClampNeg 0) = 0 then
        (F_X11_waits_57 fu V6 ((-1 : Int32)))
        else
        (bd (f_X11_howManyBefore fu V6 (x1)) fun r12 V13 => gd (¬ x2 = 0) <| F_X11_waits_57 fu V13 ((r12) / (x2)))))
def F_X4_lowestBar_82 (fu : Nat) (V : St) : RR :=
  some ((-1 : Int32), V)
def F_X4_lowestBar_76 (kh : St → Int32 → Int32 → RR) (kx59 : St → Int32 → Int32 → Int32 → RR) (kx82 : St → RR) (fu : Nat) (V : St) (x1 : Int32) (x2 : Int32) : RR :=
  kh V (x1) (x2 + 1)
def F_X4_lowestBar_70 (kh : St → Int32 → Int32 → Int32 → Int32 → RR) (kx59 : St → Int32 → Int32 → Int32 → RR) (kx76 : St → Int32 → Int32 → RR) (fu : Nat) (V : St) (x1 : Int32) (x2 : Int32) (x3 : Int32) (x4 : Int32) : RR :=
  kh V (x1) (x2) (x3) (x4 + 1)
def F_X4_lowestBar_69 (fu : Nat) (V : St) (s0 : Int32) : RR :=
  some (s0, V)
def F_X4_lowestBar_59 (fu : Nat) (V : St) (x1 : Int32) (x2 : Int32) (x4 : Int32) : RR :=
  if x1 = 0 then
    (F_X4_lowestBar_69 fu V (x4))
    else
    (F_X4_lowestBar_69 fu V (x2))
def F_X4_lowestBar_28 (kh : St → Int32 → Int32 → Int32 → Int32 → RR) (kx59 : St → Int32 → Int32 → Int32 → RR) (kx76 : St → Int32 → Int32 → RR) (fu : Nat) (V : St) (x1 : Int32) (x2 : Int32) (x3 : Int32) (x4 : Int32) : RR :=
  gd (¬ x3 < 0 ∧ (x3).toNatClampNeg < cntV V 1401) <| if (V 1704 (x3).toNatClampNeg 0) ≤ x4 then
    (kx76 V (x1) (x2))
    else
    (bd (f_X4_counts fu V (x2) (x4) ((98 : Int32))) fun r4 V5 => if r4 = 0 then
      (F_X4_lowestBar_70 kh kx59 kx76 fu V5 (x1) (x2) (x3) (x4))
      else
      (bd (f_X4_holds fu V5 (x3) (x4)) fun r8 V9 => if r8 = 0 then
        (F_X4_lowestBar_70 kh kx59 kx76 fu V9 (x1) (x2) (x3) (x4))
        else
        (kx59 V9 (x1) (x2) (x4))))
def Lp_X4_lowestBar_28 (kx59 : St → Int32 → Int32 → Int32 → RR) (kx76 : St → Int32 → Int32 → RR) (fu : Nat) : Nat → St → Int32 → Int32 → Int32 → Int32 → RR
  | 0, _, _, _, _, _ => none
  | n + 1, V, x1, x2, x3, x4 => F_X4_lowestBar_28 (Lp_X4_lowestBar_28 kx59 kx76 fu n) kx59 kx76 fu V x1 x2 x3 x4
def F_X4_lowestBar_2 (kh : St → Int32 → Int32 → RR) (kx59 : St → Int32 → Int32 → Int32 → RR) (kx82 : St → RR) (fu : Nat) (V : St) (x1 : Int32) (x2 : Int32) : RR :=
  if (V 1401 0 0) ≤ x2 then
    (kx82 V)
    else
    (gd (¬ x2 < 0 ∧ (x2).toNatClampNeg < cntV V 1401) <| Lp_X4_lowestBar_28 kx59 (F_X4_lowestBar_76 kh kx59 kx82 fu) fu fu V (x1) (x2) (x2) ((0 : Int32)))
def Lp_X4_lowestBar_2 (kx59 : St → Int32 → Int32 → Int32 → RR) (kx82 : St → RR) (fu : Nat) : Nat → St → Int32 → Int32 → RR
  | 0, _, _, _ => none
  | n + 1, V, x1, x2 => F_X4_lowestBar_2 (Lp_X4_lowestBar_2 kx59 kx82 fu n) kx59 kx82 fu V x1 x2
def f_X4_lowestBar (fu : Nat) (V : St) (x1 : Int32) : RR :=
  Lp_X4_lowestBar_2 (F_X4_lowestBar_59 fu) (F_X4_lowestBar_82 fu) fu fu V (x1) ((0 : Int32))
def F_X11_why_79 (fu : Nat) (V : St) (s0 : Int32) : RR :=
  bd (f_X4_lowestBar fu V (s0)) fun r1 V2 => some (r1, V2)
def F_X11_why_33 (fu : Nat) (V : St) : RR :=
  some ((-1 : Int32), V)
def f_X11_why (fu : Nat) (V : St) (x1 : Int32) (x2 : Int32) (x3 : Int32) : RR :=
  bd (f_X11_findThing fu V (x1)) fun r1 V2 => bd (f_X11_findMaker fu V2 (x2)) fun r4 V5 => if r1 < 0 then
    (F_X11_why_33 fu V5)
    else
    (if r4 < 0 then
      (F_X11_why_33 fu V5)
      else
      (bd (f_X11_within fu V5 (x3) ((0 : Int32)) ((1 : Int32))) fun r9 V10 => if r9 = 0 then
        (F_X11_why_33 fu V10)
        else
        (bd (f_X4_weigh fu V10 ((V10 2101 0 0)) ((V10 2101 0 0)) ((-1 : Int32))) fun r13 V14 => bd (f_X4_setLetters fu V14 ((V14 2101 0 0)) (r1) (r4)) fun r16 V17 => if x3 = 0 then
          (F_X11_why_79 fu V17 ((1 : Int32)))
          else
          (F_X11_why_79 fu V17 ((0 : Int32))))))
def f_X11_yardsFor (fu : Nat) (V : St) (x0 : Int32) (x1 : Int32) : RR :=
  gd (¬ x0 < 0 ∧ (x0).toNatClampNeg < cntV V 2105) <| bd (f_X11_roundedUp fu V ((V 2005 (x0).toNatClampNeg 0) * x1) ((36 : Int32))) fun r3 V4 => some (r3, V4)
def F_X11_whyNotMade_99 (fu : Nat) (V : St) (s0 : Int32) : RR :=
  some (s0, V)
def F_X11_whyNotMade_93 (fu : Nat) (V : St) : RR :=
  F_X11_whyNotMade_99 fu V ((-5 : Int32))
def F_X11_whyNotMade_62 (fu : Nat) (V : St) (x1 : Int32) (x3 : Int32) : RR :=
  gd (¬ x1 < 0 ∧ (x1).toNatClampNeg < cntV V 2106) <| if (V 1602 (x1).toNatClampNeg 0) < (V 1608 (x1).toNatClampNeg 0) + x3 then
    (F_X11_whyNotMade_93 fu V)
    else
    (if (V 1608 (x1).toNatClampNeg 0) + x3 ≤ (V 1603 (x1).toNatClampNeg 0) * (V 1604 (x1).toNatClampNeg 0) then
      (F_X11_whyNotMade_99 fu V ((0 : Int32)))
      else
      (F_X11_whyNotMade_93 fu V))
def F_X11_whyNotMade_35 (fu : Nat) (V : St) (x1 : Int32) (x2 : Int32) (x3 : Int32) : RR :=
  gd (¬ x2 < 0 ∧ (x2).toNatClampNeg < cntV V 2105) <| if (V 2001 (x2).toNatClampNeg 0) = 0 then
    (bd (f_X11_yardsFor fu V (x2) (x3)) fun r4 V5 => gd (¬ x1 < 0 ∧ (x1).toNatClampNeg < cntV V5 2106) <| gd (¬ x2 < 0 ∧ (x2).toNatClampNeg < cntV V5 2105) <| gd (¬ ((V5 2002 (x2).toNatClampNeg 0) < 0 ∨ 20 ≤ ((V5 2002 (x2).toNatClampNeg 0)).toNatClampNeg)) <| if r4 ≤ (V5 1606 ((x1).toNatClampNeg) ((V5 2002 (x2).toNatClampNeg 0)).toNatClampNeg) then
      (F_X11_whyNotMade_62 fu V5 (x1) (x3))
      else
      (some ((-4 : Int32), V5)))
    else
    (F_X11_whyNotMade_62 fu V (x1) (x3))
def f_X11_whyNotMade (fu : Nat) (V : St) (x1 : Int32) (x2 : Int32) (x3 : Int32) (x4 : Int32) : RR :=
  bd (f_X11_askNow fu V ((98 : Int32)) (x2) (x1)) fun r1 V2 => if r1 = (-1 : Int32) then
    (if x4 = 0 then
      (F_X11_whyNotMade_35 fu V2 (x1) (x2) (x3))
      else
      (bd (f_X11_askNow fu V2 ((109 : Int32)) (x2) (x1)) fun r6 V7 => if r6 = (-1 : Int32) then
        (some ((-3 : Int32), V7))
        else
        (F_X11_whyNotMade_35 fu V7 (x1) (x2) (x3))))
    else
    (some ((-2 : Int32), V2))
def F_X11_yards_31 (fu : Nat) (V : St) : RR :=
  some ((-1 : Int32), V)
def f_X11_yards (fu : Nat) (V : St) (x1 : Int32) (x2 : Int32) (x3 : Int32) : RR :=
  bd (f_X11_findMaker fu V (x1)) fun r1 V2 => if r1 < 0 then
    (F_X11_yards_31 fu V2)
    else
    (bd (f_X11_findCloth fu V2 (x2)) fun r5 V6 => if r5 < 0 then
      (F_X11_yards_31 fu V6)
      else
      (bd (f_X11_within fu V6 (x3) ((1 : Int32)) ((10000 : Int32))) fun r9 V10 => if r9 = 0 then
        (F_X11_yards_31 fu V10)
        else
        (gd (¬ r1 < 0 ∧ (r1).toNatClampNeg < cntV V10 2106) <| gd (¬ (x2 < 0 ∨ 20 ≤ (x2).toNatClampNeg)) <| if (V10 1606 ((r1).toNatClampNeg) (x2).toNatClampNeg) + x3 ≤ (1000000 : Int32) then
          (gd (¬ (x2 < 0 ∨ 20 ≤ (x2).toNatClampNeg)) <| gd (¬ (x2 < 0 ∨ 20 ≤ (x2).toNatClampNeg)) <| bv (setV V10 1606 ((r1).toNatClampNeg) (x2).toNatClampNeg ((V10 1606 ((r1).toNatClampNeg) (x2).toNatClampNeg) + x3)) fun V19 => gd (¬ (x2 < 0 ∨ 20 ≤ (x2).toNatClampNeg)) <| some ((V19 1606 ((r1).toNatClampNeg) (x2).toNatClampNeg), V19))
          else
          (some ((-1 : Int32), V10)))))
def F_X5_atLeast_68 (fu : Nat) (V : St) (x4 : Int32) : RR :=
  some (x4, V)
def F_X5_atLeast_57 (kh : St → Int32 → Int32 → Int32 → Int32 → Int32 → RR) (kx68 : St → Int32 → RR) (fu : Nat) (V : St) (x1 : Int32) (x2 : Int32) (x3 : Int32) (x4 : Int32) (x5 : Int32) : RR :=
  kh V (x1) (x2) (x3) (x4) ((x5 - (1 : Int32)) &&& x1)
def F_X5_atLeast_13 (kh : St → Int32 → Int32 → Int32 → Int32 → Int32 → RR) (kx68 : St → Int32 → RR) (fu : Nat) (V : St) (x1 : Int32) (x2 : Int32) (x3 : Int32) (x4 : Int32) (x5 : Int32) : RR :=
  if x5 ≤ 0 then
    (kx68 V (x4))
    else
    (gd (¬ (x5 < 0 ∨ 512 ≤ (x5).toNatClampNeg)) <| if x2 < (V 1501 (0) (x5).toNatClampNeg) then
      (F_X5_atLeast_57 kh kx68 fu V (x1) (x2) (x3) (x4) (x5))
      else
      (gd (¬ (x5 < 0 ∨ 512 ≤ (x5).toNatClampNeg)) <| gd (¬ (x1 ^^^ x5 < 0 ∨ 512 ≤ (x1 ^^^ x5).toNatClampNeg)) <| F_X5_atLeast_57 kh kx68 fu V (x1) (x2) (x3) ((if (if x3 < (V 1502 (0) (x5).toNatClampNeg) then (V 1502 (0) (x5).toNatClampNeg) else x3) + (V 1503 (0) (x1 ^^^ x5).toNatClampNeg) < x4 then (if x3 < (V 1502 (0) (x5).toNatClampNeg) then (V 1502 (0) (x5).toNatClampNeg) else x3) + (V 1503 (0) (x1 ^^^ x5).toNatClampNeg) else x4)) (x5)))
def Lp_X5_atLeast_13 (kx68 : St → Int32 → RR) (fu : Nat) : Nat → St → Int32 → Int32 → Int32 → Int32 → Int32 → RR
  | 0, _, _, _, _, _, _ => none
  | n + 1, V, x1, x2, x3, x4, x5 => F_X5_atLeast_13 (Lp_X5_atLeast_13 kx68 fu n) kx68 fu V x1 x2 x3 x4 x5
def f_X5_atLeast (fu : Nat) (V : St) (x1 : Int32) (x2 : Int32) (x3 : Int32) : RR :=
  gd (¬ (x1 < 0 ∨ 512 ≤ (x1).toNatClampNeg)) <| Lp_X5_atLeast_13 (F_X5_atLeast_68 fu) fu fu V (x1) (x2) (x3) (x3 + (V 1503 (0) (x1).toNatClampNeg)) (x1)
def F_X5_measureSets_86 (fu : Nat) (V : St) : RR :=
  some (0, V)
def F_X5_measureSets_16 (kh : St → Int32 → Int32 → RR) (kx86 : St → RR) (fu : Nat) (V : St) (x1 : Int32) (x2 : Int32) : RR :=
  if (1 : Int32) <<< ((V 1508 0 0) &&& 31) ≤ x2 then
    (kx86 V)
    else
    (bd (f_J6_numberOfTrailingZeros_0f7a4 fu V (x2)) fun r2 V3 => gd (¬ (x2 &&& (x2 - (1 : Int32)) < 0 ∨ 512 ≤ (x2 &&& (x2 - (1 : Int32))).toNatClampNeg)) <| gd (¬ x1 < 0 ∧ (x1).toNatClampNeg < cntV V3 2105) <| gd (¬ (r2 < 0 ∨ lenV V3 1002090 ((x1).toNatClampNeg) ≤ (r2).toNatClampNeg)) <| gd (¬ (x2 < 0 ∨ 512 ≤ (x2).toNatClampNeg)) <| bv (setV V3 1501 (0) (x2).toNatClampNeg ((V3 1501 (0) (x2 &&& (x2 - (1 : Int32))).toNatClampNeg) + (V3 2008 ((x1).toNatClampNeg) (r2).toNatClampNeg))) fun V10 => gd (¬ (x2 &&& (x2 - (1 : Int32)) < 0 ∨ 512 ≤ (x2 &&& (x2 - (1 : Int32))).toNatClampNeg)) <| gd (¬ (r2 < 0 ∨ lenV V10 1002090 ((x1).toNatClampNeg) ≤ (r2).toNatClampNeg)) <| gd (¬ (x2 < 0 ∨ 512 ≤ (x2).toNatClampNeg)) <| bv (setV V10 1502 (0) (x2).toNatClampNeg ((if (V10 1502 (0) (x2 &&& (x2 - (1 : Int32))).toNatClampNeg) < (V10 2007 ((x1).toNatClampNeg) (r2).toNatClampNeg) then (V10 2007 ((x1).toNatClampNeg) (r2).toNatClampNeg) else (V10 1502 (0) (x2 &&& (x2 - (1 : Int32))).toNatClampNeg)))) fun V16 => kh V16 (x1) (x2 + 1))
def Lp_X5_measureSets_16 (kx86 : St → RR) (fu : Nat) : Nat → St → Int32 → Int32 → RR
  | 0, _, _, _ => none
  | n + 1, V, x1, x2 => F_X5_measureSets_16 (Lp_X5_measureSets_16 kx86 fu n) kx86 fu V x1 x2
def f_X5_measureSets (fu : Nat) (V : St) (x1 : Int32) : RR :=
  gd (¬ ((0 : Int32) < 0 ∨ 512 ≤ ((0 : Int32)).toNatClampNeg)) <| bv (setV V 1501 (0) ((0 : Int32)).toNatClampNeg ((0 : Int32))) fun V2 => gd (¬ ((0 : Int32) < 0 ∨ 512 ≤ ((0 : Int32)).toNatClampNeg)) <| bv (setV V2 1502 (0) ((0 : Int32)).toNatClampNeg ((0 : Int32))) fun V5 => Lp_X5_measureSets_16 (F_X5_measureSets_86 fu) fu fu V5 (x1) ((1 : Int32))
def F_X5_shortenSets_121 (fu : Nat) (V : St) : RR :=
  some (0, V)
def F_X5_shortenSets_107 (kh : St → Int32 → Int32 → RR) (kx121 : St → RR) (fu : Nat) (V : St) (x1 : Int32) (x2 : Int32) (x5 : Int32) : RR :=
  gd (¬ (x2 < 0 ∨ 512 ≤ (x2).toNatClampNeg)) <| bv (setV V 1503 (0) (x2).toNatClampNeg (x5)) fun V2 => kh V2 (x1) (x2 + 1)
def F_X5_shortenSets_96 (kh : St → Int32 → Int32 → Int32 → Int32 → Int32 → Int32 → RR) (kx107 : St → Int32 → Int32 → Int32 → RR) (fu : Nat) (V : St) (x1 : Int32) (x2 : Int32) (x3 : Int32) (x4 : Int32) (x5 : Int32) (x6 : Int32) : RR :=
  kh V (x1) (x2) (x3) (x4) (x5) ((x6 - (1 : Int32)) &&& x3)
def F_X5_shortenSets_49 (kh : St → Int32 → Int32 → Int32 → Int32 → Int32 → Int32 → RR) (kx107 : St → Int32 → Int32 → Int32 → RR) (fu : Nat) (V : St) (x1 : Int32) (x2 : Int32) (x3 : Int32) (x4 : Int32) (x5 : Int32) (x6 : Int32) : RR :=
  if x6 ≤ 0 then
    (kx107 V (x1) (x2) (x5))
    else
    (gd (¬ (x4 ||| x6 < 0 ∨ 512 ≤ (x4 ||| x6).toNatClampNeg)) <| if x1 < (V 1501 (0) (x4 ||| x6).toNatClampNeg) then
      (F_X5_shortenSets_96 kh kx107 fu V (x1) (x2) (x3) (x4) (x5) (x6))
      else
      (gd (¬ (x4 ||| x6 < 0 ∨ 512 ≤ (x4 ||| x6).toNatClampNeg)) <| gd (¬ (x3 ^^^ x6 < 0 ∨ 512 ≤ (x3 ^^^ x6).toNatClampNeg)) <| F_X5_shortenSets_96 kh kx107 fu V (x1) (x2) (x3) (x4) ((if (V 1502 (0) (x4 ||| x6).toNatClampNeg) + (V 1503 (0) (x3 ^^^ x6).toNatClampNeg) < x5 then (V 1502 (0) (x4 ||| x6).toNatClampNeg) + (V 1503 (0) (x3 ^^^ x6).toNatClampNeg) else x5)) (x6)))
def Lp_X5_shortenSets_49 (kx107 : St → Int32 → Int32 → Int32 → RR) (fu : Nat) : Nat → St → Int32 → Int32 → Int32 → Int32 → Int32 → Int32 → RR
  | 0, _, _, _, _, _, _, _ => none
  | n + 1, V, x1, x2, x3, x4, x5, x6 => F_X5_shortenSets_49 (Lp_X5_shortenSets_49 kx107 fu n) kx107 fu V x1 x2 x3 x4 x5 x6
def F_X5_shortenSets_9 (kh : St → Int32 → Int32 → RR) (kx121 : St → RR) (fu : Nat) (V : St) (x1 : Int32) (x2 : Int32) : RR :=
  if (1 : Int32) <<< ((V 1508 0 0) &&& 31) ≤ x2 then
    (kx121 V)
    else
    (gd (¬ (x2 ^^^ (x2 &&& (x2 - (1 : Int32))) < 0 ∨ 512 ≤ (x2 ^^^ (x2 &&& (x2 - (1 : Int32)))).toNatClampNeg)) <| gd (¬ (x2 &&& (x2 - (1 : Int32)) < 0 ∨ 512 ≤ (x2 &&& (x2 - (1 : Int32))).toNatClampNeg)) <| Lp_X5_shortenSets_49 (F_X5_shortenSets_107 kh kx121 fu) fu fu V (x1) (x2) (x2 &&& (x2 - (1 : Int32))) (x2 ^^^ (x2 &&& (x2 - (1 : Int32)))) ((V 1502 (0) (x2 ^^^ (x2 &&& (x2 - (1 : Int32)))).toNatClampNeg) + (V 1503 (0) (x2 &&& (x2 - (1 : Int32))).toNatClampNeg)) (x2 &&& (x2 - (1 : Int32))))
def Lp_X5_shortenSets_9 (kx121 : St → RR) (fu : Nat) : Nat → St → Int32 → Int32 → RR
  | 0, _, _, _ => none
  | n + 1, V, x1, x2 => F_X5_shortenSets_9 (Lp_X5_shortenSets_9 kx121 fu n) kx121 fu V x1 x2
def f_X5_shortenSets (fu : Nat) (V : St) (x1 : Int32) : RR :=
  gd (¬ ((0 : Int32) < 0 ∨ 512 ≤ ((0 : Int32)).toNatClampNeg)) <| bv (setV V 1503 (0) ((0 : Int32)).toNatClampNeg ((0 : Int32))) fun V2 => Lp_X5_shortenSets_9 (F_X5_shortenSets_121 fu) fu fu V2 (x1) ((1 : Int32))
def F_X9_emit_37 (fu : Nat) (V : St) : RR :=
  some ((1 : Int32), V)
def f_X9_emit (fu : Nat) (V : St) (x1 : Int32) (x2 : Int32) : RR :=
  if (nI (lenV V 160 (0))) ≤ (V 1907 0 0) then
    (F_X9_emit_37 fu V)
    else
    (gd (¬ ((V 1907 0 0) < 0 ∨ 160 ≤ ((V 1907 0 0)).toNatClampNeg)) <| bv (setV V 1905 (0) ((V 1907 0 0)).toNatClampNeg ((x2 <<< ((8 : Int32) &&& 31)) ||| x1)) fun V3 => bv (setV V3 1907 0 0 ((V3 1907 0 0) + (1 : Int32))) fun V5 => F_X9_emit_37 fu V5)
def f_X9_fail (fu : Nat) (V : St) (x1 : Int32) : RR :=
  bv (setV V 1911 0 0 (((-1000 : Int32) * x1) - (V 1910 0 0))) fun V1 => some ((0 : Int32), V1)
def F_X9_here_28 (fu : Nat) (V : St) (s0 : Int32) : RR :=
  some (s0, V)
def f_X9_here (fu : Nat) (V : St) : RR :=
  if (V 1909 0 0) ≤ (V 1910 0 0) then
    (F_X9_here_28 fu V ((-1 : Int32)))
    else
    (gd (¬ (V 1908 0 0) < 0 ∧ ((V 1908 0 0)).toNatClampNeg < cntV V 2) <| gd (¬ ((V 1910 0 0) < 0 ∨ lenV V 1002190 ((V 1908 0 0)).toNatClampNeg ≤ ((V 1910 0 0)).toNatClampNeg)) <| F_X9_here_28 fu V ((V 2113 ((V 1908 0 0)).toNatClampNeg ((V 1910 0 0)).toNatClampNeg) &&& (255 : Int32)))
def F_X9_leadHere_41 (fu : Nat) (V : St) : RR :=
  some (0, V)
def F_X9_leadHere_35 (kh : St → Int32 → Int32 → RR) (kx41 : St → RR) (fu : Nat) (V : St) (x1 : Int32) (x3 : Int32) : RR :=
  kh V (x1) (x3 + 1)
def F_X9_leadHere_2 (kh : St → Int32 → Int32 → RR) (kx41 : St → RR) (fu : Nat) (V : St) (x1 : Int32) (x3 : Int32) : RR :=
  if (V 1907 0 0) ≤ x3 then
    (kx41 V)
    else
    (gd (¬ (x3 < 0 ∨ 160 ≤ (x3).toNatClampNeg)) <| if (V 1905 (0) (x3).toNatClampNeg) = x1 then
      (gd (¬ (x3 < 0 ∨ 160 ≤ (x3).toNatClampNeg)) <| bv (setV V 1905 (0) (x3).toNatClampNeg (((V 1907 0 0) <<< ((8 : Int32) &&& 31)) ||| x1)) fun V5 => F_X9_leadHere_35 kh kx41 fu V5 (x1) (x3))
      else
      (F_X9_leadHere_35 kh kx41 fu V (x1) (x3)))
def Lp_X9_leadHere_2 (kx41 : St → RR) (fu : Nat) : Nat → St → Int32 → Int32 → RR
  | 0, _, _, _ => none
  | n + 1, V, x1, x3 => F_X9_leadHere_2 (Lp_X9_leadHere_2 kx41 fu n) kx41 fu V x1 x3
def f_X9_leadHere (fu : Nat) (V : St) (x1 : Int32) (x2 : Int32) : RR :=
  Lp_X9_leadHere_2 (F_X9_leadHere_41 fu) fu fu V (x1) (x2)
def F_X9_readNumber_101 (fu : Nat) (V : St) (x1 : Int32) (x2 : Int32) (x3 : Int32) : RR :=
  if (V 1910 0 0) = x2 then
    (bv (setV V 1911 0 0 ((-1000 : Int32) - (V 1910 0 0))) fun V2 => some ((-1 : Int32), V2))
    else
    (if x3 ≤ x1 then
      (some (x3, V))
      else
      (bv (setV V 1911 0 0 ((-3000 : Int32) - x2)) fun V3 => some ((-1 : Int32), V3)))
def F_X9_readNumber_56 (fu : Nat) (V : St) : RR :=
  bv (setV V 1911 0 0 ((-2000 : Int32) - (V 1910 0 0))) fun V1 => some ((-1 : Int32), V1)
def F_X9_readNumber_7 (kh : St → Int32 → Int32 → Int32 → RR) (kx56 : St → RR) (kx101 : St → Int32 → Int32 → Int32 → RR) (fu : Nat) (V : St) (x1 : Int32) (x2 : Int32) (x3 : Int32) : RR :=
  if (V 1909 0 0) ≤ (V 1910 0 0) then
    (kx101 V (x1) (x2) (x3))
    else
    (gd (¬ (V 1908 0 0) < 0 ∧ ((V 1908 0 0)).toNatClampNeg < cntV V 2) <| gd (¬ ((V 1910 0 0) < 0 ∨ lenV V 1002190 ((V 1908 0 0)).toNatClampNeg ≤ ((V 1910 0 0)).toNatClampNeg)) <| if (V 2113 ((V 1908 0 0)).toNatClampNeg ((V 1910 0 0)).toNatClampNeg) < (48 : Int32) then
      (kx101 V (x1) (x2) (x3))
      else
      (gd (¬ ((V 1910 0 0) < 0 ∨ lenV V 1002190 ((V 1908 0 0)).toNatClampNeg ≤ ((V 1910 0 0)).toNatClampNeg)) <| if (57 : Int32) < (V 2113 ((V 1908 0 0)).toNatClampNeg ((V 1910 0 0)).toNatClampNeg) then
        (kx101 V (x1) (x2) (x3))
        else
        (if (V 1910 0 0) - x2 < (5 : Int32) then
          (gd (¬ ((V 1910 0 0) < 0 ∨ lenV V 1002190 ((V 1908 0 0)).toNatClampNeg ≤ ((V 1910 0 0)).toNatClampNeg)) <| bv (setV V 1910 0 0 ((V 1910 0 0) + (1 : Int32))) fun V10 => kh V10 (x1) (x2) (((x3 * (10 : Int32)) + (V 2113 ((V 1908 0 0)).toNatClampNeg ((V 1910 0 0)).toNatClampNeg)) - (48 : Int32)))
          else
          (kx56 V))))
def Lp_X9_readNumber_7 (kx56 : St → RR) (kx101 : St → Int32 → Int32 → Int32 → RR) (fu : Nat) : Nat → St → Int32 → Int32 → Int32 → RR
  | 0, _, _, _, _ => none
  | n + 1, V, x1, x2, x3 => F_X9_readNumber_7 (Lp_X9_readNumber_7 kx56 kx101 fu n) kx56 kx101 fu V x1 x2 x3
def f_X9_readNumber (fu : Nat) (V : St) (x1 : Int32) : RR :=
  Lp_X9_readNumber_7 (F_X9_readNumber_56 fu) (F_X9_readNumber_101 fu) fu fu V (x1) ((V 1910 0 0)) ((0 : Int32))
def F_X9_take_59 (fu : Nat) (V : St) (x2 : Int32) : RR :=
  gd (x2 = 0 ∨ x2 = 1) <| some (x2, V)
def F_X9_take_29 (fu : Nat) (V : St) (s0 : Int32) : RR :=
  if s0 = 0 then
    (bv (setV V 1911 0 0 ((-1000 : Int32) - (V 1910 0 0))) fun V2 => F_X9_take_59 fu V2 (s0))
    else
    (bv (setV V 1910 0 0 ((V 1910 0 0) + (1 : Int32))) fun V4 => F_X9_take_59 fu V4 (s0))
def F_X9_take_28 (fu : Nat) (V : St) : RR :=
  F_X9_take_29 fu V ((0 : Int32))
def f_X9_take (fu : Nat) (V : St) (x1 : Int32) : RR :=
  if (V 1909 0 0) ≤ (V 1910 0 0) then
    (F_X9_take_28 fu V)
    else
    (gd (¬ (V 1908 0 0) < 0 ∧ ((V 1908 0 0)).toNatClampNeg < cntV V 2) <| gd (¬ ((V 1910 0 0) < 0 ∨ lenV V 1002190 ((V 1908 0 0)).toNatClampNeg ≤ ((V 1910 0 0)).toNatClampNeg)) <| if (V 2113 ((V 1908 0 0)).toNatClampNeg ((V 1910 0 0)).toNatClampNeg) = x1 then
      (F_X9_take_29 fu V ((1 : Int32)))
      else
      (F_X9_take_28 fu V))
def sB (i : Nat) : List Int32 := strByt.getD i []
def sAt (i : Nat) (x : Int32) : Int32 := (sB i).getD x.toNatClampNeg 0
def sIdxL : List Int32 → Int32 → Nat → Int32
  | [], _, _ => -1
  | b :: bs, x, k => if b = x then nI k else sIdxL bs x (k + 1)
def sIdx (i : Nat) (x : Int32) : Int32 := if 0 ≤ x ∧ x ≤ 255 then sIdxL (sB i) x.toInt8.toInt32 0 else -1
def f_X9_isOneOf (_ : Nat) (V : St) (i : Nat) (x : Int32) : RR := if i < 7 then some (if ¬ x < 0 ∧ ¬ sIdx i (x.toUInt32 % 65536).toInt32 < 0 then 1 else 0, V) else none
def cpV (V : St) (c0 c1 i n : Nat) : St := fun v' i' j' => if v' = c1 ∧ i' = i ∧ j' < n then V c0 i j' else V v' i' j'
def F_X9_readCondition_108 (rc_X9_readPiece : St → Int32 → RR) (fu : Nat) (V : St) : RR :=
  bd (f_X9_fail fu V ((1 : Int32))) fun r1 V2 => gd (r1 = 0 ∨ r1 = 1) <| some (r1, V2)
def F_X9_readCondition_92 (rc_X9_readPiece : St → Int32 → RR) (kh : St → Int32 → Int32 → Int32 → Int32 → RR) (kx30 : St → RR) (kx70 : St → Int32 → RR) (kx108 : St → RR) (fu : Nat) (V : St) (x1 : Int32) (x2 : Int32) (x3 : Int32) (x4 : Int32) : RR :=
  bv (setV V 1910 0 0 ((V 1910 0 0) + (1 : Int32))) fun V1 => kh V1 (x1) (x2) (x3) (x4 + 1)
def F_X9_readCondition_70 (rc_X9_readPiece : St → Int32 → RR) (fu : Nat) (V : St) (x2 : Int32) : RR :=
  bd (f_X9_leadHere fu V ((124 : Int32)) (x2)) fun r1 V2 => some ((1 : Int32), V2)
def F_X9_readCondition_30 (rc_X9_readPiece : St → Int32 → RR) (fu : Nat) (V : St) : RR :=
  some ((0 : Int32), V)
def F_X9_readCondition_13 (rc_X9_readPiece : St → Int32 → RR) (kh : St → Int32 → Int32 → Int32 → Int32 → RR) (kx30 : St → RR) (kx70 : St → Int32 → RR) (kx108 : St → RR) (fu : Nat) (V : St) (x1 : Int32) (x2 : Int32) (x3 : Int32) (x4 : Int32) : RR :=
  if (V 1909 0 0) < x4 then
    (kx108 V)
    else
    (bd (rc_X9_readPiece V (x1)) fun r2 V3 => if r2 = 0 then
      (kx30 V3)
      else
      (bd (f_X9_here fu V3) fun r6 V7 => if r6 = (38 : Int32) then
        (bd (f_X9_emit fu V7 ((38 : Int32)) ((0 : Int32))) fun r13 V14 => F_X9_readCondition_92 rc_X9_readPiece kh kx30 kx70 kx108 fu V14 (x1) (x2) (x3) (x4))
        else
        (bd (f_X9_leadHere fu V7 ((38 : Int32)) (x3)) fun r10 V11 => if r6 = (124 : Int32) then
          (bd (f_X9_emit fu V11 ((124 : Int32)) ((0 : Int32))) fun r14 V15 => F_X9_readCondition_92 rc_X9_readPiece kh kx30 kx70 kx108 fu V15 (x1) (x2) ((V15 1907 0 0)) (x4))
          else
          (kx70 V11 (x2)))))
def Lp_X9_readCondition_13 (rc_X9_readPiece : St → Int32 → RR) (kx30 : St → RR) (kx70 : St → Int32 → RR) (kx108 : St → RR) (fu : Nat) : Nat → St → Int32 → Int32 → Int32 → Int32 → RR
  | 0, _, _, _, _, _ => none
  | n + 1, V, x1, x2, x3, x4 => F_X9_readCondition_13 rc_X9_readPiece (Lp_X9_readCondition_13 rc_X9_readPiece kx30 kx70 kx108 fu n) kx30 kx70 kx108 fu V x1 x2 x3 x4
def fb_X9_readCondition (rc_X9_readPiece : St → Int32 → RR) (fu : Nat) (V : St) (x1 : Int32) : RR :=
  Lp_X9_readCondition_13 rc_X9_readPiece (F_X9_readCondition_30 rc_X9_readPiece fu) (F_X9_readCondition_70 rc_X9_readPiece fu) (F_X9_readCondition_108 rc_X9_readPiece fu) fu fu V (x1) ((V 1907 0 0)) ((V 1907 0 0)) ((0 : Int32))
def F_X9_readPiece_158 (rc_X9_readCondition : St → Int32 → RR) (rc_X9_readPiece : St → Int32 → RR) (rc_X9_readSum : St → Int32 → RR) (fu : Nat) (V : St) (s0 : Int32) : RR :=
  gd (s0 = 0 ∨ s0 = 1) <| some (s0, V)
def F_X9_readPiece_157 (rc_X9_readCondition : St → Int32 → RR) (rc_X9_readPiece : St → Int32 → RR) (rc_X9_readSum : St → Int32 → RR) (fu : Nat) (V : St) : RR :=
  F_X9_readPiece_158 rc_X9_readCondition rc_X9_readPiece rc_X9_readSum fu V ((0 : Int32))
def F_X9_readPiece_95 (rc_X9_readCondition : St → Int32 → RR) (rc_X9_readPiece : St → Int32 → RR) (rc_X9_readSum : St → Int32 → RR) (fu : Nat) (V : St) (s0 : Int32) : RR :=
  gd (s0 = 0 ∨ s0 = 1) <| some (s0, V)
def F_X9_readPiece_94 (rc_X9_readCondition : St → Int32 → RR) (rc_X9_readPiece : St → Int32 → RR) (rc_X9_readSum : St → Int32 → RR) (fu : Nat) (V : St) : RR :=
  F_X9_readPiece_95 rc_X9_readCondition rc_X9_readPiece rc_X9_readSum fu V ((0 : Int32))
def F_X9_readPiece_69 (rc_X9_readCondition : St → Int32 → RR) (rc_X9_readPiece : St → Int32 → RR) (rc_X9_readSum : St → Int32 → RR) (fu : Nat) (V : St) (s0 : Int32) : RR :=
  gd (s0 = 0 ∨ s0 = 1) <| some (s0, V)
def F_X9_readPiece_68 (rc_X9_readCondition : St → Int32 → RR) (rc_X9_readPiece : St → Int32 → RR) (rc_X9_readSum : St → Int32 → RR) (fu : Nat) (V : St) : RR :=
  F_X9_readPiece_69 rc_X9_readCondition rc_X9_readPiece rc_X9_readSum fu V ((0 : Int32))
def F_X9_readPiece_17 (rc_X9_readCondition : St → Int32 → RR) (rc_X9_readPiece : St → Int32 → RR) (rc_X9_readSum : St → Int32 → RR) (fu : Nat) (V : St) (x1 : Int32) (x2 : Int32) : RR :=
  if x1 < (6 : Int32) then
    (bv (setV V 1910 0 0 ((V 1910 0 0) + (1 : Int32))) fun V2 => if x2 = (40 : Int32) then
      (bd (rc_X9_readCondition V2 (x1 + (1 : Int32))) fun r8 V9 => if r8 = 0 then
        (F_X9_readPiece_68 rc_X9_readCondition rc_X9_readPiece rc_X9_readSum fu V9)
        else
        (bd (f_X9_take fu V9 ((41 : Int32))) fun r12 V13 => if r12 = 0 then
          (F_X9_readPiece_68 rc_X9_readCondition rc_X9_readPiece rc_X9_readSum fu V13)
          else
          (F_X9_readPiece_69 rc_X9_readCondition rc_X9_readPiece rc_X9_readSum fu V13 ((1 : Int32)))))
      else
      (bd (rc_X9_readPiece V2 (x1 + (1 : Int32))) fun r5 V6 => if r5 = 0 then
        (F_X9_readPiece_94 rc_X9_readCondition rc_X9_readPiece rc_X9_readSum fu V6)
        else
        (bd (f_X9_emit fu V6 ((33 : Int32)) ((0 : Int32))) fun r9 V10 => if r9 = 0 then
          (F_X9_readPiece_94 rc_X9_readCondition rc_X9_readPiece rc_X9_readSum fu V10)
          else
          (F_X9_readPiece_95 rc_X9_readCondition rc_X9_readPiece rc_X9_readSum fu V10 ((1 : Int32))))))
    else
    (bd (f_X9_fail fu V ((5 : Int32))) fun r4 V5 => gd (r4 = 0 ∨ r4 = 1) <| some (r4, V5))
def fb_X9_readPiece (rc_X9_readCondition : St → Int32 → RR) (rc_X9_readPiece : St → Int32 → RR) (rc_X9_readSum : St → Int32 → RR) (fu : Nat) (V : St) (x1 : Int32) : RR :=
  bd (f_X9_here fu V) fun r1 V2 => if r1 = (33 : Int32) then
    (F_X9_readPiece_17 rc_X9_readCondition rc_X9_readPiece rc_X9_readSum fu V2 (x1) (r1))
    else
    (if r1 = (40 : Int32) then
      (F_X9_readPiece_17 rc_X9_readCondition rc_X9_readPiece rc_X9_readSum fu V2 (x1) (r1))
      else
      (bd (rc_X9_readSum V2 (x1)) fun r6 V7 => if r6 = 0 then
        (some ((0 : Int32), V7))
        else
        (bd (f_X9_here fu V7) fun r10 V11 => bd (f_X9_isOneOf fu V11 (5) (r10)) fun r13 V14 => if r13 = 0 then
          (bd (f_X9_fail fu V14 ((1 : Int32))) fun r22 V23 => gd (r22 = 0 ∨ r22 = 1) <| some (r22, V23))
          else
          (bv (setV V14 1910 0 0 ((V14 1910 0 0) + (1 : Int32))) fun V17 => bd (rc_X9_readSum V17 (x1)) fun r19 V20 => if r19 = 0 then
            (F_X9_readPiece_157 rc_X9_readCondition rc_X9_readPiece rc_X9_readSum fu V20)
            else
            (bd (f_X9_emit fu V20 (r10) ((0 : Int32))) fun r23 V24 => if r23 = 0 then
              (F_X9_readPiece_157 rc_X9_readCondition rc_X9_readPiece rc_X9_readSum fu V24)
              else
              (F_X9_readPiece_158 rc_X9_readCondition rc_X9_readPiece rc_X9_readSum fu V24 ((1 : Int32))))))))
def F_X9_readSum_103 (rc_X9_readFactor : St → Int32 → RR) (fu : Nat) (V : St) : RR :=
  bd (f_X9_fail fu V ((1 : Int32))) fun r1 V2 => gd (r1 = 0 ∨ r1 = 1) <| some (r1, V2)
def F_X9_readSum_87 (rc_X9_readFactor : St → Int32 → RR) (kh : St → Int32 → Int32 → Int32 → Int32 → RR) (kx24 : St → RR) (kx82 : St → RR) (kx103 : St → RR) (fu : Nat) (V : St) (x1 : Int32) (x2 : Int32) (x3 : Int32) (x4 : Int32) : RR :=
  bv (setV V 1910 0 0 ((V 1910 0 0) + (1 : Int32))) fun V1 => kh V1 (x1) (x2) (x3) (x4 + 1)
def F_X9_readSum_82 (rc_X9_readFactor : St → Int32 → RR) (fu : Nat) (V : St) : RR :=
  some ((1 : Int32), V)
def F_X9_readSum_72 (rc_X9_readFactor : St → Int32 → RR) (kh : St → Int32 → Int32 → Int32 → Int32 → RR) (kx24 : St → RR) (kx82 : St → RR) (kx103 : St → RR) (fu : Nat) (V : St) (x1 : Int32) (x3 : Int32) (x4 : Int32) (x5 : Int32) : RR :=
  bd (f_X9_isOneOf fu V (4) (x5)) fun r1 V2 => if r1 = 0 then
    (kx82 V2)
    else
    (F_X9_readSum_87 rc_X9_readFactor kh kx24 kx82 kx103 fu V2 (x1) (x5) (x3) (x4))
def F_X9_readSum_39 (rc_X9_readFactor : St → Int32 → RR) (kh : St → Int32 → Int32 → Int32 → Int32 → RR) (kx24 : St → RR) (kx82 : St → RR) (kx103 : St → RR) (fu : Nat) (V : St) (x1 : Int32) (x2 : Int32) (x3 : Int32) (x4 : Int32) : RR :=
  bd (f_X9_here fu V) fun r1 V2 => bd (f_X9_isOneOf fu V2 (3) (r1)) fun r4 V5 => if r4 = 0 then
    (if x2 = 0 then
      (F_X9_readSum_72 rc_X9_readFactor kh kx24 kx82 kx103 fu V5 (x1) (x3) (x4) (r1))
      else
      (bd (f_X9_emit fu V5 (x2) ((0 : Int32))) fun r9 V10 => F_X9_readSum_72 rc_X9_readFactor kh kx24 kx82 kx103 fu V10 (x1) (x3) (x4) (r1)))
    else
    (F_X9_readSum_87 rc_X9_readFactor kh kx24 kx82 kx103 fu V5 (x1) (x2) (r1) (x4))
def F_X9_readSum_24 (rc_X9_readFactor : St → Int32 → RR) (fu : Nat) (V : St) : RR :=
  some ((0 : Int32), V)
def F_X9_readSum_7 (rc_X9_readFactor : St → Int32 → RR) (kh : St → Int32 → Int32 → Int32 → Int32 → RR) (kx24 : St → RR) (kx82 : St → RR) (kx103 : St → RR) (fu : Nat) (V : St) (x1 : Int32) (x2 : Int32) (x3 : Int32) (x4 : Int32) : RR :=
  if (V 1909 0 0) < x4 then
    (kx103 V)
    else
    (bd (rc_X9_readFactor V (x1)) fun r2 V3 => if r2 = 0 then
      (kx24 V3)
      else
      (if x3 = 0 then
        (F_X9_readSum_39 rc_X9_readFactor kh kx24 kx82 kx103 fu V3 (x1) (x2) (x3) (x4))
        else
        (bd (f_X9_emit fu V3 (x3) ((0 : Int32))) fun r7 V8 => F_X9_readSum_39 rc_X9_readFactor kh kx24 kx82 kx103 fu V8 (x1) (x2) ((0 : Int32)) (x4))))
def Lp_X9_readSum_7 (rc_X9_readFactor : St → Int32 → RR) (kx24 : St → RR) (kx82 : St → RR) (kx103 : St → RR) (fu : Nat) : Nat → St → Int32 → Int32 → Int32 → Int32 → RR
  | 0, _, _, _, _, _ => none
  | n + 1, V, x1, x2, x3, x4 => F_X9_readSum_7 rc_X9_readFactor (Lp_X9_readSum_7 rc_X9_readFactor kx24 kx82 kx103 fu n) kx24 kx82 kx103 fu V x1 x2 x3 x4
def fb_X9_readSum (rc_X9_readFactor : St → Int32 → RR) (fu : Nat) (V : St) (x1 : Int32) : RR :=
  Lp_X9_readSum_7 rc_X9_readFactor (F_X9_readSum_24 rc_X9_readFactor fu) (F_X9_readSum_82 rc_X9_readFactor fu) (F_X9_readSum_103 rc_X9_readFactor fu) fu fu V (x1) ((0 : Int32)) ((0 : Int32)) ((0 : Int32))
def F_X9_readFactor_98 (rc_X9_readSum : St → Int32 → RR) (fu : Nat) (V : St) (x2 : Int32) : RR :=
  bd (f_X9_isOneOf fu V (2) (x2)) fun r1 V2 => if r1 = 0 then
    (bd (f_X9_fail fu V2 ((1 : Int32))) fun r11 V12 => gd (r11 = 0 ∨ r11 = 1) <| some (r11, V12))
    else
    (bv (setV V2 1910 0 0 ((V2 1910 0 0) + (1 : Int32))) fun V5 => bd (f_X9_emit fu V5 ((64 : Int32)) ((sIdx 2 (((x2).toUInt32 % 65536).toInt32)))) fun r7 V8 => gd (r7 = 0 ∨ r7 = 1) <| some (r7, V8))
def F_X9_readFactor_97 (rc_X9_readSum : St → Int32 → RR) (fu : Nat) (V : St) (s0 : Int32) : RR :=
  gd (s0 = 0 ∨ s0 = 1) <| some (s0, V)
def F_X9_readFactor_96 (rc_X9_readSum : St → Int32 → RR) (fu : Nat) (V : St) : RR :=
  F_X9_readFactor_97 rc_X9_readSum fu V ((0 : Int32))
def F_X9_readFactor_57 (rc_X9_readSum : St → Int32 → RR) (fu : Nat) (V : St) (s0 : Int32) : RR :=
  gd (s0 = 0 ∨ s0 = 1) <| some (s0, V)
def F_X9_readFactor_56 (rc_X9_readSum : St → Int32 → RR) (fu : Nat) (V : St) : RR :=
  F_X9_readFactor_57 rc_X9_readSum fu V ((0 : Int32))
def fb_X9_readFactor (rc_X9_readSum : St → Int32 → RR) (fu : Nat) (V : St) (x1 : Int32) : RR :=
  bd (f_X9_here fu V) fun r1 V2 => if r1 = (91 : Int32) then
    (if x1 < (6 : Int32) then
      (bv (setV V2 1910 0 0 ((V2 1910 0 0) + (1 : Int32))) fun V6 => bd (rc_X9_readSum V6 (x1 + (1 : Int32))) fun r8 V9 => if r8 = 0 then
        (F_X9_readFactor_56 rc_X9_readSum fu V9)
        else
        (bd (f_X9_take fu V9 ((93 : Int32))) fun r12 V13 => if r12 = 0 then
          (F_X9_readFactor_56 rc_X9_readSum fu V13)
          else
          (F_X9_readFactor_57 rc_X9_readSum fu V13 ((1 : Int32)))))
      else
      (bd (f_X9_fail fu V2 ((5 : Int32))) fun r11 V12 => gd (r11 = 0 ∨ r11 = 1) <| some (r11, V12)))
    else
    (if r1 < (48 : Int32) then
      (F_X9_readFactor_98 rc_X9_readSum fu V2 (r1))
      else
      (if (57 : Int32) < r1 then
        (F_X9_readFactor_98 rc_X9_readSum fu V2 (r1))
        else
        (bd (f_X9_readNumber fu V2 ((99999 : Int32))) fun r7 V8 => if r7 = (-1 : Int32) then
          (F_X9_readFactor_96 rc_X9_readSum fu V8)
          else
          (bd (f_X9_emit fu V8 ((35 : Int32)) (r7)) fun r11 V12 => if r11 = 0 then
            (F_X9_readFactor_96 rc_X9_readSum fu V12)
            else
            (F_X9_readFactor_97 rc_X9_readSum fu V12 ((1 : Int32)))))))
def g_rd (fu : Nat) : Nat → Nat → St → Int32 → RR
  | 0, _, _, _ => none
  | n + 1, 0, V, x1 => fb_X9_readCondition (g_rd fu n 1) fu V x1
  | n + 1, 1, V, x1 => fb_X9_readPiece (g_rd fu n 0) (g_rd fu n 1) (g_rd fu n 2) fu V x1
  | n + 1, 2, V, x1 => fb_X9_readSum (g_rd fu n 3) fu V x1
  | n + 1, _ + 3, V, x1 => fb_X9_readFactor (g_rd fu n 2) fu V x1
def f_X9_readCondition (fu : Nat) (V : St) (x1 : Int32) : RR := g_rd fu 30 0 V x1
def f_X9_readPiece (fu : Nat) (V : St) (x1 : Int32) : RR := g_rd fu 30 1 V x1
def f_X9_readSum (fu : Nat) (V : St) (x1 : Int32) : RR := g_rd fu 30 2 V x1
def f_X9_readFactor (fu : Nat) (V : St) (x1 : Int32) : RR := g_rd fu 30 3 V x1
def F_X9_readClause_237 (fu : Nat) (V : St) (x4 : Int32) : RR :=
  gd (x4 = 0 ∨ x4 = 1) <| some (x4, V)
def F_X9_readClause_179 (fu : Nat) (V : St) (x1 : Int32) (x2 : Int32) (x3 : Int32) (x4 : Int32) : RR :=
  if x4 = 0 then
    (F_X9_readClause_237 fu V (x4))
    else
    (gd (¬ ((V 1906 0 0) < 0 ∨ 12 ≤ ((V 1906 0 0)).toNatClampNeg)) <| bv (setV V 1901 (0) ((V 1906 0 0)).toNatClampNeg (x1)) fun V3 => gd (¬ ((V3 1906 0 0) < 0 ∨ 12 ≤ ((V3 1906 0 0)).toNatClampNeg)) <| bv (setV V3 1902 (0) ((V3 1906 0 0)).toNatClampNeg (x2)) fun V6 => gd (¬ ((V6 1906 0 0) < 0 ∨ 12 ≤ ((V6 1906 0 0)).toNatClampNeg)) <| bv (setV V6 1903 (0) ((V6 1906 0 0)).toNatClampNeg (x3)) fun V9 => gd (¬ ((V9 1906 0 0) < 0 ∨ 12 ≤ ((V9 1906 0 0)).toNatClampNeg)) <| bv (setV V9 1904 (0) ((V9 1906 0 0)).toNatClampNeg ((V9 1907 0 0))) fun V12 => bv (setV V12 1906 0 0 ((V12 1906 0 0) + (1 : Int32))) fun V14 => F_X9_readClause_237 fu V14 (x4))
def F_X9_readClause_177 (fu : Nat) (V : St) (x1 : Int32) (x2 : Int32) (x3 : Int32) (s0 : Int32) : RR :=
  F_X9_readClause_179 fu V (x1) (x2) (x3) (s0)
def F_X9_readClause_176 (fu : Nat) (V : St) (x1 : Int32) (x2 : Int32) (x3 : Int32) : RR :=
  F_X9_readClause_177 fu V (x1) (x2) (x3) ((0 : Int32))
def F_X9_readClause_141 (fu : Nat) (V : St) (x1 : Int32) (x2 : Int32) (x3 : Int32) : RR :=
  if x2 = (-1 : Int32) then
    (F_X9_readClause_176 fu V (x1) (x2) (x3))
    else
    (bd (f_X9_take fu V ((40 : Int32))) fun r2 V3 => if r2 = 0 then
      (F_X9_readClause_176 fu V3 (x1) (x2) (x3))
      else
      (bd (f_X9_readCondition fu V3 ((1 : Int32))) fun r6 V7 => if r6 = 0 then
        (F_X9_readClause_176 fu V7 (x1) (x2) (x3))
        else
        (bd (f_X9_take fu V7 ((41 : Int32))) fun r10 V11 => if r10 = 0 then
          (F_X9_readClause_176 fu V11 (x1) (x2) (x3))
          else
          (F_X9_readClause_177 fu V11 (x1) (x2) (x3) ((1 : Int32))))))
def F_X9_readClause_137 (fu : Nat) (V : St) (x1 : Int32) (x3 : Int32) (s0 : Int32) : RR :=
  bd (f_X9_readNumber fu V (s0)) fun r1 V2 => F_X9_readClause_141 fu V2 (x1) (r1) (x3)
def F_X9_readClause_109 (fu : Nat) (V : St) (x1 : Int32) (x2 : Int32) (x3 : Int32) (s0 : Int32) : RR :=
  F_X9_readClause_179 fu V (x1) (x2) (x3) (s0)
def F_X9_readClause_98 (fu : Nat) (V : St) (x1 : Int32) (x2 : Int32) (s0 : Int32) : RR :=
  if s0 = (-1 : Int32) then
    (F_X9_readClause_109 fu V (x1) (x2) (s0) ((0 : Int32)))
    else
    (F_X9_readClause_109 fu V (x1) (x2) (s0) ((1 : Int32)))
def F_X9_readClause_81 (fu : Nat) (V : St) (x1 : Int32) (x2 : Int32) (s0 : Int32) : RR :=
  if s0 = 0 then
    (F_X9_readClause_98 fu V (x1) (x2) ((-1 : Int32)))
    else
    (bd (f_X9_readNumber fu V ((11 : Int32))) fun r2 V3 => F_X9_readClause_98 fu V3 (x1) (x2) (r2))
def F_X9_readClause_80 (fu : Nat) (V : St) (x1 : Int32) (x2 : Int32) : RR :=
  F_X9_readClause_81 fu V (x1) (x2) ((0 : Int32))
def f_X9_readClause (fu : Nat) (V : St) : RR :=
  bd (f_X9_here fu V) fun r1 V2 => bd (f_X9_isOneOf fu V2 (0) (r1)) fun r4 V5 => if r4 = 0 then
    (bd (f_X9_fail fu V5 ((1 : Int32))) fun r8 V9 => gd (r8 = 0 ∨ r8 = 1) <| some (r8, V9))
    else
    (if (V5 1906 0 0) < (12 : Int32) then
      (bv (setV V5 1910 0 0 ((V5 1910 0 0) + (1 : Int32))) fun V9 => if r1 = (120 : Int32) then
        (bd (f_X9_readNumber fu V9 ((29 : Int32))) fun r15 V16 => if r15 = (-1 : Int32) then
          (F_X9_readClause_80 fu V16 (r1) (r15))
          else
          (bd (f_X9_take fu V16 ((46 : Int32))) fun r19 V20 => if r19 = 0 then
            (F_X9_readClause_80 fu V20 (r1) (r15))
            else
            (F_X9_readClause_81 fu V20 (r1) (r15) ((1 : Int32)))))
        else
        (bd (f_X9_isOneOf fu V9 (1) (r1)) fun r12 V13 => if r12 = 0 then
          (F_X9_readClause_141 fu V13 (r1) ((0 : Int32)) ((0 : Int32)))
          else
          (if r1 = (100 : Int32) then
            (F_X9_readClause_137 fu V13 (r1) ((0 : Int32)) ((100 : Int32)))
            else
            (F_X9_readClause_137 fu V13 (r1) ((0 : Int32)) ((99999 : Int32))))))
      else
      (bd (f_X9_fail fu V5 ((4 : Int32))) fun r11 V12 => gd (r11 = 0 ∨ r11 = 1) <| some (r11, V12)))
def F_X9_read_88 (fu : Nat) (V : St) : RR :=
  some ((V 1911 0 0), V)
def F_X9_read_77 (fu : Nat) (V : St) : RR :=
  some ((V 1911 0 0), V)
def F_X9_read_66 (fu : Nat) (V : St) : RR :=
  some ((0 : Int32), V)
def F_X9_read_50 (fu : Nat) (V : St) : RR :=
  some ((V 1911 0 0), V)
def F_X9_read_37 (kh : St → Int32 → RR) (kx50 : St → RR) (kx66 : St → RR) (kx77 : St → RR) (kx88 : St → RR) (fu : Nat) (V : St) (x3 : Int32) : RR :=
  if (12 : Int32) < x3 then
    (kx88 V)
    else
    (bd (f_X9_readClause fu V) fun r2 V3 => if r2 = 0 then
      (kx50 V3)
      else
      (if (V3 1910 0 0) < (V3 1909 0 0) then
        (bd (f_X9_take fu V3 ((59 : Int32))) fun r7 V8 => if r7 = 0 then
          (kx77 V8)
          else
          (kh V8 (x3 + 1)))
        else
        (kx66 V3)))
def Lp_X9_read_37 (kx50 : St → RR) (kx66 : St → RR) (kx77 : St → RR) (kx88 : St → RR) (fu : Nat) : Nat → St → Int32 → RR
  | 0, _, _ => none
  | n + 1, V, x3 => F_X9_read_37 (Lp_X9_read_37 kx50 kx66 kx77 kx88 fu n) kx50 kx66 kx77 kx88 fu V x3
def f_X9_read (fu : Nat) (V : St) (x2 : Int32) : RR :=
  bv (setV V 1908 0 0 (0)) fun V1 => bv (setV V1 1909 0 0 ((if (nI (lenV V1 1002190 (0))) < x2 then (nI (lenV V1 1002190 (0))) else x2))) fun V3 => bv (setV V3 1910 0 0 ((0 : Int32))) fun V5 => bv (setV V5 1911 0 0 ((0 : Int32))) fun V7 => bv (setV V7 1906 0 0 ((0 : Int32))) fun V9 => bv (setV V9 1907 0 0 ((0 : Int32))) fun V11 => Lp_X9_read_37 (F_X9_read_50 fu) (F_X9_read_66 fu) (F_X9_read_77 fu) (F_X9_read_88 fu) fu fu V11 ((0 : Int32))
def F_X2_choose_143 (rc_X2_choose : St → Int32 → Int32 → Int32 → RR) (fu : Nat) (V : St) : RR :=
  some (0, V)
def F_X2_choose_137 (rc_X2_choose : St → Int32 → Int32 → Int32 → RR) (kh : St → Int32 → Int32 → Int32 → Int32 → Int32 → RR) (kx143 : St → RR) (fu : Nat) (V : St) (x0 : Int32) (x1 : Int32) (x2 : Int32) (x3 : Int32) (x4 : Int32) : RR :=
  kh V (x0) (x1) (x2) (x3) (x4 + 1)
def F_X2_choose_129 (rc_X2_choose : St → Int32 → Int32 → Int32 → RR) (kh : St → Int32 → Int32 → Int32 → Int32 → Int32 → RR) (kx143 : St → RR) (fu : Nat) (V : St) (x0 : Int32) (x1 : Int32) (x2 : Int32) (x3 : Int32) (x4 : Int32) (x6 : Int32) : RR :=
  gd (¬ x0 < 0 ∧ (x0).toNatClampNeg < cntV V 2104) <| bd (f_X2_takeFromCuts fu V (x0) (x1) (-(x6))) fun r1 V2 => F_X2_choose_137 rc_X2_choose kh kx143 fu V2 (x0) (x1) (x2) (x3) (x4)
def F_X2_choose_84 (rc_X2_choose : St → Int32 → Int32 → Int32 → RR) (kh : St → Int32 → Int32 → Int32 → Int32 → Int32 → RR) (kx143 : St → RR) (fu : Nat) (V : St) (x0 : Int32) (x1 : Int32) (x2 : Int32) (x3 : Int32) (x4 : Int32) (x5 : Int32) : RR :=
  gd (¬ ((2 : Int32) < 0 ∨ 3 ≤ ((2 : Int32)).toNatClampNeg)) <| gd (¬ (x4 < 0 ∨ 3 ≤ (x4).toNatClampNeg)) <| gd (¬ x0 < 0 ∧ (x0).toNatClampNeg < cntV V 2104) <| gd (¬ (x1 < 0 ∨ 8 ≤ (x1).toNatClampNeg)) <| bv (setV V 1210 ((x0).toNatClampNeg) (x1).toNatClampNeg (x4)) fun V6 => bd (f_X2_takeFromCuts fu V6 (x0) (x1) ((gT0 ((2 : Int32))) - (gT0 (x4)))) fun r8 V9 => gd (¬ x0 < 0 ∧ (x0).toNatClampNeg < cntV V9 2104) <| bd (f_X2_isSound fu V9 (x0)) fun r12 V13 => if r12 = 0 then
    (F_X2_choose_129 rc_X2_choose kh kx143 fu V13 (x0) (x1) (x2) (x3) (x4) ((gT0 ((2 : Int32))) - (gT0 (x4))))
    else
    (gd (¬ x0 < 0 ∧ (x0).toNatClampNeg < cntV V13 2104) <| bd (rc_X2_choose V13 (x0) (x1 + (1 : Int32)) (x5)) fun r18 V19 => F_X2_choose_129 rc_X2_choose kh kx143 fu V19 (x0) (x1) (x2) (x3) (x4) ((gT0 ((2 : Int32))) - (gT0 (x4))))
def F_X2_choose_49 (rc_X2_choose : St → Int32 → Int32 → Int32 → RR) (kh : St → Int32 → Int32 → Int32 → Int32 → Int32 → RR) (kx143 : St → RR) (fu : Nat) (V : St) (x0 : Int32) (x1 : Int32) (x2 : Int32) (x3 : Int32) (x4 : Int32) : RR :=
  if (2 : Int32) < x4 then
    (kx143 V)
    else
    (gd (¬ (x4 < 0 ∨ 3 ≤ (x4).toNatClampNeg)) <| gd (¬ x0 < 0 ∧ (x0).toNatClampNeg < cntV V 2104) <| if (V 1215 (x0).toNatClampNeg 0) = (-1 : Int32) then
      (F_X2_choose_84 rc_X2_choose kh kx143 fu V (x0) (x1) (x2) (x3) (x4) (x2 + (gT1 (x4))))
      else
      (if (V 1215 (x0).toNatClampNeg 0) ≤ (x2 + (gT1 (x4))) + x3 then
        (F_X2_choose_137 rc_X2_choose kh kx143 fu V (x0) (x1) (x2) (x3) (x4))
        else
        (F_X2_choose_84 rc_X2_choose kh kx143 fu V (x0) (x1) (x2) (x3) (x4) (x2 + (gT1 (x4))))))
def Lp_X2_choose_49 (rc_X2_choose : St → Int32 → Int32 → Int32 → RR) (kx143 : St → RR) (fu : Nat) : Nat → St → Int32 → Int32 → Int32 → Int32 → Int32 → RR
  | 0, _, _, _, _, _, _ => none
  | n + 1, V, x0, x1, x2, x3, x4 => F_X2_choose_49 rc_X2_choose (Lp_X2_choose_49 rc_X2_choose kx143 fu n) kx143 fu V x0 x1 x2 x3 x4
def fb_X2_choose (rc_X2_choose : St → Int32 → Int32 → Int32 → RR) (fu : Nat) (V : St) (x0 : Int32) (x1 : Int32) (x2 : Int32) : RR :=
  gd (¬ x0 < 0 ∧ (x0).toNatClampNeg < cntV V 2104) <| if x1 < (V 1212 (x0).toNatClampNeg 0) then
    (gd (¬ ((0 : Int32) < 0 ∨ 3 ≤ ((0 : Int32)).toNatClampNeg)) <| Lp_X2_choose_49 rc_X2_choose (F_X2_choose_143 rc_X2_choose fu) fu fu V (x0) (x1) (x2) ((gT1 ((0 : Int32))) * (((V 1212 (x0).toNatClampNeg 0) - x1) - (1 : Int32))) ((0 : Int32)))
    else
    (bv (setV V 1215 (x0).toNatClampNeg 0 (x2)) fun V5 => gd (¬ (V5 1212 (x0).toNatClampNeg 0) < 0 ∧ ((V5 1212 (x0).toNatClampNeg 0)).toNatClampNeg ≤ 8 ∧ ((V5 1212 (x0).toNatClampNeg 0)).toNatClampNeg ≤ 8) <| bv (cpV V5 1210 1211 ((x0).toNatClampNeg) ((V5 1212 (x0).toNatClampNeg 0)).toNatClampNeg) fun V9 => some (0, V9))
def g_X2_choose (fu : Nat) : Nat → St → Int32 → Int32 → Int32 → RR
  | 0, _, _, _, _ => none
  | n + 1, V, x0, x1, x2 => fb_X2_choose (g_X2_choose fu n) fu V x0 x1 x2
def f_X2_choose (fu : Nat) (V : St) (x0 : Int32) (x1 : Int32) (x2 : Int32) : RR := g_X2_choose fu 12 V x0 x1 x2
def F_X2_fewestInches_34 (fu : Nat) (V : St) (x0 : Int32) : RR :=
  gd (¬ x0 < 0 ∧ (x0).toNatClampNeg < cntV V 2104) <| some ((V 1215 (x0).toNatClampNeg 0), V)
def F_X2_fewestInches_29 (fu : Nat) (V : St) (x0 : Int32) : RR :=
  gd (¬ x0 < 0 ∧ (x0).toNatClampNeg < cntV V 2104) <| bv (setV V 1216 (x0).toNatClampNeg 0 ((1 : Int32))) fun V3 => F_X2_fewestInches_34 fu V3 (x0)
def f_X2_fewestInches (fu : Nat) (V : St) (x0 : Int32) : RR :=
  gd (¬ x0 < 0 ∧ (x0).toNatClampNeg < cntV V 2104) <| if (V 1216 (x0).toNatClampNeg 0) = 0 then
    (bv (setV V 1215 (x0).toNatClampNeg 0 ((-1 : Int32))) fun V4 => bd (f_X2_findCuts fu V4 (x0)) fun r6 V7 => gd (¬ x0 < 0 ∧ (x0).toNatClampNeg < cntV V7 2104) <| bd (f_X2_isSound fu V7 (x0)) fun r10 V11 => if r10 = 0 then
      (F_X2_fewestInches_29 fu V11 (x0))
      else
      (gd (¬ x0 < 0 ∧ (x0).toNatClampNeg < cntV V11 2104) <| bd (f_X2_choose fu V11 (x0) ((0 : Int32)) ((0 : Int32))) fun r16 V17 => F_X2_fewestInches_29 fu V17 (x0)))
    else
    (F_X2_fewestInches_34 fu V (x0))
def F_X11_cheapest_54 (fu : Nat) (V : St) (s0 : Int32) : RR :=
  some (s0, V)
def F_X11_cheapest_43 (fu : Nat) (V : St) (x4 : Int32) : RR :=
  F_X11_cheapest_54 fu V (x4)
def F_X11_cheapest_24 (fu : Nat) (V : St) : RR :=
  some ((-1 : Int32), V)
def f_X11_cheapest (fu : Nat) (V : St) (x1 : Int32) (x2 : Int32) : RR :=
  bd (f_X11_findDrawing fu V (x1)) fun r1 V2 => if r1 < 0 then
    (F_X11_cheapest_24 fu V2)
    else
    (gd (¬ r1 < 0 ∧ (r1).toNatClampNeg < cntV V2 2104) <| bd (f_X11_within fu V2 (x2) ((-1 : Int32)) ((V2 1212 (r1).toNatClampNeg 0) - (1 : Int32))) fun r7 V8 => if r7 = 0 then
      (F_X11_cheapest_24 fu V8)
      else
      (gd (¬ r1 < 0 ∧ (r1).toNatClampNeg < cntV V8 2104) <| bd (f_X2_fewestInches fu V8 (r1)) fun r11 V12 => if x2 = (-1 : Int32) then
        (F_X11_cheapest_43 fu V12 (r11))
        else
        (if r11 = (-1 : Int32) then
          (F_X11_cheapest_43 fu V12 (r11))
          else
          (gd (¬ r1 < 0 ∧ (r1).toNatClampNeg < cntV V12 2104) <| gd (¬ (x2 < 0 ∨ 8 ≤ (x2).toNatClampNeg)) <| F_X11_cheapest_54 fu V12 ((V12 1211 ((r1).toNatClampNeg) (x2).toNatClampNeg))))))
def F_X5_place_188 (rc_X5_place : St → Int32 → Int32 → Int32 → Int32 → Int32 → Int32 → RR) (fu : Nat) (V : St) : RR :=
  some ((0 : Int32), V)
def F_X5_place_182 (rc_X5_place : St → Int32 → Int32 → Int32 → Int32 → Int32 → Int32 → RR) (kh : St → Int32 → Int32 → Int32 → Int32 → Int32 → Int32 → Int32 → RR) (kx180 : St → RR) (kx188 : St → RR) (fu : Nat) (V : St) (x1 : Int32) (x2 : Int32) (x3 : Int32) (x4 : Int32) (x5 : Int32) (x6 : Int32) (x7 : Int32) : RR :=
  kh V (x1) (x2) (x3) (x4) (x5) (x6) (x7 + 1)
def F_X5_place_180 (rc_X5_place : St → Int32 → Int32 → Int32 → Int32 → Int32 → Int32 → RR) (fu : Nat) (V : St) : RR :=
  some ((1 : Int32), V)
def F_X5_place_121 (rc_X5_place : St → Int32 → Int32 → Int32 → Int32 → Int32 → Int32 → RR) (kh : St → Int32 → Int32 → Int32 → Int32 → Int32 → Int32 → Int32 → RR) (kx180 : St → RR) (kx188 : St → RR) (fu : Nat) (V : St) (x1 : Int32) (x2 : Int32) (x3 : Int32) (x4 : Int32) (x5 : Int32) (x6 : Int32) (x7 : Int32) (x9 : Int32) (x10 : Int32) (x11 : Int32) (s0 : Int32) : RR :=
  gd (¬ x1 < 0 ∧ (x1).toNatClampNeg < cntV V 2105) <| gd (¬ (x7 < 0 ∨ lenV V 1002090 ((x1).toNatClampNeg) ≤ (x7).toNatClampNeg)) <| gd (¬ (x2 < 0 ∨ 9 ≤ (x2).toNatClampNeg)) <| bv (setV V 1504 (0) (x2).toNatClampNeg (x7)) fun V5 => bd (f_X5_atLeast fu V5 (x9) (x11) ((if s0 < (V 2007 ((x1).toNatClampNeg) (x7).toNatClampNeg) then (V 2007 ((x1).toNatClampNeg) (x7).toNatClampNeg) else s0))) fun r7 V8 => if (V8 1505 0 0) < x10 + r7 then
    (F_X5_place_182 rc_X5_place kh kx180 kx188 fu V8 (x1) (x2) (x3) (x4) (x5) (x6) (x7))
    else
    (bd (rc_X5_place V8 (x1) (x2 + (1 : Int32)) (x9) (x10) (x11) ((if s0 < (V 2007 ((x1).toNatClampNeg) (x7).toNatClampNeg) then (V 2007 ((x1).toNatClampNeg) (x7).toNatClampNeg) else s0))) fun r11 V12 => if r11 = 0 then
      (F_X5_place_182 rc_X5_place kh kx180 kx188 fu V12 (x1) (x2) (x3) (x4) (x5) (x6) (x7))
      else
      (kx180 V12))
def F_X5_place_100 (rc_X5_place : St → Int32 → Int32 → Int32 → Int32 → Int32 → Int32 → RR) (kh : St → Int32 → Int32 → Int32 → Int32 → Int32 → Int32 → Int32 → RR) (kx180 : St → RR) (kx188 : St → RR) (fu : Nat) (V : St) (x1 : Int32) (x2 : Int32) (x3 : Int32) (x4 : Int32) (x5 : Int32) (x6 : Int32) (x7 : Int32) (x8 : Int32) (x9 : Int32) (x10 : Int32) (s0 : Int32) : RR :=
  gd (¬ x1 < 0 ∧ (x1).toNatClampNeg < cntV V 2105) <| gd (¬ (x7 < 0 ∨ lenV V 1002090 ((x1).toNatClampNeg) ≤ (x7).toNatClampNeg)) <| if x8 = 0 then
    (F_X5_place_121 rc_X5_place kh kx180 kx188 fu V (x1) (x2) (x3) (x4) (x5) (x6) (x7) (x9) (x10) (s0 - (V 2008 ((x1).toNatClampNeg) (x7).toNatClampNeg)) ((0 : Int32)))
    else
    (F_X5_place_121 rc_X5_place kh kx180 kx188 fu V (x1) (x2) (x3) (x4) (x5) (x6) (x7) (x9) (x10) (s0 - (V 2008 ((x1).toNatClampNeg) (x7).toNatClampNeg)) (x6))
def F_X5_place_84 (rc_X5_place : St → Int32 → Int32 → Int32 → Int32 → Int32 → Int32 → RR) (kh : St → Int32 → Int32 → Int32 → Int32 → Int32 → Int32 → Int32 → RR) (kx180 : St → RR) (kx188 : St → RR) (fu : Nat) (V : St) (x1 : Int32) (x2 : Int32) (x3 : Int32) (x4 : Int32) (x5 : Int32) (x6 : Int32) (x7 : Int32) (x8 : Int32) (x9 : Int32) (s0 : Int32) : RR :=
  if x8 = 0 then
    (F_X5_place_100 rc_X5_place kh kx180 kx188 fu V (x1) (x2) (x3) (x4) (x5) (x6) (x7) (x8) (x9) (s0) ((V 1507 0 0)))
    else
    (F_X5_place_100 rc_X5_place kh kx180 kx188 fu V (x1) (x2) (x3) (x4) (x5) (x6) (x7) (x8) (x9) (s0) (x5))
def F_X5_place_59 (rc_X5_place : St → Int32 → Int32 → Int32 → Int32 → Int32 → Int32 → RR) (kh : St → Int32 → Int32 → Int32 → Int32 → Int32 → Int32 → Int32 → RR) (kx180 : St → RR) (kx188 : St → RR) (fu : Nat) (V : St) (x1 : Int32) (x2 : Int32) (x3 : Int32) (x4 : Int32) (x5 : Int32) (x6 : Int32) (x7 : Int32) (s0 : Int32) : RR :=
  if s0 = 0 then
    (F_X5_place_84 rc_X5_place kh kx180 kx188 fu V (x1) (x2) (x3) (x4) (x5) (x6) (x7) (s0) (x3 ^^^ ((1 : Int32) <<< (x7 &&& 31))) (x4 + x6))
    else
    (F_X5_place_84 rc_X5_place kh kx180 kx188 fu V (x1) (x2) (x3) (x4) (x5) (x6) (x7) (s0) (x3 ^^^ ((1 : Int32) <<< (x7 &&& 31))) (x4))
def F_X5_place_23 (rc_X5_place : St → Int32 → Int32 → Int32 → Int32 → Int32 → Int32 → RR) (kh : St → Int32 → Int32 → Int32 → Int32 → Int32 → Int32 → Int32 → RR) (kx180 : St → RR) (kx188 : St → RR) (fu : Nat) (V : St) (x1 : Int32) (x2 : Int32) (x3 : Int32) (x4 : Int32) (x5 : Int32) (x6 : Int32) (x7 : Int32) : RR :=
  gd (¬ x1 < 0 ∧ (x1).toNatClampNeg < cntV V 2105) <| if (V 2009 (x1).toNatClampNeg 0) ≤ x7 then
    (kx188 V)
    else
    (if (x3 >>> (x7 &&& 31)) &&& (1 : Int32) = (1 : Int32) then
      (gd (¬ (x7 < 0 ∨ lenV V 1002090 ((x1).toNatClampNeg) ≤ (x7).toNatClampNeg)) <| if x5 < (V 2008 ((x1).toNatClampNeg) (x7).toNatClampNeg) then
        (F_X5_place_59 rc_X5_place kh kx180 kx188 fu V (x1) (x2) (x3) (x4) (x5) (x6) (x7) ((0 : Int32)))
        else
        (F_X5_place_59 rc_X5_place kh kx180 kx188 fu V (x1) (x2) (x3) (x4) (x5) (x6) (x7) ((1 : Int32))))
      else
      (F_X5_place_182 rc_X5_place kh kx180 kx188 fu V (x1) (x2) (x3) (x4) (x5) (x6) (x7)))
def Lp_X5_place_23 (rc_X5_place : St → Int32 → Int32 → Int32 → Int32 → Int32 → Int32 → RR) (kx180 : St → RR) (kx188 : St → RR) (fu : Nat) : Nat → St → Int32 → Int32 → Int32 → Int32 → Int32 → Int32 → Int32 → RR
  | 0, _, _, _, _, _, _, _, _ => none
  | n + 1, V, x1, x2, x3, x4, x5, x6, x7 => F_X5_place_23 rc_X5_place (Lp_X5_place_23 rc_X5_place kx180 kx188 fu n) kx180 kx188 fu V x1 x2 x3 x4 x5 x6 x7
def F_X5_place_19 (rc_X5_place : St → Int32 → Int32 → Int32 → Int32 → Int32 → Int32 → RR) (fu : Nat) (V : St) (s0 : Int32) : RR :=
  gd (s0 = 0 ∨ s0 = 1) <| some (s0, V)
def F_X5_place_10 (rc_X5_place : St → Int32 → Int32 → Int32 → Int32 → Int32 → Int32 → RR) (fu : Nat) (V : St) (x3 : Int32) : RR :=
  if x3 = 0 then
    (F_X5_place_19 rc_X5_place fu V ((1 : Int32)))
    else
    (F_X5_place_19 rc_X5_place fu V ((0 : Int32)))
def fb_X5_place (rc_X5_place : St → Int32 → Int32 → Int32 → Int32 → Int32 → Int32 → RR) (fu : Nat) (V : St) (x1 : Int32) (x2 : Int32) (x3 : Int32) (x4 : Int32) (x5 : Int32) (x6 : Int32) : RR :=
  if x3 = 0 then
    (F_X5_place_10 rc_X5_place fu V (x3))
    else
    (if x2 < (9 : Int32) then
      (Lp_X5_place_23 rc_X5_place (F_X5_place_180 rc_X5_place fu) (F_X5_place_188 rc_X5_place fu) fu fu V (x1) (x2) (x3) (x4) (x5) (x6) ((0 : Int32)))
      else
      (F_X5_place_10 rc_X5_place fu V (x3)))
def g_X5_place (fu : Nat) : Nat → St → Int32 → Int32 → Int32 → Int32 → Int32 → Int32 → RR
  | 0, _, _, _, _, _, _, _ => none
  | n + 1, V, x1, x2, x3, x4, x5, x6 => fb_X5_place (g_X5_place fu n) fu V x1 x2 x3 x4 x5 x6
def f_X5_place (fu : Nat) (V : St) (x1 : Int32) (x2 : Int32) (x3 : Int32) (x4 : Int32) (x5 : Int32) (x6 : Int32) : RR := g_X5_place fu 12 V x1 x2 x3 x4 x5 x6
def F_X5_search_28 (fu : Nat) (V : St) (x1 : Int32) (x2 : Int32) : RR :=
  bv (setV V 1506 0 0 (x1)) fun V1 => bv (setV V1 1507 0 0 (x2)) fun V3 => gd (¬ x1 < 0 ∧ (x1).toNatClampNeg < cntV V3 2105) <| bv (setV V3 1508 0 0 ((V3 2009 (x1).toNatClampNeg 0))) fun V7 => bd (f_X5_measureSets fu V7 (x1)) fun r9 V10 => bd (f_X5_shortenSets fu V10 (x2)) fun r12 V13 => gd (¬ (((1 : Int32) <<< ((V13 1508 0 0) &&& 31)) - (1 : Int32) < 0 ∨ 512 ≤ (((1 : Int32) <<< ((V13 1508 0 0) &&& 31)) - (1 : Int32)).toNatClampNeg)) <| bv (setV V13 1505 0 0 ((V13 1503 (0) (((1 : Int32) <<< ((V13 1508 0 0) &&& 31)) - (1 : Int32)).toNatClampNeg))) fun V16 => bd (f_X5_place fu V16 (x1) ((0 : Int32)) (((1 : Int32) <<< ((V13 1508 0 0) &&& 31)) - (1 : Int32)) ((0 : Int32)) (x2) ((0 : Int32))) fun r18 V19 => some (0, V19)
def f_X5_search (fu : Nat) (V : St) (x1 : Int32) (x2 : Int32) : RR :=
  gd (¬ x1 < 0 ∧ (x1).toNatClampNeg < cntV V 2105) <| gd ((V 1506 0 0) < 0 ∨ ((V 1506 0 0)).toNatClampNeg < cntV V 2105) <| if (V 1506 0 0) = x1 then
    (if (V 1507 0 0) = x2 then
      (if (V 1508 0 0) = (V 2009 (x1).toNatClampNeg 0) then
        (some (0, V))
        else
        (F_X5_search_28 fu V (x1) (x2)))
      else
      (F_X5_search_28 fu V (x1) (x2)))
    else
    (F_X5_search_28 fu V (x1) (x2))
def F_X11_least_85 (fu : Nat) (V : St) (s0 : Int32) : RR :=
  some (s0, V)
def F_X11_least_38 (fu : Nat) (V : St) : RR :=
  some ((-1 : Int32), V)
def f_X11_least (fu : Nat) (V : St) (x1 : Int32) (x2 : Int32) (x3 : Int32) : RR :=
  bd (f_X11_findCoat fu V (x1)) fun r1 V2 => if r1 < 0 then
    (F_X11_least_38 fu V2)
    else
    (bd (f_X11_within fu V2 (x2) ((1 : Int32)) ((200 : Int32))) fun r5 V6 => if r5 = 0 then
      (F_X11_least_38 fu V6)
      else
      (gd (¬ r1 < 0 ∧ (r1).toNatClampNeg < cntV V6 2105) <| bd (f_X11_within fu V6 (x3) ((-1 : Int32)) ((V6 2009 (r1).toNatClampNeg 0) - (1 : Int32))) fun r11 V12 => if r11 = 0 then
        (F_X11_least_38 fu V12)
        else
        (gd (¬ r1 < 0 ∧ (r1).toNatClampNeg < cntV V12 2105) <| bd (f_X10_widest fu V12 (r1)) fun r15 V16 => if r15 ≤ x2 then
          (bd (f_X5_search fu V16 (r1) (x2)) fun r21 V22 => if x3 = (-1 : Int32) then
            (F_X11_least_85 fu V22 ((V22 1505 0 0)))
            else
            (gd (¬ (x3 < 0 ∨ 9 ≤ (x3).toNatClampNeg)) <| F_X11_least_85 fu V22 ((V22 1504 (0) (x3).toNatClampNeg))))
          else
          (some ((-1 : Int32), V16)))))
def F_X11_number_191 (fu : Nat) (V : St) (s0 : Int32) : RR :=
  some (s0, V)
def F_X11_number_172 (fu : Nat) (V : St) (s0 : Int32) : RR :=
  some (s0, V)
def F_X11_number_161 (fu : Nat) (V : St) (x10 : Int32) : RR :=
  if x10 = (-1 : Int32) then
    (F_X11_number_172 fu V ((0 : Int32)))
    else
    (F_X11_number_172 fu V ((1 : Int32)))
def F_X11_number_102 (fu : Nat) (V : St) (x4 : Int32) (x5 : Int32) (x6 : Int32) (x7 : Int32) (x8 : Int32) (s0 : Int32) : RR :=
  if s0 = 0 then
    (some ((-1 : Int32), V))
    else
    (bd (f_X4_weigh fu V (x4) (x5) ((-1 : Int32))) fun r2 V3 => bd (f_X4_setLetters fu V3 (x4) (x7) (x8)) fun r5 V6 => bd (f_X4_lastNumber fu V6 (x6)) fun r8 V9 => if x6 = (109 : Int32) then
      (F_X11_number_161 fu V9 (r8))
      else
      (if x6 = (98 : Int32) then
        (F_X11_number_161 fu V9 (r8))
        else
        (if x6 = (99 : Int32) then
          (F_X11_number_191 fu V9 (r8))
          else
          (F_X11_number_191 fu V9 ((if (0 : Int32) < r8 then r8 else (0 : Int32)))))))
def F_X11_number_101 (fu : Nat) (V : St) (x4 : Int32) (x5 : Int32) (x6 : Int32) (x7 : Int32) (x8 : Int32) : RR :=
  F_X11_number_102 fu V (x4) (x5) (x6) (x7) (x8) ((0 : Int32))
def F_X11_number_97 (fu : Nat) (V : St) (x4 : Int32) (x5 : Int32) (x6 : Int32) (x7 : Int32) (x8 : Int32) : RR :=
  F_X11_number_102 fu V (x4) (x5) (x6) (x7) (x8) ((1 : Int32))
def F_X11_number_78 (fu : Nat) (V : St) (x4 : Int32) (x5 : Int32) (x6 : Int32) (x7 : Int32) (x8 : Int32) : RR :=
  F_X11_number_102 fu V (x4) (x5) (x6) (x7) (x8) ((0 : Int32))
def F_X11_number_33 (fu : Nat) (V : St) : RR :=
  some ((-1 : Int32), V)
def f_X11_number (fu : Nat) (V : St) (x1 : Int32) (x2 : Int32) (x3 : Int32) (x4 : Int32) (x5 : Int32) : RR :=
  bd (f_X11_within fu V (x1) ((0 : Int32)) ((5 : Int32))) fun r1 V2 => if r1 = 0 then
    (F_X11_number_33 fu V2)
    else
    (bd (f_X11_within fu V2 (x4) ((0 : Int32)) ((499 : Int32))) fun r5 V6 => if r5 = 0 then
      (F_X11_number_33 fu V6)
      else
      (bd (f_X11_within fu V6 (x5) ((0 : Int32)) ((499 : Int32))) fun r9 V10 => if r9 = 0 then
        (F_X11_number_33 fu V10)
        else
        (gd (¬ (x1 < 0 ∨ strLen.getD 6 0 ≤ (x1).toNatClampNeg)) <| bd (f_X11_findThing fu V10 (x2)) fun r14 V15 => bd (f_X11_findMaker fu V15 (x3)) fun r17 V18 => if (sAt 6 (x1)) = (103 : Int32) then
          (if x2 = (-1 : Int32) then
            (if x3 = (-1 : Int32) then
              (F_X11_number_102 fu V18 (x4) (x5) ((sAt 6 (x1))) (r14) (r17) ((1 : Int32)))
              else
              (F_X11_number_78 fu V18 (x4) (x5) ((sAt 6 (x1))) (r14) (r17)))
            else
            (F_X11_number_78 fu V18 (x4) (x5) ((sAt 6 (x1))) (r14) (r17)))
          else
          (if r14 < 0 then
            (F_X11_number_101 fu V18 (x4) (x5) ((sAt 6 (x1))) (r14) (r17))
            else
            (if r17 < 0 then
              (if x3 = (-1 : Int32) then
                (F_X11_number_97 fu V18 (x4) (x5) ((sAt 6 (x1))) (r14) (r17))
                else
                (F_X11_number_101 fu V18 (x4) (x5) ((sAt 6 (x1))) (r14) (r17)))
              else
              (F_X11_number_97 fu V18 (x4) (x5) ((sAt 6 (x1))) (r14) (r17)))))))
def mkV (V : St) (Li n : Nat) (gv : List Nat) (F : Nat → Nat → Int32) : St := fun v i j => if v = Li ∧ i = 0 ∧ j = 0 then nI (n + 1) else if v ∈ gv ∧ i = n then F v j else V v i j
def cpR (f : Nat → Int32) (n k : Nat) : Nat → Int32 := if k = n then f else va_cpy f (fun _ => 0) 0 0 k
def gv_1000 : List Nat := [1001, 1002, 1003]
def F_1000 (x1 : Int32) (x2 : Int32) (x3 : Int32) : Nat → Nat → Int32 := fun v j => if v = 1001 then x1 else if v = 1002 then x2 else if v = 1003 then x3 else 0
def gv_1100 : List Nat := [1101, 1102, 1103, 1104, 1105]
def F_1100 (x1 : Int32) (x2 : Int32) (x3 : Int32) (x4 : Int32) : Nat → Nat → Int32 := fun v j => if v = 1101 then x1 else if v = 1102 then x2 else if v = 1103 then x3 else if v = 1104 then x4 else if v = 1105 then 1 else 0
def gv_1200 : List Nat := [1201, 1202, 1203, 1204, 1205, 1206, 1207, 1208, 1209, 1210, 1211, 1212, 1213, 1214, 1215, 1216]
def F_1200 (x1 : Int32) : Nat → Nat → Int32 := fun v j => if v = 1201 then x1 else if v = 1215 then (-1) else 0
def gv_1300 : List Nat := [1301, 1302, 1303, 1304]
def F_1300 (x1 : Int32) (x2 : Int32) (x3 : Int32) (x4 : Int32) : Nat → Nat → Int32 := fun v j => if v = 1301 then x1 else if v = 1302 then x2 else if v = 1303 then x3 else if v = 1304 then x4 else 0
def gv_1330 : List Nat := [1331, 1332, 1333, 1334]
def F_1330 (x1 : Int32) (x2 : Int32) (x3 : Int32) (x4 : Int32) : Nat → Nat → Int32 := fun v j => if v = 1331 then x1 else if v = 1332 then x2 else if v = 1333 then x3 else if v = 1334 then x4 else 0
def gv_1360 : List Nat := [1361, 1362, 1363, 1364]
def F_1360 (x1 : Int32) (x2 : Int32) (x3 : Int32) (x4 : Int32) : Nat → Nat → Int32 := fun v j => if v = 1361 then x1 else if v = 1362 then x2 else if v = 1363 then x3 else if v = 1364 then x4 else 0
def gv_1600 : List Nat := [1601, 1602, 1603, 1604, 1605, 1606, 1607, 1608]
def F_1600 (x1 : Int32) (x2 : Int32) (x3 : Int32) (x4 : Int32) (x5 : Int32) : Nat → Nat → Int32 := fun v j => if v = 1601 then x1 else if v = 1602 then x2 else if v = 1603 then x3 else if v = 1604 then x4 else if v = 1605 then x5 else 0
def gv_1700 : List Nat := [1701, 1702, 1703, 1704, 1705, 1706, 1707, 1708, 1709, 1790]
def F_1700 (x1 : Int32) (x2 : Int32) (x3 : Int32) (kx : Int32) (ky : Int32) (f1 : Nat → Int32) (f2 : Nat → Int32) (f3 : Nat → Int32) (f4 : Nat → Int32) (f5 : Nat → Int32) : Nat → Nat → Int32 := fun v j => if v = 1701 then x1 else if v = 1702 then x2 else if v = 1703 then x3 else if v = 1704 then kx else if v = 1790 then ky else if v = 1705 then (cpR f1 12 (kx).toNatClampNeg j) else if v = 1706 then (cpR f2 12 (kx).toNatClampNeg j) else if v = 1707 then (cpR f3 12 (kx).toNatClampNeg j) else if v = 1708 then (cpR f4 12 (kx).toNatClampNeg j) else if v = 1709 then (cpR f5 160 (ky).toNatClampNeg j) else 0
def gv_1800 : List Nat := [1801, 1802]
def F_1800 (x1 : Int32) : Nat → Nat → Int32 := fun v j => if v = 1802 then x1 else 0
def gv_2000 : List Nat := [2001, 2002, 2003, 2004, 2005, 2006, 2007, 2008, 2009, 2010, 2090]
def F_2000 (x1 : Int32) (x2 : Int32) (x3 : Int32) (x4 : Int32) (x5 : Int32) : Nat → Nat → Int32 := fun v j => if v = 2001 then x1 else if v = 2002 then x2 else if v = 2003 then x3 else if v = 2004 then x4 else if v = 2005 then x5 else if v = 2010 then 1 else if v = 2090 then (if x1 = 0 then 9 else 0) else 0
def qrb (V : St) : Bool := decide ((¬ V 1506 0 0 < 0 → (V 1506 0 0).toNatClampNeg < cntV V 2105) ∧ ∀ i, i < cntV V 2105 → ¬ V 2003 i 0 < 0 → (V 2003 i 0).toNatClampNeg < cntV V 2103)
def mkOK (V : St) (Li : Nat) : Bool := Nat.ble (V Li 0 0).toNatClampNeg 1000 && qrb V
def F_X11_cloth_56 (fu : Nat) (V : St) : RR :=
  some ((-1 : Int32), V)
def F_X11_cloth_34 (fu : Nat) (V : St) : RR :=
  some ((-1 : Int32), V)
def f_X11_cloth (fu : Nat) (V : St) (x1 : Int32) (x2 : Int32) (x3 : Int32) : RR :=
  bd (f_X11_within fu V (x1) ((100 : Int32)) ((999 : Int32))) fun r1 V2 => if r1 = 0 then
    (F_X11_cloth_34 fu V2)
    else
    (bd (f_X11_within fu V2 (x2) ((1 : Int32)) ((1000 : Int32))) fun r5 V6 => if r5 = 0 then
      (F_X11_cloth_34 fu V6)
      else
      (bd (f_X11_within fu V6 (x3) ((1 : Int32)) ((10000 : Int32))) fun r9 V10 => if r9 = 0 then
        (F_X11_cloth_34 fu V10)
        else
        (if (20 : Int32) ≤ (V10 2103 0 0) then
          (F_X11_cloth_56 fu V10)
          else
          (bd (f_X11_isTaken fu V10 (x1)) fun r14 V15 => if r14 = 0 then
            (gd (mkOK V15 2103 = true) <| bv (mkV V15 2103 (V15 2103 0 0).toNatClampNeg gv_1000 (F_1000 (x1) (x2) (x3))) fun V19 => some ((V19 2103 0 0) - (1 : Int32), V19))
            else
            (F_X11_cloth_56 fu V15)))))
def F_X11_drawing_22 (fu : Nat) (V : St) : RR :=
  some ((-1 : Int32), V)
def f_X11_drawing (fu : Nat) (V : St) (x1 : Int32) : RR :=
  bd (f_X11_within fu V (x1) ((2 : Int32)) ((8 : Int32))) fun r1 V2 => if r1 = 0 then
    (F_X11_drawing_22 fu V2)
    else
    (if (V2 2104 0 0) < (22 : Int32) then
      (gd (mkOK V2 2104 = true) <| bv (mkV V2 2104 (V2 2104 0 0).toNatClampNeg gv_1200 (F_1200 (x1))) fun V7 => some ((V7 2104 0 0) - (1 : Int32), V7))
      else
      (F_X11_drawing_22 fu V2))
def F_X11_person_22 (fu : Nat) (V : St) : RR :=
  some ((-1 : Int32), V)
def f_X11_person (fu : Nat) (V : St) (x1 : Int32) : RR :=
  bd (f_X11_within fu V (x1) ((0 : Int32)) ((1000000 : Int32))) fun r1 V2 => if r1 = 0 then
    (F_X11_person_22 fu V2)
    else
    (if (V2 2108 0 0) < (40 : Int32) then
      (gd (mkOK V2 2108 = true) <| bv (mkV V2 2108 (V2 2108 0 0).toNatClampNeg gv_1800 (F_1800 (x1))) fun V7 => some ((V7 2108 0 0) - (1 : Int32), V7))
      else
      (F_X11_person_22 fu V2))
def F_X11_docket_53 (fu : Nat) (V : St) : RR :=
  some ((-1 : Int32), V)
def F_X11_docket_28 (fu : Nat) (V : St) : RR :=
  some ((-1 : Int32), V)
def f_X11_docket (fu : Nat) (V : St) (x1 : Int32) (x2 : Int32) (x3 : Int32) (x4 : Int32) : RR :=
  bd (f_X11_findPerson fu V (x1)) fun r1 V2 => if r1 < 0 then
    (F_X11_docket_28 fu V2)
    else
    (bd (f_X11_findThing fu V2 (x2)) fun r5 V6 => if r5 < 0 then
      (F_X11_docket_28 fu V6)
      else
      (bd (f_X11_within fu V6 (x3) ((0 : Int32)) ((V6 2101 0 0))) fun r9 V10 => if r9 = 0 then
        (F_X11_docket_28 fu V10)
        else
        (bd (f_X11_within fu V10 (x4) ((0 : Int32)) ((99 : Int32))) fun r13 V14 => if r13 = 0 then
          (F_X11_docket_53 fu V14)
          else
          (if (V14 2109 0 0) < (60 : Int32) then
            (gd (mkOK V14 2109 = true) <| bv (mkV V14 2109 (V14 2109 0 0).toNatClampNeg gv_1100 (F_1100 (x1) (x2) (x3) (x4))) fun V19 => some ((V19 2109 0 0) - (1 : Int32), V19))
            else
            (F_X11_docket_53 fu V14)))))
def F_X11_seen_31 (fu : Nat) (V : St) : RR :=
  some ((0 : Int32), V)
def f_X11_seen (fu : Nat) (V : St) (x1 : Int32) (x2 : Int32) (x3 : Int32) : RR :=
  bd (f_X11_findThing fu V (x1)) fun r1 V2 => if r1 < 0 then
    (F_X11_seen_31 fu V2)
    else
    (bd (f_X11_within fu V2 (x2) ((0 : Int32)) ((V2 2101 0 0))) fun r5 V6 => if r5 = 0 then
      (F_X11_seen_31 fu V6)
      else
      (bd (f_X11_within fu V6 (x3) ((1 : Int32)) ((100000 : Int32))) fun r9 V10 => if r9 = 0 then
        (F_X11_seen_31 fu V10)
        else
        (if (V10 2110 0 0) < (100 : Int32) then
          (gd (mkOK V10 2110 = true) <| bv (mkV V10 2110 (V10 2110 0 0).toNatClampNeg gv_1300 (F_1300 (x1) ((-1 : Int32)) (x2) (x3))) fun V15 => some ((1 : Int32), V15))
          else
          (some ((0 : Int32), V10)))))
def F_X11_rubbed_31 (fu : Nat) (V : St) : RR :=
  some ((0 : Int32), V)
def f_X11_rubbed (fu : Nat) (V : St) (x1 : Int32) (x2 : Int32) (x3 : Int32) : RR :=
  bd (f_X11_findCloth fu V (x1)) fun r1 V2 => if r1 < 0 then
    (F_X11_rubbed_31 fu V2)
    else
    (bd (f_X11_within fu V2 (x2) ((1 : Int32)) ((100000 : Int32))) fun r5 V6 => if r5 = 0 then
      (F_X11_rubbed_31 fu V6)
      else
      (if (V6 2111 0 0) < (100 : Int32) then
        (if x3 = 0 then
          (gd (mkOK V6 2111 = true) <| bv (mkV V6 2111 (V6 2111 0 0).toNatClampNeg gv_1330 (F_1330 (x1) ((0 : Int32)) ((V6 2101 0 0)) (x2))) fun V12 => some ((1 : Int32), V12))
          else
          (gd (mkOK V6 2111 = true) <| bv (mkV V6 2111 (V6 2111 0 0).toNatClampNeg gv_1330 (F_1330 (x1) ((1 : Int32)) ((V6 2101 0 0)) (x2))) fun V15 => some ((1 : Int32), V15)))
        else
        (F_X11_rubbed_31 fu V6)))
def F_X11_maker_69 (fu : Nat) (V : St) : RR :=
  some ((-1 : Int32), V)
def F_X11_maker_32 (fu : Nat) (V : St) : RR :=
  some ((-1 : Int32), V)
def f_X11_maker (fu : Nat) (V : St) (x1 : Int32) (x2 : Int32) (x3 : Int32) (x4 : Int32) (x5 : Int32) : RR :=
  bd (f_X11_within fu V (x1) ((0 : Int32)) ((7 : Int32))) fun r1 V2 => if r1 = 0 then
    (F_X11_maker_32 fu V2)
    else
    (bd (f_X11_within fu V2 (x2) ((1 : Int32)) ((10000 : Int32))) fun r5 V6 => if r5 = 0 then
      (F_X11_maker_32 fu V6)
      else
      (bd (f_X11_within fu V6 (x3) ((0 : Int32)) ((1000 : Int32))) fun r9 V10 => if r9 = 0 then
        (F_X11_maker_32 fu V10)
        else
        (bd (f_X11_within fu V10 (x4) ((1 : Int32)) ((100 : Int32))) fun r13 V14 => if r13 = 0 then
          (F_X11_maker_69 fu V14)
          else
          (bd (f_X11_within fu V14 (x5) ((0 : Int32)) ((10000 : Int32))) fun r17 V18 => if r17 = 0 then
            (F_X11_maker_69 fu V18)
            else
            (if (V18 2106 0 0) < (12 : Int32) then
              (gd (mkOK V18 2106 = true) <| bv (mkV V18 2106 (V18 2106 0 0).toNatClampNeg gv_1600 (F_1600 (x1) (x2) (x3) (x4) (x5))) fun V23 => bd (f_X11_putByRate fu V23 ((V23 2106 0 0) - (1 : Int32)) (x4)) fun r25 V26 => some ((V26 2106 0 0) - (1 : Int32), V26))
              else
              (F_X11_maker_69 fu V18))))))
def F_X11_thing_60 (fu : Nat) (V : St) (x1 : Int32) (x2 : Int32) (x3 : Int32) (x4 : Int32) (s0 : Int32) : RR :=
  gd (mkOK V 2105 = true) <| bv (mkV V 2105 (V 2105 0 0).toNatClampNeg gv_2000 (F_2000 (x1) (x2) (s0) (x3) (x4))) fun V2 => some ((V2 2105 0 0) - (1 : Int32), V2)
def F_X11_thing_31 (fu : Nat) (V : St) : RR :=
  some ((-1 : Int32), V)
def f_X11_thing (fu : Nat) (V : St) (x1 : Int32) (x2 : Int32) (x3 : Int32) (x4 : Int32) : RR :=
  bd (f_X11_isMadeOf fu V (x1) (x2)) fun r1 V2 => if r1 = 0 then
    (F_X11_thing_31 fu V2)
    else
    (bd (f_X11_within fu V2 (x3) ((0 : Int32)) ((9 : Int32))) fun r5 V6 => if r5 = 0 then
      (F_X11_thing_31 fu V6)
      else
      (bd (f_X11_within fu V6 (x4) ((1 : Int32)) ((10000 : Int32))) fun r9 V10 => if r9 = 0 then
        (F_X11_thing_31 fu V10)
        else
        (if (V10 2105 0 0) < (30 : Int32) then
          (if x1 = 0 then
            (bd (f_X11_findCloth fu V10 (x2)) fun r15 V16 => F_X11_thing_60 fu V16 (x1) (x2) (x3) (x4) (r15))
            else
            (F_X11_thing_60 fu V10 (x1) (x2) (x3) (x4) ((-1))))
          else
          (some ((-1 : Int32), V10)))))
def F_X11_order_58 (fu : Nat) (V : St) : RR :=
  some ((-1 : Int32), V)
def F_X11_order_33 (fu : Nat) (V : St) : RR :=
  some ((-1 : Int32), V)
def f_X11_order (fu : Nat) (V : St) (x1 : Int32) (x2 : Int32) (x3 : Int32) : RR :=
  bd (f_X11_within fu V (x1) ((0 : Int32)) ((499 : Int32))) fun r1 V2 => if r1 = 0 then
    (F_X11_order_33 fu V2)
    else
    (bd (f_X11_within fu V2 (x2) (x1) ((499 : Int32))) fun r5 V6 => if r5 = 0 then
      (F_X11_order_33 fu V6)
      else
      (bd (f_X11_within fu V6 (x3) ((1 : Int32)) ((160 : Int32))) fun r9 V10 => if r9 = 0 then
        (F_X11_order_33 fu V10)
        else
        (if (30 : Int32) ≤ (V10 1401 0 0) then
          (F_X11_order_58 fu V10)
          else
          (if x3 ≤ (V10 2114 0 0) then
            (bv (setV V10 2114 0 0 ((0 : Int32))) fun V15 => bd (f_X9_read fu V15 (x3)) fun r17 V18 => if r17 = 0 then
              (gd (mkOK V18 1401 = true) <| gd (¬ V18 1906 0 0 < 0 ∧ (V18 1906 0 0).toNatClampNeg ≤ 12) <| gd (¬ V18 1907 0 0 < 0 ∧ (V18 1907 0 0).toNatClampNeg ≤ 160) <| bv (mkV V18 1401 (V18 1401 0 0).toNatClampNeg gv_1700 (F_1700 (x1) (x2) ((V18 2101 0 0)) (V18 1906 0 0) (V18 1907 0 0) (V18 1901 0) (V18 1902 0) (V18 1903 0) (V18 1904 0) (V18 1905 0))) fun V24 => some ((V24 1401 0 0) - (1 : Int32), V24))
              else
              (some (r17, V18)))
            else
            (F_X11_order_58 fu V10)))))
def F_X11_makes_178 (fu : Nat) (V : St) (x6 : Int32) : RR :=
  gd (¬ x6 < 0 ∧ (x6).toNatClampNeg < cntV V 2105) <| gd (¬ ((0 : Int32) < 0 ∨ 2 ≤ ((0 : Int32)).toNatClampNeg)) <| gd (¬ ((1 : Int32) < 0 ∨ 2 ≤ ((1 : Int32)).toNatClampNeg)) <| some ((V 2006 ((x6).toNatClampNeg) ((0 : Int32)).toNatClampNeg) + (V 2006 ((x6).toNatClampNeg) ((1 : Int32)).toNatClampNeg), V)
def F_X11_makes_128 (fu : Nat) (V : St) (x1 : Int32) (x2 : Int32) (x3 : Int32) (x4 : Int32) (x5 : Int32) (x6 : Int32) (x7 : Int32) : RR :=
  gd (¬ x5 < 0 ∧ (x5).toNatClampNeg < cntV V 2106) <| bv (setV V 1608 (x5).toNatClampNeg 0 ((V 1608 (x5).toNatClampNeg 0) + x3)) fun V3 => gd (¬ x6 < 0 ∧ (x6).toNatClampNeg < cntV V3 2105) <| gd (¬ (x7 < 0 ∨ 2 ≤ (x7).toNatClampNeg)) <| gd (¬ (x7 < 0 ∨ 2 ≤ (x7).toNatClampNeg)) <| bv (setV V3 2006 ((x6).toNatClampNeg) (x7).toNatClampNeg ((V3 2006 ((x6).toNatClampNeg) (x7).toNatClampNeg) + x3)) fun V9 => if x4 = 0 then
    (F_X11_makes_178 fu V9 (x6))
    else
    (gd (mkOK V9 2112 = true) <| bv (mkV V9 2112 (V9 2112 0 0).toNatClampNeg gv_1360 (F_1360 (x2) (x1) ((V9 2101 0 0)) (x3))) fun V13 => F_X11_makes_178 fu V13 (x6))
def F_X11_makes_77 (fu : Nat) (V : St) : RR :=
  some ((-1 : Int32), V)
def F_X11_makes_47 (fu : Nat) (V : St) (x1 : Int32) (x2 : Int32) (x3 : Int32) (x4 : Int32) (x5 : Int32) (x6 : Int32) (s0 : Int32) : RR :=
  gd (¬ x6 < 0 ∧ (x6).toNatClampNeg < cntV V 2105) <| gd (¬ (s0 < 0 ∨ 2 ≤ (s0).toNatClampNeg)) <| if (1000000 : Int32) < (V 2006 ((x6).toNatClampNeg) (s0).toNatClampNeg) + x3 then
    (F_X11_makes_77 fu V)
    else
    (if (V 2112 0 0) < (512 : Int32) then
      (bd (f_X11_whyNotMade fu V (x5) (x6) (x3) (x4)) fun r6 V7 => if r6 = 0 then
        (gd (¬ x6 < 0 ∧ (x6).toNatClampNeg < cntV V7 2105) <| if (V7 2001 (x6).toNatClampNeg 0) = 0 then
          (gd (¬ x5 < 0 ∧ (x5).toNatClampNeg < cntV V7 2106) <| gd (¬ ((V7 2002 (x6).toNatClampNeg 0) < 0 ∨ 20 ≤ ((V7 2002 (x6).toNatClampNeg 0)).toNatClampNeg)) <| bd (f_X11_yardsFor fu V7 (x6) (x3)) fun r16 V17 => gd (¬ x5 < 0 ∧ (x5).toNatClampNeg < cntV V17 2106) <| gd (¬ ((V7 2002 (x6).toNatClampNeg 0) < 0 ∨ 20 ≤ ((V7 2002 (x6).toNatClampNeg 0)).toNatClampNeg)) <| bv (setV V17 1606 ((x5).toNatClampNeg) ((V7 2002 (x6).toNatClampNeg 0)).toNatClampNeg ((V7 1606 ((x5).toNatClampNeg) ((V7 2002 (x6).toNatClampNeg 0)).toNatClampNeg) - r16)) fun V22 => F_X11_makes_128 fu V22 (x1) (x2) (x3) (x4) (x5) (x6) (s0))
          else
          (F_X11_makes_128 fu V7 (x1) (x2) (x3) (x4) (x5) (x6) (s0)))
        else
        (some (r6, V7)))
      else
      (F_X11_makes_77 fu V))
def F_X11_makes_35 (fu : Nat) (V : St) : RR :=
  some ((-1 : Int32), V)
def f_X11_makes (fu : Nat) (V : St) (x1 : Int32) (x2 : Int32) (x3 : Int32) (x4 : Int32) : RR :=
  bd (f_X11_findMaker fu V (x1)) fun r1 V2 => bd (f_X11_findThing fu V2 (x2)) fun r4 V5 => if r1 < 0 then
    (F_X11_makes_35 fu V5)
    else
    (if r4 < 0 then
      (F_X11_makes_35 fu V5)
      else
      (bd (f_X11_within fu V5 (x3) ((1 : Int32)) ((10000 : Int32))) fun r9 V10 => if r9 = 0 then
        (F_X11_makes_35 fu V10)
        else
        (if x4 = 0 then
          (F_X11_makes_47 fu V10 (x1) (x2) (x3) (x4) (r1) (r4) ((0 : Int32)))
          else
          (F_X11_makes_47 fu V10 (x1) (x2) (x3) (x4) (r1) (r4) ((1 : Int32))))))
def F_X11_buys_175 (fu : Nat) (V : St) (x1 : Int32) (x2 : Int32) (x8 : Int32) : RR :=
  bd (f_X11_closeDockets fu V (x1) (x2)) fun r1 V2 => some (x8, V2)
def F_X11_buys_48 (fu : Nat) (V : St) (x1 : Int32) (x2 : Int32) (x3 : Int32) (x4 : Int32) (x5 : Int32) (s0 : Int32) : RR :=
  gd (¬ x5 < 0 ∧ (x5).toNatClampNeg < cntV V 2105) <| gd (¬ (s0 < 0 ∨ 2 ≤ (s0).toNatClampNeg)) <| if (V 2006 ((x5).toNatClampNeg) (s0).toNatClampNeg) = 0 then
    (some ((-2 : Int32), V))
    else
    (bd (f_X11_askNow fu V ((112 : Int32)) (x5) ((-1))) fun r5 V6 => gd (¬ x4 < 0 ∧ (x4).toNatClampNeg < cntV V6 2108) <| if (if (0 : Int32) < r5 then r5 else (0 : Int32)) ≤ (V6 1801 (x4).toNatClampNeg 0) then
      (bd (f_X11_paidNow fu V6 (x5)) fun r11 V12 => gd (¬ x4 < 0 ∧ (x4).toNatClampNeg < cntV V12 2108) <| if r11 ≤ (V12 1802 (x4).toNatClampNeg 0) then
        (bv (setV V12 1801 (x4).toNatClampNeg 0 ((V12 1801 (x4).toNatClampNeg 0) - (if (0 : Int32) < r5 then r5 else (0 : Int32)))) fun V17 => bv (setV V17 1802 (x4).toNatClampNeg 0 ((V17 1802 (x4).toNatClampNeg 0) - r11)) fun V20 => gd (¬ x5 < 0 ∧ (x5).toNatClampNeg < cntV V20 2105) <| gd (¬ (s0 < 0 ∨ 2 ≤ (s0).toNatClampNeg)) <| gd (¬ (s0 < 0 ∨ 2 ≤ (s0).toNatClampNeg)) <| bv (setV V20 2006 ((x5).toNatClampNeg) (s0).toNatClampNeg ((V20 2006 ((x5).toNatClampNeg) (s0).toNatClampNeg) - (1 : Int32))) fun V26 => if x3 = 0 then
          (F_X11_buys_175 fu V26 (x1) (x2) (r11))
          else
          (gd (mkOK V26 2112 = true) <| bv (mkV V26 2112 (V26 2112 0 0).toNatClampNeg gv_1360 (F_1360 (x2) ((-1 : Int32)) ((V26 2101 0 0)) ((1 : Int32)))) fun V30 => F_X11_buys_175 fu V30 (x1) (x2) (r11)))
        else
        (some ((-4 : Int32), V12)))
      else
      (some ((-3 : Int32), V6)))
def F_X11_buys_37 (fu : Nat) (V : St) : RR :=
  some ((-1 : Int32), V)
def f_X11_buys (fu : Nat) (V : St) (x1 : Int32) (x2 : Int32) (x3 : Int32) : RR :=
  bd (f_X11_findPerson fu V (x1)) fun r1 V2 => bd (f_X11_findThing fu V2 (x2)) fun r4 V5 => if r1 < 0 then
    (F_X11_buys_37 fu V5)
    else
    (if r4 < 0 then
      (F_X11_buys_37 fu V5)
      else
      (if (V5 2112 0 0) < (512 : Int32) then
        (if x3 = 0 then
          (F_X11_buys_48 fu V5 (x1) (x2) (x3) (r1) (r4) ((0 : Int32)))
          else
          (F_X11_buys_48 fu V5 (x1) (x2) (x3) (r1) (r4) ((1 : Int32))))
        else
        (F_X11_buys_37 fu V5)))
