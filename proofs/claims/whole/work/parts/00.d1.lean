/-! THE PROGRAM AS FUNCTIONS over the typed state (by program) -/
def F_X12_neededBy_119 (kh : St → Int32 → Int32 → Int32 → Int32 → Int32 → Int32 → Int32 → RR) (kx129 : St → Int32 → Int32 → Int32 → Int32 → Int32 → Int32 → RR) (fu : Nat) (V : St) (x2 : Int32) (x4 : Int32) (x5 : Int32) (x6 : Int32) (x7 : Int32) (x9 : Int32) : RR :=
  F_X12_neededBy_123 kh kx129 fu V (x2) (x4) (x5) (x6) (x7) (x9) (x9)
def F_X12_neededBy_67 (kh : St → Int32 → Int32 → Int32 → Int32 → Int32 → Int32 → Int32 → RR) (kx129 : St → Int32 → Int32 → Int32 → Int32 → Int32 → Int32 → RR) (fu : Nat) (V : St) (x2 : Int32) (x4 : Int32) (x5 : Int32) (x6 : Int32) (x7 : Int32) (x8 : Int32) (x9 : Int32) : RR :=
  if (V 2232 0 0) ≤ x9 then
    (kx129 V (x2) (x4) (x5) (x6) (x7) (x8))
    else
    (if (x2 >>> (x9 &&& 31)) &&& (1 : Int32) = (1 : Int32) then
      (if (x7 >>> (x9 &&& 31)) &&& (1 : Int32) = 0 then
        (if x8 = (-1 : Int32) then
          (F_X12_neededBy_119 kh kx129 fu V (x2) (x4) (x5) (x6) (x7) (x9))
          else
          (gd (¬ (x9 < 0 ∨ 12 ≤ (x9).toNatClampNeg)) <| gd (¬ (x8 < 0 ∨ 12 ≤ (x8).toNatClampNeg)) <| if (V 2236 (0) (x9).toNatClampNeg) ≤ (V 2236 (0) (x8).toNatClampNeg) then
            (F_X12_neededBy_123 kh kx129 fu V (x2) (x4) (x5) (x6) (x7) (x8) (x9))
            else
            (F_X12_neededBy_119 kh kx129 fu V (x2) (x4) (x5) (x6) (x7) (x9))))
        else
        (F_X12_neededBy_123 kh kx129 fu V (x2) (x4) (x5) (x6) (x7) (x8) (x9)))
      else
      (F_X12_neededBy_123 kh kx129 fu V (x2) (x4) (x5) (x6) (x7) (x8) (x9)))
def Lp_X12_neededBy_67 (kx129 : St → Int32 → Int32 → Int32 → Int32 → Int32 → Int32 → RR) (fu : Nat) : Nat → St → Int32 → Int32 → Int32 → Int32 → Int32 → Int32 → Int32 → RR
  | 0, _, _, _, _, _, _, _, _ => none
  | n + 1, V, x2, x4, x5, x6, x7, x8, x9 => F_X12_neededBy_67 (Lp_X12_neededBy_67 kx129 fu n) kx129 fu V x2 x4 x5 x6 x7 x8 x9
def F_X12_neededBy_56 (kh : St → Int32 → Int32 → Int32 → Int32 → Int32 → RR) (kx135 : St → RR) (kx199 : St → Int32 → Int32 → RR) (fu : Nat) (V : St) (x2 : Int32) (x4 : Int32) (x5 : Int32) (x6 : Int32) (x7 : Int32) : RR :=
  if x4 ≤ 0 then
    (kx199 V (x5) (x6))
    else
    (Lp_X12_neededBy_67 (F_X12_neededBy_129 kh kx135 kx199 fu) fu fu V (x2) (x4) (x5) (x6) (x7) ((-1 : Int32)) ((0 : Int32)))
def Lp_X12_neededBy_56 (kx135 : St → RR) (kx199 : St → Int32 → Int32 → RR) (fu : Nat) : Nat → St → Int32 → Int32 → Int32 → Int32 → Int32 → RR
  | 0, _, _, _, _, _, _ => none
  | n + 1, V, x2, x4, x5, x6, x7 => F_X12_neededBy_56 (Lp_X12_neededBy_56 kx135 kx199 fu n) kx135 kx199 fu V x2 x4 x5 x6 x7
def F_X12_neededBy_53 (fu : Nat) (V : St) (x2 : Int32) (x4 : Int32) (x5 : Int32) (x6 : Int32) : RR :=
  Lp_X12_neededBy_56 (F_X12_neededBy_135 fu) (F_X12_neededBy_199 fu) fu fu V (x2) (x4) (x5) (x6) ((0 : Int32))
def F_X12_neededBy_44 (kh : St → Int32 → Int32 → Int32 → Int32 → Int32 → Int32 → RR) (kx53 : St → Int32 → Int32 → Int32 → Int32 → RR) (fu : Nat) (V : St) (x1 : Int32) (x2 : Int32) (x4 : Int32) (x5 : Int32) (x7 : Int32) (s0 : Int32) (s1 : Int32) : RR :=
  kh V (x1) (x2) (x4) (x5) (s1 + s0) (x7 + 1)
def F_X12_neededBy_12 (kh : St → Int32 → Int32 → Int32 → Int32 → Int32 → Int32 → RR) (kx53 : St → Int32 → Int32 → Int32 → Int32 → RR) (fu : Nat) (V : St) (x1 : Int32) (x2 : Int32) (x4 : Int32) (x5 : Int32) (x6 : Int32) (x7 : Int32) : RR :=
  if (V 2232 0 0) ≤ x7 then
    (kx53 V (x2) (x4) (x5) (x6))
    else
    (if (x1 >>> (x7 &&& 31)) &&& (1 : Int32) = (1 : Int32) then
      (gd (¬ (x7 < 0 ∨ 12 ≤ (x7).toNatClampNeg)) <| F_X12_neededBy_44 kh kx53 fu V (x1) (x2) (x4) (x5) (x7) ((V 2235 (0) (x7).toNatClampNeg)) (x6))
      else
      (F_X12_neededBy_44 kh kx53 fu V (x1) (x2) (x4) (x5) (x7) ((0 : Int32)) (x6)))
def Lp_X12_neededBy_12 (kx53 : St → Int32 → Int32 → Int32 → Int32 → RR) (fu : Nat) : Nat → St → Int32 → Int32 → Int32 → Int32 → Int32 → Int32 → RR
  | 0, _, _, _, _, _, _, _ => none
  | n + 1, V, x1, x2, x4, x5, x6, x7 => F_X12_neededBy_12 (Lp_X12_neededBy_12 kx53 fu n) kx53 fu V x1 x2 x4 x5 x6 x7
def f_X12_neededBy (fu : Nat) (V : St) (x1 : Int32) (x2 : Int32) (x3 : Int32) : RR :=
  Lp_X12_neededBy_12 (F_X12_neededBy_53 fu) fu fu V (x1) (x2) (x3) ((0 : Int32)) ((0 : Int32)) ((0 : Int32))
def F_X12_fewest_137 (fu : Nat) (V : St) (x4 : Int32) : RR :=
  some (x4, V)
def F_X12_fewest_131 (kh : St → Int32 → Int32 → Int32 → Int32 → Int32 → Int32 → RR) (kx137 : St → Int32 → RR) (fu : Nat) (V : St) (x1 : Int32) (x2 : Int32) (x3 : Int32) (x4 : Int32) (x5 : Int32) (x6 : Int32) : RR :=
  kh V (x1) (x2) (x3) (x4) (x5) (x6 + 1)
def F_X12_fewest_123 (kh : St → Int32 → Int32 → Int32 → Int32 → Int32 → Int32 → RR) (kx137 : St → Int32 → RR) (fu : Nat) (V : St) (x1 : Int32) (x2 : Int32) (x3 : Int32) (x6 : Int32) (x7 : Int32) : RR :=
  F_X12_fewest_131 kh kx137 fu V (x1) (x2) (x3) (x6) (x7) (x6)
def F_X12_fewest_40 (kh : St → Int32 → Int32 → Int32 → Int32 → Int32 → Int32 → RR) (kx137 : St → Int32 → RR) (fu : Nat) (V : St) (x1 : Int32) (x2 : Int32) (x3 : Int32) (x4 : Int32) (x5 : Int32) (x6 : Int32) : RR :=
  if x1 < x6 then
    (kx137 V (x4))
    else
    (if x6 &&& (x1 ^^^ (-1 : Int32)) = 0 then
      (bd (f_X12_hasTown fu V (x6) (x3)) fun r3 V4 => if r3 = 0 then
        (F_X12_fewest_131 kh kx137 fu V4 (x1) (x2) (x3) (x4) (x5) (x6))
        else
        (bd (f_X12_neededBy fu V4 (x1) (x6) (x2)) fun r7 V8 => if r7 = (-1 : Int32) then
          (F_X12_fewest_131 kh kx137 fu V8 (x1) (x2) (x3) (x4) (x5) (x6))
          else
          (if x4 = (-1 : Int32) then
            (F_X12_fewest_123 kh kx137 fu V8 (x1) (x2) (x3) (x6) (r7))
            else
            (if x5 < r7 then
              (F_X12_fewest_131 kh kx137 fu V8 (x1) (x2) (x3) (x4) (x5) (x6))
              else
              (if r7 = x5 then
                (bd (f_X12_bits fu V8 (x6)) fun r14 V15 => bd (f_X12_bits fu V15 (x4)) fun r17 V18 => if r14 < r17 then
                  (F_X12_fewest_123 kh kx137 fu V18 (x1) (x2) (x3) (x6) (r7))
                  else
                  (F_X12_fewest_131 kh kx137 fu V18 (x1) (x2) (x3) (x4) (x5) (x6)))
                else
                (F_X12_fewest_123 kh kx137 fu V8 (x1) (x2) (x3) (x6) (r7)))))))
      else
      (F_X12_fewest_131 kh kx137 fu V (x1) (x2) (x3) (x4) (x5) (x6)))
def Lp_X12_fewest_40 (kx137 : St → Int32 → RR) (fu : Nat) : Nat → St → Int32 → Int32 → Int32 → Int32 → Int32 → Int32 → RR
  | 0, _, _, _, _, _, _, _ => none
  | n + 1, V, x1, x2, x3, x4, x5, x6 => F_X12_fewest_40 (Lp_X12_fewest_40 kx137 fu n) kx137 fu V x1 x2 x3 x4 x5 x6
def F_X12_fewest_29 (fu : Nat) (V : St) : RR :=
  some ((-1 : Int32), V)
def f_X12_fewest (fu : Nat) (V : St) (x1 : Int32) (x2 : Int32) (x3 : Int32) : RR :=
  bd (f_X12_areTold fu V (x1)) fun r1 V2 => if r1 = 0 then
    (F_X12_fewest_29 fu V2)
    else
    (bd (f_X12_in fu V2 (x2) ((1 : Int32)) ((100000 : Int32))) fun r5 V6 => if r5 = 0 then
      (F_X12_fewest_29 fu V6)
      else
      (bd (f_X12_in fu V6 (x3) ((-1 : Int32)) ((7 : Int32))) fun r9 V10 => if r9 = 0 then
        (F_X12_fewest_29 fu V10)
        else
        (Lp_X12_fewest_40 (F_X12_fewest_137 fu) fu fu V10 (x1) (x2) (x3) ((-1 : Int32)) ((0 : Int32)) ((1 : Int32)))))
def F_X12_first_60 (fu : Nat) (V : St) : RR :=
  some ((-1 : Int32), V)
def F_X12_first_54 (kh : St → Int32 → Int32 → Int32 → RR) (kx52 : St → Int32 → RR) (kx60 : St → RR) (fu : Nat) (V : St) (x1 : Int32) (x2 : Int32) (x3 : Int32) : RR :=
  kh V (x1) (x2) (x3 + 1)
def F_X12_first_52 (fu : Nat) (V : St) (x3 : Int32) : RR :=
  some (x3, V)
def F_X12_first_16 (kh : St → Int32 → Int32 → Int32 → RR) (kx52 : St → Int32 → RR) (kx60 : St → RR) (fu : Nat) (V : St) (x1 : Int32) (x2 : Int32) (x3 : Int32) : RR :=
  if (V 2280 0 0) ≤ x3 then
    (kx60 V)
    else
    (gd (¬ (x3 < 0 ∨ 60 ≤ (x3).toNatClampNeg)) <| if (V 2285 (0) (x3).toNatClampNeg) = 0 then
      (F_X12_first_54 kh kx52 kx60 fu V (x1) (x2) (x3))
      else
      (gd (¬ (x3 < 0 ∨ 60 ≤ (x3).toNatClampNeg)) <| if (V 2282 (0) (x3).toNatClampNeg) = x1 then
        (bd (f_X12_aheadOf fu V (x3)) fun r6 V7 => if r6 = x2 then
          (kx52 V7 (x3))
          else
          (F_X12_first_54 kh kx52 kx60 fu V7 (x1) (x2) (x3)))
        else
        (F_X12_first_54 kh kx52 kx60 fu V (x1) (x2) (x3))))
def Lp_X12_first_16 (kx52 : St → Int32 → RR) (kx60 : St → RR) (fu : Nat) : Nat → St → Int32 → Int32 → Int32 → RR
  | 0, _, _, _, _ => none
  | n + 1, V, x1, x2, x3 => F_X12_first_16 (Lp_X12_first_16 kx52 kx60 fu n) kx52 kx60 fu V x1 x2 x3
def F_X12_first_12 (fu : Nat) (V : St) : RR :=
  some ((-1 : Int32), V)
def f_X12_first (fu : Nat) (V : St) (x1 : Int32) (x2 : Int32) : RR :=
  bd (f_X12_isThing fu V (x1)) fun r1 V2 => if r1 = 0 then
    (F_X12_first_12 fu V2)
    else
    (if 0 ≤ x2 then
      (Lp_X12_first_16 (F_X12_first_52 fu) (F_X12_first_60 fu) fu fu V2 (x1) (x2) ((0 : Int32)))
      else
      (F_X12_first_12 fu V2))
def F_X12_goes_112 (fu : Nat) (V : St) : RR :=
  some ((V 2201 0 0), V)
def F_X12_goes_105 (kh : St → Int32 → Int32 → RR) (kx112 : St → RR) (fu : Nat) (V : St) (x1 : Int32) (x2 : Int32) (s0 : Int32) (s1 : Int32) : RR :=
  gd (¬ (s1 < 0 ∨ 40 ≤ (s1).toNatClampNeg)) <| bv (setV V 2278 (0) (s1).toNatClampNeg (s0)) fun V2 => kh V2 (x1) (x2 + 1)
def F_X12_goes_64 (kh : St → Int32 → Int32 → RR) (kx112 : St → RR) (fu : Nat) (V : St) (x1 : Int32) (x2 : Int32) : RR :=
  if (V 2277 0 0) ≤ x2 then
    (kx112 V)
    else
    (gd (¬ (x2 < 0 ∨ 40 ≤ (x2).toNatClampNeg)) <| if (V 2278 (0) (x2).toNatClampNeg) + x1 ≤ (1000000 : Int32) then
      (gd (¬ (x2 < 0 ∨ 40 ≤ (x2).toNatClampNeg)) <| F_X12_goes_105 kh kx112 fu V (x1) (x2) ((V 2278 (0) (x2).toNatClampNeg) + x1) (x2))
      else
      (F_X12_goes_105 kh kx112 fu V (x1) (x2) ((1000000 : Int32)) (x2)))
def Lp_X12_goes_64 (kx112 : St → RR) (fu : Nat) : Nat → St → Int32 → Int32 → RR
  | 0, _, _, _ => none
  | n + 1, V, x1, x2 => F_X12_goes_64 (Lp_X12_goes_64 kx112 fu n) kx112 fu V x1 x2
def F_X12_goes_45 (fu : Nat) (V : St) : RR :=
  bd (f_X12_orNothing fu V ((103 : Int32)) ((-1 : Int32)) ((-1 : Int32)) ((V 2201 0 0)) ((V 2201 0 0))) fun r1 V2 => Lp_X12_goes_64 (F_X12_goes_112 fu) fu fu V2 (r1) ((0 : Int32))
def F_X12_goes_24 (kh : St → Int32 → RR) (kx45 : St → RR) (fu : Nat) (V : St) (x1 : Int32) : RR :=
  if (V 2232 0 0) ≤ x1 then
    (kx45 V)
    else
    (gd (¬ (x1 < 0 ∨ 12 ≤ (x1).toNatClampNeg)) <| bv (setV V 2239 (0) (x1).toNatClampNeg ((0 : Int32))) fun V3 => kh V3 (x1 + 1))
def Lp_X12_goes_24 (kx45 : St → RR) (fu : Nat) : Nat → St → Int32 → RR
  | 0, _, _ => none
  | n + 1, V, x1 => F_X12_goes_24 (Lp_X12_goes_24 kx45 fu n) kx45 fu V x1
def f_X12_goes (fu : Nat) (V : St) : RR :=
  if (V 2201 0 0) = (499 : Int32) then
    (some ((-1 : Int32), V))
    else
    (bv (setV V 2201 0 0 ((V 2201 0 0) + (1 : Int32))) fun V2 => Lp_X12_goes_24 (F_X12_goes_45 fu) fu fu V2 ((0 : Int32)))
def F_X12_gone_35 (fu : Nat) (V : St) : RR :=
  some ((-1 : Int32), V)
def f_X12_gone (fu : Nat) (V : St) (x1 : Int32) (x2 : Int32) : RR :=
  bd (f_X12_isThing fu V (x1)) fun r1 V2 => if r1 = 0 then
    (F_X12_gone_35 fu V2)
    else
    (bd (f_X12_in fu V2 (x2) ((1 : Int32)) ((100000 : Int32))) fun r5 V6 => if r5 = 0 then
      (F_X12_gone_35 fu V6)
      else
      (gd (¬ (x1 < 0 ∨ 30 ≤ (x1).toNatClampNeg)) <| gd (¬ (x1 < 0 ∨ 30 ≤ (x1).toNatClampNeg)) <| if (V6 2222 (0) (x1).toNatClampNeg) + (V6 2221 (0) (x1).toNatClampNeg) = 0 then
        (F_X12_gone_35 fu V6)
        else
        (gd (¬ (x1 < 0 ∨ 30 ≤ (x1).toNatClampNeg)) <| gd (¬ (x1 < 0 ∨ 30 ≤ (x1).toNatClampNeg)) <| bd (f_X12_up fu V6 ((V6 2222 (0) (x1).toNatClampNeg) + (V6 2221 (0) (x1).toNatClampNeg)) (x2)) fun r14 V15 => some (((V6 2201 0 0) + r14) - (1 : Int32), V15))))
def F_X12_hasOpenSum_33 (fu : Nat) (V : St) : RR :=
  some ((0 : Int32), V)
def F_X12_hasOpenSum_25 (fu : Nat) (V : St) : RR :=
  some ((1 : Int32), V)
def F_X12_hasOpenSum_2 (kh : St → Int32 → RR) (kx25 : St → RR) (kx33 : St → RR) (fu : Nat) (V : St) (x2 : Int32) : RR :=
  if (V 2249 0 0) ≤ x2 then
    (kx33 V)
    else
    (gd (¬ (x2 < 0 ∨ 180 ≤ (x2).toNatClampNeg)) <| if ((V 2252 (0) (x2).toNatClampNeg)) / ((1048576 : Int32)) = (14 : Int32) then
      (kx25 V)
      else
      (kh V (x2 + 1)))
def Lp_X12_hasOpenSum_2 (kx25 : St → RR) (kx33 : St → RR) (fu : Nat) : Nat → St → Int32 → RR
  | 0, _, _ => none
  | n + 1, V, x2 => F_X12_hasOpenSum_2 (Lp_X12_hasOpenSum_2 kx25 kx33 fu n) kx25 kx33 fu V x2
def f_X12_hasOpenSum (fu : Nat) (V : St) (x1 : Int32) : RR :=
  Lp_X12_hasOpenSum_2 (F_X12_hasOpenSum_25 fu) (F_X12_hasOpenSum_33 fu) fu fu V (x1)
def F_X12_here_28 (fu : Nat) (V : St) (s0 : Int32) : RR :=
  some (s0, V)
def f_X12_here (fu : Nat) (V : St) : RR :=
  if (V 2244 0 0) ≤ (V 2243 0 0) then
    (F_X12_here_28 fu V ((-1 : Int32)))
    else
    (gd (¬ ((V 2243 0 0) < 0 ∨ 400 ≤ ((V 2243 0 0)).toNatClampNeg)) <| F_X12_here_28 fu V ((V 2241 (0) ((V 2243 0 0)).toNatClampNeg) &&& (255 : Int32)))
def F_X12_isCloth_17 (fu : Nat) (V : St) (s0 : Int32) : RR :=
  gd (s0 = 0 ∨ s0 = 1) <| some (s0, V)
def F_X12_isCloth_16 (fu : Nat) (V : St) : RR :=
  F_X12_isCloth_17 fu V ((0 : Int32))
def f_X12_isCloth (fu : Nat) (V : St) (x1 : Int32) : RR :=
  if x1 < 0 then
    (F_X12_isCloth_16 fu V)
    else
    (if (V 2202 0 0) ≤ x1 then
      (F_X12_isCloth_16 fu V)
      else
      (F_X12_isCloth_17 fu V ((1 : Int32))))
def F_X12_isDigit_23 (fu : Nat) (V : St) (s0 : Int32) : RR :=
  gd (s0 = 0 ∨ s0 = 1) <| some (s0, V)
def F_X12_isDigit_22 (fu : Nat) (V : St) : RR :=
  F_X12_isDigit_23 fu V ((0 : Int32))
def f_X12_isDigit (fu : Nat) (V : St) : RR :=
  bd (f_X12_here fu V) fun r1 V2 => if r1 < (48 : Int32) then
    (F_X12_isDigit_22 fu V2)
    else
    (bd (f_X12_here fu V2) fun r5 V6 => if (57 : Int32) < r5 then
      (F_X12_isDigit_22 fu V6)
      else
      (F_X12_isDigit_23 fu V6 ((1 : Int32))))
def F_X12_isLetter_47 (fu : Nat) (V : St) (s0 : Int32) : RR :=
  gd (s0 = 0 ∨ s0 = 1) <| some (s0, V)
def F_X12_isLetter_42 (fu : Nat) (V : St) : RR :=
  F_X12_isLetter_47 fu V ((1 : Int32))
def f_X12_isLetter (fu : Nat) (V : St) (x0 : Int32) : RR :=
  if x0 = (98 : Int32) then
    (F_X12_isLetter_42 fu V)
    else
    (if x0 = (109 : Int32) then
      (F_X12_isLetter_42 fu V)
      else
      (if x0 = (112 : Int32) then
        (F_X12_isLetter_42 fu V)
        else
        (if x0 = (99 : Int32) then
          (F_X12_isLetter_42 fu V)
          else
          (if x0 = (103 : Int32) then
            (F_X12_isLetter_42 fu V)
            else
            (if x0 = (100 : Int32) then
              (F_X12_isLetter_42 fu V)
              else
              (if x0 = (120 : Int32) then
                (F_X12_isLetter_42 fu V)
                else
                (F_X12_isLetter_47 fu V ((0 : Int32)))))))))
def F_X12_isMaker_17 (fu : Nat) (V : St) (s0 : Int32) : RR :=
  gd (s0 = 0 ∨ s0 = 1) <| some (s0, V)
def F_X12_isMaker_16 (fu : Nat) (V : St) : RR :=
  F_X12_isMaker_17 fu V ((0 : Int32))
def f_X12_isMaker (fu : Nat) (V : St) (x1 : Int32) : RR :=
  if x1 < 0 then
    (F_X12_isMaker_16 fu V)
    else
    (if (V 2232 0 0) ≤ x1 then
      (F_X12_isMaker_16 fu V)
      else
      (F_X12_isMaker_17 fu V ((1 : Int32))))
def F_X12_isWeek_16 (fu : Nat) (V : St) (s0 : Int32) : RR :=
  gd (s0 = 0 ∨ s0 = 1) <| some (s0, V)
def F_X12_isWeek_15 (fu : Nat) (V : St) : RR :=
  F_X12_isWeek_16 fu V ((0 : Int32))
def f_X12_isWeek (fu : Nat) (V : St) (x0 : Int32) : RR :=
  if x0 < 0 then
    (F_X12_isWeek_15 fu V)
    else
    (if (499 : Int32) < x0 then
      (F_X12_isWeek_15 fu V)
      else
      (F_X12_isWeek_16 fu V ((1 : Int32))))
def F_X12_isTrue_156 (fu : Nat) (V : St) (s0 : Int32) : RR :=
  some (s0, V)
def F_X12_isTrue_155 (fu : Nat) (V : St) : RR :=
  F_X12_isTrue_156 fu V ((2 : Int32))
def F_X12_isTrue_138 (fu : Nat) (V : St) (x5 : Int32) (x6 : Int32) : RR :=
  if x5 < (2 : Int32) then
    (F_X12_isTrue_155 fu V)
    else
    (if x6 = x5 then
      (F_X12_isTrue_156 fu V ((1 : Int32)))
      else
      (F_X12_isTrue_155 fu V))
def F_X12_isTrue_132 (kh : St → Int32 → Int32 → Int32 → Int32 → Int32 → Int32 → RR) (kx102 : St → RR) (kx138 : St → Int32 → Int32 → RR) (fu : Nat) (V : St) (x1 : Int32) (x2 : Int32) (x4 : Int32) (x5 : Int32) (x6 : Int32) (x7 : Int32) : RR :=
  kh V (x1) (x2) (x4) (x5) (x6) (x7 + 1)
def F_X12_isTrue_129 (kh : St → Int32 → Int32 → Int32 → Int32 → Int32 → Int32 → RR) (kx102 : St → RR) (kx138 : St → Int32 → Int32 → RR) (fu : Nat) (V : St) (x1 : Int32) (x2 : Int32) (x4 : Int32) (x5 : Int32) (x7 : Int32) (s0 : Int32) (s1 : Int32) : RR :=
  F_X12_isTrue_132 kh kx102 kx138 fu V (x1) (x2) (x4) (x5) (s1 + s0) (x7)
def F_X12_isTrue_104 (kh : St → Int32 → Int32 → Int32 → Int32 → Int32 → Int32 → RR) (kx102 : St → RR) (kx138 : St → Int32 → Int32 → RR) (fu : Nat) (V : St) (x1 : Int32) (x2 : Int32) (x4 : Int32) (x5 : Int32) (x6 : Int32) (x7 : Int32) : RR :=
  gd (¬ (x7 < 0 ∨ 100 ≤ (x7).toNatClampNeg)) <| if (V 2293 (0) (x7).toNatClampNeg) < x4 then
    (F_X12_isTrue_129 kh kx102 kx138 fu V (x1) (x2) (x4) (x5 + (1 : Int32)) (x7) ((0 : Int32)) (x6))
    else
    (F_X12_isTrue_129 kh kx102 kx138 fu V (x1) (x2) (x4) (x5 + (1 : Int32)) (x7) ((1 : Int32)) (x6))
def F_X12_isTrue_102 (fu : Nat) (V : St) : RR :=
  some ((0 : Int32), V)
def F_X12_isTrue_46 (kh : St → Int32 → Int32 → Int32 → Int32 → Int32 → Int32 → RR) (kx102 : St → RR) (kx138 : St → Int32 → Int32 → RR) (fu : Nat) (V : St) (x1 : Int32) (x2 : Int32) (x4 : Int32) (x5 : Int32) (x6 : Int32) (x7 : Int32) : RR :=
  if (V 2287 0 0) ≤ x7 then
    (kx138 V (x5) (x6))
    else
    (gd (¬ (x7 < 0 ∨ 100 ≤ (x7).toNatClampNeg)) <| if (V 2292 (0) (x7).toNatClampNeg) = x1 then
      (gd (¬ (x7 < 0 ∨ 100 ≤ (x7).toNatClampNeg)) <| if (V 2294 (0) (x7).toNatClampNeg) ≤ x2 then
        (gd (¬ (x7 < 0 ∨ 100 ≤ (x7).toNatClampNeg)) <| if (V 2295 (0) (x7).toNatClampNeg) = 0 then
          (F_X12_isTrue_104 kh kx102 kx138 fu V (x1) (x2) (x4) (x5) (x6) (x7))
          else
          (gd (¬ (x7 < 0 ∨ 100 ≤ (x7).toNatClampNeg)) <| if x4 ≤ (V 2293 (0) (x7).toNatClampNeg) then
            (F_X12_isTrue_104 kh kx102 kx138 fu V (x1) (x2) (x4) (x5) (x6) (x7))
            else
            (kx102 V)))
        else
        (F_X12_isTrue_132 kh kx102 kx138 fu V (x1) (x2) (x4) (x5) (x6) (x7)))
      else
      (F_X12_isTrue_132 kh kx102 kx138 fu V (x1) (x2) (x4) (x5) (x6) (x7)))
def Lp_X12_isTrue_46 (kx102 : St → RR) (kx138 : St → Int32 → Int32 → RR) (fu : Nat) : Nat → St → Int32 → Int32 → Int32 → Int32 → Int32 → Int32 → RR
  | 0, _, _, _, _, _, _, _ => none
  | n + 1, V, x1, x2, x4, x5, x6, x7 => F_X12_isTrue_46 (Lp_X12_isTrue_46 kx102 kx138 fu n) kx102 kx138 fu V x1 x2 x4 x5 x6 x7
def F_X12_isTrue_15 (fu : Nat) (V : St) : RR :=
  some ((-1 : Int32), V)
def f_X12_isTrue (fu : Nat) (V : St) (x1 : Int32) (x2 : Int32) : RR :=
  bd (f_X12_isCloth fu V (x1)) fun r1 V2 => if r1 = 0 then
    (F_X12_isTrue_15 fu V2)
    else
    (bd (f_X12_isWeek fu V2 (x2)) fun r5 V6 => if r5 = 0 then
      (F_X12_isTrue_15 fu V6)
      else
      (gd (¬ (x1 < 0 ∨ 20 ≤ (x1).toNatClampNeg)) <| Lp_X12_isTrue_46 (F_X12_isTrue_102 fu) (F_X12_isTrue_138 fu) fu fu V6 (x1) (x2) (((V6 2206 (0) (x1).toNatClampNeg) * (V6 2288 0 0)) - (((V6 2206 (0) (x1).toNatClampNeg) * (V6 2288 0 0)) / ((10 : Int32)))) ((0 : Int32)) ((0 : Int32)) ((0 : Int32))))
def F_X12_isWider_35 (fu : Nat) (V : St) : RR :=
  some ((0 : Int32), V)
def F_X12_isWider_27 (fu : Nat) (V : St) : RR :=
  some ((1 : Int32), V)
def F_X12_isWider_2 (kh : St → Int32 → Int32 → Int32 → RR) (kx27 : St → RR) (kx35 : St → RR) (fu : Nat) (V : St) (x1 : Int32) (x2 : Int32) (x3 : Int32) : RR :=
  gd (¬ (x1 < 0 ∨ 30 ≤ (x1).toNatClampNeg)) <| if (V 2223 (0) (x1).toNatClampNeg) ≤ x3 then
    (kx35 V)
    else
    (gd (¬ (((9 : Int32) * x1) + x3 < 0 ∨ 270 ≤ (((9 : Int32) * x1) + x3).toNatClampNeg)) <| if (V 2225 (0) (((9 : Int32) * x1) + x3).toNatClampNeg) ≤ x2 then
      (kh V (x1) (x2) (x3 + 1))
      else
      (kx27 V))
def Lp_X12_isWider_2 (kx27 : St → RR) (kx35 : St → RR) (fu : Nat) : Nat → St → Int32 → Int32 → Int32 → RR
  | 0, _, _, _, _ => none
  | n + 1, V, x1, x2, x3 => F_X12_isWider_2 (Lp_X12_isWider_2 kx27 kx35 fu n) kx27 kx35 fu V x1 x2 x3
def f_X12_isWider (fu : Nat) (V : St) (x1 : Int32) (x2 : Int32) : RR :=
  Lp_X12_isWider_2 (F_X12_isWider_27 fu) (F_X12_isWider_35 fu) fu fu V (x1) (x2) ((0 : Int32))
def f_X12_jumps (fu : Nat) (V : St) (x1 : Int32) : RR :=
  gd (¬ ((V 2249 0 0) < 0 ∨ 180 ≤ ((V 2249 0 0)).toNatClampNeg)) <| bv (setV V 2252 (0) ((V 2249 0 0)).toNatClampNeg (((1048576 : Int32) * x1) + (V 2248 0 0))) fun V2 => bv (setV V2 2249 0 0 ((V2 2249 0 0) + (1 : Int32))) fun V4 => bd (f_X12_says fu V4 (x1) ((0 : Int32))) fun r6 V7 => bv (setV V7 2243 0 0 ((V7 2243 0 0) + (1 : Int32))) fun V9 => some (0, V9)
def F_X12_lengthOf_103 (fu : Nat) (V : St) (x3 : Int32) (x4 : Int32) : RR :=
  some (x3 + x4, V)
def F_X12_lengthOf_95 (kh : St → Int32 → Int32 → Int32 → Int32 → Int32 → Int32 → RR) (kx103 : St → Int32 → Int32 → RR) (fu : Nat) (V : St) (x1 : Int32) (x2 : Int32) (x3 : Int32) (x5 : Int32) (x6 : Int32) (s0 : Int32) : RR :=
  kh V (x1) (x2) (x3) (s0) (x5) (x6 + 1)
def F_X12_lengthOf_59 (kh : St → Int32 → Int32 → Int32 → Int32 → Int32 → Int32 → RR) (kx103 : St → Int32 → Int32 → RR) (fu : Nat) (V : St) (x1 : Int32) (x2 : Int32) (x3 : Int32) (x4 : Int32) (x5 : Int32) (x6 : Int32) (x7 : Int32) : RR :=
  gd (¬ (x7 < 0 ∨ 270 ≤ (x7).toNatClampNeg)) <| gd (¬ (x7 < 0 ∨ 270 ≤ (x7).toNatClampNeg)) <| if (V 2224 (0) (x7).toNatClampNeg) ≤ x4 then
    (F_X12_lengthOf_95 kh kx103 fu V (x1) (x2) (x3) (x5 - (V 2225 (0) (x7).toNatClampNeg)) (x6) (x4))
    else
    (gd (¬ (x7 < 0 ∨ 270 ≤ (x7).toNatClampNeg)) <| F_X12_lengthOf_95 kh kx103 fu V (x1) (x2) (x3) (x5 - (V 2225 (0) (x7).toNatClampNeg)) (x6) ((V 2224 (0) (x7).toNatClampNeg)))
def F_X12_lengthOf_11 (kh : St → Int32 → Int32 → Int32 → Int32 → Int32 → Int32 → RR) (kx103 : St → Int32 → Int32 → RR) (fu : Nat) (V : St) (x1 : Int32) (x2 : Int32) (x3 : Int32) (x4 : Int32) (x5 : Int32) (x6 : Int32) : RR :=
  gd (¬ (x1 < 0 ∨ 30 ≤ (x1).toNatClampNeg)) <| if (V 2223 (0) (x1).toNatClampNeg) ≤ x6 then
    (kx103 V (x3) (x4))
    else
    (gd (¬ (x6 < 0 ∨ 9 ≤ (x6).toNatClampNeg)) <| gd (¬ (((9 : Int32) * x1) + (V 2230 (0) (x6).toNatClampNeg) < 0 ∨ 270 ≤ (((9 : Int32) * x1) + (V 2230 (0) (x6).toNatClampNeg)).toNatClampNeg)) <| if (V 2225 (0) (((9 : Int32) * x1) + (V 2230 (0) (x6).toNatClampNeg)).toNatClampNeg) ≤ x5 then
      (F_X12_lengthOf_59 kh kx103 fu V (x1) (x2) (x3) (x4) (x5) (x6) (((9 : Int32) * x1) + (V 2230 (0) (x6).toNatClampNeg)))
      else
      (F_X12_lengthOf_59 kh kx103 fu V (x1) (x2) (x3 + x4) ((0 : Int32)) (x2) (x6) (((9 : Int32) * x1) + (V 2230 (0) (x6).toNatClampNeg))))
def Lp_X12_lengthOf_11 (kx103 : St → Int32 → Int32 → RR) (fu : Nat) : Nat → St → Int32 → Int32 → Int32 → Int32 → Int32 → Int32 → RR
  | 0, _, _, _, _, _, _, _ => none
  | n + 1, V, x1, x2, x3, x4, x5, x6 => F_X12_lengthOf_11 (Lp_X12_lengthOf_11 kx103 fu n) kx103 fu V x1 x2 x3 x4 x5 x6
def f_X12_lengthOf (fu : Nat) (V : St) (x1 : Int32) (x2 : Int32) : RR :=
  Lp_X12_lengthOf_11 (F_X12_lengthOf_103 fu) fu fu V (x1) (x2) ((0 : Int32)) ((0 : Int32)) ((0 : Int32)) ((0 : Int32))
def F_X12_laid_138 (fu : Nat) (V : St) (x1 : Int32) (x2 : Int32) : RR :=
  bd (f_X12_lengthOf fu V (x1) (x2)) fun r1 V2 => some (r1, V2)
def F_X12_laid_111 (fu : Nat) (V : St) : RR :=
  some ((-2 : Int32), V)
def F_X12_laid_75 (kh : St → Int32 → Int32 → Int32 → Int32 → Int32 → RR) (kx111 : St → RR) (kx138 : St → Int32 → Int32 → RR) (fu : Nat) (V : St) (x1 : Int32) (x2 : Int32) (x3 : Int32) (x4 : Int32) (x5 : Int32) : RR :=
  if x3 ≤ x5 then
    (kx138 V (x1) (x2))
    else
    (gd (¬ (x5 < 0 ∨ 400 ≤ (x5).toNatClampNeg)) <| if x3 ≤ (V 2241 (0) (x5).toNatClampNeg) &&& (255 : Int32) then
      (kx111 V)
      else
      (if (x4 >>> (((V 2241 (0) (x5).toNatClampNeg) &&& (255 : Int32)) &&& 31)) &&& (1 : Int32) = (1 : Int32) then
        (kx111 V)
        else
        (gd (¬ (x5 < 0 ∨ 9 ≤ (x5).toNatClampNeg)) <| bv (setV V 2230 (0) (x5).toNatClampNeg ((V 2241 (0) (x5).toNatClampNeg) &&& (255 : Int32))) fun V6 => kh V6 (x1) (x2) (x3) (x4 ||| ((1 : Int32) <<< (((V 2241 (0) (x5).toNatClampNeg) &&& (255 : Int32)) &&& 31))) (x5 + 1))))
def Lp_X12_laid_75 (kx111 : St → RR) (kx138 : St → Int32 → Int32 → RR) (fu : Nat) : Nat → St → Int32 → Int32 → Int32 → Int32 → Int32 → RR
  | 0, _, _, _, _, _, _ => none
  | n + 1, V, x1, x2, x3, x4, x5 => F_X12_laid_75 (Lp_X12_laid_75 kx111 kx138 fu n) kx111 kx138 fu V x1 x2 x3 x4 x5
def F_X12_laid_66 (fu : Nat) (V : St) : RR :=
  some ((-2 : Int32), V)
def F_X12_laid_40 (fu : Nat) (V : St) : RR :=
  some ((-1 : Int32), V)
def f_X12_laid (fu : Nat) (V : St) (x1 : Int32) (x2 : Int32) (x3 : Int32) : RR :=
  bd (f_X12_isThing fu V (x1)) fun r1 V2 => if r1 = 0 then
    (F_X12_laid_40 fu V2)
    else
    (gd (¬ (x1 < 0 ∨ 30 ≤ (x1).toNatClampNeg)) <| if (V2 2216 (0) (x1).toNatClampNeg) = 0 then
      (bd (f_X12_in fu V2 (x2) ((1 : Int32)) ((200 : Int32))) fun r7 V8 => if r7 = 0 then
        (F_X12_laid_40 fu V8)
        else
        (if x3 < 0 then
          (F_X12_laid_40 fu V8)
          else
          (if x3 ≤ (V8 2242 0 0) then
            (bv (setV V8 2242 0 0 ((0 : Int32))) fun V13 => gd (¬ (x1 < 0 ∨ 30 ≤ (x1).toNatClampNeg)) <| if x3 = (V13 2223 (0) (x1).toNatClampNeg) then
              (bd (f_X12_isWider fu V13 (x1) (x2)) fun r17 V18 => if r17 = 0 then
                (Lp_X12_laid_75 (F_X12_laid_111 fu) (F_X12_laid_138 fu) fu fu V18 (x1) (x2) (x3) ((0 : Int32)) ((0 : Int32)))
                else
                (F_X12_laid_66 fu V18))
              else
              (F_X12_laid_66 fu V13))
            else
            (F_X12_laid_40 fu V8))))
      else
      (F_X12_laid_40 fu V2))
def F_X12_lands_76 (fu : Nat) (V : St) : RR :=
  some (0, V)
def F_X12_lands_22 (kh : St → Int32 → RR) (kx76 : St → RR) (fu : Nat) (V : St) (x1 : Int32) : RR :=
  gd (¬ ((V 2249 0 0) - (1 : Int32) < 0 ∨ 180 ≤ ((V 2249 0 0) - (1 : Int32)).toNatClampNeg)) <| gd (¬ (((V 2252 (0) ((V 2249 0 0) - (1 : Int32)).toNatClampNeg)) - ((V 2252 (0) ((V 2249 0 0) - (1 : Int32)).toNatClampNeg)) / ((1048576 : Int32)) * ((1048576 : Int32)) < 0 ∨ 180 ≤ (((V 2252 (0) ((V 2249 0 0) - (1 : Int32)).toNatClampNeg)) - ((V 2252 (0) ((V 2249 0 0) - (1 : Int32)).toNatClampNeg)) / ((1048576 : Int32)) * ((1048576 : Int32))).toNatClampNeg)) <| gd (¬ (((V 2252 (0) ((V 2249 0 0) - (1 : Int32)).toNatClampNeg)) - ((V 2252 (0) ((V 2249 0 0) - (1 : Int32)).toNatClampNeg)) / ((1048576 : Int32)) * ((1048576 : Int32)) < 0 ∨ 180 ≤ (((V 2252 (0) ((V 2249 0 0) - (1 : Int32)).toNatClampNeg)) - ((V 2252 (0) ((V 2249 0 0) - (1 : Int32)).toNatClampNeg)) / ((1048576 : Int32)) * ((1048576 : Int32))).toNatClampNeg)) <| bv (setV V 2251 (0) (((V 2252 (0) ((V 2249 0 0) - (1 : Int32)).toNatClampNeg)) - ((V 2252 (0) ((V 2249 0 0) - (1 : Int32)).toNatClampNeg)) / ((1048576 : Int32)) * ((1048576 : Int32))).toNatClampNeg (((1048576 : Int32) * (((V 2251 (0) (((V 2252 (0) ((V 2249 0 0) - (1 : Int32)).toNatClampNeg)) - ((V 2252 (0) ((V 2249 0 0) - (1 : Int32)).toNatClampNeg)) / ((1048576 : Int32)) * ((1048576 : Int32))).toNatClampNeg)) / ((1048576 : Int32)))) + (V 2248 0 0))) fun V4 => bv (setV V4 2249 0 0 ((V4 2249 0 0) - (1 : Int32))) fun V6 => kh V6 (x1)
def F_X12_lands_0 (kh : St → Int32 → RR) (kx76 : St → RR) (fu : Nat) (V : St) (x1 : Int32) : RR :=
  bd (f_X12_top fu V) fun r1 V2 => if r1 = (11 : Int32) then
    (F_X12_lands_22 kh kx76 fu V2 (x1))
    else
    (if x1 = 0 then
      (kx76 V2)
      else
      (bd (f_X12_top fu V2) fun r6 V7 => if r6 = (12 : Int32) then
        (F_X12_lands_22 kh kx76 fu V7 (x1))
        else
        (kx76 V7)))
def Lp_X12_lands_0 (kx76 : St → RR) (fu : Nat) : Nat → St → Int32 → RR
  | 0, _, _ => none
  | n + 1, V, x1 => F_X12_lands_0 (Lp_X12_lands_0 kx76 fu n) kx76 fu V x1
def f_X12_lands (fu : Nat) (V : St) (x1 : Int32) : RR :=
  Lp_X12_lands_0 (F_X12_lands_76 fu) fu fu V (x1)
def f_X12_swaps (fu : Nat) (V : St) (x1 : Int32) (x2 : Int32) : RR :=
  gd (¬ (x1 < 0 ∨ 9 ≤ (x1).toNatClampNeg)) <| gd (¬ (x2 < 0 ∨ 9 ≤ (x2).toNatClampNeg)) <| gd (¬ (x1 < 0 ∨ 9 ≤ (x1).toNatClampNeg)) <| bv (setV V 2230 (0) (x1).toNatClampNeg ((V 2230 (0) (x2).toNatClampNeg))) fun V4 => gd (¬ (x2 < 0 ∨ 9 ≤ (x2).toNatClampNeg)) <| bv (setV V4 2230 (0) (x2).toNatClampNeg ((V 2230 (0) (x1).toNatClampNeg))) fun V7 => some (0, V7)
def F_X12_nextRow_110 (fu : Nat) (V : St) : RR :=
  some ((1 : Int32), V)
def F_X12_nextRow_80 (kh : St → Int32 → Int32 → RR) (kx110 : St → RR) (fu : Nat) (V : St) (x4 : Int32) (x5 : Int32) : RR :=
  if x5 ≤ x4 then
    (kx110 V)
    else
    (bd (f_X12_swaps fu V (x4) (x5)) fun r2 V3 => kh V3 (x4 + (1 : Int32)) (x5 - (1 : Int32)))
def Lp_X12_nextRow_80 (kx110 : St → RR) (fu : Nat) : Nat → St → Int32 → Int32 → RR
  | 0, _, _, _ => none
  | n + 1, V, x4, x5 => F_X12_nextRow_80 (Lp_X12_nextRow_80 kx110 fu n) kx110 fu V x4 x5
def F_X12_nextRow_64 (fu : Nat) (V : St) (x1 : Int32) (x2 : Int32) (x3 : Int32) : RR :=
  bd (f_X12_swaps fu V (x2) (x3)) fun r1 V2 => Lp_X12_nextRow_80 (F_X12_nextRow_110 fu) fu fu V2 (x2 + (1 : Int32)) (x1 - (1 : Int32))
def F_X12_nextRow_42 (kh : St → Int32 → Int32 → Int32 → RR) (kx64 : St → Int32 → Int32 → Int32 → RR) (fu : Nat) (V : St) (x1 : Int32) (x2 : Int32) (x3 : Int32) : RR :=
  gd (¬ (x3 < 0 ∨ 9 ≤ (x3).toNatClampNeg)) <| gd (¬ (x2 < 0 ∨ 9 ≤ (x2).toNatClampNeg)) <| if (V 2230 (0) (x2).toNatClampNeg) ≤ (V 2230 (0) (x3).toNatClampNeg) then
    (kx64 V (x1) (x2) (x3))
    else
    (kh V (x1) (x2) (x3 - (1 : Int32)))
def Lp_X12_nextRow_42 (kx64 : St → Int32 → Int32 → Int32 → RR) (fu : Nat) : Nat → St → Int32 → Int32 → Int32 → RR
  | 0, _, _, _, _ => none
  | n + 1, V, x1, x2, x3 => F_X12_nextRow_42 (Lp_X12_nextRow_42 kx64 fu n) kx64 fu V x1 x2 x3
def F_X12_nextRow_32 (fu : Nat) (V : St) (x1 : Int32) (x2 : Int32) : RR :=
  if 0 ≤ x2 then
    (Lp_X12_nextRow_42 (F_X12_nextRow_64 fu) fu fu V (x1) (x2) (x1 - (1 : Int32)))
    else
    (some ((0 : Int32), V))
def F_X12_nextRow_4 (kh : St → Int32 → Int32 → RR) (kx32 : St → Int32 → Int32 → RR) (fu : Nat) (V : St) (x1 : Int32) (x2 : Int32) : RR :=
  if x2 < 0 then
    (kx32 V (x1) (x2))
    else
    (gd (¬ (x2 < 0 ∨ 9 ≤ (x2).toNatClampNeg)) <| gd (¬ (x2 + (1 : Int32) < 0 ∨ 9 ≤ (x2 + (1 : Int32)).toNatClampNeg)) <| if (V 2230 (0) (x2).toNatClampNeg) ≤ (V 2230 (0) (x2 + (1 : Int32)).toNatClampNeg) then
      (kx32 V (x1) (x2))
      else
      (kh V (x1) (x2 - (1 : Int32))))
def Lp_X12_nextRow_4 (kx32 : St → Int32 → Int32 → RR) (fu : Nat) : Nat → St → Int32 → Int32 → RR
  | 0, _, _, _ => none
  | n + 1, V, x1, x2 => F_X12_nextRow_4 (Lp_X12_nextRow_4 kx32 fu n) kx32 fu V x1 x2
def f_X12_nextRow (fu : Nat) (V : St) (x1 : Int32) : RR :=
  Lp_X12_nextRow_4 (F_X12_nextRow_32 fu) fu fu V (x1) (x1 - (2 : Int32))
def F_X12_least_181 (fu : Nat) (V : St) (s0 : Int32) : RR :=
  some (s0, V)
def F_X12_least_165 (fu : Nat) (V : St) (x3 : Int32) (x5 : Int32) : RR :=
  if x3 = (-1 : Int32) then
    (F_X12_least_181 fu V (x5))
    else
    (gd (¬ (x3 < 0 ∨ 9 ≤ (x3).toNatClampNeg)) <| F_X12_least_181 fu V ((V 2231 (0) (x3).toNatClampNeg)))
def F_X12_least_154 (kh : St → Int32 → Int32 → Int32 → Int32 → Int32 → Int32 → RR) (kx165 : St → Int32 → Int32 → RR) (fu : Nat) (V : St) (x1 : Int32) (x2 : Int32) (x3 : Int32) (x4 : Int32) (x5 : Int32) : RR :=
  bd (f_X12_nextRow fu V (x4)) fun r1 V2 => kh V2 (x1) (x2) (x3) (x4) (x5) (r1)
def F_X12_least_127 (kh : St → Int32 → Int32 → Int32 → Int32 → Int32 → Int32 → RR) (kx154 : St → Int32 → Int32 → Int32 → Int32 → Int32 → RR) (fu : Nat) (V : St) (x1 : Int32) (x2 : Int32) (x3 : Int32) (x4 : Int32) (x5 : Int32) (x8 : Int32) : RR :=
  if x4 ≤ x8 then
    (kx154 V (x1) (x2) (x3) (x4) (x5))
    else
    (gd (¬ (x8 < 0 ∨ 9 ≤ (x8).toNatClampNeg)) <| gd (¬ (x8 < 0 ∨ 9 ≤ (x8).toNatClampNeg)) <| bv (setV V 2231 (0) (x8).toNatClampNeg ((V 2230 (0) (x8).toNatClampNeg))) fun V4 => kh V4 (x1) (x2) (x3) (x4) (x5) (x8 + 1))
def Lp_X12_least_127 (kx154 : St → Int32 → Int32 → Int32 → Int32 → Int32 → RR) (fu : Nat) : Nat → St → Int32 → Int32 → Int32 → Int32 → Int32 → Int32 → RR
  | 0, _, _, _, _, _, _, _ => none
  | n + 1, V, x1, x2, x3, x4, x5, x8 => F_X12_least_127 (Lp_X12_least_127 kx154 fu n) kx154 fu V x1 x2 x3 x4 x5 x8
def F_X12_least_120 (kh : St → Int32 → Int32 → Int32 → Int32 → Int32 → Int32 → RR) (kx165 : St → Int32 → Int32 → RR) (fu : Nat) (V : St) (x1 : Int32) (x2 : Int32) (x3 : Int32) (x4 : Int32) (x7 : Int32) : RR :=
  Lp_X12_least_127 (F_X12_least_154 kh kx165 fu) fu fu V (x1) (x2) (x3) (x4) (x7) ((0 : Int32))
def F_X12_least_94 (kh : St → Int32 → Int32 → Int32 → Int32 → Int32 → Int32 → RR) (kx165 : St → Int32 → Int32 → RR) (fu : Nat) (V : St) (x1 : Int32) (x2 : Int32) (x3 : Int32) (x4 : Int32) (x5 : Int32) (x6 : Int32) : RR :=
  if x6 = 0 then
    (kx165 V (x3) (x5))
    else
    (bd (f_X12_lengthOf fu V (x1) (x2)) fun r2 V3 => if x5 = (-1 : Int32) then
      (F_X12_least_120 kh kx165 fu V3 (x1) (x2) (x3) (x4) (r2))
      else
      (if x5 ≤ r2 then
        (F_X12_least_154 kh kx165 fu V3 (x1) (x2) (x3) (x4) (x5))
        else
        (F_X12_least_120 kh kx165 fu V3 (x1) (x2) (x3) (x4) (r2))))
def Lp_X12_least_94 (kx165 : St → Int32 → Int32 → RR) (fu : Nat) : Nat → St → Int32 → Int32 → Int32 → Int32 → Int32 → Int32 → RR
  | 0, _, _, _, _, _, _, _ => none
  | n + 1, V, x1, x2, x3, x4, x5, x6 => F_X12_least_94 (Lp_X12_least_94 kx165 fu n) kx165 fu V x1 x2 x3 x4 x5 x6
def F_X12_least_88 (fu : Nat) (V : St) (x1 : Int32) (x2 : Int32) (x3 : Int32) (x4 : Int32) : RR :=
  Lp_X12_least_94 (F_X12_least_165 fu) fu fu V (x1) (x2) (x3) (x4) ((-1 : Int32)) ((1 : Int32))
def F_X12_least_66 (kh : St → Int32 → Int32 → Int32 → Int32 → Int32 → RR) (kx88 : St → Int32 → Int32 → Int32 → Int32 → RR) (fu : Nat) (V : St) (x1 : Int32) (x2 : Int32) (x3 : Int32) (x4 : Int32) (x5 : Int32) : RR :=
  if x4 ≤ x5 then
    (kx88 V (x1) (x2) (x3) (x4))
    else
    (gd (¬ (x5 < 0 ∨ 9 ≤ (x5).toNatClampNeg)) <| bv (setV V 2230 (0) (x5).toNatClampNeg (x5)) fun V3 => kh V3 (x1) (x2) (x3) (x4) (x5 + 1))
def Lp_X12_least_66 (kx88 : St → Int32 → Int32 → Int32 → Int32 → RR) (fu : Nat) : Nat → St → Int32 → Int32 → Int32 → Int32 → Int32 → RR
  | 0, _, _, _, _, _, _ => none
  | n + 1, V, x1, x2, x3, x4, x5 => F_X12_least_66 (Lp_X12_least_66 kx88 fu n) kx88 fu V x1 x2 x3 x4 x5
def F_X12_least_53 (fu : Nat) (V : St) : RR :=
  some ((-1 : Int32), V)
def f_X12_least (fu : Nat) (V : St) (x1 : Int32) (x2 : Int32) (x3 : Int32) : RR :=
  bd (f_X12_isThing fu V (x1)) fun r1 V2 => if r1 = 0 then
    (F_X12_least_53 fu V2)
    else
    (gd (¬ (x1 < 0 ∨ 30 ≤ (x1).toNatClampNeg)) <| if (V2 2216 (0) (x1).toNatClampNeg) = 0 then
      (bd (f_X12_in fu V2 (x2) ((1 : Int32)) ((200 : Int32))) fun r7 V8 => if r7 = 0 then
        (F_X12_least_53 fu V8)
        else
        (gd (¬ (x1 < 0 ∨ 30 ≤ (x1).toNatClampNeg)) <| bd (f_X12_in fu V8 (x3) ((-1 : Int32)) ((V8 2223 (0) (x1).toNatClampNeg) - (1 : Int32))) fun r12 V13 => if r12 = 0 then
          (F_X12_least_53 fu V13)
          else
          (bd (f_X12_isWider fu V13 (x1) (x2)) fun r16 V17 => if r16 = 0 then
            (gd (¬ (x1 < 0 ∨ 30 ≤ (x1).toNatClampNeg)) <| Lp_X12_least_66 (F_X12_least_88 fu) fu fu V17 (x1) (x2) (x3) ((V17 2223 (0) (x1).toNatClampNeg)) ((0 : Int32)))
            else
            (F_X12_least_53 fu V17))))
      else
      (F_X12_least_53 fu V2))
def F_X12_load_46 (fu : Nat) (V : St) : RR :=
  some ((0 : Int32), V)
def f_X12_load (fu : Nat) (V : St) (x1 : Int32) (x2 : Int32) (x3 : Int32) : RR :=
  bd (f_X12_isDrawing fu V (x1)) fun r1 V2 => if r1 = 0 then
    (F_X12_load_46 fu V2)
    else
    (gd (¬ (x1 < 0 ∨ 22 ≤ (x1).toNatClampNeg)) <| bd (f_X12_in fu V2 (x2) ((1 : Int32)) ((V2 2208 (0) (x1).toNatClampNeg) - (1 : Int32))) fun r6 V7 => if r6 = 0 then
      (F_X12_load_46 fu V7)
      else
      (bd (f_X12_in fu V7 (x3) ((1 : Int32)) ((500 : Int32))) fun r10 V11 => if r10 = 0 then
        (F_X12_load_46 fu V11)
        else
        (gd (¬ (x1 < 0 ∨ 22 ≤ (x1).toNatClampNeg)) <| if (V11 2210 (0) (x1).toNatClampNeg) = (8 : Int32) then
          (F_X12_load_46 fu V11)
          else
          (gd (¬ (x1 < 0 ∨ 22 ≤ (x1).toNatClampNeg)) <| gd (¬ (((8 : Int32) * x1) + (V11 2210 (0) (x1).toNatClampNeg) < 0 ∨ 176 ≤ (((8 : Int32) * x1) + (V11 2210 (0) (x1).toNatClampNeg)).toNatClampNeg)) <| bv (setV V11 2214 (0) (((8 : Int32) * x1) + (V11 2210 (0) (x1).toNatClampNeg)).toNatClampNeg (x2)) fun V18 => gd (¬ (x1 < 0 ∨ 22 ≤ (x1).toNatClampNeg)) <| gd (¬ (((8 : Int32) * x1) + (V18 2210 (0) (x1).toNatClampNeg) < 0 ∨ 176 ≤ (((8 : Int32) * x1) + (V18 2210 (0) (x1).toNatClampNeg)).toNatClampNeg)) <| bv (setV V18 2215 (0) (((8 : Int32) * x1) + (V18 2210 (0) (x1).toNatClampNeg)).toNatClampNeg (x3)) fun V22 => gd (¬ (x1 < 0 ∨ 22 ≤ (x1).toNatClampNeg)) <| gd (¬ (x1 < 0 ∨ 22 ≤ (x1).toNatClampNeg)) <| bv (setV V22 2210 (0) (x1).toNatClampNeg ((V22 2210 (0) (x1).toNatClampNeg) + (1 : Int32))) fun V26 => some ((1 : Int32), V26)))))
def F_X12_look_103 (fu : Nat) (V : St) (s0 : Int32) : RR :=
  some (s0, V)
def F_X12_look_102 (fu : Nat) (V : St) : RR :=
  F_X12_look_103 fu V ((-1 : Int32))
def F_X12_look_51 (fu : Nat) (V : St) (x2 : Int32) (s0 : Int32) : RR :=
  bd (f_X12_isMaker fu V (s0)) fun r1 V2 => if r1 = 0 then
    (some ((-1 : Int32), V2))
    else
    (if x2 = 0 then
      (gd (¬ (s0 < 0 ∨ 12 ≤ (s0).toNatClampNeg)) <| some ((V2 2239 (0) (s0).toNatClampNeg), V2))
      else
      (if x2 < (1 : Int32) then
        (F_X12_look_102 fu V2)
        else
        (if (V2 2202 0 0) < x2 then
          (F_X12_look_102 fu V2)
          else
          (gd (¬ ((((20 : Int32) * s0) + x2) - (1 : Int32) < 0 ∨ 240 ≤ ((((20 : Int32) * s0) + x2) - (1 : Int32)).toNatClampNeg)) <| F_X12_look_103 fu V2 ((V2 2238 (0) ((((20 : Int32) * s0) + x2) - (1 : Int32)).toNatClampNeg))))))
def F_X12_look_36 (fu : Nat) (V : St) (s0 : Int32) : RR :=
  some (s0, V)
def f_X12_look (fu : Nat) (V : St) (x1 : Int32) (x2 : Int32) : RR :=
  bd (f_X12_isPerson fu V (x1)) fun r1 V2 => if r1 = 0 then
    (if (100 : Int32) ≤ x1 then
      (F_X12_look_51 fu V2 (x2) (x1 - (100 : Int32)))
      else
      (F_X12_look_51 fu V2 (x2) ((-1 : Int32))))
    else
    (if x2 = 0 then
      (gd (¬ (x1 < 0 ∨ 40 ≤ (x1).toNatClampNeg)) <| F_X12_look_36 fu V2 ((V2 2278 (0) (x1).toNatClampNeg)))
      else
      (if x2 = (1 : Int32) then
        (gd (¬ (x1 < 0 ∨ 40 ≤ (x1).toNatClampNeg)) <| F_X12_look_36 fu V2 ((V2 2279 (0) (x1).toNatClampNeg)))
        else
        (F_X12_look_36 fu V2 ((-1 : Int32)))))
def F_X12_loses_75 (fu : Nat) (V : St) (x1 : Int32) (x2 : Int32) (s0 : Int32) : RR :=
  bd (f_X12_paidFor fu V (x2)) fun r1 V2 => bd (f_X12_orNothing fu V2 ((100 : Int32)) (x2) ((-1 : Int32)) ((V2 2201 0 0)) ((V2 2201 0 0))) fun r4 V5 => gd (¬ (x1 < 0 ∨ 12 ≤ (x1).toNatClampNeg)) <| gd (¬ (x1 < 0 ∨ 12 ≤ (x1).toNatClampNeg)) <| bd (f_X12_up fu V5 ((V5 2237 (0) (x1).toNatClampNeg)) ((V5 2236 (0) (x1).toNatClampNeg))) fun r9 V10 => some ((s0 + r9) - (r1 - ((r1 * r4) / ((100 : Int32)))), V10)
def F_X12_loses_16 (fu : Nat) (V : St) : RR :=
  some ((-1000000000 : Int32), V)
def f_X12_loses (fu : Nat) (V : St) (x1 : Int32) (x2 : Int32) : RR :=
  bd (f_X12_isMaker fu V (x1)) fun r1 V2 => if r1 = 0 then
    (F_X12_loses_16 fu V2)
    else
    (bd (f_X12_isThing fu V2 (x2)) fun r5 V6 => if r5 = 0 then
      (F_X12_loses_16 fu V6)
      else
      (gd (¬ (x2 < 0 ∨ 30 ≤ (x2).toNatClampNeg)) <| if (V6 2216 (0) (x2).toNatClampNeg) = 0 then
        (gd (¬ (x2 < 0 ∨ 30 ≤ (x2).toNatClampNeg)) <| gd (¬ (x2 < 0 ∨ 30 ≤ (x2).toNatClampNeg)) <| gd (¬ ((V6 2217 (0) (x2).toNatClampNeg) < 0 ∨ 20 ≤ ((V6 2217 (0) (x2).toNatClampNeg)).toNatClampNeg)) <| bd (f_X12_up fu V6 ((V6 2219 (0) (x2).toNatClampNeg) * (V6 2207 (0) ((V6 2217 (0) (x2).toNatClampNeg)).toNatClampNeg)) ((36 : Int32))) fun r15 V16 => F_X12_loses_75 fu V16 (x1) (x2) (r15))
        else
        (gd (¬ (x2 < 0 ∨ 30 ≤ (x2).toNatClampNeg)) <| if (V6 2216 (0) (x2).toNatClampNeg) = (1 : Int32) then
          (gd (¬ (x2 < 0 ∨ 30 ≤ (x2).toNatClampNeg)) <| F_X12_loses_75 fu V6 (x1) (x2) ((V6 2219 (0) (x2).toNatClampNeg)))
          else
          (F_X12_loses_75 fu V6 (x1) (x2) ((0 : Int32))))))
def F_X12_maker_64 (fu : Nat) (V : St) : RR :=
  some ((-1 : Int32), V)
def f_X12_maker (fu : Nat) (V : St) (x1 : Int32) (x2 : Int32) (x3 : Int32) (x4 : Int32) (x5 : Int32) : RR :=
  bd (f_X12_in fu V (x1) ((0 : Int32)) ((7 : Int32))) fun r1 V2 => if r1 = 0 then
    (F_X12_maker_64 fu V2)
    else
    (bd (f_X12_in fu V2 (x2) ((1 : Int32)) ((10000 : Int32))) fun r5 V6 => if r5 = 0 then
      (F_X12_maker_64 fu V6)
      else
      (bd (f_X12_in fu V6 (x3) ((0 : Int32)) ((1000 : Int32))) fun r9 V10 => if r9 = 0 then
        (F_X12_maker_64 fu V10)
        else
        (bd (f_X12_in fu V10 (x4) ((1 : Int32)) ((100 : Int32))) fun r13 V14 => if r13 = 0 then
          (F_X12_maker_64 fu V14)
          else
          (bd (f_X12_in fu V14 (x5) ((0 : Int32)) ((10000 : Int32))) fun r17 V18 => if r17 = 0 then
            (F_X12_maker_64 fu V18)
            else
            (if (V18 2232 0 0) = (12 : Int32) then
              (F_X12_maker_64 fu V18)
              else
              (gd (¬ ((V18 2232 0 0) < 0 ∨ 12 ≤ ((V18 2232 0 0)).toNatClampNeg)) <| bv (setV V18 2233 (0) ((V18 2232 0 0)).toNatClampNeg (x1)) fun V23 => gd (¬ ((V23 2232 0 0) < 0 ∨ 12 ≤ ((V23 2232 0 0)).toNatClampNeg)) <| bv (setV V23 2234 (0) ((V23 2232 0 0)).toNatClampNeg (x2)) fun V26 => gd (¬ ((V26 2232 0 0) < 0 ∨ 12 ≤ ((V26 2232 0 0)).toNatClampNeg)) <| bv (setV V26 2235 (0) ((V26 2232 0 0)).toNatClampNeg (x3)) fun V29 => gd (¬ ((V29 2232 0 0) < 0 ∨ 12 ≤ ((V29 2232 0 0)).toNatClampNeg)) <| bv (setV V29 2236 (0) ((V29 2232 0 0)).toNatClampNeg (x4)) fun V32 => gd (¬ ((V32 2232 0 0) < 0 ∨ 12 ≤ ((V32 2232 0 0)).toNatClampNeg)) <| bv (setV V32 2237 (0) ((V32 2232 0 0)).toNatClampNeg (x5)) fun V35 => bv (setV V35 2232 0 0 ((V35 2232 0 0) + (1 : Int32))) fun V37 => some ((V37 2232 0 0) - (1 : Int32), V37)))))))
def F_X12_makes_245 (fu : Nat) (V : St) (x1 : Int32) (x2 : Int32) (x3 : Int32) (x4 : Int32) : RR :=
  gd (¬ (x1 < 0 ∨ 12 ≤ (x1).toNatClampNeg)) <| gd (¬ (x1 < 0 ∨ 12 ≤ (x1).toNatClampNeg)) <| bv (setV V 2239 (0) (x1).toNatClampNeg ((V 2239 (0) (x1).toNatClampNeg) + x3)) fun V3 => if x4 = 0 then
    (gd (¬ (x2 < 0 ∨ 30 ≤ (x2).toNatClampNeg)) <| gd (¬ (x2 < 0 ∨ 30 ≤ (x2).toNatClampNeg)) <| bv (setV V3 2221 (0) (x2).toNatClampNeg ((V3 2221 (0) (x2).toNatClampNeg) + x3)) fun V8 => gd (¬ (x2 < 0 ∨ 30 ≤ (x2).toNatClampNeg)) <| gd (¬ (x2 < 0 ∨ 30 ≤ (x2).toNatClampNeg)) <| some ((V8 2222 (0) (x2).toNatClampNeg) + (V8 2221 (0) (x2).toNatClampNeg), V8))
    else
    (gd (¬ (x2 < 0 ∨ 30 ≤ (x2).toNatClampNeg)) <| gd (¬ (x2 < 0 ∨ 30 ≤ (x2).toNatClampNeg)) <| bv (setV V3 2222 (0) (x2).toNatClampNeg ((V3 2222 (0) (x2).toNatClampNeg) + x3)) fun V14 => gd (¬ ((((15000 : Int32) * x1) + ((500 : Int32) * x2)) + (V14 2201 0 0) < 0 ∨ 180000 ≤ ((((15000 : Int32) * x1) + ((500 : Int32) * x2)) + (V14 2201 0 0)).toNatClampNeg)) <| gd (¬ ((((15000 : Int32) * x1) + ((500 : Int32) * x2)) + (V14 2201 0 0) < 0 ∨ 180000 ≤ ((((15000 : Int32) * x1) + ((500 : Int32) * x2)) + (V14 2201 0 0)).toNatClampNeg)) <| bv (setV V14 2275 (0) ((((15000 : Int32) * x1) + ((500 : Int32) * x2)) + (V14 2201 0 0)).toNatClampNeg ((V14 2275 (0) ((((15000 : Int32) * x1) + ((500 : Int32) * x2)) + (V14 2201 0 0)).toNatClampNeg) + x3)) fun V18 => gd (¬ (x2 < 0 ∨ 30 ≤ (x2).toNatClampNeg)) <| gd (¬ (x2 < 0 ∨ 30 ≤ (x2).toNatClampNeg)) <| some ((V18 2222 (0) (x2).toNatClampNeg) + (V18 2221 (0) (x2).toNatClampNeg), V18))
def F_X12_makes_219 (fu : Nat) (V : St) : RR :=
  some ((-5 : Int32), V)
def F_X12_makes_178 (fu : Nat) (V : St) (x1 : Int32) (x2 : Int32) (x3 : Int32) (x4 : Int32) (x5 : Int32) (x6 : Int32) : RR :=
  gd (¬ (x1 < 0 ∨ 12 ≤ (x1).toNatClampNeg)) <| gd (¬ (x1 < 0 ∨ 12 ≤ (x1).toNatClampNeg)) <| if (V 2234 (0) (x1).toNatClampNeg) < (V 2239 (0) (x1).toNatClampNeg) + x3 then
    (F_X12_makes_219 fu V)
    else
    (gd (¬ (x1 < 0 ∨ 12 ≤ (x1).toNatClampNeg)) <| gd (¬ (x1 < 0 ∨ 12 ≤ (x1).toNatClampNeg)) <| gd (¬ (x1 < 0 ∨ 12 ≤ (x1).toNatClampNeg)) <| if (V 2239 (0) (x1).toNatClampNeg) + x3 ≤ (V 2235 (0) (x1).toNatClampNeg) * (V 2236 (0) (x1).toNatClampNeg) then
      (if x5 = (-1 : Int32) then
        (F_X12_makes_245 fu V (x1) (x2) (x3) (x4))
        else
        (gd (¬ (x5 < 0 ∨ 240 ≤ (x5).toNatClampNeg)) <| gd (¬ (x5 < 0 ∨ 240 ≤ (x5).toNatClampNeg)) <| bv (setV V 2238 (0) (x5).toNatClampNeg ((V 2238 (0) (x5).toNatClampNeg) - x6)) fun V11 => F_X12_makes_245 fu V11 (x1) (x2) (x3) (x4)))
      else
      (F_X12_makes_219 fu V))
def F_X12_makes_155 (fu : Nat) (V : St) (x1 : Int32) (x2 : Int32) (x3 : Int32) (x4 : Int32) (x5 : Int32) (s0 : Int32) : RR :=
  if x5 = (-1 : Int32) then
    (F_X12_makes_178 fu V (x1) (x2) (x3) (x4) (x5) (s0))
    else
    (gd (¬ (x5 < 0 ∨ 240 ≤ (x5).toNatClampNeg)) <| if s0 ≤ (V 2238 (0) (x5).toNatClampNeg) then
      (F_X12_makes_178 fu V (x1) (x2) (x3) (x4) (x5) (s0))
      else
      (some ((-4 : Int32), V)))
def F_X12_makes_130 (fu : Nat) (V : St) (x1 : Int32) (x2 : Int32) (x3 : Int32) (x4 : Int32) (s0 : Int32) : RR :=
  if s0 = (-1 : Int32) then
    (F_X12_makes_155 fu V (x1) (x2) (x3) (x4) (s0) ((0 : Int32)))
    else
    (gd (¬ (x2 < 0 ∨ 30 ≤ (x2).toNatClampNeg)) <| bd (f_X12_up fu V (x3 * (V 2219 (0) (x2).toNatClampNeg)) ((36 : Int32))) fun r3 V4 => F_X12_makes_155 fu V4 (x1) (x2) (x3) (x4) (s0) (r3))
def F_X12_makes_106 (fu : Nat) (V : St) (x1 : Int32) (x2 : Int32) (x3 : Int32) (x4 : Int32) : RR :=
  gd (¬ (x2 < 0 ∨ 30 ≤ (x2).toNatClampNeg)) <| if (V 2216 (0) (x2).toNatClampNeg) = 0 then
    (gd (¬ (x2 < 0 ∨ 30 ≤ (x2).toNatClampNeg)) <| F_X12_makes_130 fu V (x1) (x2) (x3) (x4) (((20 : Int32) * x1) + (V 2217 (0) (x2).toNatClampNeg)))
    else
    (F_X12_makes_130 fu V (x1) (x2) (x3) (x4) ((-1 : Int32)))
def F_X12_makes_55 (fu : Nat) (V : St) : RR :=
  some ((-1 : Int32), V)
def F_X12_makes_47 (fu : Nat) (V : St) (x1 : Int32) (x2 : Int32) (x3 : Int32) (x4 : Int32) (s0 : Int32) : RR :=
  if s0 + x3 ≤ (1000000 : Int32) then
    (bd (f_X12_isSome fu V ((98 : Int32)) (x2) (x1) ((V 2201 0 0)) ((V 2201 0 0))) fun r2 V3 => if r2 = 0 then
      (if x4 = 0 then
        (F_X12_makes_106 fu V3 (x1) (x2) (x3) (x4))
        else
        (bd (f_X12_isSome fu V3 ((109 : Int32)) (x2) (x1) ((V3 2201 0 0)) ((V3 2201 0 0))) fun r7 V8 => if r7 = 0 then
          (some ((-3 : Int32), V8))
          else
          (F_X12_makes_106 fu V8 (x1) (x2) (x3) (x4))))
      else
      (some ((-2 : Int32), V3)))
    else
    (F_X12_makes_55 fu V)
def f_X12_makes (fu : Nat) (V : St) (x1 : Int32) (x2 : Int32) (x3 : Int32) (x4 : Int32) : RR :=
  bd (f_X12_isMaker fu V (x1)) fun r1 V2 => if r1 = 0 then
    (F_X12_makes_55 fu V2)
    else
    (bd (f_X12_isThing fu V2 (x2)) fun r5 V6 => if r5 = 0 then
      (F_X12_makes_55 fu V6)
      else
      (bd (f_X12_in fu V6 (x3) ((1 : Int32)) ((10000 : Int32))) fun r9 V10 => if r9 = 0 then
        (F_X12_makes_55 fu V10)
        else
        (if x4 = 0 then
          (gd (¬ (x2 < 0 ∨ 30 ≤ (x2).toNatClampNeg)) <| F_X12_makes_47 fu V10 (x1) (x2) (x3) (x4) ((V10 2221 (0) (x2).toNatClampNeg)))
          else
          (gd (¬ (x2 < 0 ∨ 30 ≤ (x2).toNatClampNeg)) <| F_X12_makes_47 fu V10 (x1) (x2) (x3) (x4) ((V10 2222 (0) (x2).toNatClampNeg))))))
def F_X12_named_18 (fu : Nat) (V : St) : RR :=
  some ((0 : Int32), V)
def f_X12_named (fu : Nat) (V : St) (x1 : Int32) (x2 : Int32) : RR :=
  bd (f_X12_isMaker fu V (x1)) fun r1 V2 => if r1 = 0 then
    (F_X12_named_18 fu V2)
    else
    (gd (¬ (x1 < 0 ∨ 12 ≤ (x1).toNatClampNeg)) <| if (V2 2240 (0) (x1).toNatClampNeg) = x2 then
      (F_X12_named_18 fu V2)
      else
      (gd (¬ (x1 < 0 ∨ 12 ≤ (x1).toNatClampNeg)) <| gd (x2 = 0 ∨ x2 = 1) <| bv (setV V2 2240 (0) (x1).toNatClampNeg (x2)) fun V9 => some ((1 : Int32), V9)))
def F_X12_needs_55 (fu : Nat) (V : St) (s0 : Int32) : RR :=
  some (s0, V)
def F_X12_needs_31 (fu : Nat) (V : St) : RR :=
  some ((-1 : Int32), V)
def f_X12_needs (fu : Nat) (V : St) (x1 : Int32) (x2 : Int32) (x3 : Int32) : RR :=
  bd (f_X12_areTold fu V (x1)) fun r1 V2 => if r1 = 0 then
    (F_X12_needs_31 fu V2)
    else
    (if x2 ≤ 0 then
      (F_X12_needs_31 fu V2)
      else
      (if x2 &&& (x1 ^^^ (-1 : Int32)) = 0 then
        (bd (f_X12_in fu V2 (x3) ((1 : Int32)) ((100000 : Int32))) fun r7 V8 => if r7 = 0 then
          (F_X12_needs_31 fu V8)
          else
          (bd (f_X12_neededBy fu V8 (x1) (x2) (x3)) fun r11 V12 => if r11 = (-1 : Int32) then
            (F_X12_needs_55 fu V12 ((-2 : Int32)))
            else
            (F_X12_needs_55 fu V12 (r11))))
        else
        (F_X12_needs_31 fu V2)))
def F_X12_number_182 (fu : Nat) (V : St) (s0 : Int32) : RR :=
  some (s0, V)
def F_X12_number_165 (fu : Nat) (V : St) (x2 : Int32) (x3 : Int32) (x4 : Int32) (x5 : Int32) (s0 : Int32) : RR :=
  bd (f_X12_isSome fu V (s0) (x2) (x3) (x4) (x5)) fun r1 V2 => if r1 = 0 then
    (F_X12_number_182 fu V2 ((0 : Int32)))
    else
    (F_X12_number_182 fu V2 ((1 : Int32)))
def F_X12_number_68 (fu : Nat) (V : St) (x1 : Int32) (x2 : Int32) (x3 : Int32) (x4 : Int32) (x5 : Int32) : RR :=
  if x1 = 0 then (bd (f_X12_orNothing fu V ((112 : Int32)) (x2) (x3) (x4) (x5)) fun r2 V3 => some (r2, V3)) else
    if x1 = 1 then (bd (f_X12_numberBy fu V ((99 : Int32)) (x2) (x3) (x4) (x5)) fun r6 V7 => some (r6, V7)) else
    if x1 = 2 then (bd (f_X12_orNothing fu V ((103 : Int32)) (x2) (x3) (x4) (x5)) fun r10 V11 => some (r10, V11)) else
    if x1 = 3 then (bd (f_X12_orNothing fu V ((100 : Int32)) (x2) (x3) (x4) (x5)) fun r14 V15 => some (r14, V15)) else
    if x1 = (4 : Int32) then
    (F_X12_number_165 fu V (x2) (x3) (x4) (x5) ((109 : Int32)))
    else
    (F_X12_number_165 fu V (x2) (x3) (x4) (x5) ((98 : Int32)))
def F_X12_number_66 (fu : Nat) (V : St) : RR :=
  some ((-1 : Int32), V)
def F_X12_number_40 (fu : Nat) (V : St) (x1 : Int32) (x2 : Int32) (x3 : Int32) (x4 : Int32) (x5 : Int32) : RR :=
  if x1 = (2 : Int32) then
    (if x2 = (-1 : Int32) then
      (if x3 = (-1 : Int32) then
        (F_X12_number_68 fu V (x1) (x2) (x3) (x4) (x5))
        else
        (F_X12_number_66 fu V))
      else
      (F_X12_number_66 fu V))
    else
    (bd (f_X12_isThing fu V (x2)) fun r2 V3 => if r2 = 0 then
      (F_X12_number_66 fu V3)
      else
      (F_X12_number_68 fu V3 (x1) (x2) (x3) (x4) (x5)))
def F_X12_number_38 (fu : Nat) (V : St) : RR :=
  some ((-1 : Int32), V)
def f_X12_number (fu : Nat) (V : St) (x1 : Int32) (x2 : Int32) (x3 : Int32) (x4 : Int32) (x5 : Int32) : RR :=
  bd (f_X12_in fu V (x1) ((0 : Int32)) ((5 : Int32))) fun r1 V2 => if r1 = 0 then
    (F_X12_number_38 fu V2)
    else
    (bd (f_X12_isWeek fu V2 (x4)) fun r5 V6 => if r5 = 0 then
      (F_X12_number_38 fu V6)
      else
      (bd (f_X12_isWeek fu V6 (x5)) fun r9 V10 => if r9 = 0 then
        (F_X12_number_38 fu V10)
        else
        (if x3 = (-1 : Int32) then
          (F_X12_number_40 fu V10 (x1) (x2) (x3) (x4) (x5))
          else
          (bd (f_X12_isMaker fu V10 (x3)) fun r14 V15 => if r14 = 0 then
            (F_X12_number_38 fu V15)
            else
            (F_X12_number_40 fu V15 (x1) (x2) (x3) (x4) (x5))))))
def f_X12_wrong (fu : Nat) (V : St) (x1 : Int32) (x2 : Int32) : RR :=
  bv (setV V 2245 0 0 (((-1000 : Int32) * x1) - x2)) fun V1 => some ((0 : Int32), V1)
def f_X12_opens (fu : Nat) (V : St) (x1 : Int32) : RR :=
  if (V 2247 0 0) = (6 : Int32) then
    (bd (f_X12_wrong fu V ((5 : Int32)) ((V 2243 0 0))) fun r11 V12 => gd (r11 = 0 ∨ r11 = 1) <| some (r11, V12))
    else
    (bv (setV V 2247 0 0 ((V 2247 0 0) + (1 : Int32))) fun V2 => gd (¬ ((V2 2249 0 0) < 0 ∨ 180 ≤ ((V2 2249 0 0)).toNatClampNeg)) <| bv (setV V2 2252 (0) ((V2 2249 0 0)).toNatClampNeg ((1048576 : Int32) * x1)) fun V5 => bv (setV V5 2249 0 0 ((V5 2249 0 0) + (1 : Int32))) fun V7 => bv (setV V7 2243 0 0 ((V7 2243 0 0) + (1 : Int32))) fun V9 => some ((1 : Int32), V9))
def F_X12_readsNumber_108 (fu : Nat) (V : St) (s0 : Int32) : RR :=
  gd (s0 = 0 ∨ s0 = 1) <| some (s0, V)
def F_X12_readsNumber_103 (fu : Nat) (V : St) : RR :=
  F_X12_readsNumber_108 fu V ((1 : Int32))
def F_X12_readsNumber_86 (fu : Nat) (V : St) (x1 : Int32) (x2 : Int32) : RR :=
  if (V 2246 0 0) ≤ x1 then
    (F_X12_readsNumber_103 fu V)
    else
    (bd (f_X12_wrong fu V ((3 : Int32)) (x2)) fun r2 V3 => if r2 = 0 then
      (F_X12_readsNumber_108 fu V3 ((0 : Int32)))
      else
      (F_X12_readsNumber_103 fu V3))
def F_X12_readsNumber_44 (fu : Nat) (V : St) : RR :=
  bd (f_X12_wrong fu V ((2 : Int32)) ((V 2243 0 0))) fun r1 V2 => gd (r1 = 0 ∨ r1 = 1) <| some (r1, V2)
def F_X12_readsNumber_27 (kh : St → Int32 → Int32 → RR) (kx44 : St → RR) (kx86 : St → Int32 → Int32 → RR) (fu : Nat) (V : St) (x1 : Int32) (x2 : Int32) : RR :=
  bd (f_X12_isDigit fu V) fun r1 V2 => if r1 = 0 then
    (kx86 V2 (x1) (x2))
    else
    (if (V2 2243 0 0) = x2 + (5 : Int32) then
      (kx44 V2)
      else
      (bd (f_X12_here fu V2) fun r6 V7 => bv (setV V7 2246 0 0 ((((10 : Int32) * (V2 2246 0 0)) + r6) - (48 : Int32))) fun V9 => bv (setV V9 2243 0 0 ((V9 2243 0 0) + (1 : Int32))) fun V11 => kh V11 (x1) (x2)))
def Lp_X12_readsNumber_27 (kx44 : St → RR) (kx86 : St → Int32 → Int32 → RR) (fu : Nat) : Nat → St → Int32 → Int32 → RR
  | 0, _, _, _ => none
  | n + 1, V, x1, x2 => F_X12_readsNumber_27 (Lp_X12_readsNumber_27 kx44 kx86 fu n) kx44 kx86 fu V x1 x2
def f_X12_readsNumber (fu : Nat) (V : St) (x1 : Int32) : RR :=
  bv (setV V 2246 0 0 ((0 : Int32))) fun V1 => bd (f_X12_isDigit fu V1) fun r3 V4 => if r3 = 0 then
    (bd (f_X12_wrong fu V4 ((1 : Int32)) ((V4 2243 0 0))) fun r7 V8 => gd (r7 = 0 ∨ r7 = 1) <| some (r7, V8))
    else
    (Lp_X12_readsNumber_27 (F_X12_readsNumber_44 fu) (F_X12_readsNumber_86 fu) fu fu V4 (x1) ((V 2243 0 0)))
def F_X12_readsFactor_20 (fu : Nat) (V : St) : RR :=
  bd (f_X12_isDigit fu V) fun r1 V2 => if r1 = 0 then
    (bd (f_X12_here fu V2) fun r5 V6 => bd (f_X12_factOf fu V6 (r5)) fun r8 V9 => if r8 = (-1 : Int32) then
      (bd (f_X12_wrong fu V9 ((1 : Int32)) ((V9 2243 0 0))) fun r17 V18 => gd (r17 = 0 ∨ r17 = 1) <| some (r17, V18))
      else
      (bd (f_X12_says fu V9 ((1 : Int32)) (r8)) fun r12 V13 => bv (setV V13 2243 0 0 ((V13 2243 0 0) + (1 : Int32))) fun V15 => some ((1 : Int32), V15)))
    else
    (bd (f_X12_readsNumber fu V2 ((99999 : Int32))) fun r11 V12 => if r11 = 0 then
      (some ((0 : Int32), V12))
      else
      (bd (f_X12_says fu V12 ((0 : Int32)) ((V12 2246 0 0))) fun r15 V16 => some ((1 : Int32), V16)))
def F_X12_readsFactor_18 (fu : Nat) (V : St) : RR :=
  some ((0 : Int32), V)
def F_X12_readsFactor_0 (kh : St → RR) (kx18 : St → RR) (kx20 : St → RR) (fu : Nat) (V : St) : RR :=
  bd (f_X12_here fu V) fun r1 V2 => if r1 = (91 : Int32) then
    (bd (f_X12_opens fu V2 ((14 : Int32))) fun r5 V6 => if r5 = 0 then
      (kx18 V6)
      else
      (kh V6))
    else
    (kx20 V2)
def Lp_X12_readsFactor_0 (kx18 : St → RR) (kx20 : St → RR) (fu : Nat) : Nat → St → RR
  | 0, _ => none
  | n + 1, V => F_X12_readsFactor_0 (Lp_X12_readsFactor_0 kx18 kx20 fu n) kx18 kx20 fu V
def f_X12_readsFactor (fu : Nat) (V : St) : RR :=
  Lp_X12_readsFactor_0 (F_X12_readsFactor_18 fu) (F_X12_readsFactor_20 fu) fu fu V
def F_X12_sumSign_52 (fu : Nat) (V : St) (s0 : Int32) : RR :=
  some (s0, V)
def f_X12_sumSign (fu : Nat) (V : St) (x0 : Int32) : RR :=
  if x0 = (43 : Int32) then
    (F_X12_sumSign_52 fu V ((2 : Int32)))
    else
    (if x0 = (45 : Int32) then
      (F_X12_sumSign_52 fu V ((3 : Int32)))
      else
      (if x0 = (42 : Int32) then
        (F_X12_sumSign_52 fu V ((4 : Int32)))
        else
        (if x0 = (47 : Int32) then
          (F_X12_sumSign_52 fu V ((5 : Int32)))
          else
          (if x0 = (37 : Int32) then
            (F_X12_sumSign_52 fu V ((6 : Int32)))
            else
            (F_X12_sumSign_52 fu V ((-1 : Int32)))))))
def F_X12_readsSum_164 (kh : St → Int32 → RR) (kx82 : St → RR) (kx139 : St → Int32 → RR) (fu : Nat) (V : St) (x1 : Int32) : RR :=
  kh V (x1)
def F_X12_readsSum_139 (fu : Nat) (V : St) (x1 : Int32) : RR :=
  bd (f_X12_hasOpenSum fu V (x1)) fun r1 V2 => if r1 = 0 then
    (bd (f_X12_closesSums fu V2 ((1 : Int32))) fun r5 V6 => some ((1 : Int32), V6))
    else
    (bd (f_X12_wrong fu V2 ((1 : Int32)) ((V2 2243 0 0))) fun r8 V9 => gd (r8 = 0 ∨ r8 = 1) <| some (r8, V9))
def F_X12_readsSum_82 (fu : Nat) (V : St) : RR :=
  some ((0 : Int32), V)
def F_X12_readsSum_38 (kh : St → Int32 → RR) (kx82 : St → RR) (kx139 : St → Int32 → RR) (fu : Nat) (V : St) (x1 : Int32) (x2 : Int32) (s0 : Int32) : RR :=
  bd (f_X12_closesSums fu V (s0)) fun r1 V2 => gd (¬ ((V2 2249 0 0) < 0 ∨ 180 ≤ ((V2 2249 0 0)).toNatClampNeg)) <| bv (setV V2 2252 (0) ((V2 2249 0 0)).toNatClampNeg ((1048576 : Int32) * x2)) fun V5 => bv (setV V5 2249 0 0 ((V5 2249 0 0) + (1 : Int32))) fun V7 => bv (setV V7 2243 0 0 ((V7 2243 0 0) + (1 : Int32))) fun V9 => bd (f_X12_readsFactor fu V9) fun r11 V12 => if r11 = 0 then
    (kx82 V12)
    else
    (F_X12_readsSum_164 kh kx82 kx139 fu V12 (x1))
def F_X12_readsSum_14 (kh : St → Int32 → RR) (kx82 : St → RR) (kx139 : St → Int32 → RR) (fu : Nat) (V : St) (x1 : Int32) : RR :=
  bd (f_X12_here fu V) fun r1 V2 => bd (f_X12_sumSign fu V2 (r1)) fun r4 V5 => if r4 = (-1 : Int32) then
    (bd (f_X12_here fu V5) fun r8 V9 => if r8 = (93 : Int32) then
      (bd (f_X12_hasOpenSum fu V9 (x1)) fun r12 V13 => if r12 = 0 then
        (kx139 V13 (x1))
        else
        (bd (f_X12_closesSums fu V13 ((1 : Int32))) fun r16 V17 => bv (setV V17 2249 0 0 ((V17 2249 0 0) - (1 : Int32))) fun V19 => bv (setV V19 2247 0 0 ((V19 2247 0 0) - (1 : Int32))) fun V21 => bv (setV V21 2243 0 0 ((V21 2243 0 0) + (1 : Int32))) fun V23 => F_X12_readsSum_164 kh kx82 kx139 fu V23 (x1)))
      else
      (kx139 V9 (x1)))
    else
    (if (4 : Int32) ≤ r4 then
      (F_X12_readsSum_38 kh kx82 kx139 fu V5 (x1) (r4) ((0 : Int32)))
      else
      (F_X12_readsSum_38 kh kx82 kx139 fu V5 (x1) (r4) ((1 : Int32))))
def Lp_X12_readsSum_14 (kx82 : St → RR) (kx139 : St → Int32 → RR) (fu : Nat) : Nat → St → Int32 → RR
  | 0, _, _ => none
  | n + 1, V, x1 => F_X12_readsSum_14 (Lp_X12_readsSum_14 kx82 kx139 fu n) kx82 kx139 fu V x1
def f_X12_readsSum (fu : Nat) (V : St) : RR :=
  bd (f_X12_readsFactor fu V) fun r1 V2 => if r1 = 0 then
    (some ((0 : Int32), V2))
    else
    (Lp_X12_readsSum_14 (F_X12_readsSum_82 fu) (F_X12_readsSum_139 fu) fu fu V2 ((V 2249 0 0)))
def F_X12_readsCompared_52 (fu : Nat) (V : St) (s0 : Int32) : RR :=
  if s0 = (-1 : Int32) then
    (bd (f_X12_wrong fu V ((1 : Int32)) ((V 2243 0 0))) fun r7 V8 => gd (r7 = 0 ∨ r7 = 1) <| some (r7, V8))
    else
    (bv (setV V 2243 0 0 ((V 2243 0 0) + (1 : Int32))) fun V2 => bd (f_X12_readsSum fu V2) fun r4 V5 => if r4 = 0 then
      (some ((0 : Int32), V5))
      else
      (bd (f_X12_says fu V5 (s0) ((0 : Int32))) fun r8 V9 => bd (f_X12_endsPiece fu V9) fun r11 V12 => some ((1 : Int32), V12)))
def f_X12_readsCompared (fu : Nat) (V : St) : RR :=
  bd (f_X12_readsSum fu V) fun r1 V2 => if r1 = 0 then
    (some ((0 : Int32), V2))
    else
    (bd (f_X12_here fu V2) fun r5 V6 => if r5 = (60 : Int32) then
      (F_X12_readsCompared_52 fu V6 ((7 : Int32)))
      else
      (bd (f_X12_here fu V6) fun r9 V10 => if r9 = (62 : Int32) then
        (F_X12_readsCompared_52 fu V10 ((8 : Int32)))
        else
        (bd (f_X12_here fu V10) fun r13 V14 => if r13 = (61 : Int32) then
          (F_X12_readsCompared_52 fu V14 ((9 : Int32)))
          else
          (F_X12_readsCompared_52 fu V14 ((-1 : Int32))))))
def F_X12_readsCondition_215 (kh : St → RR) (kx81 : St → RR) (kx90 : St → RR) (kx143 : St → RR) (kx170 : St → RR) (fu : Nat) (V : St) (s0 : Int32) : RR :=
  bd (f_X12_jumps fu V (s0)) fun r1 V2 => kh V2
def F_X12_readsCondition_195 (kh : St → RR) (kx81 : St → RR) (kx90 : St → RR) (kx143 : St → RR) (kx170 : St → RR) (fu : Nat) (V : St) (s0 : Int32) : RR :=
  bd (f_X12_lands fu V (s0)) fun r1 V2 => bd (f_X12_here fu V2) fun r4 V5 => if r4 = (38 : Int32) then
    (F_X12_readsCondition_215 kh kx81 kx90 kx143 kx170 fu V5 ((11 : Int32)))
    else
    (F_X12_readsCondition_215 kh kx81 kx90 kx143 kx170 fu V5 ((12 : Int32)))
def F_X12_readsCondition_180 (kh : St → RR) (kx81 : St → RR) (kx90 : St → RR) (kx143 : St → RR) (kx170 : St → RR) (fu : Nat) (V : St) : RR :=
  bd (f_X12_here fu V) fun r1 V2 => if r1 = (124 : Int32) then
    (F_X12_readsCondition_195 kh kx81 kx90 kx143 kx170 fu V2 ((1 : Int32)))
    else
    (F_X12_readsCondition_195 kh kx81 kx90 kx143 kx170 fu V2 ((0 : Int32)))
def F_X12_readsCondition_170 (fu : Nat) (V : St) : RR :=
  bd (f_X12_wrong fu V ((1 : Int32)) ((V 2243 0 0))) fun r1 V2 => gd (r1 = 0 ∨ r1 = 1) <| some (r1, V2)
def F_X12_readsCondition_152 (kh : St → RR) (kx81 : St → RR) (kx90 : St → RR) (kx143 : St → RR) (kx170 : St → RR) (fu : Nat) (V : St) : RR :=
  bd (f_X12_here fu V) fun r1 V2 => if r1 = (38 : Int32) then
    (F_X12_readsCondition_180 kh kx81 kx90 kx143 kx170 fu V2)
    else
    (bd (f_X12_here fu V2) fun r5 V6 => if r5 = (124 : Int32) then
      (F_X12_readsCondition_180 kh kx81 kx90 kx143 kx170 fu V6)
      else
      (kx170 V6))
def F_X12_readsCondition_143 (fu : Nat) (V : St) : RR :=
  some ((1 : Int32), V)
def F_X12_readsCondition_92 (kh : St → RR) (kx143 : St → RR) (kx152 : St → RR) (fu : Nat) (V : St) : RR :=
  bd (f_X12_here fu V) fun r1 V2 => if r1 = (41 : Int32) then
    (bd (f_X12_lands fu V2 ((1 : Int32))) fun r5 V6 => bv (setV V6 2249 0 0 ((V6 2249 0 0) - (1 : Int32))) fun V8 => bv (setV V8 2247 0 0 ((V8 2247 0 0) - (1 : Int32))) fun V10 => bv (setV V10 2243 0 0 ((V10 2243 0 0) + (1 : Int32))) fun V12 => if (V12 2249 0 0) = 0 then
      (kx143 V12)
      else
      (bd (f_X12_endsPiece fu V12) fun r15 V16 => kh V16))
    else
    (kx152 V2)
def Lp_X12_readsCondition_92 (kx143 : St → RR) (kx152 : St → RR) (fu : Nat) : Nat → St → RR
  | 0, _ => none
  | n + 1, V => F_X12_readsCondition_92 (Lp_X12_readsCondition_92 kx143 kx152 fu n) kx143 kx152 fu V
def F_X12_readsCondition_90 (fu : Nat) (V : St) : RR :=
  some ((0 : Int32), V)
def F_X12_readsCondition_81 (fu : Nat) (V : St) : RR :=
  some ((0 : Int32), V)
def F_X12_readsCondition_75 (kh : St → RR) (kx81 : St → RR) (kx90 : St → RR) (kx143 : St → RR) (kx170 : St → RR) (fu : Nat) (V : St) (s0 : Int32) : RR :=
  bd (f_X12_opens fu V (s0)) fun r1 V2 => if r1 = 0 then
    (kx81 V2)
    else
    (kh V2)
def F_X12_readsCondition_58 (kh : St → RR) (kx81 : St → RR) (kx90 : St → RR) (kx143 : St → RR) (kx170 : St → RR) (fu : Nat) (V : St) : RR :=
  bd (f_X12_here fu V) fun r1 V2 => if r1 = (33 : Int32) then
    (F_X12_readsCondition_75 kh kx81 kx90 kx143 kx170 fu V2 ((10 : Int32)))
    else
    (F_X12_readsCondition_75 kh kx81 kx90 kx143 kx170 fu V2 ((13 : Int32)))
def F_X12_readsCondition_40 (kh : St → RR) (kx81 : St → RR) (kx90 : St → RR) (kx143 : St → RR) (kx170 : St → RR) (fu : Nat) (V : St) : RR :=
  bd (f_X12_here fu V) fun r1 V2 => if r1 = (33 : Int32) then
    (F_X12_readsCondition_58 kh kx81 kx90 kx143 kx170 fu V2)
    else
    (bd (f_X12_here fu V2) fun r5 V6 => if r5 = (40 : Int32) then
      (F_X12_readsCondition_58 kh kx81 kx90 kx143 kx170 fu V6)
      else
      (bd (f_X12_readsCompared fu V6) fun r9 V10 => if r9 = 0 then
        (kx90 V10)
        else
        (Lp_X12_readsCondition_92 kx143 (F_X12_readsCondition_152 kh kx81 kx90 kx143 kx170 fu) fu fu V10)))
def Lp_X12_readsCondition_40 (kx81 : St → RR) (kx90 : St → RR) (kx143 : St → RR) (kx170 : St → RR) (fu : Nat) : Nat → St → RR
  | 0, _ => none
  | n + 1, V => F_X12_readsCondition_40 (Lp_X12_readsCondition_40 kx81 kx90 kx143 kx170 fu n) kx81 kx90 kx143 kx170 fu V
def f_X12_readsCondition (fu : Nat) (V : St) : RR :=
  bd (f_X12_here fu V) fun r1 V2 => if r1 = (40 : Int32) then
    (bv (setV V2 2247 0 0 ((0 : Int32))) fun V5 => bv (setV V5 2249 0 0 ((0 : Int32))) fun V7 => bd (f_X12_opens fu V7 ((13 : Int32))) fun r9 V10 => if r9 = 0 then
      (some ((0 : Int32), V10))
      else
      (Lp_X12_readsCondition_40 (F_X12_readsCondition_81 fu) (F_X12_readsCondition_90 fu) (F_X12_readsCondition_143 fu) (F_X12_readsCondition_170 fu) fu fu V10))
    else
    (bd (f_X12_wrong fu V2 ((1 : Int32)) ((V2 2243 0 0))) fun r12 V13 => gd (r12 = 0 ∨ r12 = 1) <| some (r12, V13))
def f_X12_takes (fu : Nat) (V : St) (x1 : Int32) : RR :=
  bd (f_X12_here fu V) fun r1 V2 => if r1 = x1 then
    (bv (setV V2 2243 0 0 ((V2 2243 0 0) + (1 : Int32))) fun V5 => some ((1 : Int32), V5))
    else
    (bd (f_X12_wrong fu V2 ((1 : Int32)) ((V2 2243 0 0))) fun r7 V8 => gd (r7 = 0 ∨ r7 = 1) <| some (r7, V8))
def F_X12_readsClause_189 (fu : Nat) (V : St) (x2 : Int32) : RR :=
  gd (¬ (x2 < 0 ∨ 12 ≤ (x2).toNatClampNeg)) <| bv (setV V 2255 (0) (x2).toNatClampNeg ((V 2248 0 0))) fun V2 => bv (setV V2 2250 0 0 ((V2 2250 0 0) + (1 : Int32))) fun V4 => some ((1 : Int32), V4)
def F_X12_readsClause_165 (fu : Nat) (V : St) : RR :=
  some ((0 : Int32), V)
def F_X12_readsClause_102 (fu : Nat) (V : St) (x1 : Int32) : RR :=
  gd (¬ ((V 2250 0 0) < 0 ∨ 12 ≤ ((V 2250 0 0)).toNatClampNeg)) <| bv (setV V 2253 (0) ((V 2250 0 0)).toNatClampNeg (x1)) fun V2 => gd (¬ ((V 2250 0 0) < 0 ∨ 12 ≤ ((V 2250 0 0)).toNatClampNeg)) <| bv (setV V2 2256 (0) ((V 2250 0 0)).toNatClampNeg ((V2 2246 0 0))) fun V5 => gd (¬ ((V 2250 0 0) < 0 ∨ 12 ≤ ((V 2250 0 0)).toNatClampNeg)) <| bv (setV V5 2257 (0) ((V 2250 0 0)).toNatClampNeg ((0 : Int32))) fun V8 => gd (¬ ((V 2250 0 0) < 0 ∨ 12 ≤ ((V 2250 0 0)).toNatClampNeg)) <| bv (setV V8 2254 (0) ((V 2250 0 0)).toNatClampNeg ((V8 2248 0 0))) fun V11 => if x1 = (120 : Int32) then
    (bd (f_X12_takes fu V11 ((46 : Int32))) fun r17 V18 => if r17 = 0 then
      (F_X12_readsClause_165 fu V18)
      else
      (bd (f_X12_readsNumber fu V18 ((11 : Int32))) fun r21 V22 => if r21 = 0 then
        (F_X12_readsClause_165 fu V22)
        else
        (gd (¬ ((V 2250 0 0) < 0 ∨ 12 ≤ ((V 2250 0 0)).toNatClampNeg)) <| bv (setV V22 2257 (0) ((V 2250 0 0)).toNatClampNeg ((V22 2246 0 0))) fun V26 => F_X12_readsClause_189 fu V26 ((V 2250 0 0)))))
    else
    (bd (f_X12_readsCondition fu V11) fun r14 V15 => if r14 = 0 then
      (some ((0 : Int32), V15))
      else
      (F_X12_readsClause_189 fu V15 ((V 2250 0 0))))
def F_X12_readsClause_94 (fu : Nat) (V : St) (x1 : Int32) (s0 : Int32) : RR :=
  bd (f_X12_readsNumber fu V (s0)) fun r1 V2 => if r1 = 0 then
    (some ((0 : Int32), V2))
    else
    (F_X12_readsClause_102 fu V2 (x1))
def f_X12_readsClause (fu : Nat) (V : St) : RR :=
  bd (f_X12_here fu V) fun r1 V2 => bd (f_X12_isLetter fu V2 (r1)) fun r4 V5 => if r4 = 0 then
    (bd (f_X12_wrong fu V5 ((1 : Int32)) ((V5 2243 0 0))) fun r8 V9 => gd (r8 = 0 ∨ r8 = 1) <| some (r8, V9))
    else
    (if (V5 2250 0 0) = (12 : Int32) then
      (bd (f_X12_wrong fu V5 ((4 : Int32)) ((V5 2243 0 0))) fun r13 V14 => gd (r13 = 0 ∨ r13 = 1) <| some (r13, V14))
      else
      (bv (setV V5 2243 0 0 ((V5 2243 0 0) + (1 : Int32))) fun V9 => bv (setV V9 2246 0 0 ((0 : Int32))) fun V11 => if r1 = (98 : Int32) then
        (F_X12_readsClause_102 fu V11 (r1))
        else
        (if r1 = (109 : Int32) then
          (F_X12_readsClause_102 fu V11 (r1))
          else
          (if r1 = (100 : Int32) then
            (F_X12_readsClause_94 fu V11 (r1) ((100 : Int32)))
            else
            (if r1 = (120 : Int32) then
              (F_X12_readsClause_94 fu V11 (r1) ((29 : Int32)))
              else
              (F_X12_readsClause_94 fu V11 (r1) ((99999 : Int32))))))))
def F_X12_order_336 (fu : Nat) (V : St) : RR :=
  bv (setV V 2258 0 0 ((V 2258 0 0) + (1 : Int32))) fun V1 => some ((V1 2258 0 0) - (1 : Int32), V1)
def F_X12_order_221 (kh : St → Int32 → RR) (kx336 : St → RR) (fu : Nat) (V : St) (x5 : Int32) : RR :=
  if (V 2250 0 0) ≤ x5 then
    (kx336 V)
    else
    (gd (¬ (x5 < 0 ∨ 12 ≤ (x5).toNatClampNeg)) <| gd (¬ (((12 : Int32) * (V 2258 0 0)) + x5 < 0 ∨ 360 ≤ (((12 : Int32) * (V 2258 0 0)) + x5).toNatClampNeg)) <| bv (setV V 2265 (0) (((12 : Int32) * (V 2258 0 0)) + x5).toNatClampNeg ((V 2253 (0) (x5).toNatClampNeg))) fun V4 => gd (¬ (x5 < 0 ∨ 12 ≤ (x5).toNatClampNeg)) <| gd (¬ (((12 : Int32) * (V 2258 0 0)) + x5 < 0 ∨ 360 ≤ (((12 : Int32) * (V 2258 0 0)) + x5).toNatClampNeg)) <| bv (setV V4 2268 (0) (((12 : Int32) * (V 2258 0 0)) + x5).toNatClampNeg ((V4 2256 (0) (x5).toNatClampNeg))) fun V8 => gd (¬ (x5 < 0 ∨ 12 ≤ (x5).toNatClampNeg)) <| gd (¬ (((12 : Int32) * (V 2258 0 0)) + x5 < 0 ∨ 360 ≤ (((12 : Int32) * (V 2258 0 0)) + x5).toNatClampNeg)) <| bv (setV V8 2269 (0) (((12 : Int32) * (V 2258 0 0)) + x5).toNatClampNeg ((V8 2257 (0) (x5).toNatClampNeg))) fun V12 => gd (¬ (x5 < 0 ∨ 12 ≤ (x5).toNatClampNeg)) <| gd (¬ (((12 : Int32) * (V 2258 0 0)) + x5 < 0 ∨ 360 ≤ (((12 : Int32) * (V 2258 0 0)) + x5).toNatClampNeg)) <| bv (setV V12 2266 (0) (((12 : Int32) * (V 2258 0 0)) + x5).toNatClampNeg (((180 : Int32) * (V12 2258 0 0)) + (V12 2254 (0) (x5).toNatClampNeg))) fun V16 => gd (¬ (x5 < 0 ∨ 12 ≤ (x5).toNatClampNeg)) <| gd (¬ (((12 : Int32) * (V 2258 0 0)) + x5 < 0 ∨ 360 ≤ (((12 : Int32) * (V 2258 0 0)) + x5).toNatClampNeg)) <| bv (setV V16 2267 (0) (((12 : Int32) * (V 2258 0 0)) + x5).toNatClampNeg (((180 : Int32) * (V16 2258 0 0)) + (V16 2255 (0) (x5).toNatClampNeg))) fun V20 => kh V20 (x5 + 1))
def Lp_X12_order_221 (kx336 : St → RR) (fu : Nat) : Nat → St → Int32 → RR
  | 0, _, _ => none
  | n + 1, V, x5 => F_X12_order_221 (Lp_X12_order_221 kx336 fu n) kx336 fu V x5
def F_X12_order_218 (fu : Nat) (V : St) : RR :=
  Lp_X12_order_221 (F_X12_order_336 fu) fu fu V ((0 : Int32))
def F_X12_order_180 (kh : St → Int32 → RR) (kx218 : St → RR) (fu : Nat) (V : St) (x5 : Int32) : RR :=
  if (V 2248 0 0) ≤ x5 then
    (kx218 V)
    else
    (gd (¬ (x5 < 0 ∨ 180 ≤ (x5).toNatClampNeg)) <| gd (¬ (((180 : Int32) * (V 2258 0 0)) + x5 < 0 ∨ 5400 ≤ (((180 : Int32) * (V 2258 0 0)) + x5).toNatClampNeg)) <| bv (setV V 2260 (0) (((180 : Int32) * (V 2258 0 0)) + x5).toNatClampNeg ((V 2251 (0) (x5).toNatClampNeg))) fun V4 => kh V4 (x5 + 1))
def Lp_X12_order_180 (kx218 : St → RR) (fu : Nat) : Nat → St → Int32 → RR
  | 0, _, _ => none
  | n + 1, V, x5 => F_X12_order_180 (Lp_X12_order_180 kx218 fu n) kx218 fu V x5
def F_X12_order_116 (fu : Nat) (V : St) (x1 : Int32) (x2 : Int32) (x4 : Int32) : RR :=
  bv (setV V 2242 0 0 ((0 : Int32))) fun V1 => if x4 = 0 then
    (some ((V1 2245 0 0), V1))
    else
    (gd (¬ ((V1 2258 0 0) < 0 ∨ 30 ≤ ((V1 2258 0 0)).toNatClampNeg)) <| bv (setV V1 2261 (0) ((V1 2258 0 0)).toNatClampNeg (x1)) fun V5 => gd (¬ ((V5 2258 0 0) < 0 ∨ 30 ≤ ((V5 2258 0 0)).toNatClampNeg)) <| bv (setV V5 2262 (0) ((V5 2258 0 0)).toNatClampNeg (x2)) fun V8 => gd (¬ ((V8 2258 0 0) < 0 ∨ 30 ≤ ((V8 2258 0 0)).toNatClampNeg)) <| bv (setV V8 2263 (0) ((V8 2258 0 0)).toNatClampNeg ((V8 2201 0 0))) fun V11 => gd (¬ ((V11 2258 0 0) < 0 ∨ 30 ≤ ((V11 2258 0 0)).toNatClampNeg)) <| bv (setV V11 2264 (0) ((V11 2258 0 0)).toNatClampNeg ((V11 2250 0 0))) fun V14 => Lp_X12_order_180 (F_X12_order_218 fu) fu fu V14 ((0 : Int32)))
def F_X12_order_111 (kh : St → Int32 → Int32 → Int32 → RR) (kx116 : St → Int32 → Int32 → Int32 → RR) (fu : Nat) (V : St) (x1 : Int32) (x2 : Int32) (s0 : Int32) : RR :=
  kh V (x1) (x2) (s0)
def F_X12_order_110 (kh : St → Int32 → Int32 → Int32 → RR) (kx116 : St → Int32 → Int32 → Int32 → RR) (fu : Nat) (V : St) (x1 : Int32) (x2 : Int32) : RR :=
  F_X12_order_111 kh kx116 fu V (x1) (x2) ((0 : Int32))
def F_X12_order_74 (kh : St → Int32 → Int32 → Int32 → RR) (kx116 : St → Int32 → Int32 → Int32 → RR) (fu : Nat) (V : St) (x1 : Int32) (x2 : Int32) (x4 : Int32) : RR :=
  if x4 = 0 then
    (kx116 V (x1) (x2) (x4))
    else
    (if (V 2244 0 0) ≤ (V 2243 0 0) then
      (kx116 V (x1) (x2) (x4))
      else
      (bd (f_X12_takes fu V ((59 : Int32))) fun r3 V4 => if r3 = 0 then
        (F_X12_order_110 kh kx116 fu V4 (x1) (x2))
        else
        (bd (f_X12_readsClause fu V4) fun r7 V8 => if r7 = 0 then
          (F_X12_order_110 kh kx116 fu V8 (x1) (x2))
          else
          (F_X12_order_111 kh kx116 fu V8 (x1) (x2) ((1 : Int32))))))
def Lp_X12_order_74 (kx116 : St → Int32 → Int32 → Int32 → RR) (fu : Nat) : Nat → St → Int32 → Int32 → Int32 → RR
  | 0, _, _, _, _ => none
  | n + 1, V, x1, x2, x4 => F_X12_order_74 (Lp_X12_order_74 kx116 fu n) kx116 fu V x1 x2 x4
def F_X12_order_46 (fu : Nat) (V : St) : RR :=
  some ((-1 : Int32), V)
def f_X12_order (fu : Nat) (V : St) (x1 : Int32) (x2 : Int32) (x3 : Int32) : RR :=
  bd (f_X12_isWeek fu V (x1)) fun r1 V2 => if r1 = 0 then
    (F_X12_order_46 fu V2)
    else
    (bd (f_X12_in fu V2 (x2) (x1) ((499 : Int32))) fun r5 V6 => if r5 = 0 then
      (F_X12_order_46 fu V6)
      else
      (bd (f_X12_in fu V6 (x3) ((1 : Int32)) ((160 : Int32))) fun r9 V10 => if r9 = 0 then
        (F_X12_order_46 fu V10)
        else
        (if (V10 2242 0 0) < x3 then
          (F_X12_order_46 fu V10)
          else
          (if (V10 2258 0 0) = (30 : Int32) then
            (F_X12_order_46 fu V10)
            else
            (bv (setV V10 2243 0 0 ((0 : Int32))) fun V15 => bv (setV V15 2244 0 0 (x3)) fun V17 => bv (setV V17 2248 0 0 ((0 : Int32))) fun V19 => bv (setV V19 2250 0 0 ((0 : Int32))) fun V21 => bd (f_X12_readsClause fu V21) fun r23 V24 => Lp_X12_order_74 (F_X12_order_116 fu) fu fu V24 (x1) (x2) (r23))))))
def F_X12_person_20 (fu : Nat) (V : St) : RR :=
  some ((-1 : Int32), V)
def f_X12_person (fu : Nat) (V : St) (x1 : Int32) : RR :=
  bd (f_X12_in fu V (x1) ((0 : Int32)) ((1000000 : Int32))) fun r1 V2 => if r1 = 0 then
    (F_X12_person_20 fu V2)
    else
    (if (V2 2277 0 0) = (40 : Int32) then
      (F_X12_person_20 fu V2)
      else
      (gd (¬ ((V2 2277 0 0) < 0 ∨ 40 ≤ ((V2 2277 0 0)).toNatClampNeg)) <| bv (setV V2 2279 (0) ((V2 2277 0 0)).toNatClampNeg (x1)) fun V7 => bv (setV V7 2277 0 0 ((V7 2277 0 0) + (1 : Int32))) fun V9 => some ((V9 2277 0 0) - (1 : Int32), V9)))
def F_X12_piece_48 (fu : Nat) (V : St) : RR :=
  some ((-1 : Int32), V)
def f_X12_piece (fu : Nat) (V : St) (x1 : Int32) (x2 : Int32) (x3 : Int32) : RR :=
  bd (f_X12_isThing fu V (x1)) fun r1 V2 => if r1 = 0 then
    (F_X12_piece_48 fu V2)
    else
    (gd (¬ (x1 < 0 ∨ 30 ≤ (x1).toNatClampNeg)) <| if (V2 2216 (0) (x1).toNatClampNeg) = 0 then
      (bd (f_X12_in fu V2 (x2) ((1 : Int32)) ((60 : Int32))) fun r7 V8 => if r7 = 0 then
        (F_X12_piece_48 fu V8)
        else
        (bd (f_X12_in fu V8 (x3) ((1 : Int32)) ((60 : Int32))) fun r11 V12 => if r11 = 0 then
          (F_X12_piece_48 fu V12)
          else
          (gd (¬ (x1 < 0 ∨ 30 ≤ (x1).toNatClampNeg)) <| if (V12 2223 (0) (x1).toNatClampNeg) = (9 : Int32) then
            (F_X12_piece_48 fu V12)
            else
            (gd (¬ (x1 < 0 ∨ 30 ≤ (x1).toNatClampNeg)) <| gd (¬ (((9 : Int32) * x1) + (V12 2223 (0) (x1).toNatClampNeg) < 0 ∨ 270 ≤ (((9 : Int32) * x1) + (V12 2223 (0) (x1).toNatClampNeg)).toNatClampNeg)) <| bv (setV V12 2224 (0) (((9 : Int32) * x1) + (V12 2223 (0) (x1).toNatClampNeg)).toNatClampNeg (x2)) fun V19 => gd (¬ (x1 < 0 ∨ 30 ≤ (x1).toNatClampNeg)) <| gd (¬ (((9 : Int32) * x1) + (V19 2223 (0) (x1).toNatClampNeg) < 0 ∨ 270 ≤ (((9 : Int32) * x1) + (V19 2223 (0) (x1).toNatClampNeg)).toNatClampNeg)) <| bv (setV V19 2225 (0) (((9 : Int32) * x1) + (V19 2223 (0) (x1).toNatClampNeg)).toNatClampNeg (x3)) fun V23 => gd (¬ (x1 < 0 ∨ 30 ≤ (x1).toNatClampNeg)) <| gd (¬ (x1 < 0 ∨ 30 ≤ (x1).toNatClampNeg)) <| bv (setV V23 2223 (0) (x1).toNatClampNeg ((V23 2223 (0) (x1).toNatClampNeg) + (1 : Int32))) fun V27 => gd (¬ (x1 < 0 ∨ 30 ≤ (x1).toNatClampNeg)) <| some ((V27 2223 (0) (x1).toNatClampNeg) - (1 : Int32), V27)))))
      else
      (F_X12_piece_48 fu V2))
def F_X12_price_19 (fu : Nat) (V : St) : RR :=
  some ((0 : Int32), V)
def f_X12_price (fu : Nat) (V : St) (x1 : Int32) (x2 : Int32) : RR :=
  bd (f_X12_isThing fu V (x1)) fun r1 V2 => if r1 = 0 then
    (F_X12_price_19 fu V2)
    else
    (bd (f_X12_in fu V2 (x2) ((1 : Int32)) ((100000 : Int32))) fun r5 V6 => if r5 = 0 then
      (F_X12_price_19 fu V6)
      else
      (gd (¬ (x1 < 0 ∨ 30 ≤ (x1).toNatClampNeg)) <| bv (setV V6 2220 (0) (x1).toNatClampNeg (x2)) fun V10 => some ((1 : Int32), V10)))
def F_X12_rubbed_28 (fu : Nat) (V : St) : RR :=
  some ((0 : Int32), V)
def f_X12_rubbed (fu : Nat) (V : St) (x1 : Int32) (x2 : Int32) (x3 : Int32) : RR :=
  bd (f_X12_isCloth fu V (x1)) fun r1 V2 => if r1 = 0 then
    (F_X12_rubbed_28 fu V2)
    else
    (bd (f_X12_in fu V2 (x2) ((1 : Int32)) ((100000 : Int32))) fun r5 V6 => if r5 = 0 then
      (F_X12_rubbed_28 fu V6)
      else
      (if (V6 2287 0 0) = (100 : Int32) then
        (F_X12_rubbed_28 fu V6)
        else
        (gd (¬ ((V6 2287 0 0) < 0 ∨ 100 ≤ ((V6 2287 0 0)).toNatClampNeg)) <| bv (setV V6 2292 (0) ((V6 2287 0 0)).toNatClampNeg (x1)) fun V11 => gd (¬ ((V11 2287 0 0) < 0 ∨ 100 ≤ ((V11 2287 0 0)).toNatClampNeg)) <| bv (setV V11 2293 (0) ((V11 2287 0 0)).toNatClampNeg (x2)) fun V14 => gd (¬ ((V14 2287 0 0) < 0 ∨ 100 ≤ ((V14 2287 0 0)).toNatClampNeg)) <| bv (setV V14 2294 (0) ((V14 2287 0 0)).toNatClampNeg ((V14 2201 0 0))) fun V17 => gd (¬ ((V17 2287 0 0) < 0 ∨ 100 ≤ ((V17 2287 0 0)).toNatClampNeg)) <| gd (x3 = 0 ∨ x3 = 1) <| bv (setV V17 2295 (0) ((V17 2287 0 0)).toNatClampNeg (x3)) fun V21 => bv (setV V21 2287 0 0 ((V21 2287 0 0) + (1 : Int32))) fun V23 => some ((1 : Int32), V23))))
def F_X12_seen_40 (fu : Nat) (V : St) : RR :=
  some ((0 : Int32), V)
def f_X12_seen (fu : Nat) (V : St) (x1 : Int32) (x2 : Int32) (x3 : Int32) : RR :=
  bd (f_X12_isThing fu V (x1)) fun r1 V2 => if r1 = 0 then
    (F_X12_seen_40 fu V2)
    else
    (bd (f_X12_in fu V2 (x2) ((0 : Int32)) ((V2 2201 0 0))) fun r5 V6 => if r5 = 0 then
      (F_X12_seen_40 fu V6)
      else
      (bd (f_X12_in fu V6 (x3) ((1 : Int32)) ((100000 : Int32))) fun r9 V10 => if r9 = 0 then
        (F_X12_seen_40 fu V10)
        else
        (if (V10 2286 0 0) = (100 : Int32) then
          (F_X12_seen_40 fu V10)
          else
          (gd (¬ ((V10 2286 0 0) < 0 ∨ 100 ≤ ((V10 2286 0 0)).toNatClampNeg)) <| bv (setV V10 2289 (0) ((V10 2286 0 0)).toNatClampNeg (x1)) fun V15 => gd (¬ ((V15 2286 0 0) < 0 ∨ 100 ≤ ((V15 2286 0 0)).toNatClampNeg)) <| bv (setV V15 2290 (0) ((V15 2286 0 0)).toNatClampNeg (x2)) fun V18 => gd (¬ ((V18 2286 0 0) < 0 ∨ 100 ≤ ((V18 2286 0 0)).toNatClampNeg)) <| bv (setV V18 2291 (0) ((V18 2286 0 0)).toNatClampNeg (x3)) fun V21 => bv (setV V21 2286 0 0 ((V21 2286 0 0) + (1 : Int32))) fun V23 => some ((1 : Int32), V23)))))
def F_X12_stick_66 (fu : Nat) (V : St) : RR :=
  some ((-1 : Int32), V)
def f_X12_stick (fu : Nat) (V : St) (x1 : Int32) (x2 : Int32) (x3 : Int32) (x4 : Int32) : RR :=
  bd (f_X12_isDrawing fu V (x1)) fun r1 V2 => if r1 = 0 then
    (F_X12_stick_66 fu V2)
    else
    (gd (¬ (x1 < 0 ∨ 22 ≤ (x1).toNatClampNeg)) <| bd (f_X12_in fu V2 (x2) ((0 : Int32)) ((V2 2208 (0) (x1).toNatClampNeg) - (1 : Int32))) fun r6 V7 => if r6 = 0 then
      (F_X12_stick_66 fu V7)
      else
      (gd (¬ (x1 < 0 ∨ 22 ≤ (x1).toNatClampNeg)) <| bd (f_X12_in fu V7 (x3) ((0 : Int32)) ((V7 2208 (0) (x1).toNatClampNeg) - (1 : Int32))) fun r11 V12 => if r11 = 0 then
        (F_X12_stick_66 fu V12)
        else
        (if x2 = x3 then
          (F_X12_stick_66 fu V12)
          else
          (bd (f_X12_in fu V12 (x4) ((0 : Int32)) ((2 : Int32))) fun r16 V17 => if r16 = 0 then
            (F_X12_stick_66 fu V17)
            else
            (gd (¬ (x1 < 0 ∨ 22 ≤ (x1).toNatClampNeg)) <| if (V17 2209 (0) (x1).toNatClampNeg) = (8 : Int32) then
              (F_X12_stick_66 fu V17)
              else
              (gd (¬ (x1 < 0 ∨ 22 ≤ (x1).toNatClampNeg)) <| gd (¬ (((8 : Int32) * x1) + (V17 2209 (0) (x1).toNatClampNeg) < 0 ∨ 176 ≤ (((8 : Int32) * x1) + (V17 2209 (0) (x1).toNatClampNeg)).toNatClampNeg)) <| bv (setV V17 2211 (0) (((8 : Int32) * x1) + (V17 2209 (0) (x1).toNatClampNeg)).toNatClampNeg (x2)) fun V24 => gd (¬ (((8 : Int32) * x1) + (V17 2209 (0) (x1).toNatClampNeg) < 0 ∨ 176 ≤ (((8 : Int32) * x1) + (V17 2209 (0) (x1).toNatClampNeg)).toNatClampNeg)) <| bv (setV V24 2212 (0) (((8 : Int32) * x1) + (V17 2209 (0) (x1).toNatClampNeg)).toNatClampNeg (x3)) fun V27 => gd (¬ (((8 : Int32) * x1) + (V17 2209 (0) (x1).toNatClampNeg) < 0 ∨ 176 ≤ (((8 : Int32) * x1) + (V17 2209 (0) (x1).toNatClampNeg)).toNatClampNeg)) <| bv (setV V27 2213 (0) (((8 : Int32) * x1) + (V17 2209 (0) (x1).toNatClampNeg)).toNatClampNeg (x4)) fun V30 => gd (¬ (x1 < 0 ∨ 22 ≤ (x1).toNatClampNeg)) <| gd (¬ (x1 < 0 ∨ 22 ≤ (x1).toNatClampNeg)) <| bv (setV V30 2209 (0) (x1).toNatClampNeg ((V30 2209 (0) (x1).toNatClampNeg) + (1 : Int32))) fun V34 => gd (¬ (x1 < 0 ∨ 22 ≤ (x1).toNatClampNeg)) <| some ((V34 2209 (0) (x1).toNatClampNeg) - (1 : Int32), V34)))))))
def F_X12_thing_80 (fu : Nat) (V : St) (x1 : Int32) (x2 : Int32) (x3 : Int32) (x4 : Int32) : RR :=
  gd (¬ ((V 2204 0 0) < 0 ∨ 30 ≤ ((V 2204 0 0)).toNatClampNeg)) <| bv (setV V 2216 (0) ((V 2204 0 0)).toNatClampNeg (x1)) fun V2 => gd (¬ ((V2 2204 0 0) < 0 ∨ 30 ≤ ((V2 2204 0 0)).toNatClampNeg)) <| bv (setV V2 2217 (0) ((V2 2204 0 0)).toNatClampNeg (x2)) fun V5 => gd (¬ ((V5 2204 0 0) < 0 ∨ 30 ≤ ((V5 2204 0 0)).toNatClampNeg)) <| bv (setV V5 2218 (0) ((V5 2204 0 0)).toNatClampNeg (x3)) fun V8 => gd (¬ ((V8 2204 0 0) < 0 ∨ 30 ≤ ((V8 2204 0 0)).toNatClampNeg)) <| bv (setV V8 2219 (0) ((V8 2204 0 0)).toNatClampNeg (x4)) fun V11 => gd (¬ ((V11 2204 0 0) < 0 ∨ 30 ≤ ((V11 2204 0 0)).toNatClampNeg)) <| bv (setV V11 2220 (0) ((V11 2204 0 0)).toNatClampNeg ((1 : Int32))) fun V14 => bv (setV V14 2204 0 0 ((V14 2204 0 0) + (1 : Int32))) fun V16 => some ((V16 2204 0 0) - (1 : Int32), V16)
def F_X12_thing_78 (fu : Nat) (V : St) : RR :=
  some ((-1 : Int32), V)
def F_X12_thing_40 (fu : Nat) (V : St) : RR :=
  some ((-1 : Int32), V)
def f_X12_thing (fu : Nat) (V : St) (x1 : Int32) (x2 : Int32) (x3 : Int32) (x4 : Int32) : RR :=
  bd (f_X12_in fu V (x1) ((0 : Int32)) ((2 : Int32))) fun r1 V2 => if r1 = 0 then
    (F_X12_thing_40 fu V2)
    else
    (bd (f_X12_in fu V2 (x3) ((0 : Int32)) ((9 : Int32))) fun r5 V6 => if r5 = 0 then
      (F_X12_thing_40 fu V6)
      else
      (bd (f_X12_in fu V6 (x4) ((1 : Int32)) ((10000 : Int32))) fun r9 V10 => if r9 = 0 then
        (F_X12_thing_40 fu V10)
        else
        (if (V10 2204 0 0) = (30 : Int32) then
          (F_X12_thing_40 fu V10)
          else
          (if x1 = 0 then
            (bd (f_X12_isCloth fu V10 (x2)) fun r15 V16 => if r15 = 0 then
              (F_X12_thing_78 fu V16)
              else
              (F_X12_thing_80 fu V16 (x1) (x2) (x3) (x4)))
            else
            (if x1 = (1 : Int32) then
              (bd (f_X12_isDrawing fu V10 (x2)) fun r16 V17 => if r16 = 0 then
                (F_X12_thing_78 fu V17)
                else
                (F_X12_thing_80 fu V17 (x1) (x2) (x3) (x4)))
              else
              (if x2 = (-1 : Int32) then
                (F_X12_thing_80 fu V10 (x1) (x2) (x3) (x4))
                else
                (F_X12_thing_78 fu V10)))))))
def F_X12_waits_42 (fu : Nat) (V : St) (s0 : Int32) : RR :=
  some (s0, V)
def F_X12_waits_41 (fu : Nat) (V : St) : RR :=
  F_X12_waits_42 fu V ((-1 : Int32))
def f_X12_waits (fu : Nat) (V : St) (x1 : Int32) (x2 : Int32) : RR :=
  if x1 < 0 then
    (F_X12_waits_41 fu V)
    else
    (if (V 2280 0 0) ≤ x1 then
      (F_X12_waits_41 fu V)
      else
      (gd (¬ (x1 < 0 ∨ 60 ≤ (x1).toNatClampNeg)) <| if (V 2285 (0) (x1).toNatClampNeg) = 0 then
        (F_X12_waits_41 fu V)
        else
        (bd (f_X12_in fu V (x2) ((1 : Int32)) ((100 : Int32))) fun r5 V6 => if r5 = 0 then
          (F_X12_waits_41 fu V6)
          else
          (bd (f_X12_aheadOf fu V6 (x1)) fun r9 V10 => gd (¬ x2 = 0) <| F_X12_waits_42 fu V10 ((r9) / (x2))))))
def F_X12_why_61 (fu : Nat) (V : St) (s0 : Int32) : RR :=
  some (s0, V)
def F_X12_why_44 (fu : Nat) (V : St) : RR :=
  some ((-1 : Int32), V)
def f_X12_why (fu : Nat) (V : St) (x1 : Int32) (x2 : Int32) (x3 : Int32) : RR :=
  bd (f_X12_isThing fu V (x1)) fun r1 V2 => if r1 = 0 then
    (F_X12_why_44 fu V2)
    else
    (bd (f_X12_isMaker fu V2 (x2)) fun r5 V6 => if r5 = 0 then
      (F_X12_why_44 fu V6)
      else
      (bd (f_X12_in fu V6 (x3) ((0 : Int32)) ((1 : Int32))) fun r9 V10 => if r9 = 0 then
        (F_X12_why_44 fu V10)
        else
        (bd (f_X12_isSome fu V10 ((98 : Int32)) (x1) (x2) ((V10 2201 0 0)) ((V10 2201 0 0))) fun r13 V14 => if r13 = 0 then
          (F_X12_why_44 fu V14)
          else
          (if x3 = 0 then
            (F_X12_why_61 fu V14 ((V14 2273 0 0)))
            else
            (F_X12_why_61 fu V14 ((V14 2274 0 0)))))))
def F_X12_yards_46 (fu : Nat) (V : St) : RR :=
  some ((-1 : Int32), V)
def f_X12_yards (fu : Nat) (V : St) (x1 : Int32) (x2 : Int32) (x3 : Int32) : RR :=
  bd (f_X12_isMaker fu V (x1)) fun r1 V2 => if r1 = 0 then
    (F_X12_yards_46 fu V2)
    else
    (bd (f_X12_isCloth fu V2 (x2)) fun r5 V6 => if r5 = 0 then
      (F_X12_yards_46 fu V6)
      else
      (bd (f_X12_in fu V6 (x3) ((1 : Int32)) ((10000 : Int32))) fun r9 V10 => if r9 = 0 then
        (F_X12_yards_46 fu V10)
        else
        (gd (¬ (((20 : Int32) * x1) + x2 < 0 ∨ 240 ≤ (((20 : Int32) * x1) + x2).toNatClampNeg)) <| if (V10 2238 (0) (((20 : Int32) * x1) + x2).toNatClampNeg) + x3 ≤ (1000000 : Int32) then
          (gd (¬ (((20 : Int32) * x1) + x2 < 0 ∨ 240 ≤ (((20 : Int32) * x1) + x2).toNatClampNeg)) <| gd (¬ (((20 : Int32) * x1) + x2 < 0 ∨ 240 ≤ (((20 : Int32) * x1) + x2).toNatClampNeg)) <| bv (setV V10 2238 (0) (((20 : Int32) * x1) + x2).toNatClampNeg ((V10 2238 (0) (((20 : Int32) * x1) + x2).toNatClampNeg) + x3)) fun V17 => gd (¬ (((20 : Int32) * x1) + x2 < 0 ∨ 240 ≤ (((20 : Int32) * x1) + x2).toNatClampNeg)) <| some ((V17 2238 (0) (((20 : Int32) * x1) + x2).toNatClampNeg), V17))
          else
          (F_X12_yards_46 fu V10))))
