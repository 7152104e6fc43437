def f_J6_bitCount_0f7a4 (x0 : Int32) (S : Stt) : Option (Int32 × Stt) :=
  some (((((((((x0 - (((x0.toUInt32 >>> ((1 : Int32).toUInt32 &&& Int32.toUInt32 31)).toInt32) &&& (1431655765 : Int32))) &&& (858993459 : Int32)) + ((((x0 - (((x0.toUInt32 >>> ((1 : Int32).toUInt32 &&& Int32.toUInt32 31)).toInt32) &&& (1431655765 : Int32))).toUInt32 >>> ((2 : Int32).toUInt32 &&& Int32.toUInt32 31)).toInt32) &&& (858993459 : Int32))) + (((((x0 - (((x0.toUInt32 >>> ((1 : Int32).toUInt32 &&& Int32.toUInt32 31)).toInt32) &&& (1431655765 : Int32))) &&& (858993459 : Int32)) + ((((x0 - (((x0.toUInt32 >>> ((1 : Int32).toUInt32 &&& Int32.toUInt32 31)).toInt32) &&& (1431655765 : Int32))).toUInt32 >>> ((2 : Int32).toUInt32 &&& Int32.toUInt32 31)).toInt32) &&& (858993459 : Int32))).toUInt32 >>> ((4 : Int32).toUInt32 &&& Int32.toUInt32 31)).toInt32)) &&& (252645135 : Int32)) + (((((((x0 - (((x0.toUInt32 >>> ((1 : Int32).toUInt32 &&& Int32.toUInt32 31)).toInt32) &&& (1431655765 : Int32))) &&& (858993459 : Int32)) + ((((x0 - (((x0.toUInt32 >>> ((1 : Int32).toUInt32 &&& Int32.toUInt32 31)).toInt32) &&& (1431655765 : Int32))).toUInt32 >>> ((2 : Int32).toUInt32 &&& Int32.toUInt32 31)).toInt32) &&& (858993459 : Int32))) + (((((x0 - (((x0.toUInt32 >>> ((1 : Int32).toUInt32 &&& Int32.toUInt32 31)).toInt32) &&& (1431655765 : Int32))) &&& (858993459 : Int32)) + ((((x0 - (((x0.toUInt32 >>> ((1 : Int32).toUInt32 &&& Int32.toUInt32 31)).toInt32) &&& (1431655765 : Int32))).toUInt32 >>> ((2 : Int32).toUInt32 &&& Int32.toUInt32 31)).toInt32) &&& (858993459 : Int32))).toUInt32 >>> ((4 : Int32).toUInt32 &&& Int32.toUInt32 31)).toInt32)) &&& (252645135 : Int32)).toUInt32 >>> ((8 : Int32).toUInt32 &&& Int32.toUInt32 31)).toInt32)) + ((((((((x0 - (((x0.toUInt32 >>> ((1 : Int32).toUInt32 &&& Int32.toUInt32 31)).toInt32) &&& (1431655765 : Int32))) &&& (858993459 : Int32)) + ((((x0 - (((x0.toUInt32 >>> ((1 : Int32).toUInt32 &&& Int32.toUInt32 31)).toInt32) &&& (1431655765 : Int32))).toUInt32 >>> ((2 : Int32).toUInt32 &&& Int32.toUInt32 31)).toInt32) &&& (858993459 : Int32))) + (((((x0 - (((x0.toUInt32 >>> ((1 : Int32).toUInt32 &&& Int32.toUInt32 31)).toInt32) &&& (1431655765 : Int32))) &&& (858993459 : Int32)) + ((((x0 - (((x0.toUInt32 >>> ((1 : Int32).toUInt32 &&& Int32.toUInt32 31)).toInt32) &&& (1431655765 : Int32))).toUInt32 >>> ((2 : Int32).toUInt32 &&& Int32.toUInt32 31)).toInt32) &&& (858993459 : Int32))).toUInt32 >>> ((4 : Int32).toUInt32 &&& Int32.toUInt32 31)).toInt32)) &&& (252645135 : Int32)) + (((((((x0 - (((x0.toUInt32 >>> ((1 : Int32).toUInt32 &&& Int32.toUInt32 31)).toInt32) &&& (1431655765 : Int32))) &&& (858993459 : Int32)) + ((((x0 - (((x0.toUInt32 >>> ((1 : Int32).toUInt32 &&& Int32.toUInt32 31)).toInt32) &&& (1431655765 : Int32))).toUInt32 >>> ((2 : Int32).toUInt32 &&& Int32.toUInt32 31)).toInt32) &&& (858993459 : Int32))) + (((((x0 - (((x0.toUInt32 >>> ((1 : Int32).toUInt32 &&& Int32.toUInt32 31)).toInt32) &&& (1431655765 : Int32))) &&& (858993459 : Int32)) + ((((x0 - (((x0.toUInt32 >>> ((1 : Int32).toUInt32 &&& Int32.toUInt32 31)).toInt32) &&& (1431655765 : Int32))).toUInt32 >>> ((2 : Int32).toUInt32 &&& Int32.toUInt32 31)).toInt32) &&& (858993459 : Int32))).toUInt32 >>> ((4 : Int32).toUInt32 &&& Int32.toUInt32 31)).toInt32)) &&& (252645135 : Int32)).toUInt32 >>> ((8 : Int32).toUInt32 &&& Int32.toUInt32 31)).toInt32)).toUInt32 >>> ((16 : Int32).toUInt32 &&& Int32.toUInt32 31)).toInt32)) &&& (63 : Int32)), S)
def f_X0_empty (b0 : Nat) (S : Stt) : Option (Stt) :=
  some (put S 17 b0 0 (0 : Int32))
def fb_X0_havingWords_4 (kb : Nat → Int32 → Int32 → Int32 → Stt → Option (Int32 × Stt)) (ke : Int32 → Stt → Option (Int32 × Stt)) (b0 : Nat) (x1 : Int32) (x2 : Int32) (x3 : Int32) (S : Stt) : Option (Int32 × Stt) :=
  if (S.1 17 b0 0) ≤ x3 then (ke x2 S) else (grd (ixb x3 6) (if (S.1 10 b0 x3.toNatClampNeg) = (3 : Int32) then (kb b0 x1 x2 (x3 + (1 : Int32)) S) else (grd (ixb x3 6) (if ((S.1 13 b0 x3.toNatClampNeg) &&& x1) = 0 then (kb b0 x1 x2 (x3 + (1 : Int32)) S) else (kb b0 x1 (x2 + (1 : Int32)) (x3 + (1 : Int32)) S)))))
def fl_X0_havingWords_4 (ke : Int32 → Stt → Option (Int32 × Stt)) : Nat → Nat → Int32 → Int32 → Int32 → Stt → Option (Int32 × Stt)
  | 0 => fun _ _ _ _ _ => none
  | n + 1 => fun b0 x1 x2 x3 S => fb_X0_havingWords_4 (fl_X0_havingWords_4 ke n) ke b0 x1 x2 x3 S
def f_X0_havingWords (b0 : Nat) (x1 : Int32) (S : Stt) : Option (Int32 × Stt) :=
  fl_X0_havingWords_4 (fun x2 S => some (x2, S)) 300 b0 x1 (0 : Int32) (0 : Int32) S
def f_X0_isOne (b0 : Nat) (x1 : Int32) (S : Stt) : Option (Int32 × Stt) :=
  if x1 < 0 then (some ((0 : Int32), S)) else (if (S.1 17 b0 0) ≤ x1 then (some ((0 : Int32), S)) else (some ((1 : Int32), S)))
def fb_X0_pageReadOn_2 (kb : Nat → Int32 → Int32 → Stt → Option (Int32 × Stt)) (ke : Stt → Option (Int32 × Stt)) (b0 : Nat) (x1 : Int32) (x2 : Int32) (S : Stt) : Option (Int32 × Stt) :=
  if (S.1 17 b0 0) ≤ x2 then (ke  S) else (grd (ixb x2 6) (if (S.1 15 b0 x2.toNatClampNeg) = x1 then (some (x2, S)) else (kb b0 x1 (x2 + (1 : Int32)) S)))
def fl_X0_pageReadOn_2 (ke : Stt → Option (Int32 × Stt)) : Nat → Nat → Int32 → Int32 → Stt → Option (Int32 × Stt)
  | 0 => fun _ _ _ _ => none
  | n + 1 => fun b0 x1 x2 S => fb_X0_pageReadOn_2 (fl_X0_pageReadOn_2 ke n) ke b0 x1 x2 S
def f_X0_pageReadOn (b0 : Nat) (x1 : Int32) (S : Stt) : Option (Int32 × Stt) :=
  fl_X0_pageReadOn_2 (fun S => some ((-9 : Int32), S)) 300 b0 x1 (0 : Int32) S
def fb_X0_turnFromEnd_2 (kb : Nat → Int32 → Stt → Option (Stt)) (ke : Stt → Option (Stt)) (b0 : Nat) (x1 : Int32) (S : Stt) : Option (Stt) :=
  if (S.1 17 b0 0) ≤ x1 then (ke  S) else (grd (ixb x1 6) (kb b0 (x1 + (1 : Int32)) (put S 15 b0 x1.toNatClampNeg (((S.1 17 b0 0) - (1 : Int32)) - x1))))
def fl_X0_turnFromEnd_2 (ke : Stt → Option (Stt)) : Nat → Nat → Int32 → Stt → Option (Stt)
  | 0 => fun _ _ _ => none
  | n + 1 => fun b0 x1 S => fb_X0_turnFromEnd_2 (fl_X0_turnFromEnd_2 ke n) ke b0 x1 S
def f_X0_turnFromEnd (b0 : Nat) (S : Stt) : Option (Stt) :=
  fl_X0_turnFromEnd_2 (fun S => some S) 300 b0 (0 : Int32) S
def fb_X0_turnFromFront_2 (kb : Nat → Int32 → Stt → Option (Stt)) (ke : Stt → Option (Stt)) (b0 : Nat) (x1 : Int32) (S : Stt) : Option (Stt) :=
  if (S.1 17 b0 0) ≤ x1 then (ke  S) else (grd (ixb x1 6) (kb b0 (x1 + (1 : Int32)) (put S 15 b0 x1.toNatClampNeg x1)))
def fl_X0_turnFromFront_2 (ke : Stt → Option (Stt)) : Nat → Nat → Int32 → Stt → Option (Stt)
  | 0 => fun _ _ _ => none
  | n + 1 => fun b0 x1 S => fb_X0_turnFromFront_2 (fl_X0_turnFromFront_2 ke n) ke b0 x1 S
def f_X0_turnFromFront (b0 : Nat) (S : Stt) : Option (Stt) :=
  fl_X0_turnFromFront_2 (fun S => some S) 300 b0 (0 : Int32) S
def f_X1_note (x1 : Int32) (S : Stt) : Option (Stt) :=
  if (S.1 31 0 0) < (25 : Int32) then (grd (ixb (S.1 31 0 0) 25) (some (put (put (put (put S 31 0 0 ((S.1 31 0 0) + (1 : Int32))) 30 0 (S.1 31 0 0).toNatClampNeg x1) 32 0 0 (((put (put S 31 0 0 ((S.1 31 0 0) + (1 : Int32))) 30 0 (S.1 31 0 0).toNatClampNeg x1).1 32 0 0) &&& x1)) 33 0 0 (((put (put (put S 31 0 0 ((S.1 31 0 0) + (1 : Int32))) 30 0 (S.1 31 0 0).toNatClampNeg x1) 32 0 0 (((put (put S 31 0 0 ((S.1 31 0 0) + (1 : Int32))) 30 0 (S.1 31 0 0).toNatClampNeg x1).1 32 0 0) &&& x1)).1 33 0 0) ||| x1)))) else (some S)
def f_X1_waiting (S : Stt) : Option (Int32 × Stt) :=
  some (((S.1 33 0 0) &&& ((S.1 32 0 0) ^^^ (-1 : Int32))), S)
def f_X3_become (b0 : Nat) (i0 : Nat) (b1 : Nat) (i1 : Nat) (S : Stt) : Option (Stt) :=
  some (put (put (put (put (put (put (put S 10 b0 i0 (S.1 10 b1 i1)) 11 b0 i0 ((put S 10 b0 i0 (S.1 10 b1 i1)).1 11 b1 i1)) 12 b0 i0 ((put (put S 10 b0 i0 (S.1 10 b1 i1)) 11 b0 i0 ((put S 10 b0 i0 (S.1 10 b1 i1)).1 11 b1 i1)).1 12 b1 i1)) 13 b0 i0 ((put (put (put S 10 b0 i0 (S.1 10 b1 i1)) 11 b0 i0 ((put S 10 b0 i0 (S.1 10 b1 i1)).1 11 b1 i1)) 12 b0 i0 ((put (put S 10 b0 i0 (S.1 10 b1 i1)) 11 b0 i0 ((put S 10 b0 i0 (S.1 10 b1 i1)).1 11 b1 i1)).1 12 b1 i1)).1 13 b1 i1)) 14 b0 i0 ((put (put (put (put S 10 b0 i0 (S.1 10 b1 i1)) 11 b0 i0 ((put S 10 b0 i0 (S.1 10 b1 i1)).1 11 b1 i1)) 12 b0 i0 ((put (put S 10 b0 i0 (S.1 10 b1 i1)) 11 b0 i0 ((put S 10 b0 i0 (S.1 10 b1 i1)).1 11 b1 i1)).1 12 b1 i1)) 13 b0 i0 ((put (put (put S 10 b0 i0 (S.1 10 b1 i1)) 11 b0 i0 ((put S 10 b0 i0 (S.1 10 b1 i1)).1 11 b1 i1)) 12 b0 i0 ((put (put S 10 b0 i0 (S.1 10 b1 i1)) 11 b0 i0 ((put S 10 b0 i0 (S.1 10 b1 i1)).1 11 b1 i1)).1 12 b1 i1)).1 13 b1 i1)).1 14 b1 i1)) 15 b0 i0 ((put (put (put (put (put S 10 b0 i0 (S.1 10 b1 i1)) 11 b0 i0 ((put S 10 b0 i0 (S.1 10 b1 i1)).1 11 b1 i1)) 12 b0 i0 ((put (put S 10 b0 i0 (S.1 10 b1 i1)) 11 b0 i0 ((put S 10 b0 i0 (S.1 10 b1 i1)).1 11 b1 i1)).1 12 b1 i1)) 13 b0 i0 ((put (put (put S 10 b0 i0 (S.1 10 b1 i1)) 11 b0 i0 ((put S 10 b0 i0 (S.1 10 b1 i1)).1 11 b1 i1)) 12 b0 i0 ((put (put S 10 b0 i0 (S.1 10 b1 i1)) 11 b0 i0 ((put S 10 b0 i0 (S.1 10 b1 i1)).1 11 b1 i1)).1 12 b1 i1)).1 13 b1 i1)) 14 b0 i0 ((put (put (put (put S 10 b0 i0 (S.1 10 b1 i1)) 11 b0 i0 ((put S 10 b0 i0 (S.1 10 b1 i1)).1 11 b1 i1)) 12 b0 i0 ((put (put S 10 b0 i0 (S.1 10 b1 i1)) 11 b0 i0 ((put S 10 b0 i0 (S.1 10 b1 i1)).1 11 b1 i1)).1 12 b1 i1)) 13 b0 i0 ((put (put (put S 10 b0 i0 (S.1 10 b1 i1)) 11 b0 i0 ((put S 10 b0 i0 (S.1 10 b1 i1)).1 11 b1 i1)) 12 b0 i0 ((put (put S 10 b0 i0 (S.1 10 b1 i1)) 11 b0 i0 ((put S 10 b0 i0 (S.1 10 b1 i1)).1 11 b1 i1)).1 12 b1 i1)).1 13 b1 i1)).1 14 b1 i1)).1 15 b1 i1)) 16 b0 i0 ((put (put (put (put (put (put S 10 b0 i0 (S.1 10 b1 i1)) 11 b0 i0 ((put S 10 b0 i0 (S.1 10 b1 i1)).1 11 b1 i1)) 12 b0 i0 ((put (put S 10 b0 i0 (S.1 10 b1 i1)) 11 b0 i0 ((put S 10 b0 i0 (S.1 10 b1 i1)).1 11 b1 i1)).1 12 b1 i1)) 13 b0 i0 ((put (put (put S 10 b0 i0 (S.1 10 b1 i1)) 11 b0 i0 ((put S 10 b0 i0 (S.1 10 b1 i1)).1 11 b1 i1)) 12 b0 i0 ((put (put S 10 b0 i0 (S.1 10 b1 i1)) 11 b0 i0 ((put S 10 b0 i0 (S.1 10 b1 i1)).1 11 b1 i1)).1 12 b1 i1)).1 13 b1 i1)) 14 b0 i0 ((put (put (put (put S 10 b0 i0 (S.1 10 b1 i1)) 11 b0 i0 ((put S 10 b0 i0 (S.1 10 b1 i1)).1 11 b1 i1)) 12 b0 i0 ((put (put S 10 b0 i0 (S.1 10 b1 i1)) 11 b0 i0 ((put S 10 b0 i0 (S.1 10 b1 i1)).1 11 b1 i1)).1 12 b1 i1)) 13 b0 i0 ((put (put (put S 10 b0 i0 (S.1 10 b1 i1)) 11 b0 i0 ((put S 10 b0 i0 (S.1 10 b1 i1)).1 11 b1 i1)) 12 b0 i0 ((put (put S 10 b0 i0 (S.1 10 b1 i1)) 11 b0 i0 ((put S 10 b0 i0 (S.1 10 b1 i1)).1 11 b1 i1)).1 12 b1 i1)).1 13 b1 i1)).1 14 b1 i1)) 15 b0 i0 ((put (put (put (put (put S 10 b0 i0 (S.1 10 b1 i1)) 11 b0 i0 ((put S 10 b0 i0 (S.1 10 b1 i1)).1 11 b1 i1)) 12 b0 i0 ((put (put S 10 b0 i0 (S.1 10 b1 i1)) 11 b0 i0 ((put S 10 b0 i0 (S.1 10 b1 i1)).1 11 b1 i1)).1 12 b1 i1)) 13 b0 i0 ((put (put (put S 10 b0 i0 (S.1 10 b1 i1)) 11 b0 i0 ((put S 10 b0 i0 (S.1 10 b1 i1)).1 11 b1 i1)) 12 b0 i0 ((put (put S 10 b0 i0 (S.1 10 b1 i1)) 11 b0 i0 ((put S 10 b0 i0 (S.1 10 b1 i1)).1 11 b1 i1)).1 12 b1 i1)).1 13 b1 i1)) 14 b0 i0 ((put (put (put (put S 10 b0 i0 (S.1 10 b1 i1)) 11 b0 i0 ((put S 10 b0 i0 (S.1 10 b1 i1)).1 11 b1 i1)) 12 b0 i0 ((put (put S 10 b0 i0 (S.1 10 b1 i1)) 11 b0 i0 ((put S 10 b0 i0 (S.1 10 b1 i1)).1 11 b1 i1)).1 12 b1 i1)) 13 b0 i0 ((put (put (put S 10 b0 i0 (S.1 10 b1 i1)) 11 b0 i0 ((put S 10 b0 i0 (S.1 10 b1 i1)).1 11 b1 i1)) 12 b0 i0 ((put (put S 10 b0 i0 (S.1 10 b1 i1)) 11 b0 i0 ((put S 10 b0 i0 (S.1 10 b1 i1)).1 11 b1 i1)).1 12 b1 i1)).1 13 b1 i1)).1 14 b1 i1)).1 15 b1 i1)).1 16 b1 i1))
def f_X3_isOf (b0 : Nat) (i0 : Nat) (x1 : Int32) (S : Stt) : Option (Int32 × Stt) :=
  if x1 = (1 : Int32) then (if (S.1 10 b0 i0) = (1 : Int32) then (some ((1 : Int32), S)) else (if (S.1 10 b0 i0) = (4 : Int32) then (some ((1 : Int32), S)) else (some ((0 : Int32), S)))) else (if x1 = (2 : Int32) then (if (S.1 10 b0 i0) = (2 : Int32) then (some ((1 : Int32), S)) else (if (S.1 10 b0 i0) = (5 : Int32) then (some ((1 : Int32), S)) else (some ((0 : Int32), S)))) else (if (S.1 10 b0 i0) = x1 then (some ((1 : Int32), S)) else (some ((0 : Int32), S))))
def fb_X5_kindByLetter_2 (kb : Int32 → Int32 → Stt → Option (Int32 × Stt)) (ke : Stt → Option (Int32 × Stt)) (x0 : Int32) (x1 : Int32) (S : Stt) : Option (Int32 × Stt) :=
  if (6 : Int32) ≤ x1 then (ke  S) else (grd (ixb x1 6) (if (litL x1.toNatClampNeg) = x0 then (some (x1, S)) else (kb x0 (x1 + (1 : Int32)) S)))
def fl_X5_kindByLetter_2 (ke : Stt → Option (Int32 × Stt)) : Nat → Int32 → Int32 → Stt → Option (Int32 × Stt)
  | 0 => fun _ _ _ => none
  | n + 1 => fun x0 x1 S => fb_X5_kindByLetter_2 (fl_X5_kindByLetter_2 ke n) ke x0 x1 S
def f_X5_kindByLetter (x0 : Int32) (S : Stt) : Option (Int32 × Stt) :=
  fl_X5_kindByLetter_2 (fun S => some ((-9 : Int32), S)) 300 x0 (0 : Int32) S
def f_X6_arePlaces (z0 : Nat) (x1 : Int32) (x2 : Int32) (x3 : Int32) (S : Stt) : Option (Int32 × Stt) :=
  if x2 < 0 then (some ((0 : Int32), S)) else (grd (ixb x1 (shl z0)) (if ((S.1 19 z0 x1.toNatClampNeg) - x3) < x2 then (some ((0 : Int32), S)) else (some ((1 : Int32), S))))
def f_X6_carry (z0 : Nat) (x1 : Int32) (x2 : Int32) (x3 : Int32) (x4 : Int32) (x5 : Int32) (S : Stt) : Option (Stt) :=
  grd (ixb x1 (shl z0)) (grd (ixb x3 (shl z0)) (grd (cpb x2 x4 x5 (pll z0) (pll z0)) (some (putA S (20 + z0) x3.toNatClampNeg (va_cpy (S.1 (20 + z0) x1.toNatClampNeg) (S.1 (20 + z0) x3.toNatClampNeg) x2.toNatClampNeg x4.toNatClampNeg x5.toNatClampNeg)))))
def fb_X6_digestOn_33 (kb : Nat → Int64 → Int32 → Int32 → Stt → Option (Int64 × Stt)) (ke : Nat → Int64 → Int32 → Stt → Option (Int64 × Stt)) (z0 : Nat) (y3 : Int64) (x5 : Int32) (x6 : Int32) (S : Stt) : Option (Int64 × Stt) :=
  grd (ixb x5 (shl z0)) (if (S.1 19 z0 x5.toNatClampNeg) ≤ x6 then (ke z0 y3 x5 S) else (grd (ixb x5 (shl z0)) (grd (ixb x6 (pll z0)) (kb z0 (((31 : Int64) * y3) + (S.1 (20 + z0) x5.toNatClampNeg x6.toNatClampNeg).toInt64) x5 (x6 + (1 : Int32)) S))))
def fl_X6_digestOn_33 (ke : Nat → Int64 → Int32 → Stt → Option (Int64 × Stt)) : Nat → Nat → Int64 → Int32 → Int32 → Stt → Option (Int64 × Stt)
  | 0 => fun _ _ _ _ _ => none
  | n + 1 => fun z0 y3 x5 x6 S => fb_X6_digestOn_33 (fl_X6_digestOn_33 ke n) ke z0 y3 x5 x6 S
def fb_X6_digestOn_5 (kb : Nat → Int64 → Int32 → Stt → Option (Int64 × Stt)) (ke : Int64 → Stt → Option (Int64 × Stt)) (z0 : Nat) (y3 : Int64) (x5 : Int32) (S : Stt) : Option (Int64 × Stt) :=
  if (Int32.ofNat (shl z0)) ≤ x5 then (ke y3 S) else (grd (ixb x5 (shl z0)) (fl_X6_digestOn_33 (fun z0 y3 x5 S => kb z0 y3 (x5 + (1 : Int32)) S) 300 z0 (((31 : Int64) * y3) + (S.1 19 z0 x5.toNatClampNeg).toInt64) x5 (0 : Int32) S))
def fl_X6_digestOn_5 (ke : Int64 → Stt → Option (Int64 × Stt)) : Nat → Nat → Int64 → Int32 → Stt → Option (Int64 × Stt)
  | 0 => fun _ _ _ _ => none
  | n + 1 => fun z0 y3 x5 S => fb_X6_digestOn_5 (fl_X6_digestOn_5 ke n) ke z0 y3 x5 S
def f_X6_digestOn (z0 : Nat) (y1 : Int64) (S : Stt) : Option (Int64 × Stt) :=
  fl_X6_digestOn_5 (fun y3 S => some (y3, S)) 300 z0 y1 (0 : Int32) S
def f_X6_drop (z0 : Nat) (x1 : Int32) (S : Stt) : Option (Stt) :=
  grd (ixb x1 (shl z0)) (some (put S 19 z0 x1.toNatClampNeg (-1 : Int32)))
def f_X6_isOne (z0 : Nat) (x1 : Int32) (S : Stt) : Option (Int32 × Stt) :=
  if x1 < 0 then (some ((0 : Int32), S)) else (if (Int32.ofNat (shl z0)) ≤ x1 then (some ((0 : Int32), S)) else (some ((1 : Int32), S)))
def f_X6_isPlace (z0 : Nat) (x1 : Int32) (x2 : Int32) (S : Stt) : Option (Int32 × Stt) :=
  if x2 < 0 then (some ((0 : Int32), S)) else (grd (ixb x1 (shl z0)) (if (S.1 19 z0 x1.toNatClampNeg) ≤ x2 then (some ((0 : Int32), S)) else (some ((1 : Int32), S))))
def f_X6_isThere (z0 : Nat) (x1 : Int32) (S : Stt) : Option (Int32 × Stt) :=
  grd (ixb x1 (shl z0)) (if (S.1 19 z0 x1.toNatClampNeg) = (-1 : Int32) then (some ((0 : Int32), S)) else (some ((1 : Int32), S)))
def fb_X6_make_10 (kb : Nat → Int32 → Int32 → Int32 → Int32 → Stt → Option (Stt)) (ke : Stt → Option (Stt)) (z0 : Nat) (x1 : Int32) (x2 : Int32) (x3 : Int32) (x4 : Int32) (S : Stt) : Option (Stt) :=
  if x2 ≤ x4 then (ke  S) else (grd (ixb x1 (shl z0)) (grd (ixb x4 (pll z0)) (kb z0 x1 x2 x3 (x4 + (1 : Int32)) (put S (20 + z0) x1.toNatClampNeg x4.toNatClampNeg x3))))
def fl_X6_make_10 (ke : Stt → Option (Stt)) : Nat → Nat → Int32 → Int32 → Int32 → Int32 → Stt → Option (Stt)
  | 0 => fun _ _ _ _ _ _ => none
  | n + 1 => fun z0 x1 x2 x3 x4 S => fb_X6_make_10 (fl_X6_make_10 ke n) ke z0 x1 x2 x3 x4 S
def f_X6_make (z0 : Nat) (x1 : Int32) (x2 : Int32) (x3 : Int32) (S : Stt) : Option (Stt) :=
  grd (ixb x1 (shl z0)) (fl_X6_make_10 (fun S => some S) 300 z0 x1 x2 x3 (0 : Int32) (put S 19 z0 x1.toNatClampNeg x2))
def f_X6_placeOf (z0 : Nat) (x1 : Int32) (x2 : Int32) (S : Stt) : Option (Int32 × Stt) :=
  grd (ixb x1 (shl z0)) (grd (ixb x2 (pll z0)) (some ((S.1 (20 + z0) x1.toNatClampNeg x2.toNatClampNeg), S)))
def f_X6_sizeOf (z0 : Nat) (x1 : Int32) (S : Stt) : Option (Int32 × Stt) :=
  grd (ixb x1 (shl z0)) (some ((S.1 19 z0 x1.toNatClampNeg), S))
def fb_X6_sumOf_5 (kb : Nat → Int32 → Int64 → Int32 → Stt → Option (Int64 × Stt)) (ke : Int64 → Stt → Option (Int64 × Stt)) (z0 : Nat) (x1 : Int32) (y2 : Int64) (x4 : Int32) (S : Stt) : Option (Int64 × Stt) :=
  grd (ixb x1 (shl z0)) (if (S.1 19 z0 x1.toNatClampNeg) ≤ x4 then (ke y2 S) else (grd (ixb x1 (shl z0)) (grd (ixb x4 (pll z0)) (kb z0 x1 (y2 + (S.1 (20 + z0) x1.toNatClampNeg x4.toNatClampNeg).toInt64) (x4 + (1 : Int32)) S))))
def fl_X6_sumOf_5 (ke : Int64 → Stt → Option (Int64 × Stt)) : Nat → Nat → Int32 → Int64 → Int32 → Stt → Option (Int64 × Stt)
  | 0 => fun _ _ _ _ _ => none
  | n + 1 => fun z0 x1 y2 x4 S => fb_X6_sumOf_5 (fl_X6_sumOf_5 ke n) ke z0 x1 y2 x4 S
def f_X6_sumOf (z0 : Nat) (x1 : Int32) (S : Stt) : Option (Int64 × Stt) :=
  fl_X6_sumOf_5 (fun y2 S => some (y2, S)) 300 z0 x1 (0 : Int64) (0 : Int32) S
def f_X6_write (z0 : Nat) (x1 : Int32) (x2 : Int32) (x3 : Int32) (S : Stt) : Option (Stt) :=
  grd (ixb x1 (shl z0)) (grd (ixb x2 (pll z0)) (some (put S (20 + z0) x1.toNatClampNeg x2.toNatClampNeg x3)))
def f_X7_asked (S : Stt) : Option (Int32 × Stt) :=
  some ((S.1 62 0 0), S)
def f_X7_finding (S : Stt) : Option (Int32 × Stt) :=
  some ((S.1 61 0 0), S)
def f_X7_findings (x1 : Int32) (S : Stt) : Option (Int32 × Stt) :=
  if x1 < (1 : Int32) then (some ((-1 : Int32), S)) else (if x1 ≤ (5 : Int32) then (grd (ixb x1 6) (some ((S.1 60 0 x1.toNatClampNeg), S))) else (some ((-1 : Int32), S)))
def f_X7_hasBit (x0 : Int32) (x1 : Int32) (S : Stt) : Option (Int32 × Stt) :=
  if ((x0 >>> (x1 &&& 31)) &&& (1 : Int32)) = 0 then (some ((0 : Int32), S)) else (some ((1 : Int32), S))
def f_X7_isCase (x0 : Int32) (S : Stt) : Option (Int32 × Stt) :=
  if x0 < 0 then (some ((0 : Int32), S)) else (if (32 : Int32) ≤ x0 then (some ((0 : Int32), S)) else (some ((1 : Int32), S)))
def f_X7_isDay (x0 : Int32) (S : Stt) : Option (Int32 × Stt) :=
  if x0 < 0 then (some ((0 : Int32), S)) else (if (20 : Int32) < x0 then (some ((0 : Int32), S)) else (some ((1 : Int32), S)))
def f_X7_isShelf (x0 : Int32) (S : Stt) : Option (Int32 × Stt) :=
  if x0 < 0 then (some ((0 : Int32), S)) else (if (3 : Int32) ≤ x0 then (some ((0 : Int32), S)) else (some ((1 : Int32), S)))
def f_X7_isVerdict (x0 : Int32) (S : Stt) : Option (Int32 × Stt) :=
  if x0 = 0 then (some ((1 : Int32), S)) else (if x0 = (1 : Int32) then (some ((1 : Int32), S)) else (some ((0 : Int32), S)))
def fb_X7_keptBooks_4 (kb : Int32 → Int32 → Stt → Option (Int32 × Stt)) (ke : Int32 → Stt → Option (Int32 × Stt)) (x1 : Int32) (x2 : Int32) (S : Stt) : Option (Int32 × Stt) :=
  if (3 : Int32) ≤ x2 then (ke x1 S) else (grd (ixb x2 3) (if (S.1 17 (2 + x2.toNatClampNeg) 0) ≤ 0 then (kb x1 (x2 + (1 : Int32)) S) else (kb (x1 + (1 : Int32)) (x2 + (1 : Int32)) S)))
def fl_X7_keptBooks_4 (ke : Int32 → Stt → Option (Int32 × Stt)) : Nat → Int32 → Int32 → Stt → Option (Int32 × Stt)
  | 0 => fun _ _ _ => none
  | n + 1 => fun x1 x2 S => fb_X7_keptBooks_4 (fl_X7_keptBooks_4 ke n) ke x1 x2 S
def f_X7_keptBooks (S : Stt) : Option (Int32 × Stt) :=
  fl_X7_keptBooks_4 (fun x1 S => some (x1, S)) 300 (0 : Int32) (0 : Int32) S
def f_X7_lower (S : Stt) : Option (Int64 × Stt) :=
  some ((S.2 1), S)
def f_X7_refuse (x1 : Int32) (S : Stt) : Option (Int32 × Stt) :=
  if x1 < (1 : Int32) then (some ((-3 : Int32), (put S 61 0 0 x1))) else (if (5 : Int32) < x1 then (some ((-3 : Int32), (put S 61 0 0 x1))) else (grd (ixb x1 6) (grd (ixb x1 6) (some ((-3 : Int32), (put (put S 61 0 0 x1) 60 0 x1.toNatClampNeg (((put S 61 0 0 x1).1 60 0 x1.toNatClampNeg) + (1 : Int32))))))))
def fb_X7_tellFraction_2 (kb : Int32 → Int32 → Int32 → Stt → Option (Stt)) (ke : Stt → Option (Stt)) (x1 : Int32) (x2 : Int32) (x3 : Int32) (S : Stt) : Option (Stt) :=
  if x3 < (1 : Int32) then (ke  S) else (grd (decide (¬ x3 = 0)) (if (x1 - x1 / x3 * x3) = 0 then (grd (decide (¬ x3 = 0)) (if (x2 - x2 / x3 * x3) = 0 then (grd (decide (¬ x3 = 0)) (grd (decide (¬ x3 = 0)) (some (putL (putL S 0 ((x1 / x3).toInt64)) 1 ((x2 / x3).toInt64))))) else (kb x1 x2 (x3 + (-1 : Int32)) S))) else (kb x1 x2 (x3 + (-1 : Int32)) S)))
def fl_X7_tellFraction_2 (ke : Stt → Option (Stt)) : Nat → Int32 → Int32 → Int32 → Stt → Option (Stt)
  | 0 => fun _ _ _ _ => none
  | n + 1 => fun x1 x2 x3 S => fb_X7_tellFraction_2 (fl_X7_tellFraction_2 ke n) ke x1 x2 x3 S
def f_X7_tellFraction (x1 : Int32) (x2 : Int32) (S : Stt) : Option (Stt) :=
  fl_X7_tellFraction_2 (fun S => some S) 300 x1 x2 x2 S
def f_X7_upper (S : Stt) : Option (Int64 × Stt) :=
  some ((S.2 0), S)
def f_X8_ask (x1 : Int32) (x2 : Int32) (S : Stt) : Option (Int32 × Stt) :=
  some (x2, (put S 0 2 0 x1))
def f_X8_asked (S : Stt) : Option (Int32 × Stt) :=
  some ((S.1 0 2 0), S)
def fb_X8_comeBack_2 (kb : Int32 → Stt → Option (Stt)) (ke : Stt → Option (Stt)) (x1 : Int32) (S : Stt) : Option (Stt) :=
  if (S.1 0 10 0) ≤ x1 then (ke  S) else (grd (ixb x1 6) (grd (ixb x1 6) (kb (x1 + (1 : Int32)) (put S 12 0 x1.toNatClampNeg (S.1 17 0 x1.toNatClampNeg)))))
def fl_X8_comeBack_2 (ke : Stt → Option (Stt)) : Nat → Int32 → Stt → Option (Stt)
  | 0 => fun _ _ => none
  | n + 1 => fun x1 S => fb_X8_comeBack_2 (fl_X8_comeBack_2 ke n) ke x1 S
def f_X8_comeBack (S : Stt) : Option (Stt) :=
  fl_X8_comeBack_2 (fun S => some S) 300 (0 : Int32) S
def f_X8_doesPoint (x0 : Int32) (S : Stt) : Option (Int32 × Stt) :=
  if x0 = (2 : Int32) then (some ((1 : Int32), S)) else (if x0 = (5 : Int32) then (some ((1 : Int32), S)) else (some ((0 : Int32), S)))
def f_X8_finding (S : Stt) : Option (Int32 × Stt) :=
  some ((S.1 0 0 0), S)
def f_X8_has (x0 : Int32) (x1 : Int32) (S : Stt) : Option (Int32 × Stt) :=
  if ((x0 >>> (x1 &&& 31)) &&& (1 : Int32)) = (1 : Int32) then (some ((1 : Int32), S)) else (some ((0 : Int32), S))
def f_X8_here (x1 : Int32) (S : Stt) : Option (Int32 × Stt) :=
  grd (ixb x1 4) (if (S.1 5 0 x1.toNatClampNeg) ≤ (S.1 0 17 0) then (some ((-9 : Int32), S)) else (grd (ixb (((80 : Int32) * x1) + (S.1 0 17 0)) 320) (some ((S.1 6 0 (((80 : Int32) * x1) + (S.1 0 17 0)).toNatClampNeg), S))))
def f_X8_in (x0 : Int32) (x1 : Int32) (x2 : Int32) (S : Stt) : Option (Int32 × Stt) :=
  if x0 < x1 then (some ((0 : Int32), S)) else (if x2 < x0 then (some ((0 : Int32), S)) else (some ((1 : Int32), S)))
def fj_X8_isA_25 (x1 : Int32) (x2 : Int32) (S : Stt) : Option (Int32 × Stt) :=
  if x2 = (2 : Int32) then (grd (ixb x1 6) (if (S.1 7 0 x1.toNatClampNeg) = (5 : Int32) then (some ((1 : Int32), S)) else (some ((0 : Int32), S)))) else (some ((0 : Int32), S))
def f_X8_isA (x1 : Int32) (x2 : Int32) (S : Stt) : Option (Int32 × Stt) :=
  grd (ixb x1 6) (if (S.1 7 0 x1.toNatClampNeg) = x2 then (some ((1 : Int32), S)) else (if x2 = (1 : Int32) then (grd (ixb x1 6) (if (S.1 7 0 x1.toNatClampNeg) = (4 : Int32) then (some ((1 : Int32), S)) else (fj_X8_isA_25 x1 x2 S))) else (fj_X8_isA_25 x1 x2 S)))
def f_X8_kindOf (x0 : Int32) (S : Stt) : Option (Int32 × Stt) :=
  if x0 = (112 : Int32) then (some ((0 : Int32), S)) else (if x0 = (101 : Int32) then (some ((1 : Int32), S)) else (if x0 = (111 : Int32) then (some ((2 : Int32), S)) else (if x0 = (100 : Int32) then (some ((3 : Int32), S)) else (if x0 = (115 : Int32) then (some ((4 : Int32), S)) else (if x0 = (105 : Int32) then (some ((5 : Int32), S)) else (some ((-9 : Int32), S)))))))
def f_X8_lower (S : Stt) : Option (Int64 × Stt) :=
  some ((S.2 4), S)
def f_X8_meet (x1 : Int32) (S : Stt) : Option (Int32 × Stt) :=
  grd (ixb x1 6) (grd (ixb x1 6) (some ((-3 : Int32), (put (put S 0 0 0 x1) 1 0 x1.toNatClampNeg (((put S 0 0 0 x1).1 1 0 x1.toNatClampNeg) + (1 : Int32))))))
def f_X8_mix (x1 : Int32) (S : Stt) : Option (Stt) :=
  some (putL S 30 (((31 : Int64) * (S.2 30)) + x1.toInt64))
def f_X8_pageOf (x1 : Int32) (x2 : Int32) (S : Stt) : Option (Int32 × Stt) :=
  if x2 = 0 then (grd (ixb x1 6) (some ((S.1 7 0 x1.toNatClampNeg), S))) else (if x2 = (1 : Int32) then (grd (ixb x1 6) (some ((S.1 8 0 x1.toNatClampNeg), S))) else (if x2 = (2 : Int32) then (grd (ixb x1 6) (some ((S.1 9 0 x1.toNatClampNeg), S))) else (if x2 = (3 : Int32) then (grd (ixb x1 6) (some ((S.1 10 0 x1.toNatClampNeg), S))) else (if x2 = (4 : Int32) then (grd (ixb x1 6) (some ((S.1 11 0 x1.toNatClampNeg), S))) else (grd (ixb x1 6) (some ((S.1 12 0 x1.toNatClampNeg), S)))))))
def fb_X8_putAside_2 (kb : Int32 → Stt → Option (Stt)) (ke : Stt → Option (Stt)) (x1 : Int32) (S : Stt) : Option (Stt) :=
  if (S.1 0 10 0) ≤ x1 then (ke  S) else (grd (ixb x1 6) (grd (ixb x1 6) (kb (x1 + (1 : Int32)) (put S 17 0 x1.toNatClampNeg (S.1 12 0 x1.toNatClampNeg)))))
def fl_X8_putAside_2 (ke : Stt → Option (Stt)) : Nat → Int32 → Stt → Option (Stt)
  | 0 => fun _ _ => none
  | n + 1 => fun x1 S => fb_X8_putAside_2 (fl_X8_putAside_2 ke n) ke x1 S
def f_X8_putAside (S : Stt) : Option (Stt) :=
  fl_X8_putAside_2 (fun S => some S) 300 (0 : Int32) S
def fb_X8_rip_22 (kb : Int32 → Stt → Option (Int32 × Stt)) (ke : Stt → Option (Int32 × Stt)) (x1 : Int32) (S : Stt) : Option (Int32 × Stt) :=
  if (S.1 0 10 0) ≤ x1 then (ke  S) else (grd (ixb x1 6) (grd (ixb x1 6) (grd (ixb (S.1 0 10 0) 6) (if (S.1 12 0 x1.toNatClampNeg) ≤ (S.1 12 0 (S.1 0 10 0).toNatClampNeg) then (grd (ixb x1 6) (kb (x1 + (1 : Int32)) (put S 12 0 x1.toNatClampNeg ((S.1 12 0 x1.toNatClampNeg) - (0 : Int32))))) else (grd (ixb x1 6) (kb (x1 + (1 : Int32)) (put S 12 0 x1.toNatClampNeg ((S.1 12 0 x1.toNatClampNeg) - (1 : Int32)))))))))
def fl_X8_rip_22 (ke : Stt → Option (Int32 × Stt)) : Nat → Int32 → Stt → Option (Int32 × Stt)
  | 0 => fun _ _ => none
  | n + 1 => fun x1 S => fb_X8_rip_22 (fl_X8_rip_22 ke n) ke x1 S
def f_X8_rip (S : Stt) : Option (Int32 × Stt) :=
  if (S.1 0 10 0) = 0 then (some ((-4 : Int32), S)) else (fl_X8_rip_22 (fun S => some ((S.1 0 10 0), S)) 300 (0 : Int32) (put S 0 10 0 ((S.1 0 10 0) - (1 : Int32))))
def f_X8_rowAt (x1 : Int32) (x2 : Int32) (S : Stt) : Option (Int32 × Stt) :=
  grd (ixb (((40 : Int32) * x1) + x2) 240) (some ((S.1 3 0 (((40 : Int32) * x1) + x2).toNatClampNeg), S))
def f_X8_setRow (x1 : Int32) (x2 : Int32) (x3 : Int32) (S : Stt) : Option (Stt) :=
  grd (ixb (((40 : Int32) * x1) + x2) 240) (some (put S 3 0 (((40 : Int32) * x1) + x2).toNatClampNeg x3))
def fb_X8_sizeOf_4 (kb : Int32 → Int32 → Int32 → Stt → Option (Int32 × Stt)) (ke : Int32 → Stt → Option (Int32 × Stt)) (x0 : Int32) (x1 : Int32) (x2 : Int32) (S : Stt) : Option (Int32 × Stt) :=
  if (8 : Int32) ≤ x2 then (ke x1 S) else (kb x0 (x1 + ((x0 >>> (x2 &&& 31)) &&& (1 : Int32))) (x2 + (1 : Int32)) S)
def fl_X8_sizeOf_4 (ke : Int32 → Stt → Option (Int32 × Stt)) : Nat → Int32 → Int32 → Int32 → Stt → Option (Int32 × Stt)
  | 0 => fun _ _ _ _ => none
  | n + 1 => fun x0 x1 x2 S => fb_X8_sizeOf_4 (fl_X8_sizeOf_4 ke n) ke x0 x1 x2 S
def f_X8_sizeOf (x0 : Int32) (S : Stt) : Option (Int32 × Stt) :=
  fl_X8_sizeOf_4 (fun x1 S => some (x1, S)) 300 x0 (0 : Int32) (0 : Int32) S
def f_X8_upper (S : Stt) : Option (Int64 × Stt) :=
  some ((S.2 3), S)
def fb_X0_become_10 (kb : Nat → Nat → Int32 → Stt → Option (Stt)) (ke : Stt → Option (Stt)) (b0 : Nat) (b1 : Nat) (x2 : Int32) (S : Stt) : Option (Stt) :=
  if (S.1 17 b0 0) ≤ x2 then (ke  S) else (grd (ixb x2 6) (grd (ixb x2 6) ((f_X3_become b0 x2.toNatClampNeg b1 x2.toNatClampNeg S).bind fun q4 => grd (ixb x2 6) (grd (ixb x2 6) (kb b0 b1 (x2 + (1 : Int32)) (put q4 18 b0 x2.toNatClampNeg (q4.1 18 b1 x2.toNatClampNeg)))))))
def fl_X0_become_10 (ke : Stt → Option (Stt)) : Nat → Nat → Nat → Int32 → Stt → Option (Stt)
  | 0 => fun _ _ _ _ => none
  | n + 1 => fun b0 b1 x2 S => fb_X0_become_10 (fl_X0_become_10 ke n) ke b0 b1 x2 S
def f_X0_become (b0 : Nat) (b1 : Nat) (S : Stt) : Option (Stt) :=
  fl_X0_become_10 (fun S => some S) 300 b0 b1 (0 : Int32) (put S 17 b0 0 (S.1 17 b1 0))
def fb_X0_countOf_4 (kb : Nat → Int32 → Int32 → Int32 → Stt → Option (Int32 × Stt)) (ke : Int32 → Stt → Option (Int32 × Stt)) (b0 : Nat) (x1 : Int32) (x2 : Int32) (x3 : Int32) (S : Stt) : Option (Int32 × Stt) :=
  if (S.1 17 b0 0) ≤ x3 then (ke x2 S) else (grd (ixb x3 6) ((f_X3_isOf b0 x3.toNatClampNeg x1 S).bind fun q3 => if q3.1 = 0 then (kb b0 x1 x2 (x3 + (1 : Int32)) q3.2) else (kb b0 x1 (x2 + (1 : Int32)) (x3 + (1 : Int32)) q3.2)))
def fl_X0_countOf_4 (ke : Int32 → Stt → Option (Int32 × Stt)) : Nat → Nat → Int32 → Int32 → Int32 → Stt → Option (Int32 × Stt)
  | 0 => fun _ _ _ _ _ => none
  | n + 1 => fun b0 x1 x2 x3 S => fb_X0_countOf_4 (fl_X0_countOf_4 ke n) ke b0 x1 x2 x3 S
def f_X0_countOf (b0 : Nat) (x1 : Int32) (S : Stt) : Option (Int32 × Stt) :=
  fl_X0_countOf_4 (fun x2 S => some (x2, S)) 300 b0 x1 (0 : Int32) (0 : Int32) S
def fb_X0_factsFor_9 (kb : Nat → Int32 → Int32 → Int32 → Int32 → Int32 → Stt → Option (Int32 × Stt)) (ke : Int32 → Stt → Option (Int32 × Stt)) (b0 : Nat) (x1 : Int32) (x2 : Int32) (x3 : Int32) (x4 : Int32) (x5 : Int32) (S : Stt) : Option (Int32 × Stt) :=
  if (S.1 17 b0 0) ≤ x5 then (ke x3 S) else (grd (ixb x5 6) ((f_X7_hasBit x2 x5 S).bind fun q3 => if q3.1 = 0 then (kb b0 x1 x2 x3 x4 (x5 + (1 : Int32)) q3.2) else (if (q3.2.1 10 b0 x5.toNatClampNeg) = (3 : Int32) then ((f_X7_hasBit (q3.2.1 13 b0 x5.toNatClampNeg) x1 q3.2).bind fun q7 => if q7.1 = 0 then (kb b0 x1 x2 x3 x4 (x5 + (1 : Int32)) q7.2) else (if x4 ≤ (q7.2.1 15 b0 x5.toNatClampNeg) then (kb b0 x1 x2 ((1 : Int32) <<< ((q7.2.1 14 b0 x5.toNatClampNeg) &&& 31)) (q7.2.1 15 b0 x5.toNatClampNeg) (x5 + (1 : Int32)) q7.2) else (kb b0 x1 x2 x3 x4 (x5 + (1 : Int32)) q7.2))) else (kb b0 x1 x2 x3 x4 (x5 + (1 : Int32)) q3.2))))
def fl_X0_factsFor_9 (ke : Int32 → Stt → Option (Int32 × Stt)) : Nat → Nat → Int32 → Int32 → Int32 → Int32 → Int32 → Stt → Option (Int32 × Stt)
  | 0 => fun _ _ _ _ _ _ _ => none
  | n + 1 => fun b0 x1 x2 x3 x4 x5 S => fb_X0_factsFor_9 (fl_X0_factsFor_9 ke n) ke b0 x1 x2 x3 x4 x5 S
def f_X0_factsFor (b0 : Nat) (x1 : Int32) (x2 : Int32) (S : Stt) : Option (Int32 × Stt) :=
  fl_X0_factsFor_9 (fun x3 S => some (x3, S)) 300 b0 x1 x2 (31 : Int32) (-1 : Int32) (0 : Int32) S
def fj_X0_holds_50_5 (kb : Nat → Int32 → Int32 → Int32 → Stt → Option (Int32 × Stt)) (ke : Stt → Option (Int32 × Stt)) (b0 : Nat) (x2 : Int32) (x4 : Int32) (b5 : Nat) (i5 : Nat) (S : Stt) : Option (Int32 × Stt) :=
  (f_X3_isOf b5 i5 (2 : Int32) S).bind fun q7 => if q7.1 = 0 then (if (q7.2.1 10 b5 i5) = (4 : Int32) then (if ((q7.2.1 15 b5 i5) + (2 : Int32)) < x2 then (some ((0 : Int32), q7.2)) else (some ((1 : Int32), q7.2))) else (some ((1 : Int32), q7.2))) else (kb b0 x2 (q7.2.1 11 b5 i5) (x4 + (1 : Int32)) q7.2)
def fb_X0_holds_5 (kb : Nat → Int32 → Int32 → Int32 → Stt → Option (Int32 × Stt)) (ke : Stt → Option (Int32 × Stt)) (b0 : Nat) (x2 : Int32) (x3 : Int32) (x4 : Int32) (S : Stt) : Option (Int32 × Stt) :=
  if (S.1 17 b0 0) ≤ x4 then (ke  S) else ((f_X0_isOne b0 x3 S).bind fun q2 => if q2.1 = 0 then (ke  q2.2) else (grd (ixb x3 6) (if (q2.2.1 10 b0 x3.toNatClampNeg) = (5 : Int32) then (fj_X0_holds_50_5 kb ke b0 x2 x4 b0 x3.toNatClampNeg q2.2) else (if (q2.2.1 15 b0 x3.toNatClampNeg) ≤ x2 then (fj_X0_holds_50_5 kb ke b0 x2 x4 b0 x3.toNatClampNeg q2.2) else (some ((0 : Int32), q2.2))))))
def fl_X0_holds_5 (ke : Stt → Option (Int32 × Stt)) : Nat → Nat → Int32 → Int32 → Int32 → Stt → Option (Int32 × Stt)
  | 0 => fun _ _ _ _ _ => none
  | n + 1 => fun b0 x2 x3 x4 S => fb_X0_holds_5 (fl_X0_holds_5 ke n) ke b0 x2 x3 x4 S
def f_X0_holds (b0 : Nat) (x1 : Int32) (x2 : Int32) (S : Stt) : Option (Int32 × Stt) :=
  fl_X0_holds_5 (fun S => some ((0 : Int32), S)) 300 b0 x2 x1 (0 : Int32) S
def fb_X0_isInRing_4 (kb : Nat → Int32 → Int32 → Int32 → Stt → Option (Int32 × Stt)) (ke : Stt → Option (Int32 × Stt)) (b0 : Nat) (x1 : Int32) (x2 : Int32) (x3 : Int32) (S : Stt) : Option (Int32 × Stt) :=
  if (S.1 17 b0 0) ≤ x3 then (ke  S) else ((f_X0_isOne b0 x2 S).bind fun q2 => if q2.1 = 0 then (ke  q2.2) else (grd (ixb x2 6) ((f_X3_isOf b0 x2.toNatClampNeg (2 : Int32) q2.2).bind fun q6 => if q6.1 = 0 then (some ((0 : Int32), q6.2)) else (grd (ixb x2 6) (if (q6.2.1 11 b0 x2.toNatClampNeg) = x1 then (some ((1 : Int32), q6.2)) else (kb b0 x1 (q6.2.1 11 b0 x2.toNatClampNeg) (x3 + (1 : Int32)) q6.2))))))
def fl_X0_isInRing_4 (ke : Stt → Option (Int32 × Stt)) : Nat → Nat → Int32 → Int32 → Int32 → Stt → Option (Int32 × Stt)
  | 0 => fun _ _ _ _ _ => none
  | n + 1 => fun b0 x1 x2 x3 S => fb_X0_isInRing_4 (fl_X0_isInRing_4 ke n) ke b0 x1 x2 x3 S
def f_X0_isInRing (b0 : Nat) (x1 : Int32) (S : Stt) : Option (Int32 × Stt) :=
  fl_X0_isInRing_4 (fun S => some ((0 : Int32), S)) 300 b0 x1 x1 (0 : Int32) S
def f_X0_tell (b0 : Nat) (x1 : Int32) (x2 : Int32) (S : Stt) : Option (Int32 × Stt) :=
  (f_X0_isOne b0 x1 S).bind fun q1 => if q1.1 = 0 then (some ((-9 : Int32), q1.2)) else (grd (ixb x1 6) (if x2 = (0 : Int32) then (some ((q1.2.1 10 b0 x1.toNatClampNeg), q1.2)) else (if x2 = (1 : Int32) then (some ((q1.2.1 12 b0 x1.toNatClampNeg), q1.2)) else (if x2 = (2 : Int32) then (some ((q1.2.1 13 b0 x1.toNatClampNeg), q1.2)) else (if x2 = (3 : Int32) then (some ((q1.2.1 11 b0 x1.toNatClampNeg), q1.2)) else (if x2 = (4 : Int32) then (some ((q1.2.1 14 b0 x1.toNatClampNeg), q1.2)) else (some ((q1.2.1 15 b0 x1.toNatClampNeg), q1.2))))))))
def f_X1_stateOf (x1 : Int32) (S : Stt) : Option (Int32 × Stt) :=
  (f_X7_hasBit (S.1 32 0 0) x1 S).bind fun q1 => if q1.1 = 0 then ((f_X7_hasBit (q1.2.1 33 0 0) x1 q1.2).bind fun q4 => if q4.1 = 0 then (some ((0 : Int32), q4.2)) else (some ((-9 : Int32), q4.2))) else (some ((1 : Int32), q1.2))
def fb_X1_timesOne_4 (kb : Int32 → Int32 → Int32 → Stt → Option (Int32 × Stt)) (ke : Int32 → Stt → Option (Int32 × Stt)) (x1 : Int32) (x2 : Int32) (x3 : Int32) (S : Stt) : Option (Int32 × Stt) :=
  if (S.1 31 0 0) ≤ x3 then (ke x2 S) else (grd (ixb x3 25) ((f_X7_hasBit (S.1 30 0 x3.toNatClampNeg) x1 S).bind fun q3 => if q3.1 = 0 then (kb x1 x2 (x3 + (1 : Int32)) q3.2) else (kb x1 (x2 + (1 : Int32)) (x3 + (1 : Int32)) q3.2)))
def fl_X1_timesOne_4 (ke : Int32 → Stt → Option (Int32 × Stt)) : Nat → Int32 → Int32 → Int32 → Stt → Option (Int32 × Stt)
  | 0 => fun _ _ _ _ => none
  | n + 1 => fun x1 x2 x3 S => fb_X1_timesOne_4 (fl_X1_timesOne_4 ke n) ke x1 x2 x3 S
def f_X1_timesOne (x1 : Int32) (S : Stt) : Option (Int32 × Stt) :=
  fl_X1_timesOne_4 (fun x2 S => some (x2, S)) 300 x1 (0 : Int32) (0 : Int32) S
def fj_X1_trace_62_8 (kb : Int32 → Int32 → Int32 → Int32 → Stt → Option (Int32 × Stt)) (ke : Int32 → Stt → Option (Int32 × Stt)) (x1 : Int32) (x2 : Int32) (x3 : Int32) (x4 : Int32) (xt0 : Int32) (S : Stt) : Option (Int32 × Stt) :=
  if x3 = (-9 : Int32) then (kb x1 x2 xt0 (x4 + (1 : Int32)) S) else (if x3 = xt0 then (kb x1 x2 xt0 (x4 + (1 : Int32)) S) else (grd (ixb x2 6) (kb x1 (x2 + (1 : Int32)) xt0 (x4 + (1 : Int32)) (put S 37 0 x2.toNatClampNeg x4))))
def fj_X1_trace_52_8 (kb : Int32 → Int32 → Int32 → Int32 → Stt → Option (Int32 × Stt)) (ke : Int32 → Stt → Option (Int32 × Stt)) (x1 : Int32) (x2 : Int32) (x3 : Int32) (x4 : Int32) (x5 : Int32) (S : Stt) : Option (Int32 × Stt) :=
  if x5 = 0 then (fj_X1_trace_62_8 kb ke x1 x2 x3 x4 (0 : Int32) S) else (fj_X1_trace_62_8 kb ke x1 x2 x3 x4 (1 : Int32) S)
def fb_X1_trace_8 (kb : Int32 → Int32 → Int32 → Int32 → Stt → Option (Int32 × Stt)) (ke : Int32 → Stt → Option (Int32 × Stt)) (x1 : Int32) (x2 : Int32) (x3 : Int32) (x4 : Int32) (S : Stt) : Option (Int32 × Stt) :=
  if (S.1 36 0 0) ≤ x4 then (ke x2 S) else (grd (ixb x4 6) ((f_X7_hasBit (S.1 34 0 x4.toNatClampNeg) x1 S).bind fun q3 => if q3.1 = 0 then (grd (ixb x4 6) ((f_X7_hasBit (q3.2.1 35 0 x4.toNatClampNeg) x1 q3.2).bind fun q11 => if q11.1 = 0 then (fj_X1_trace_52_8 kb ke x1 x2 x3 x4 q3.1 q11.2) else (kb x1 x2 x3 (x4 + (1 : Int32)) q11.2))) else (fj_X1_trace_52_8 kb ke x1 x2 x3 x4 q3.1 q3.2)))
def fl_X1_trace_8 (ke : Int32 → Stt → Option (Int32 × Stt)) : Nat → Int32 → Int32 → Int32 → Int32 → Stt → Option (Int32 × Stt)
  | 0 => fun _ _ _ _ _ => none
  | n + 1 => fun x1 x2 x3 x4 S => fb_X1_trace_8 (fl_X1_trace_8 ke n) ke x1 x2 x3 x4 S
def f_X1_trace (x1 : Int32) (S : Stt) : Option (Int32 × Stt) :=
  fl_X1_trace_8 (fun x2 S => some (x2, S)) 300 x1 (0 : Int32) (-9 : Int32) (0 : Int32) S
def fj_X3_casesThatFit_34 (b0 : Nat) (i0 : Nat) (x2 : Int32) (x3 : Int32) (S : Stt) : Option (Int32 × Stt) :=
  (f_X7_hasBit (S.1 13 b0 i0) (6 : Int32) S).bind fun q5 => if q5.1 = 0 then (some (x3, q5.2)) else (grd (ixb x2 5) (some ((x3 &&& (litC x2.toNatClampNeg)), q5.2)))
def f_X3_casesThatFit (b0 : Nat) (i0 : Nat) (x1 : Int32) (x2 : Int32) (S : Stt) : Option (Int32 × Stt) :=
  if (S.1 10 b0 i0) = (3 : Int32) then (some ((0 : Int32), S)) else ((f_X7_hasBit (S.1 13 b0 i0) (5 : Int32) S).bind fun q2 => if q2.1 = 0 then (fj_X3_casesThatFit_34 b0 i0 x2 (S.1 16 b0 i0) q2.2) else (grd (ixb x1 5) (fj_X3_casesThatFit_34 b0 i0 x2 ((S.1 16 b0 i0) &&& (litC x1.toNatClampNeg)) q2.2)))
def fb_X3_putWords_12 (kb : Nat → Nat → Int32 → Int32 → Stt → Option (Stt)) (ke : Stt → Option (Stt)) (b0 : Nat) (i0 : Nat) (x1 : Int32) (x2 : Int32) (S : Stt) : Option (Stt) :=
  if (5 : Int32) ≤ x2 then (ke  S) else ((f_X7_hasBit x1 x2 S).bind fun q2 => if q2.1 = 0 then (kb b0 i0 x1 (x2 + (1 : Int32)) q2.2) else (grd (ixb x2 5) (kb b0 i0 x1 (x2 + (1 : Int32)) (put q2.2 16 b0 i0 ((q2.2.1 16 b0 i0) &&& (litC x2.toNatClampNeg))))))
def fl_X3_putWords_12 (ke : Stt → Option (Stt)) : Nat → Nat → Nat → Int32 → Int32 → Stt → Option (Stt)
  | 0 => fun _ _ _ _ _ => none
  | n + 1 => fun b0 i0 x1 x2 S => fb_X3_putWords_12 (fl_X3_putWords_12 ke n) ke b0 i0 x1 x2 S
def f_X3_putWords (b0 : Nat) (i0 : Nat) (x1 : Int32) (S : Stt) : Option (Stt) :=
  fl_X3_putWords_12 (fun S => some S) 300 b0 i0 x1 (0 : Int32) (put (put S 13 b0 i0 x1) 16 b0 i0 (-1 : Int32))
def f_X3_weight (b0 : Nat) (i0 : Nat) (S : Stt) : Option (Int32 × Stt) :=
  (f_J6_bitCount_0f7a4 (S.1 13 b0 i0) S).bind fun q1 => (f_X3_isOf b0 i0 (1 : Int32) q1.2).bind fun q3 => if q3.1 = 0 then (some ((q1.1 + (0 : Int32)), q3.2)) else (some ((q1.1 + (10 : Int32)), q3.2))
def fb_X4_firstClear_2 (kb : Int32 → Int32 → Stt → Option (Int32 × Stt)) (ke : Stt → Option (Int32 × Stt)) (x1 : Int32) (x3 : Int32) (S : Stt) : Option (Int32 × Stt) :=
  if (20 : Int32) < x3 then (ke  S) else (grd (ixb x3 21) (grd (ixb x1 8) ((f_X7_hasBit (S.1 40 0 x3.toNatClampNeg) (S.1 41 0 x1.toNatClampNeg) S).bind fun q4 => if q4.1 = 0 then (kb x1 (x3 + (1 : Int32)) q4.2) else (some (x3, q4.2)))))
def fl_X4_firstClear_2 (ke : Stt → Option (Int32 × Stt)) : Nat → Int32 → Int32 → Stt → Option (Int32 × Stt)
  | 0 => fun _ _ _ => none
  | n + 1 => fun x1 x3 S => fb_X4_firstClear_2 (fl_X4_firstClear_2 ke n) ke x1 x3 S
def f_X4_firstClear (x1 : Int32) (x2 : Int32) (S : Stt) : Option (Int32 × Stt) :=
  fl_X4_firstClear_2 (fun S => some ((-9 : Int32), S)) 300 x1 x2 S
def fb_X4_tellDays_12 (kb : Nat → Int32 → Int32 → Stt → Option (Stt)) (ke : Stt → Option (Stt)) (z1 : Nat) (x2 : Int32) (x3 : Int32) (S : Stt) : Option (Stt) :=
  if (S.1 42 0 0) ≤ x3 then (ke  S) else (grd (ixb x3 8) ((f_X6_write z1 x2 x3 (S.1 43 0 x3.toNatClampNeg) S).bind fun q5 => kb z1 x2 (x3 + (1 : Int32)) q5))
def fl_X4_tellDays_12 (ke : Stt → Option (Stt)) : Nat → Nat → Int32 → Int32 → Stt → Option (Stt)
  | 0 => fun _ _ _ _ => none
  | n + 1 => fun z1 x2 x3 S => fb_X4_tellDays_12 (fl_X4_tellDays_12 ke n) ke z1 x2 x3 S
def f_X4_tellDays (z1 : Nat) (x2 : Int32) (S : Stt) : Option (Stt) :=
  (f_X6_make z1 x2 (S.1 42 0 0) (0 : Int32) S).bind fun q1 => fl_X4_tellDays_12 (fun S => some S) 300 z1 x2 (0 : Int32) q1
def fb_X4_tellPlaces_12 (kb : Nat → Int32 → Int32 → Stt → Option (Stt)) (ke : Stt → Option (Stt)) (z1 : Nat) (x2 : Int32) (x3 : Int32) (S : Stt) : Option (Stt) :=
  if (S.1 42 0 0) ≤ x3 then (ke  S) else (grd (ixb x3 8) ((f_X6_write z1 x2 x3 (S.1 45 0 x3.toNatClampNeg) S).bind fun q5 => kb z1 x2 (x3 + (1 : Int32)) q5))
def fl_X4_tellPlaces_12 (ke : Stt → Option (Stt)) : Nat → Nat → Int32 → Int32 → Stt → Option (Stt)
  | 0 => fun _ _ _ _ => none
  | n + 1 => fun z1 x2 x3 S => fb_X4_tellPlaces_12 (fl_X4_tellPlaces_12 ke n) ke z1 x2 x3 S
def f_X4_tellPlaces (z1 : Nat) (x2 : Int32) (S : Stt) : Option (Stt) :=
  (f_X6_make z1 x2 (S.1 42 0 0) (0 : Int32) S).bind fun q1 => fl_X4_tellPlaces_12 (fun S => some S) 300 z1 x2 (0 : Int32) q1
def f_X5_sign (S : Stt) : Option (Int32 × Stt) :=
  grd (decide (¬ S.1 22 0 0 = 0)) ((f_X6_placeOf 1 (S.1 23 0 0) (S.1 25 0 0) S).bind fun q2 => some (q2.1, q2.2))
def fb_X6_countThere_4 (kb : Nat → Int32 → Int32 → Stt → Option (Int32 × Stt)) (ke : Int32 → Stt → Option (Int32 × Stt)) (z0 : Nat) (x1 : Int32) (x2 : Int32) (S : Stt) : Option (Int32 × Stt) :=
  if (Int32.ofNat (shl z0)) ≤ x2 then (ke x1 S) else ((f_X6_isThere z0 x2 S).bind fun q2 => if q2.1 = 0 then (kb z0 x1 (x2 + (1 : Int32)) q2.2) else (kb z0 (x1 + (1 : Int32)) (x2 + (1 : Int32)) q2.2))
def fl_X6_countThere_4 (ke : Int32 → Stt → Option (Int32 × Stt)) : Nat → Nat → Int32 → Int32 → Stt → Option (Int32 × Stt)
  | 0 => fun _ _ _ _ => none
  | n + 1 => fun z0 x1 x2 S => fb_X6_countThere_4 (fl_X6_countThere_4 ke n) ke z0 x1 x2 S
def f_X6_countThere (z0 : Nat) (S : Stt) : Option (Int32 × Stt) :=
  fl_X6_countThere_4 (fun x1 S => some (x1, S)) 300 z0 (0 : Int32) (0 : Int32) S
def f_X7_at (x1 : Int32) (x2 : Int32) (S : Stt) : Option (Int32 × Stt) :=
  (f_X6_isOne 0 x1 S).bind fun q1 => if q1.1 = 0 then (some ((-1 : Int32), q1.2)) else ((f_X6_isThere 0 x1 q1.2).bind fun q4 => if q4.1 = 0 then ((f_X7_refuse (1 : Int32) q4.2).bind fun q14 => some (q14.1, q14.2)) else ((f_X6_isPlace 0 x1 x2 q4.2).bind fun q7 => if q7.1 = 0 then ((f_X7_refuse (2 : Int32) q7.2).bind fun q12 => some (q12.1, q12.2)) else ((f_X6_placeOf 0 x1 x2 q7.2).bind fun q10 => some ((1 : Int32), (put q10.2 62 0 0 q10.1)))))
def f_X7_copy (x1 : Int32) (x2 : Int32) (x3 : Int32) (x4 : Int32) (x5 : Int32) (S : Stt) : Option (Int32 × Stt) :=
  (f_X6_isOne 0 x1 S).bind fun q1 => if q1.1 = 0 then (some ((-1 : Int32), q1.2)) else ((f_X6_isOne 0 x3 q1.2).bind fun q4 => if q4.1 = 0 then (some ((-1 : Int32), q4.2)) else (if 0 ≤ x5 then ((f_X6_isThere 0 x1 q4.2).bind fun q8 => if q8.1 = 0 then ((f_X7_refuse (1 : Int32) q8.2).bind fun q11 => some (q11.1, q11.2)) else ((f_X6_isThere 0 x3 q8.2).bind fun q13 => if q13.1 = 0 then ((f_X7_refuse (1 : Int32) q13.2).bind fun q28 => some (q28.1, q28.2)) else ((f_X6_arePlaces 0 x1 x2 x5 q13.2).bind fun q16 => if q16.1 = 0 then ((f_X7_refuse (2 : Int32) q16.2).bind fun q19 => some (q19.1, q19.2)) else ((f_X6_arePlaces 0 x3 x4 x5 q16.2).bind fun q21 => if q21.1 = 0 then ((f_X7_refuse (2 : Int32) q21.2).bind fun q26 => some (q26.1, q26.2)) else ((f_X6_carry 0 x1 x2 x3 x4 x5 q21.2).bind fun q24 => some ((1 : Int32), q24)))))) else ((f_X7_refuse (5 : Int32) q4.2).bind fun q30 => some (q30.1, q30.2))))
def f_X7_lay (x1 : Int32) (x2 : Int32) (x3 : Int32) (S : Stt) : Option (Int32 × Stt) :=
  (f_X6_isOne 0 x1 S).bind fun q1 => if q1.1 = 0 then (some ((-1 : Int32), q1.2)) else ((f_X6_isThere 0 x1 q1.2).bind fun q4 => if q4.1 = 0 then ((f_X7_refuse (1 : Int32) q4.2).bind fun q16 => some (q16.1, q16.2)) else ((f_X6_isPlace 0 x1 x2 q4.2).bind fun q7 => if q7.1 = 0 then ((f_X7_refuse (2 : Int32) q7.2).bind fun q14 => some (q14.1, q14.2)) else ((f_X6_placeOf 0 x1 x2 q7.2).bind fun q10 => (f_X6_write 0 x1 x2 x3 (put q10.2 62 0 0 q10.1)).bind fun q12 => some ((1 : Int32), q12))))
def f_X7_mean (x1 : Int32) (S : Stt) : Option (Int32 × Stt) :=
  (f_X6_isOne 0 x1 S).bind fun q1 => if q1.1 = 0 then (some ((-1 : Int32), q1.2)) else ((f_X6_isThere 0 x1 q1.2).bind fun q4 => if q4.1 = 0 then ((f_X7_refuse (1 : Int32) q4.2).bind fun q15 => some (q15.1, q15.2)) else ((f_X6_sizeOf 0 x1 q4.2).bind fun q7 => if q7.1 = 0 then ((f_X7_refuse (4 : Int32) q7.2).bind fun q13 => some (q13.1, q13.2)) else ((f_X6_sumOf 0 x1 q7.2).bind fun q10 => grd (decide (¬ q7.1.toInt64 = 0)) (some ((1 : Int32), (put q10.2 62 0 0 ((q10.1 / q7.1.toInt64).toInt32)))))))
def fb_X7_namesEachPageOnce_4 (kb : Int32 → Int32 → Int32 → Stt → Option (Int32 × Stt)) (ke : Stt → Option (Int32 × Stt)) (x1 : Int32) (x2 : Int32) (x3 : Int32) (S : Stt) : Option (Int32 × Stt) :=
  (f_X6_sizeOf 0 x1 S).bind fun q1 => if q1.1 ≤ x3 then (ke  q1.2) else ((f_X6_placeOf 0 x1 x3 q1.2).bind fun q4 => (f_X0_isOne 0 q4.1 q4.2).bind fun q6 => if q6.1 = 0 then (some ((0 : Int32), q6.2)) else ((f_X7_hasBit x2 q4.1 q6.2).bind fun q9 => if q9.1 = 0 then (kb x1 (x2 ||| ((1 : Int32) <<< (q4.1 &&& 31))) (x3 + (1 : Int32)) q9.2) else (some ((0 : Int32), q9.2))))
def fl_X7_namesEachPageOnce_4 (ke : Stt → Option (Int32 × Stt)) : Nat → Int32 → Int32 → Int32 → Stt → Option (Int32 × Stt)
  | 0 => fun _ _ _ _ => none
  | n + 1 => fun x1 x2 x3 S => fb_X7_namesEachPageOnce_4 (fl_X7_namesEachPageOnce_4 ke n) ke x1 x2 x3 S
def f_X7_namesEachPageOnce (x1 : Int32) (S : Stt) : Option (Int32 × Stt) :=
  fl_X7_namesEachPageOnce_4 (fun S => some ((1 : Int32), S)) 300 x1 (0 : Int32) (0 : Int32) S
def f_X7_put (x1 : Int32) (x2 : Int32) (x3 : Int32) (S : Stt) : Option (Int32 × Stt) :=
  (f_X6_isOne 1 x1 S).bind fun q1 => if q1.1 = 0 then (some ((-1 : Int32), q1.2)) else ((f_X6_isThere 1 x1 q1.2).bind fun q4 => if q4.1 = 0 then ((f_X7_refuse (1 : Int32) q4.2).bind fun q16 => some (q16.1, q16.2)) else ((f_X6_isPlace 1 x1 x2 q4.2).bind fun q7 => if q7.1 = 0 then ((f_X7_refuse (2 : Int32) q7.2).bind fun q14 => some (q14.1, q14.2)) else ((f_X6_placeOf 1 x1 x2 q7.2).bind fun q10 => (f_X6_write 1 x1 x2 x3.toInt8.toInt32 q10.2).bind fun q12 => some ((q10.1 + (1000 : Int32)), q12))))
def fb_X7_refusalOfDeeds_62 (kb : Int32 → Int32 → Stt → Option (Int32 × Stt)) (ke : Stt → Option (Int32 × Stt)) (x1 : Int32) (x4 : Int32) (S : Stt) : Option (Int32 × Stt) :=
  (f_X6_sizeOf 0 x1 S).bind fun q13 => if q13.1 ≤ x4 then (ke  q13.2) else ((f_X6_placeOf 0 x1 x4 q13.2).bind fun q16 => (f_X7_isCase q16.1 q16.2).bind fun q18 => if q18.1 = 0 then ((f_X7_refuse (3 : Int32) q18.2).bind fun q21 => some (q21.1, q21.2)) else (kb x1 (x4 + (1 : Int32)) q18.2))
def fl_X7_refusalOfDeeds_62 (ke : Stt → Option (Int32 × Stt)) : Nat → Int32 → Int32 → Stt → Option (Int32 × Stt)
  | 0 => fun _ _ _ => none
  | n + 1 => fun x1 x4 S => fb_X7_refusalOfDeeds_62 (fl_X7_refusalOfDeeds_62 ke n) ke x1 x4 S
def f_X7_refusalOfDeeds (x1 : Int32) (x2 : Int32) (x3 : Int32) (S : Stt) : Option (Int32 × Stt) :=
  (f_X6_isOne 0 x1 S).bind fun q1 => if q1.1 = 0 then (some ((-1 : Int32), q1.2)) else ((f_X6_isOne 0 x2 q1.2).bind fun q4 => if q4.1 = 0 then (some ((-1 : Int32), q4.2)) else ((f_X6_isThere 0 x1 q4.2).bind fun q7 => if q7.1 = 0 then ((f_X7_refuse (1 : Int32) q7.2).bind fun q25 => some (q25.1, q25.2)) else ((f_X6_sizeOf 0 x1 q7.2).bind fun q10 => if q10.1 ≤ x3 then (fl_X7_refusalOfDeeds_62 (fun S => some ((0 : Int32), S)) 300 x1 (0 : Int32) q10.2) else ((f_X7_refuse (5 : Int32) q10.2).bind fun q23 => some (q23.1, q23.2)))))
def f_X7_reverse (x1 : Int32) (x2 : Int32) (S : Stt) : Option (Int32 × Stt) :=
  (f_X0_isOne 0 x1 S).bind fun q1 => if q1.1 = 0 then (some ((-1 : Int32), q1.2)) else ((f_X7_isVerdict x2 q1.2).bind fun q4 => if q4.1 = 0 then (some ((-1 : Int32), q4.2)) else (grd (ixb x1 6) (if (q4.2.1 10 0 x1.toNatClampNeg) = (3 : Int32) then ((f_X7_refuse (3 : Int32) q4.2).bind fun q9 => some (q9.1, q9.2)) else (some ((q4.2.1 12 0 x1.toNatClampNeg), (put q4.2 12 0 x1.toNatClampNeg x2))))))
def f_X7_row (x1 : Int32) (x2 : Int32) (S : Stt) : Option (Int32 × Stt) :=
  (f_X6_isOne 0 x1 S).bind fun q1 => if q1.1 = 0 then (some ((-1 : Int32), q1.2)) else (if x2 ≤ (40 : Int32) then (if 0 ≤ x2 then ((f_X6_make 0 x1 x2 (0 : Int32) q1.2).bind fun q6 => some (x2, q6)) else ((f_X7_refuse (5 : Int32) q1.2).bind fun q8 => some (q8.1, q8.2))) else (some ((-1 : Int32), q1.2)))
def f_X7_swap (x1 : Int32) (x2 : Int32) (S : Stt) : Option (Int32 × Stt) :=
  (f_X0_isOne 0 x1 S).bind fun q1 => if q1.1 = 0 then (some ((-1 : Int32), q1.2)) else ((f_X0_isOne 0 x2 q1.2).bind fun q4 => if q4.1 = 0 then (some ((-1 : Int32), q4.2)) else (grd (ixb x1 6) (grd (ixb x1 6) (grd (ixb x2 6) (grd (ixb x2 6) (grd (ixb x1 6) (some (((put (put q4.2 15 0 x1.toNatClampNeg (q4.2.1 15 0 x2.toNatClampNeg)) 15 0 x2.toNatClampNeg (q4.2.1 15 0 x1.toNatClampNeg)).1 15 0 x1.toNatClampNeg), (put (put q4.2 15 0 x1.toNatClampNeg (q4.2.1 15 0 x2.toNatClampNeg)) 15 0 x2.toNatClampNeg (q4.2.1 15 0 x1.toNatClampNeg))))))))))
def f_X7_tear (x1 : Int32) (S : Stt) : Option (Int32 × Stt) :=
  (f_X6_isOne 0 x1 S).bind fun q1 => if q1.1 = 0 then (some ((-1 : Int32), q1.2)) else ((f_X6_isThere 0 x1 q1.2).bind fun q4 => if q4.1 = 0 then ((f_X7_refuse (1 : Int32) q4.2).bind fun q9 => some (q9.1, q9.2)) else ((f_X6_drop 0 x1 q4.2).bind fun q7 => some ((1 : Int32), q7)))
def fb_X7_tellsJudgements_2 (kb : Int32 → Int32 → Stt → Option (Int32 × Stt)) (ke : Stt → Option (Int32 × Stt)) (x1 : Int32) (x2 : Int32) (S : Stt) : Option (Int32 × Stt) :=
  (f_X6_sizeOf 0 x1 S).bind fun q1 => if q1.1 ≤ (x2 + (2 : Int32)) then (ke  q1.2) else ((f_X6_placeOf 0 x1 x2 q1.2).bind fun q4 => (f_X7_isCase q4.1 q4.2).bind fun q6 => if q6.1 = 0 then (some ((0 : Int32), q6.2)) else ((f_X6_placeOf 0 x1 (x2 + (1 : Int32)) q6.2).bind fun q9 => (f_X7_isDay q9.1 q9.2).bind fun q11 => if q11.1 = 0 then (some ((0 : Int32), q11.2)) else ((f_X6_placeOf 0 x1 (x2 + (2 : Int32)) q11.2).bind fun q14 => (f_X7_isVerdict q14.1 q14.2).bind fun q16 => if q16.1 = 0 then (some ((0 : Int32), q16.2)) else (kb x1 (x2 + (3 : Int32)) q16.2))))
def fl_X7_tellsJudgements_2 (ke : Stt → Option (Int32 × Stt)) : Nat → Int32 → Int32 → Stt → Option (Int32 × Stt)
  | 0 => fun _ _ _ => none
  | n + 1 => fun x1 x2 S => fb_X7_tellsJudgements_2 (fl_X7_tellsJudgements_2 ke n) ke x1 x2 S
def f_X7_tellsJudgements (x1 : Int32) (S : Stt) : Option (Int32 × Stt) :=
  fl_X7_tellsJudgements_2 (fun S => some ((1 : Int32), S)) 300 x1 (0 : Int32) S
def f_X7_text (x1 : Int32) (x2 : Int32) (S : Stt) : Option (Int32 × Stt) :=
  (f_X6_isOne 1 x1 S).bind fun q1 => if q1.1 = 0 then (some ((-1 : Int32), q1.2)) else (if x2 ≤ (80 : Int32) then (if 0 ≤ x2 then ((f_X6_make 1 x1 x2 (32 : Int32) q1.2).bind fun q6 => some (x2, q6)) else ((f_X7_refuse (5 : Int32) q1.2).bind fun q8 => some (q8.1, q8.2))) else (some ((-1 : Int32), q1.2)))
def f_X8_add (x1 : Int32) (x2 : Int32) (S : Stt) : Option (Int32 × Stt) :=
  (f_X8_in x1 (0 : Int32) (1 : Int32) S).bind fun q1 => if q1.1 = 0 then (some ((-1 : Int32), q1.2)) else ((f_X8_in x2 (0 : Int32) (127 : Int32) q1.2).bind fun q4 => if q4.1 = 0 then (some ((-1 : Int32), q4.2)) else (if (q4.2.1 0 10 0) = (6 : Int32) then (some ((-2 : Int32), q4.2)) else (grd (ixb (q4.2.1 0 10 0) 6) (grd (ixb ((put q4.2 7 0 (q4.2.1 0 10 0).toNatClampNeg (0 : Int32)).1 0 10 0) 6) (grd (ixb ((put (put q4.2 7 0 (q4.2.1 0 10 0).toNatClampNeg (0 : Int32)) 8 0 ((put q4.2 7 0 (q4.2.1 0 10 0).toNatClampNeg (0 : Int32)).1 0 10 0).toNatClampNeg x1).1 0 10 0) 6) (grd (ixb ((put (put (put q4.2 7 0 (q4.2.1 0 10 0).toNatClampNeg (0 : Int32)) 8 0 ((put q4.2 7 0 (q4.2.1 0 10 0).toNatClampNeg (0 : Int32)).1 0 10 0).toNatClampNeg x1) 9 0 ((put (put q4.2 7 0 (q4.2.1 0 10 0).toNatClampNeg (0 : Int32)) 8 0 ((put q4.2 7 0 (q4.2.1 0 10 0).toNatClampNeg (0 : Int32)).1 0 10 0).toNatClampNeg x1).1 0 10 0).toNatClampNeg x2).1 0 10 0) 6) (grd (ixb ((put (put (put (put q4.2 7 0 (q4.2.1 0 10 0).toNatClampNeg (0 : Int32)) 8 0 ((put q4.2 7 0 (q4.2.1 0 10 0).toNatClampNeg (0 : Int32)).1 0 10 0).toNatClampNeg x1) 9 0 ((put (put q4.2 7 0 (q4.2.1 0 10 0).toNatClampNeg (0 : Int32)) 8 0 ((put q4.2 7 0 (q4.2.1 0 10 0).toNatClampNeg (0 : Int32)).1 0 10 0).toNatClampNeg x1).1 0 10 0).toNatClampNeg x2) 10 0 ((put (put (put q4.2 7 0 (q4.2.1 0 10 0).toNatClampNeg (0 : Int32)) 8 0 ((put q4.2 7 0 (q4.2.1 0 10 0).toNatClampNeg (0 : Int32)).1 0 10 0).toNatClampNeg x1) 9 0 ((put (put q4.2 7 0 (q4.2.1 0 10 0).toNatClampNeg (0 : Int32)) 8 0 ((put q4.2 7 0 (q4.2.1 0 10 0).toNatClampNeg (0 : Int32)).1 0 10 0).toNatClampNeg x1).1 0 10 0).toNatClampNeg x2).1 0 10 0).toNatClampNeg (-9 : Int32)).1 0 10 0) 6) (grd (ixb ((put (put (put (put (put q4.2 7 0 (q4.2.1 0 10 0).toNatClampNeg (0 : Int32)) 8 0 ((put q4.2 7 0 (q4.2.1 0 10 0).toNatClampNeg (0 : Int32)).1 0 10 0).toNatClampNeg x1) 9 0 ((put (put q4.2 7 0 (q4.2.1 0 10 0).toNatClampNeg (0 : Int32)) 8 0 ((put q4.2 7 0 (q4.2.1 0 10 0).toNatClampNeg (0 : Int32)).1 0 10 0).toNatClampNeg x1).1 0 10 0).toNatClampNeg x2) 10 0 ((put (put (put q4.2 7 0 (q4.2.1 0 10 0).toNatClampNeg (0 : Int32)) 8 0 ((put q4.2 7 0 (q4.2.1 0 10 0).toNatClampNeg (0 : Int32)).1 0 10 0).toNatClampNeg x1) 9 0 ((put (put q4.2 7 0 (q4.2.1 0 10 0).toNatClampNeg (0 : Int32)) 8 0 ((put q4.2 7 0 (q4.2.1 0 10 0).toNatClampNeg (0 : Int32)).1 0 10 0).toNatClampNeg x1).1 0 10 0).toNatClampNeg x2).1 0 10 0).toNatClampNeg (-9 : Int32)) 11 0 ((put (put (put (put q4.2 7 0 (q4.2.1 0 10 0).toNatClampNeg (0 : Int32)) 8 0 ((put q4.2 7 0 (q4.2.1 0 10 0).toNatClampNeg (0 : Int32)).1 0 10 0).toNatClampNeg x1) 9 0 ((put (put q4.2 7 0 (q4.2.1 0 10 0).toNatClampNeg (0 : Int32)) 8 0 ((put q4.2 7 0 (q4.2.1 0 10 0).toNatClampNeg (0 : Int32)).1 0 10 0).toNatClampNeg x1).1 0 10 0).toNatClampNeg x2) 10 0 ((put (put (put q4.2 7 0 (q4.2.1 0 10 0).toNatClampNeg (0 : Int32)) 8 0 ((put q4.2 7 0 (q4.2.1 0 10 0).toNatClampNeg (0 : Int32)).1 0 10 0).toNatClampNeg x1) 9 0 ((put (put q4.2 7 0 (q4.2.1 0 10 0).toNatClampNeg (0 : Int32)) 8 0 ((put q4.2 7 0 (q4.2.1 0 10 0).toNatClampNeg (0 : Int32)).1 0 10 0).toNatClampNeg x1).1 0 10 0).toNatClampNeg x2).1 0 10 0).toNatClampNeg (-9 : Int32)).1 0 10 0).toNatClampNeg (-9 : Int32)).1 0 10 0) 6) (some ((((put (put (put (put (put (put (put q4.2 7 0 (q4.2.1 0 10 0).toNatClampNeg (0 : Int32)) 8 0 ((put q4.2 7 0 (q4.2.1 0 10 0).toNatClampNeg (0 : Int32)).1 0 10 0).toNatClampNeg x1) 9 0 ((put (put q4.2 7 0 (q4.2.1 0 10 0).toNatClampNeg (0 : Int32)) 8 0 ((put q4.2 7 0 (q4.2.1 0 10 0).toNatClampNeg (0 : Int32)).1 0 10 0).toNatClampNeg x1).1 0 10 0).toNatClampNeg x2) 10 0 ((put (put (put q4.2 7 0 (q4.2.1 0 10 0).toNatClampNeg (0 : Int32)) 8 0 ((put q4.2 7 0 (q4.2.1 0 10 0).toNatClampNeg (0 : Int32)).1 0 10 0).toNatClampNeg x1) 9 0 ((put (put q4.2 7 0 (q4.2.1 0 10 0).toNatClampNeg (0 : Int32)) 8 0 ((put q4.2 7 0 (q4.2.1 0 10 0).toNatClampNeg (0 : Int32)).1 0 10 0).toNatClampNeg x1).1 0 10 0).toNatClampNeg x2).1 0 10 0).toNatClampNeg (-9 : Int32)) 11 0 ((put (put (put (put q4.2 7 0 (q4.2.1 0 10 0).toNatClampNeg (0 : Int32)) 8 0 ((put q4.2 7 0 (q4.2.1 0 10 0).toNatClampNeg (0 : Int32)).1 0 10 0).toNatClampNeg x1) 9 0 ((put (put q4.2 7 0 (q4.2.1 0 10 0).toNatClampNeg (0 : Int32)) 8 0 ((put q4.2 7 0 (q4.2.1 0 10 0).toNatClampNeg (0 : Int32)).1 0 10 0).toNatClampNeg x1).1 0 10 0).toNatClampNeg x2) 10 0 ((put (put (put q4.2 7 0 (q4.2.1 0 10 0).toNatClampNeg (0 : Int32)) 8 0 ((put q4.2 7 0 (q4.2.1 0 10 0).toNatClampNeg (0 : Int32)).1 0 10 0).toNatClampNeg x1) 9 0 ((put (put q4.2 7 0 (q4.2.1 0 10 0).toNatClampNeg (0 : Int32)) 8 0 ((put q4.2 7 0 (q4.2.1 0 10 0).toNatClampNeg (0 : Int32)).1 0 10 0).toNatClampNeg x1).1 0 10 0).toNatClampNeg x2).1 0 10 0).toNatClampNeg (-9 : Int32)).1 0 10 0).toNatClampNeg (-9 : Int32)) 12 0 ((put (put (put (put (put q4.2 7 0 (q4.2.1 0 10 0).toNatClampNeg (0 : Int32)) 8 0 ((put q4.2 7 0 (q4.2.1 0 10 0).toNatClampNeg (0 : Int32)).1 0 10 0).toNatClampNeg x1) 9 0 ((put (put q4.2 7 0 (q4.2.1 0 10 0).toNatClampNeg (0 : Int32)) 8 0 ((put q4.2 7 0 (q4.2.1 0 10 0).toNatClampNeg (0 : Int32)).1 0 10 0).toNatClampNeg x1).1 0 10 0).toNatClampNeg x2) 10 0 ((put (put (put q4.2 7 0 (q4.2.1 0 10 0).toNatClampNeg (0 : Int32)) 8 0 ((put q4.2 7 0 (q4.2.1 0 10 0).toNatClampNeg (0 : Int32)).1 0 10 0).toNatClampNeg x1) 9 0 ((put (put q4.2 7 0 (q4.2.1 0 10 0).toNatClampNeg (0 : Int32)) 8 0 ((put q4.2 7 0 (q4.2.1 0 10 0).toNatClampNeg (0 : Int32)).1 0 10 0).toNatClampNeg x1).1 0 10 0).toNatClampNeg x2).1 0 10 0).toNatClampNeg (-9 : Int32)) 11 0 ((put (put (put (put q4.2 7 0 (q4.2.1 0 10 0).toNatClampNeg (0 : Int32)) 8 0 ((put q4.2 7 0 (q4.2.1 0 10 0).toNatClampNeg (0 : Int32)).1 0 10 0).toNatClampNeg x1) 9 0 ((put (put q4.2 7 0 (q4.2.1 0 10 0).toNatClampNeg (0 : Int32)) 8 0 ((put q4.2 7 0 (q4.2.1 0 10 0).toNatClampNeg (0 : Int32)).1 0 10 0).toNatClampNeg x1).1 0 10 0).toNatClampNeg x2) 10 0 ((put (put (put q4.2 7 0 (q4.2.1 0 10 0).toNatClampNeg (0 : Int32)) 8 0 ((put q4.2 7 0 (q4.2.1 0 10 0).toNatClampNeg (0 : Int32)).1 0 10 0).toNatClampNeg x1) 9 0 ((put (put q4.2 7 0 (q4.2.1 0 10 0).toNatClampNeg (0 : Int32)) 8 0 ((put q4.2 7 0 (q4.2.1 0 10 0).toNatClampNeg (0 : Int32)).1 0 10 0).toNatClampNeg x1).1 0 10 0).toNatClampNeg x2).1 0 10 0).toNatClampNeg (-9 : Int32)).1 0 10 0).toNatClampNeg (-9 : Int32)).1 0 10 0).toNatClampNeg ((put (put (put (put (put q4.2 7 0 (q4.2.1 0 10 0).toNatClampNeg (0 : Int32)) 8 0 ((put q4.2 7 0 (q4.2.1 0 10 0).toNatClampNeg (0 : Int32)).1 0 10 0).toNatClampNeg x1) 9 0 ((put (put q4.2 7 0 (q4.2.1 0 10 0).toNatClampNeg (0 : Int32)) 8 0 ((put q4.2 7 0 (q4.2.1 0 10 0).toNatClampNeg (0 : Int32)).1 0 10 0).toNatClampNeg x1).1 0 10 0).toNatClampNeg x2) 10 0 ((put (put (put q4.2 7 0 (q4.2.1 0 10 0).toNatClampNeg (0 : Int32)) 8 0 ((put q4.2 7 0 (q4.2.1 0 10 0).toNatClampNeg (0 : Int32)).1 0 10 0).toNatClampNeg x1) 9 0 ((put (put q4.2 7 0 (q4.2.1 0 10 0).toNatClampNeg (0 : Int32)) 8 0 ((put q4.2 7 0 (q4.2.1 0 10 0).toNatClampNeg (0 : Int32)).1 0 10 0).toNatClampNeg x1).1 0 10 0).toNatClampNeg x2).1 0 10 0).toNatClampNeg (-9 : Int32)) 11 0 ((put (put (put (put q4.2 7 0 (q4.2.1 0 10 0).toNatClampNeg (0 : Int32)) 8 0 ((put q4.2 7 0 (q4.2.1 0 10 0).toNatClampNeg (0 : Int32)).1 0 10 0).toNatClampNeg x1) 9 0 ((put (put q4.2 7 0 (q4.2.1 0 10 0).toNatClampNeg (0 : Int32)) 8 0 ((put q4.2 7 0 (q4.2.1 0 10 0).toNatClampNeg (0 : Int32)).1 0 10 0).toNatClampNeg x1).1 0 10 0).toNatClampNeg x2) 10 0 ((put (put (put q4.2 7 0 (q4.2.1 0 10 0).toNatClampNeg (0 : Int32)) 8 0 ((put q4.2 7 0 (q4.2.1 0 10 0).toNatClampNeg (0 : Int32)).1 0 10 0).toNatClampNeg x1) 9 0 ((put (put q4.2 7 0 (q4.2.1 0 10 0).toNatClampNeg (0 : Int32)) 8 0 ((put q4.2 7 0 (q4.2.1 0 10 0).toNatClampNeg (0 : Int32)).1 0 10 0).toNatClampNeg x1).1 0 10 0).toNatClampNeg x2).1 0 10 0).toNatClampNeg (-9 : Int32)).1 0 10 0).toNatClampNeg (-9 : Int32)).1 0 10 0)) 0 10 0 (((put (put (put (put (put (put q4.2 7 0 (q4.2.1 0 10 0).toNatClampNeg (0 : Int32)) 8 0 ((put q4.2 7 0 (q4.2.1 0 10 0).toNatClampNeg (0 : Int32)).1 0 10 0).toNatClampNeg x1) 9 0 ((put (put q4.2 7 0 (q4.2.1 0 10 0).toNatClampNeg (0 : Int32)) 8 0 ((put q4.2 7 0 (q4.2.1 0 10 0).toNatClampNeg (0 : Int32)).1 0 10 0).toNatClampNeg x1).1 0 10 0).toNatClampNeg x2) 10 0 ((put (put (put q4.2 7 0 (q4.2.1 0 10 0).toNatClampNeg (0 : Int32)) 8 0 ((put q4.2 7 0 (q4.2.1 0 10 0).toNatClampNeg (0 : Int32)).1 0 10 0).toNatClampNeg x1) 9 0 ((put (put q4.2 7 0 (q4.2.1 0 10 0).toNatClampNeg (0 : Int32)) 8 0 ((put q4.2 7 0 (q4.2.1 0 10 0).toNatClampNeg (0 : Int32)).1 0 10 0).toNatClampNeg x1).1 0 10 0).toNatClampNeg x2).1 0 10 0).toNatClampNeg (-9 : Int32)) 11 0 ((put (put (put (put q4.2 7 0 (q4.2.1 0 10 0).toNatClampNeg (0 : Int32)) 8 0 ((put q4.2 7 0 (q4.2.1 0 10 0).toNatClampNeg (0 : Int32)).1 0 10 0).toNatClampNeg x1) 9 0 ((put (put q4.2 7 0 (q4.2.1 0 10 0).toNatClampNeg (0 : Int32)) 8 0 ((put q4.2 7 0 (q4.2.1 0 10 0).toNatClampNeg (0 : Int32)).1 0 10 0).toNatClampNeg x1).1 0 10 0).toNatClampNeg x2) 10 0 ((put (put (put q4.2 7 0 (q4.2.1 0 10 0).toNatClampNeg (0 : Int32)) 8 0 ((put q4.2 7 0 (q4.2.1 0 10 0).toNatClampNeg (0 : Int32)).1 0 10 0).toNatClampNeg x1) 9 0 ((put (put q4.2 7 0 (q4.2.1 0 10 0).toNatClampNeg (0 : Int32)) 8 0 ((put q4.2 7 0 (q4.2.1 0 10 0).toNatClampNeg (0 : Int32)).1 0 10 0).toNatClampNeg x1).1 0 10 0).toNatClampNeg x2).1 0 10 0).toNatClampNeg (-9 : Int32)).1 0 10 0).toNatClampNeg (-9 : Int32)) 12 0 ((put (put (put (put (put q4.2 7 0 (q4.2.1 0 10 0).toNatClampNeg (0 : Int32)) 8 0 ((put q4.2 7 0 (q4.2.1 0 10 0).toNatClampNeg (0 : Int32)).1 0 10 0).toNatClampNeg x1) 9 0 ((put (put q4.2 7 0 (q4.2.1 0 10 0).toNatClampNeg (0 : Int32)) 8 0 ((put q4.2 7 0 (q4.2.1 0 10 0).toNatClampNeg (0 : Int32)).1 0 10 0).toNatClampNeg x1).1 0 10 0).toNatClampNeg x2) 10 0 ((put (put (put q4.2 7 0 (q4.2.1 0 10 0).toNatClampNeg (0 : Int32)) 8 0 ((put q4.2 7 0 (q4.2.1 0 10 0).toNatClampNeg (0 : Int32)).1 0 10 0).toNatClampNeg x1) 9 0 ((put (put q4.2 7 0 (q4.2.1 0 10 0).toNatClampNeg (0 : Int32)) 8 0 ((put q4.2 7 0 (q4.2.1 0 10 0).toNatClampNeg (0 : Int32)).1 0 10 0).toNatClampNeg x1).1 0 10 0).toNatClampNeg x2).1 0 10 0).toNatClampNeg (-9 : Int32)) 11 0 ((put (put (put (put q4.2 7 0 (q4.2.1 0 10 0).toNatClampNeg (0 : Int32)) 8 0 ((put q4.2 7 0 (q4.2.1 0 10 0).toNatClampNeg (0 : Int32)).1 0 10 0).toNatClampNeg x1) 9 0 ((put (put q4.2 7 0 (q4.2.1 0 10 0).toNatClampNeg (0 : Int32)) 8 0 ((put q4.2 7 0 (q4.2.1 0 10 0).toNatClampNeg (0 : Int32)).1 0 10 0).toNatClampNeg x1).1 0 10 0).toNatClampNeg x2) 10 0 ((put (put (put q4.2 7 0 (q4.2.1 0 10 0).toNatClampNeg (0 : Int32)) 8 0 ((put q4.2 7 0 (q4.2.1 0 10 0).toNatClampNeg (0 : Int32)).1 0 10 0).toNatClampNeg x1) 9 0 ((put (put q4.2 7 0 (q4.2.1 0 10 0).toNatClampNeg (0 : Int32)) 8 0 ((put q4.2 7 0 (q4.2.1 0 10 0).toNatClampNeg (0 : Int32)).1 0 10 0).toNatClampNeg x1).1 0 10 0).toNatClampNeg x2).1 0 10 0).toNatClampNeg (-9 : Int32)).1 0 10 0).toNatClampNeg (-9 : Int32)).1 0 10 0).toNatClampNeg ((put (put (put (put (put q4.2 7 0 (q4.2.1 0 10 0).toNatClampNeg (0 : Int32)) 8 0 ((put q4.2 7 0 (q4.2.1 0 10 0).toNatClampNeg (0 : Int32)).1 0 10 0).toNatClampNeg x1) 9 0 ((put (put q4.2 7 0 (q4.2.1 0 10 0).toNatClampNeg (0 : Int32)) 8 0 ((put q4.2 7 0 (q4.2.1 0 10 0).toNatClampNeg (0 : Int32)).1 0 10 0).toNatClampNeg x1).1 0 10 0).toNatClampNeg x2) 10 0 ((put (put (put q4.2 7 0 (q4.2.1 0 10 0).toNatClampNeg (0 : Int32)) 8 0 ((put q4.2 7 0 (q4.2.1 0 10 0).toNatClampNeg (0 : Int32)).1 0 10 0).toNatClampNeg x1) 9 0 ((put (put q4.2 7 0 (q4.2.1 0 10 0).toNatClampNeg (0 : Int32)) 8 0 ((put q4.2 7 0 (q4.2.1 0 10 0).toNatClampNeg (0 : Int32)).1 0 10 0).toNatClampNeg x1).1 0 10 0).toNatClampNeg x2).1 0 10 0).toNatClampNeg (-9 : Int32)) 11 0 ((put (put (put (put q4.2 7 0 (q4.2.1 0 10 0).toNatClampNeg (0 : Int32)) 8 0 ((put q4.2 7 0 (q4.2.1 0 10 0).toNatClampNeg (0 : Int32)).1 0 10 0).toNatClampNeg x1) 9 0 ((put (put q4.2 7 0 (q4.2.1 0 10 0).toNatClampNeg (0 : Int32)) 8 0 ((put q4.2 7 0 (q4.2.1 0 10 0).toNatClampNeg (0 : Int32)).1 0 10 0).toNatClampNeg x1).1 0 10 0).toNatClampNeg x2) 10 0 ((put (put (put q4.2 7 0 (q4.2.1 0 10 0).toNatClampNeg (0 : Int32)) 8 0 ((put q4.2 7 0 (q4.2.1 0 10 0).toNatClampNeg (0 : Int32)).1 0 10 0).toNatClampNeg x1) 9 0 ((put (put q4.2 7 0 (q4.2.1 0 10 0).toNatClampNeg (0 : Int32)) 8 0 ((put q4.2 7 0 (q4.2.1 0 10 0).toNatClampNeg (0 : Int32)).1 0 10 0).toNatClampNeg x1).1 0 10 0).toNatClampNeg x2).1 0 10 0).toNatClampNeg (-9 : Int32)).1 0 10 0).toNatClampNeg (-9 : Int32)).1 0 10 0)).1 0 10 0) + (1 : Int32))).1 0 10 0) - (1 : Int32)), (put (put (put (put (put (put (put q4.2 7 0 (q4.2.1 0 10 0).toNatClampNeg (0 : Int32)) 8 0 ((put q4.2 7 0 (q4.2.1 0 10 0).toNatClampNeg (0 : Int32)).1 0 10 0).toNatClampNeg x1) 9 0 ((put (put q4.2 7 0 (q4.2.1 0 10 0).toNatClampNeg (0 : Int32)) 8 0 ((put q4.2 7 0 (q4.2.1 0 10 0).toNatClampNeg (0 : Int32)).1 0 10 0).toNatClampNeg x1).1 0 10 0).toNatClampNeg x2) 10 0 ((put (put (put q4.2 7 0 (q4.2.1 0 10 0).toNatClampNeg (0 : Int32)) 8 0 ((put q4.2 7 0 (q4.2.1 0 10 0).toNatClampNeg (0 : Int32)).1 0 10 0).toNatClampNeg x1) 9 0 ((put (put q4.2 7 0 (q4.2.1 0 10 0).toNatClampNeg (0 : Int32)) 8 0 ((put q4.2 7 0 (q4.2.1 0 10 0).toNatClampNeg (0 : Int32)).1 0 10 0).toNatClampNeg x1).1 0 10 0).toNatClampNeg x2).1 0 10 0).toNatClampNeg (-9 : Int32)) 11 0 ((put (put (put (put q4.2 7 0 (q4.2.1 0 10 0).toNatClampNeg (0 : Int32)) 8 0 ((put q4.2 7 0 (q4.2.1 0 10 0).toNatClampNeg (0 : Int32)).1 0 10 0).toNatClampNeg x1) 9 0 ((put (put q4.2 7 0 (q4.2.1 0 10 0).toNatClampNeg (0 : Int32)) 8 0 ((put q4.2 7 0 (q4.2.1 0 10 0).toNatClampNeg (0 : Int32)).1 0 10 0).toNatClampNeg x1).1 0 10 0).toNatClampNeg x2) 10 0 ((put (put (put q4.2 7 0 (q4.2.1 0 10 0).toNatClampNeg (0 : Int32)) 8 0 ((put q4.2 7 0 (q4.2.1 0 10 0).toNatClampNeg (0 : Int32)).1 0 10 0).toNatClampNeg x1) 9 0 ((put (put q4.2 7 0 (q4.2.1 0 10 0).toNatClampNeg (0 : Int32)) 8 0 ((put q4.2 7 0 (q4.2.1 0 10 0).toNatClampNeg (0 : Int32)).1 0 10 0).toNatClampNeg x1).1 0 10 0).toNatClampNeg x2).1 0 10 0).toNatClampNeg (-9 : Int32)).1 0 10 0).toNatClampNeg (-9 : Int32)) 12 0 ((put (put (put (put (put q4.2 7 0 (q4.2.1 0 10 0).toNatClampNeg (0 : Int32)) 8 0 ((put q4.2 7 0 (q4.2.1 0 10 0).toNatClampNeg (0 : Int32)).1 0 10 0).toNatClampNeg x1) 9 0 ((put (put q4.2 7 0 (q4.2.1 0 10 0).toNatClampNeg (0 : Int32)) 8 0 ((put q4.2 7 0 (q4.2.1 0 10 0).toNatClampNeg (0 : Int32)).1 0 10 0).toNatClampNeg x1).1 0 10 0).toNatClampNeg x2) 10 0 ((put (put (put q4.2 7 0 (q4.2.1 0 10 0).toNatClampNeg (0 : Int32)) 8 0 ((put q4.2 7 0 (q4.2.1 0 10 0).toNatClampNeg (0 : Int32)).1 0 10 0).toNatClampNeg x1) 9 0 ((put (put q4.2 7 0 (q4.2.1 0 10 0).toNatClampNeg (0 : Int32)) 8 0 ((put q4.2 7 0 (q4.2.1 0 10 0).toNatClampNeg (0 : Int32)).1 0 10 0).toNatClampNeg x1).1 0 10 0).toNatClampNeg x2).1 0 10 0).toNatClampNeg (-9 : Int32)) 11 0 ((put (put (put (put q4.2 7 0 (q4.2.1 0 10 0).toNatClampNeg (0 : Int32)) 8 0 ((put q4.2 7 0 (q4.2.1 0 10 0).toNatClampNeg (0 : Int32)).1 0 10 0).toNatClampNeg x1) 9 0 ((put (put q4.2 7 0 (q4.2.1 0 10 0).toNatClampNeg (0 : Int32)) 8 0 ((put q4.2 7 0 (q4.2.1 0 10 0).toNatClampNeg (0 : Int32)).1 0 10 0).toNatClampNeg x1).1 0 10 0).toNatClampNeg x2) 10 0 ((put (put (put q4.2 7 0 (q4.2.1 0 10 0).toNatClampNeg (0 : Int32)) 8 0 ((put q4.2 7 0 (q4.2.1 0 10 0).toNatClampNeg (0 : Int32)).1 0 10 0).toNatClampNeg x1) 9 0 ((put (put q4.2 7 0 (q4.2.1 0 10 0).toNatClampNeg (0 : Int32)) 8 0 ((put q4.2 7 0 (q4.2.1 0 10 0).toNatClampNeg (0 : Int32)).1 0 10 0).toNatClampNeg x1).1 0 10 0).toNatClampNeg x2).1 0 10 0).toNatClampNeg (-9 : Int32)).1 0 10 0).toNatClampNeg (-9 : Int32)).1 0 10 0).toNatClampNeg ((put (put (put (put (put q4.2 7 0 (q4.2.1 0 10 0).toNatClampNeg (0 : Int32)) 8 0 ((put q4.2 7 0 (q4.2.1 0 10 0).toNatClampNeg (0 : Int32)).1 0 10 0).toNatClampNeg x1) 9 0 ((put (put q4.2 7 0 (q4.2.1 0 10 0).toNatClampNeg (0 : Int32)) 8 0 ((put q4.2 7 0 (q4.2.1 0 10 0).toNatClampNeg (0 : Int32)).1 0 10 0).toNatClampNeg x1).1 0 10 0).toNatClampNeg x2) 10 0 ((put (put (put q4.2 7 0 (q4.2.1 0 10 0).toNatClampNeg (0 : Int32)) 8 0 ((put q4.2 7 0 (q4.2.1 0 10 0).toNatClampNeg (0 : Int32)).1 0 10 0).toNatClampNeg x1) 9 0 ((put (put q4.2 7 0 (q4.2.1 0 10 0).toNatClampNeg (0 : Int32)) 8 0 ((put q4.2 7 0 (q4.2.1 0 10 0).toNatClampNeg (0 : Int32)).1 0 10 0).toNatClampNeg x1).1 0 10 0).toNatClampNeg x2).1 0 10 0).toNatClampNeg (-9 : Int32)) 11 0 ((put (put (put (put q4.2 7 0 (q4.2.1 0 10 0).toNatClampNeg (0 : Int32)) 8 0 ((put q4.2 7 0 (q4.2.1 0 10 0).toNatClampNeg (0 : Int32)).1 0 10 0).toNatClampNeg x1) 9 0 ((put (put q4.2 7 0 (q4.2.1 0 10 0).toNatClampNeg (0 : Int32)) 8 0 ((put q4.2 7 0 (q4.2.1 0 10 0).toNatClampNeg (0 : Int32)).1 0 10 0).toNatClampNeg x1).1 0 10 0).toNatClampNeg x2) 10 0 ((put (put (put q4.2 7 0 (q4.2.1 0 10 0).toNatClampNeg (0 : Int32)) 8 0 ((put q4.2 7 0 (q4.2.1 0 10 0).toNatClampNeg (0 : Int32)).1 0 10 0).toNatClampNeg x1) 9 0 ((put (put q4.2 7 0 (q4.2.1 0 10 0).toNatClampNeg (0 : Int32)) 8 0 ((put q4.2 7 0 (q4.2.1 0 10 0).toNatClampNeg (0 : Int32)).1 0 10 0).toNatClampNeg x1).1 0 10 0).toNatClampNeg x2).1 0 10 0).toNatClampNeg (-9 : Int32)).1 0 10 0).toNatClampNeg (-9 : Int32)).1 0 10 0)) 0 10 0 (((put (put (put (put (put (put q4.2 7 0 (q4.2.1 0 10 0).toNatClampNeg (0 : Int32)) 8 0 ((put q4.2 7 0 (q4.2.1 0 10 0).toNatClampNeg (0 : Int32)).1 0 10 0).toNatClampNeg x1) 9 0 ((put (put q4.2 7 0 (q4.2.1 0 10 0).toNatClampNeg (0 : Int32)) 8 0 ((put q4.2 7 0 (q4.2.1 0 10 0).toNatClampNeg (0 : Int32)).1 0 10 0).toNatClampNeg x1).1 0 10 0).toNatClampNeg x2) 10 0 ((put (put (put q4.2 7 0 (q4.2.1 0 10 0).toNatClampNeg (0 : Int32)) 8 0 ((put q4.2 7 0 (q4.2.1 0 10 0).toNatClampNeg (0 : Int32)).1 0 10 0).toNatClampNeg x1) 9 0 ((put (put q4.2 7 0 (q4.2.1 0 10 0).toNatClampNeg (0 : Int32)) 8 0 ((put q4.2 7 0 (q4.2.1 0 10 0).toNatClampNeg (0 : Int32)).1 0 10 0).toNatClampNeg x1).1 0 10 0).toNatClampNeg x2).1 0 10 0).toNatClampNeg (-9 : Int32)) 11 0 ((put (put (put (put q4.2 7 0 (q4.2.1 0 10 0).toNatClampNeg (0 : Int32)) 8 0 ((put q4.2 7 0 (q4.2.1 0 10 0).toNatClampNeg (0 : Int32)).1 0 10 0).toNatClampNeg x1) 9 0 ((put (put q4.2 7 0 (q4.2.1 0 10 0).toNatClampNeg (0 : Int32)) 8 0 ((put q4.2 7 0 (q4.2.1 0 10 0).toNatClampNeg (0 : Int32)).1 0 10 0).toNatClampNeg x1).1 0 10 0).toNatClampNeg x2) 10 0 ((put (put (put q4.2 7 0 (q4.2.1 0 10 0).toNatClampNeg (0 : Int32)) 8 0 ((put q4.2 7 0 (q4.2.1 0 10 0).toNatClampNeg (0 : Int32)).1 0 10 0).toNatClampNeg x1) 9 0 ((put (put q4.2 7 0 (q4.2.1 0 10 0).toNatClampNeg (0 : Int32)) 8 0 ((put q4.2 7 0 (q4.2.1 0 10 0).toNatClampNeg (0 : Int32)).1 0 10 0).toNatClampNeg x1).1 0 10 0).toNatClampNeg x2).1 0 10 0).toNatClampNeg (-9 : Int32)).1 0 10 0).toNatClampNeg (-9 : Int32)) 12 0 ((put (put (put (put (put q4.2 7 0 (q4.2.1 0 10 0).toNatClampNeg (0 : Int32)) 8 0 ((put q4.2 7 0 (q4.2.1 0 10 0).toNatClampNeg (0 : Int32)).1 0 10 0).toNatClampNeg x1) 9 0 ((put (put q4.2 7 0 (q4.2.1 0 10 0).toNatClampNeg (0 : Int32)) 8 0 ((put q4.2 7 0 (q4.2.1 0 10 0).toNatClampNeg (0 : Int32)).1 0 10 0).toNatClampNeg x1).1 0 10 0).toNatClampNeg x2) 10 0 ((put (put (put q4.2 7 0 (q4.2.1 0 10 0).toNatClampNeg (0 : Int32)) 8 0 ((put q4.2 7 0 (q4.2.1 0 10 0).toNatClampNeg (0 : Int32)).1 0 10 0).toNatClampNeg x1) 9 0 ((put (put q4.2 7 0 (q4.2.1 0 10 0).toNatClampNeg (0 : Int32)) 8 0 ((put q4.2 7 0 (q4.2.1 0 10 0).toNatClampNeg (0 : Int32)).1 0 10 0).toNatClampNeg x1).1 0 10 0).toNatClampNeg x2).1 0 10 0).toNatClampNeg (-9 : Int32)) 11 0 ((put (put (put (put q4.2 7 0 (q4.2.1 0 10 0).toNatClampNeg (0 : Int32)) 8 0 ((put q4.2 7 0 (q4.2.1 0 10 0).toNatClampNeg (0 : Int32)).1 0 10 0).toNatClampNeg x1) 9 0 ((put (put q4.2 7 0 (q4.2.1 0 10 0).toNatClampNeg (0 : Int32)) 8 0 ((put q4.2 7 0 (q4.2.1 0 10 0).toNatClampNeg (0 : Int32)).1 0 10 0).toNatClampNeg x1).1 0 10 0).toNatClampNeg x2) 10 0 ((put (put (put q4.2 7 0 (q4.2.1 0 10 0).toNatClampNeg (0 : Int32)) 8 0 ((put q4.2 7 0 (q4.2.1 0 10 0).toNatClampNeg (0 : Int32)).1 0 10 0).toNatClampNeg x1) 9 0 ((put (put q4.2 7 0 (q4.2.1 0 10 0).toNatClampNeg (0 : Int32)) 8 0 ((put q4.2 7 0 (q4.2.1 0 10 0).toNatClampNeg (0 : Int32)).1 0 10 0).toNatClampNeg x1).1 0 10 0).toNatClampNeg x2).1 0 10 0).toNatClampNeg (-9 : Int32)).1 0 10 0).toNatClampNeg (-9 : Int32)).1 0 10 0).toNatClampNeg ((put (put (put (put (put q4.2 7 0 (q4.2.1 0 10 0).toNatClampNeg (0 : Int32)) 8 0 ((put q4.2 7 0 (q4.2.1 0 10 0).toNatClampNeg (0 : Int32)).1 0 10 0).toNatClampNeg x1) 9 0 ((put (put q4.2 7 0 (q4.2.1 0 10 0).toNatClampNeg (0 : Int32)) 8 0 ((put q4.2 7 0 (q4.2.1 0 10 0).toNatClampNeg (0 : Int32)).1 0 10 0).toNatClampNeg x1).1 0 10 0).toNatClampNeg x2) 10 0 ((put (put (put q4.2 7 0 (q4.2.1 0 10 0).toNatClampNeg (0 : Int32)) 8 0 ((put q4.2 7 0 (q4.2.1 0 10 0).toNatClampNeg (0 : Int32)).1 0 10 0).toNatClampNeg x1) 9 0 ((put (put q4.2 7 0 (q4.2.1 0 10 0).toNatClampNeg (0 : Int32)) 8 0 ((put q4.2 7 0 (q4.2.1 0 10 0).toNatClampNeg (0 : Int32)).1 0 10 0).toNatClampNeg x1).1 0 10 0).toNatClampNeg x2).1 0 10 0).toNatClampNeg (-9 : Int32)) 11 0 ((put (put (put (put q4.2 7 0 (q4.2.1 0 10 0).toNatClampNeg (0 : Int32)) 8 0 ((put q4.2 7 0 (q4.2.1 0 10 0).toNatClampNeg (0 : Int32)).1 0 10 0).toNatClampNeg x1) 9 0 ((put (put q4.2 7 0 (q4.2.1 0 10 0).toNatClampNeg (0 : Int32)) 8 0 ((put q4.2 7 0 (q4.2.1 0 10 0).toNatClampNeg (0 : Int32)).1 0 10 0).toNatClampNeg x1).1 0 10 0).toNatClampNeg x2) 10 0 ((put (put (put q4.2 7 0 (q4.2.1 0 10 0).toNatClampNeg (0 : Int32)) 8 0 ((put q4.2 7 0 (q4.2.1 0 10 0).toNatClampNeg (0 : Int32)).1 0 10 0).toNatClampNeg x1) 9 0 ((put (put q4.2 7 0 (q4.2.1 0 10 0).toNatClampNeg (0 : Int32)) 8 0 ((put q4.2 7 0 (q4.2.1 0 10 0).toNatClampNeg (0 : Int32)).1 0 10 0).toNatClampNeg x1).1 0 10 0).toNatClampNeg x2).1 0 10 0).toNatClampNeg (-9 : Int32)).1 0 10 0).toNatClampNeg (-9 : Int32)).1 0 10 0)).1 0 10 0) + (1 : Int32)))))))))))))
def f_X8_figure (x1 : Int32) (x2 : Int32) (x3 : Int32) (S : Stt) : Option (Int32 × Stt) :=
  (f_X8_here x1 S).bind fun q1 => (f_X8_in (q1.1 - (48 : Int32)) x2 x3 q1.2).bind fun q3 => if q3.1 = 0 then (some ((-9 : Int32), q3.2)) else (some ((q1.1 - (48 : Int32)), (put q3.2 0 17 0 ((q3.2.1 0 17 0) + (1 : Int32)))))
def f_X8_findings (x1 : Int32) (S : Stt) : Option (Int32 × Stt) :=
  (f_X8_in x1 (1 : Int32) (5 : Int32) S).bind fun q1 => if q1.1 = 0 then (some ((-1 : Int32), q1.2)) else (grd (ixb x1 6) (some ((q1.2.1 1 0 x1.toNatClampNeg), q1.2)))
def f_X8_isCase (x0 : Int32) (S : Stt) : Option (Int32 × Stt) :=
  (f_X8_in x0 (0 : Int32) (31 : Int32) S).bind fun q1 => grd (zb q1.1) (some (q1.1, q1.2))
def f_X8_isDay (x0 : Int32) (S : Stt) : Option (Int32 × Stt) :=
  (f_X8_in x0 (0 : Int32) (20 : Int32) S).bind fun q1 => grd (zb q1.1) (some (q1.1, q1.2))
def f_X8_isPage (x1 : Int32) (S : Stt) : Option (Int32 × Stt) :=
  (f_X8_in x1 (0 : Int32) ((S.1 0 10 0) - (1 : Int32)) S).bind fun q1 => grd (zb q1.1) (some (q1.1, q1.2))
def f_X8_isRow (x0 : Int32) (S : Stt) : Option (Int32 × Stt) :=
  (f_X8_in x0 (0 : Int32) (5 : Int32) S).bind fun q1 => grd (zb q1.1) (some (q1.1, q1.2))
def f_X8_isText (x0 : Int32) (S : Stt) : Option (Int32 × Stt) :=
  (f_X8_in x0 (0 : Int32) (3 : Int32) S).bind fun q1 => grd (zb q1.1) (some (q1.1, q1.2))
def fb_X8_keep_49 (kb : Int32 → Int32 → Int32 → Stt → Option (Int32 × Stt)) (ke : Int32 → Int32 → Stt → Option (Int32 × Stt)) (x2 : Int32) (x3 : Int32) (x4 : Int32) (S : Stt) : Option (Int32 × Stt) :=
  if (5 : Int32) < x4 then (ke x2 x3 S) else ((f_X8_pageOf x3 x4 S).bind fun q8 => grd (ixb (((x2 + (1 : Int32)) + ((6 : Int32) * x3)) + x4) 114) (kb x2 x3 (x4 + (1 : Int32)) (put q8.2 14 0 (((x2 + (1 : Int32)) + ((6 : Int32) * x3)) + x4).toNatClampNeg q8.1)))
def fl_X8_keep_49 (ke : Int32 → Int32 → Stt → Option (Int32 × Stt)) : Nat → Int32 → Int32 → Int32 → Stt → Option (Int32 × Stt)
  | 0 => fun _ _ _ _ => none
  | n + 1 => fun x2 x3 x4 S => fb_X8_keep_49 (fl_X8_keep_49 ke n) ke x2 x3 x4 S
def fb_X8_keep_38 (kb : Int32 → Int32 → Stt → Option (Int32 × Stt)) (ke : Stt → Option (Int32 × Stt)) (x2 : Int32) (x3 : Int32) (S : Stt) : Option (Int32 × Stt) :=
  if (S.1 0 10 0) ≤ x3 then (ke  S) else (fl_X8_keep_49 (fun x2 x3 S => kb x2 (x3 + (1 : Int32)) S) 300 x2 x3 (0 : Int32) S)
def fl_X8_keep_38 (ke : Stt → Option (Int32 × Stt)) : Nat → Int32 → Int32 → Stt → Option (Int32 × Stt)
  | 0 => fun _ _ _ => none
  | n + 1 => fun x2 x3 S => fb_X8_keep_38 (fl_X8_keep_38 ke n) ke x2 x3 S
def f_X8_keep (x1 : Int32) (S : Stt) : Option (Int32 × Stt) :=
  (f_X8_in x1 (0 : Int32) (2 : Int32) S).bind fun q1 => if q1.1 = 0 then (some ((-1 : Int32), q1.2)) else (if (q1.2.1 0 10 0) = 0 then (some ((-4 : Int32), q1.2)) else (grd (ixb ((38 : Int32) * x1) 114) (fl_X8_keep_38 (fun S => some ((S.1 0 10 0), S)) 300 ((38 : Int32) * x1) (0 : Int32) (put q1.2 14 0 ((38 : Int32) * x1).toNatClampNeg (q1.2.1 0 10 0)))))
def fb_X8_on_45 (kb : Int32 → Int32 → Stt → Option (Int32 × Stt)) (ke : Stt → Option (Int32 × Stt)) (x2 : Int32) (x3 : Int32) (S : Stt) : Option (Int32 × Stt) :=
  if (S.1 0 10 0) ≤ x3 then (ke  S) else (grd (ixb ((x2 + (1 : Int32)) + ((6 : Int32) * x3)) 114) (grd (ixb x3 6) (grd (ixb (((x2 + (1 : Int32)) + ((6 : Int32) * x3)) + (1 : Int32)) 114) (grd (ixb x3 6) (grd (ixb (((x2 + (1 : Int32)) + ((6 : Int32) * x3)) + (2 : Int32)) 114) (grd (ixb x3 6) (grd (ixb (((x2 + (1 : Int32)) + ((6 : Int32) * x3)) + (3 : Int32)) 114) (grd (ixb x3 6) (grd (ixb (((x2 + (1 : Int32)) + ((6 : Int32) * x3)) + (4 : Int32)) 114) (grd (ixb x3 6) (grd (ixb (((x2 + (1 : Int32)) + ((6 : Int32) * x3)) + (5 : Int32)) 114) (grd (ixb x3 6) (kb x2 (x3 + (1 : Int32)) (put (put (put (put (put (put S 7 0 x3.toNatClampNeg (S.1 14 0 ((x2 + (1 : Int32)) + ((6 : Int32) * x3)).toNatClampNeg)) 8 0 x3.toNatClampNeg ((put S 7 0 x3.toNatClampNeg (S.1 14 0 ((x2 + (1 : Int32)) + ((6 : Int32) * x3)).toNatClampNeg)).1 14 0 (((x2 + (1 : Int32)) + ((6 : Int32) * x3)) + (1 : Int32)).toNatClampNeg)) 9 0 x3.toNatClampNeg ((put (put S 7 0 x3.toNatClampNeg (S.1 14 0 ((x2 + (1 : Int32)) + ((6 : Int32) * x3)).toNatClampNeg)) 8 0 x3.toNatClampNeg ((put S 7 0 x3.toNatClampNeg (S.1 14 0 ((x2 + (1 : Int32)) + ((6 : Int32) * x3)).toNatClampNeg)).1 14 0 (((x2 + (1 : Int32)) + ((6 : Int32) * x3)) + (1 : Int32)).toNatClampNeg)).1 14 0 (((x2 + (1 : Int32)) + ((6 : Int32) * x3)) + (2 : Int32)).toNatClampNeg)) 10 0 x3.toNatClampNeg ((put (put (put S 7 0 x3.toNatClampNeg (S.1 14 0 ((x2 + (1 : Int32)) + ((6 : Int32) * x3)).toNatClampNeg)) 8 0 x3.toNatClampNeg ((put S 7 0 x3.toNatClampNeg (S.1 14 0 ((x2 + (1 : Int32)) + ((6 : Int32) * x3)).toNatClampNeg)).1 14 0 (((x2 + (1 : Int32)) + ((6 : Int32) * x3)) + (1 : Int32)).toNatClampNeg)) 9 0 x3.toNatClampNeg ((put (put S 7 0 x3.toNatClampNeg (S.1 14 0 ((x2 + (1 : Int32)) + ((6 : Int32) * x3)).toNatClampNeg)) 8 0 x3.toNatClampNeg ((put S 7 0 x3.toNatClampNeg (S.1 14 0 ((x2 + (1 : Int32)) + ((6 : Int32) * x3)).toNatClampNeg)).1 14 0 (((x2 + (1 : Int32)) + ((6 : Int32) * x3)) + (1 : Int32)).toNatClampNeg)).1 14 0 (((x2 + (1 : Int32)) + ((6 : Int32) * x3)) + (2 : Int32)).toNatClampNeg)).1 14 0 (((x2 + (1 : Int32)) + ((6 : Int32) * x3)) + (3 : Int32)).toNatClampNeg)) 11 0 x3.toNatClampNeg ((put (put (put (put S 7 0 x3.toNatClampNeg (S.1 14 0 ((x2 + (1 : Int32)) + ((6 : Int32) * x3)).toNatClampNeg)) 8 0 x3.toNatClampNeg ((put S 7 0 x3.toNatClampNeg (S.1 14 0 ((x2 + (1 : Int32)) + ((6 : Int32) * x3)).toNatClampNeg)).1 14 0 (((x2 + (1 : Int32)) + ((6 : Int32) * x3)) + (1 : Int32)).toNatClampNeg)) 9 0 x3.toNatClampNeg ((put (put S 7 0 x3.toNatClampNeg (S.1 14 0 ((x2 + (1 : Int32)) + ((6 : Int32) * x3)).toNatClampNeg)) 8 0 x3.toNatClampNeg ((put S 7 0 x3.toNatClampNeg (S.1 14 0 ((x2 + (1 : Int32)) + ((6 : Int32) * x3)).toNatClampNeg)).1 14 0 (((x2 + (1 : Int32)) + ((6 : Int32) * x3)) + (1 : Int32)).toNatClampNeg)).1 14 0 (((x2 + (1 : Int32)) + ((6 : Int32) * x3)) + (2 : Int32)).toNatClampNeg)) 10 0 x3.toNatClampNeg ((put (put (put S 7 0 x3.toNatClampNeg (S.1 14 0 ((x2 + (1 : Int32)) + ((6 : Int32) * x3)).toNatClampNeg)) 8 0 x3.toNatClampNeg ((put S 7 0 x3.toNatClampNeg (S.1 14 0 ((x2 + (1 : Int32)) + ((6 : Int32) * x3)).toNatClampNeg)).1 14 0 (((x2 + (1 : Int32)) + ((6 : Int32) * x3)) + (1 : Int32)).toNatClampNeg)) 9 0 x3.toNatClampNeg ((put (put S 7 0 x3.toNatClampNeg (S.1 14 0 ((x2 + (1 : Int32)) + ((6 : Int32) * x3)).toNatClampNeg)) 8 0 x3.toNatClampNeg ((put S 7 0 x3.toNatClampNeg (S.1 14 0 ((x2 + (1 : Int32)) + ((6 : Int32) * x3)).toNatClampNeg)).1 14 0 (((x2 + (1 : Int32)) + ((6 : Int32) * x3)) + (1 : Int32)).toNatClampNeg)).1 14 0 (((x2 + (1 : Int32)) + ((6 : Int32) * x3)) + (2 : Int32)).toNatClampNeg)).1 14 0 (((x2 + (1 : Int32)) + ((6 : Int32) * x3)) + (3 : Int32)).toNatClampNeg)).1 14 0 (((x2 + (1 : Int32)) + ((6 : Int32) * x3)) + (4 : Int32)).toNatClampNeg)) 12 0 x3.toNatClampNeg ((put (put (put (put (put S 7 0 x3.toNatClampNeg (S.1 14 0 ((x2 + (1 : Int32)) + ((6 : Int32) * x3)).toNatClampNeg)) 8 0 x3.toNatClampNeg ((put S 7 0 x3.toNatClampNeg (S.1 14 0 ((x2 + (1 : Int32)) + ((6 : Int32) * x3)).toNatClampNeg)).1 14 0 (((x2 + (1 : Int32)) + ((6 : Int32) * x3)) + (1 : Int32)).toNatClampNeg)) 9 0 x3.toNatClampNeg ((put (put S 7 0 x3.toNatClampNeg (S.1 14 0 ((x2 + (1 : Int32)) + ((6 : Int32) * x3)).toNatClampNeg)) 8 0 x3.toNatClampNeg ((put S 7 0 x3.toNatClampNeg (S.1 14 0 ((x2 + (1 : Int32)) + ((6 : Int32) * x3)).toNatClampNeg)).1 14 0 (((x2 + (1 : Int32)) + ((6 : Int32) * x3)) + (1 : Int32)).toNatClampNeg)).1 14 0 (((x2 + (1 : Int32)) + ((6 : Int32) * x3)) + (2 : Int32)).toNatClampNeg)) 10 0 x3.toNatClampNeg ((put (put (put S 7 0 x3.toNatClampNeg (S.1 14 0 ((x2 + (1 : Int32)) + ((6 : Int32) * x3)).toNatClampNeg)) 8 0 x3.toNatClampNeg ((put S 7 0 x3.toNatClampNeg (S.1 14 0 ((x2 + (1 : Int32)) + ((6 : Int32) * x3)).toNatClampNeg)).1 14 0 (((x2 + (1 : Int32)) + ((6 : Int32) * x3)) + (1 : Int32)).toNatClampNeg)) 9 0 x3.toNatClampNeg ((put (put S 7 0 x3.toNatClampNeg (S.1 14 0 ((x2 + (1 : Int32)) + ((6 : Int32) * x3)).toNatClampNeg)) 8 0 x3.toNatClampNeg ((put S 7 0 x3.toNatClampNeg (S.1 14 0 ((x2 + (1 : Int32)) + ((6 : Int32) * x3)).toNatClampNeg)).1 14 0 (((x2 + (1 : Int32)) + ((6 : Int32) * x3)) + (1 : Int32)).toNatClampNeg)).1 14 0 (((x2 + (1 : Int32)) + ((6 : Int32) * x3)) + (2 : Int32)).toNatClampNeg)).1 14 0 (((x2 + (1 : Int32)) + ((6 : Int32) * x3)) + (3 : Int32)).toNatClampNeg)) 11 0 x3.toNatClampNeg ((put (put (put (put S 7 0 x3.toNatClampNeg (S.1 14 0 ((x2 + (1 : Int32)) + ((6 : Int32) * x3)).toNatClampNeg)) 8 0 x3.toNatClampNeg ((put S 7 0 x3.toNatClampNeg (S.1 14 0 ((x2 + (1 : Int32)) + ((6 : Int32) * x3)).toNatClampNeg)).1 14 0 (((x2 + (1 : Int32)) + ((6 : Int32) * x3)) + (1 : Int32)).toNatClampNeg)) 9 0 x3.toNatClampNeg ((put (put S 7 0 x3.toNatClampNeg (S.1 14 0 ((x2 + (1 : Int32)) + ((6 : Int32) * x3)).toNatClampNeg)) 8 0 x3.toNatClampNeg ((put S 7 0 x3.toNatClampNeg (S.1 14 0 ((x2 + (1 : Int32)) + ((6 : Int32) * x3)).toNatClampNeg)).1 14 0 (((x2 + (1 : Int32)) + ((6 : Int32) * x3)) + (1 : Int32)).toNatClampNeg)).1 14 0 (((x2 + (1 : Int32)) + ((6 : Int32) * x3)) + (2 : Int32)).toNatClampNeg)) 10 0 x3.toNatClampNeg ((put (put (put S 7 0 x3.toNatClampNeg (S.1 14 0 ((x2 + (1 : Int32)) + ((6 : Int32) * x3)).toNatClampNeg)) 8 0 x3.toNatClampNeg ((put S 7 0 x3.toNatClampNeg (S.1 14 0 ((x2 + (1 : Int32)) + ((6 : Int32) * x3)).toNatClampNeg)).1 14 0 (((x2 + (1 : Int32)) + ((6 : Int32) * x3)) + (1 : Int32)).toNatClampNeg)) 9 0 x3.toNatClampNeg ((put (put S 7 0 x3.toNatClampNeg (S.1 14 0 ((x2 + (1 : Int32)) + ((6 : Int32) * x3)).toNatClampNeg)) 8 0 x3.toNatClampNeg ((put S 7 0 x3.toNatClampNeg (S.1 14 0 ((x2 + (1 : Int32)) + ((6 : Int32) * x3)).toNatClampNeg)).1 14 0 (((x2 + (1 : Int32)) + ((6 : Int32) * x3)) + (1 : Int32)).toNatClampNeg)).1 14 0 (((x2 + (1 : Int32)) + ((6 : Int32) * x3)) + (2 : Int32)).toNatClampNeg)).1 14 0 (((x2 + (1 : Int32)) + ((6 : Int32) * x3)) + (3 : Int32)).toNatClampNeg)).1 14 0 (((x2 + (1 : Int32)) + ((6 : Int32) * x3)) + (4 : Int32)).toNatClampNeg)).1 14 0 (((x2 + (1 : Int32)) + ((6 : Int32) * x3)) + (5 : Int32)).toNatClampNeg)))))))))))))))
def fl_X8_on_45 (ke : Stt → Option (Int32 × Stt)) : Nat → Int32 → Int32 → Stt → Option (Int32 × Stt)
  | 0 => fun _ _ _ => none
  | n + 1 => fun x2 x3 S => fb_X8_on_45 (fl_X8_on_45 ke n) ke x2 x3 S
def f_X8_on (x1 : Int32) (S : Stt) : Option (Int32 × Stt) :=
  (f_X8_in x1 (0 : Int32) (2 : Int32) S).bind fun q1 => if q1.1 = 0 then (some ((-1 : Int32), q1.2)) else (grd (ixb ((38 : Int32) * x1) 114) (if (q1.2.1 14 0 ((38 : Int32) * x1).toNatClampNeg) = (-9 : Int32) then ((f_X8_meet (1 : Int32) q1.2).bind fun q20 => some (q20.1, q20.2)) else (grd (ixb ((38 : Int32) * x1) 114) (fl_X8_on_45 (fun S => some ((S.1 0 10 0), S)) 300 ((38 : Int32) * x1) (0 : Int32) (put q1.2 0 10 0 (q1.2.1 14 0 ((38 : Int32) * x1).toNatClampNeg))))))
def fb_X8_readsWords_2 (kb : Int32 → Int32 → Stt → Option (Int32 × Stt)) (ke : Int32 → Stt → Option (Int32 × Stt)) (x1 : Int32) (x2 : Int32) (S : Stt) : Option (Int32 × Stt) :=
  (f_X8_here x1 S).bind fun q1 => (f_X8_in q1.1 (48 : Int32) (57 : Int32) q1.2).bind fun q3 => if q3.1 = 0 then (ke x2 q3.2) else ((f_X8_here x1 q3.2).bind fun q6 => if (6 : Int32) < (q6.1 - (48 : Int32)) then (some ((-9 : Int32), q6.2)) else (if (x2 >>> ((q6.1 - (48 : Int32)) &&& 31)) = 0 then (kb x1 (x2 ||| ((1 : Int32) <<< ((q6.1 - (48 : Int32)) &&& 31))) (put q6.2 0 17 0 ((q6.2.1 0 17 0) + (1 : Int32)))) else (some ((-9 : Int32), q6.2))))
def fl_X8_readsWords_2 (ke : Int32 → Stt → Option (Int32 × Stt)) : Nat → Int32 → Int32 → Stt → Option (Int32 × Stt)
  | 0 => fun _ _ _ => none
  | n + 1 => fun x1 x2 S => fb_X8_readsWords_2 (fl_X8_readsWords_2 ke n) ke x1 x2 S
def f_X8_readsWords (x1 : Int32) (S : Stt) : Option (Int32 × Stt) :=
  fl_X8_readsWords_2 (fun x2 S => some (x2, S)) 300 x1 (0 : Int32) S
def fj_X8_soOf_15 (x0 : Int32) (x2 : Int32) (xt0 : Int32) (xt1 : Int32) (S : Stt) : Option (Int32 × Stt) :=
  (f_X8_has x0 x2 S).bind fun q4 => if q4.1 = 0 then (some (((xt0 ||| xt1) ||| (0 : Int32)), q4.2)) else (some (((xt0 ||| xt1) ||| (64 : Int32)), q4.2))
def f_X8_soOf (x0 : Int32) (x1 : Int32) (x2 : Int32) (S : Stt) : Option (Int32 × Stt) :=
  (f_X8_has x0 x1 S).bind fun q1 => if q1.1 = 0 then (fj_X8_soOf_15 x0 x2 x0 (0 : Int32) q1.2) else (fj_X8_soOf_15 x0 x2 x0 (32 : Int32) q1.2)
def fj_X8_tells_123_4 (kb : Int32 → Int32 → Int32 → Stt → Option (Int32 × Stt)) (ke : Int32 → Int32 → Stt → Option (Int32 × Stt)) (x1 : Int32) (x3 : Int32) (xt0 : Int32) (S : Stt) : Option (Int32 × Stt) :=
  if x1 = (6 : Int32) then (if (3 : Int32) ≤ x3 then (kb x1 (xt0 + (0 : Int32)) (x3 + (1 : Int32)) S) else (grd (ixb ((38 : Int32) * x3) 114) (if (S.1 14 0 ((38 : Int32) * x3).toNatClampNeg) = (-9 : Int32) then (kb x1 (xt0 + (0 : Int32)) (x3 + (1 : Int32)) S) else (kb x1 (xt0 + (1 : Int32)) (x3 + (1 : Int32)) S)))) else (kb x1 (xt0 + (0 : Int32)) (x3 + (1 : Int32)) S)
def fj_X8_tells_104_4 (kb : Int32 → Int32 → Int32 → Stt → Option (Int32 × Stt)) (ke : Int32 → Int32 → Stt → Option (Int32 × Stt)) (x1 : Int32) (x3 : Int32) (xt0 : Int32) (S : Stt) : Option (Int32 × Stt) :=
  if x1 = (5 : Int32) then (if (4 : Int32) ≤ x3 then (fj_X8_tells_123_4 kb ke x1 x3 xt0 S) else (grd (ixb x3 4) (if 0 ≤ (S.1 5 0 x3.toNatClampNeg) then (kb x1 (xt0 + (1 : Int32)) (x3 + (1 : Int32)) S) else (fj_X8_tells_123_4 kb ke x1 x3 xt0 S)))) else (fj_X8_tells_123_4 kb ke x1 x3 xt0 S)
def fj_X8_tells_82_4 (kb : Int32 → Int32 → Int32 → Stt → Option (Int32 × Stt)) (ke : Int32 → Int32 → Stt → Option (Int32 × Stt)) (x1 : Int32) (x2 : Int32) (x3 : Int32) (xt0 : Int32) (S : Stt) : Option (Int32 × Stt) :=
  if xt0 = 0 then (if x1 = (4 : Int32) then (grd (ixb x3 6) (if 0 ≤ (S.1 2 0 x3.toNatClampNeg) then (kb x1 (x2 + (1 : Int32)) (x3 + (1 : Int32)) S) else (fj_X8_tells_104_4 kb ke x1 x3 x2 S))) else (fj_X8_tells_104_4 kb ke x1 x3 x2 S)) else (kb x1 (x2 + (1 : Int32)) (x3 + (1 : Int32)) S)
def fj_X8_tells_81_4 (kb : Int32 → Int32 → Int32 → Stt → Option (Int32 × Stt)) (ke : Int32 → Int32 → Stt → Option (Int32 × Stt)) (x1 : Int32) (x2 : Int32) (x3 : Int32) (S : Stt) : Option (Int32 × Stt) :=
  fj_X8_tells_82_4 kb ke x1 x2 x3 (0 : Int32) S
def fj_X8_tells_77_4 (kb : Int32 → Int32 → Int32 → Stt → Option (Int32 × Stt)) (ke : Int32 → Int32 → Stt → Option (Int32 × Stt)) (x1 : Int32) (x2 : Int32) (x3 : Int32) (S : Stt) : Option (Int32 × Stt) :=
  fj_X8_tells_82_4 kb ke x1 x2 x3 (1 : Int32) S
def fj_X8_tells_55_4 (kb : Int32 → Int32 → Int32 → Stt → Option (Int32 × Stt)) (ke : Int32 → Int32 → Stt → Option (Int32 × Stt)) (x1 : Int32) (x2 : Int32) (x3 : Int32) (S : Stt) : Option (Int32 × Stt) :=
  if x1 = (3 : Int32) then (if (S.1 0 10 0) ≤ x3 then (fj_X8_tells_81_4 kb ke x1 x2 x3 S) else ((f_X8_isA x3 (2 : Int32) S).bind fun q18 => if q18.1 = 0 then (fj_X8_tells_81_4 kb ke x1 x2 x3 q18.2) else (fj_X8_tells_77_4 kb ke x1 x2 x3 q18.2))) else (fj_X8_tells_81_4 kb ke x1 x2 x3 S)
def fj_X8_tells_33_4 (kb : Int32 → Int32 → Int32 → Stt → Option (Int32 × Stt)) (ke : Int32 → Int32 → Stt → Option (Int32 × Stt)) (x1 : Int32) (x2 : Int32) (x3 : Int32) (S : Stt) : Option (Int32 × Stt) :=
  if x1 = (2 : Int32) then (if (S.1 0 10 0) ≤ x3 then (fj_X8_tells_55_4 kb ke x1 x2 x3 S) else ((f_X8_isA x3 (1 : Int32) S).bind fun q22 => if q22.1 = 0 then (fj_X8_tells_55_4 kb ke x1 x2 x3 q22.2) else (fj_X8_tells_77_4 kb ke x1 x2 x3 q22.2))) else (fj_X8_tells_55_4 kb ke x1 x2 x3 S)
def fb_X8_tells_4 (kb : Int32 → Int32 → Int32 → Stt → Option (Int32 × Stt)) (ke : Int32 → Int32 → Stt → Option (Int32 × Stt)) (x1 : Int32) (x2 : Int32) (x3 : Int32) (S : Stt) : Option (Int32 × Stt) :=
  if (6 : Int32) ≤ x3 then (ke x1 x2 S) else (if x1 = (1 : Int32) then (if (S.1 0 10 0) ≤ x3 then (fj_X8_tells_33_4 kb ke x1 x2 x3 S) else (grd (ixb x3 6) (if (S.1 7 0 x3.toNatClampNeg) = (3 : Int32) then (fj_X8_tells_77_4 kb ke x1 x2 x3 S) else (fj_X8_tells_33_4 kb ke x1 x2 x3 S)))) else (fj_X8_tells_33_4 kb ke x1 x2 x3 S))
def fl_X8_tells_4 (ke : Int32 → Int32 → Stt → Option (Int32 × Stt)) : Nat → Int32 → Int32 → Int32 → Stt → Option (Int32 × Stt)
  | 0 => fun _ _ _ _ => none
  | n + 1 => fun x1 x2 x3 S => fb_X8_tells_4 (fl_X8_tells_4 ke n) ke x1 x2 x3 S
def f_X8_tells (x1 : Int32) (S : Stt) : Option (Int32 × Stt) :=
  fl_X8_tells_4 (fun x1 x2 S => if x1 = 0 then (some ((S.1 0 10 0), S)) else (some (x2, S))) 300 x1 (0 : Int32) (0 : Int32) S
def f_X8_weightOf (x1 : Int32) (S : Stt) : Option (Int32 × Stt) :=
  grd (ixb x1 6) ((f_X8_sizeOf (S.1 9 0 x1.toNatClampNeg) S).bind fun q2 => (f_X8_isA x1 (1 : Int32) q2.2).bind fun q4 => if q4.1 = 0 then (some ((q2.1 + (0 : Int32)), q4.2)) else (some ((q2.1 + (10 : Int32)), q4.2)))
def fb_X0_bound_4 (kb : Nat → Int32 → Int32 → Int32 → Stt → Option (Int32 × Stt)) (ke : Int32 → Stt → Option (Int32 × Stt)) (b0 : Nat) (x1 : Int32) (x2 : Int32) (x3 : Int32) (S : Stt) : Option (Int32 × Stt) :=
  if (S.1 17 b0 0) ≤ x3 then (ke x2 S) else ((f_X0_holds b0 x3 x1 S).bind fun q2 => if q2.1 = 0 then (kb b0 x1 x2 (x3 + (1 : Int32)) q2.2) else (kb b0 x1 (x2 ||| ((1 : Int32) <<< (x3 &&& 31))) (x3 + (1 : Int32)) q2.2))
def fl_X0_bound_4 (ke : Int32 → Stt → Option (Int32 × Stt)) : Nat → Nat → Int32 → Int32 → Int32 → Stt → Option (Int32 × Stt)
  | 0 => fun _ _ _ _ _ => none
  | n + 1 => fun b0 x1 x2 x3 S => fb_X0_bound_4 (fl_X0_bound_4 ke n) ke b0 x1 x2 x3 S
def f_X0_bound (b0 : Nat) (x1 : Int32) (S : Stt) : Option (Int32 × Stt) :=
  fl_X0_bound_4 (fun x2 S => some (x2, S)) 300 b0 x1 (0 : Int32) (0 : Int32) S
def fj_X0_casesOne_77_9 (kb : Nat → Int32 → Int32 → Int32 → Int32 → Int32 → Int32 → Stt → Option (Int32 × Stt)) (ke : Int32 → Stt → Option (Int32 × Stt)) (b0 : Nat) (x1 : Int32) (x2 : Int32) (x3 : Int32) (x4 : Int32) (x5 : Int32) (x6 : Int32) (x8 : Int32) (S : Stt) : Option (Int32 × Stt) :=
  kb b0 x1 x2 x3 x4 (x5 &&& (x8 ^^^ (-1 : Int32))) (x6 + (1 : Int32)) S
def fb_X0_casesOne_9 (kb : Nat → Int32 → Int32 → Int32 → Int32 → Int32 → Int32 → Stt → Option (Int32 × Stt)) (ke : Int32 → Stt → Option (Int32 × Stt)) (b0 : Nat) (x1 : Int32) (x2 : Int32) (x3 : Int32) (x4 : Int32) (x5 : Int32) (x6 : Int32) (S : Stt) : Option (Int32 × Stt) :=
  if (S.1 17 b0 0) ≤ x6 then (ke x4 S) else (grd (ixb x6 6) ((f_X7_hasBit x1 (S.1 18 b0 x6.toNatClampNeg) S).bind fun q3 => if q3.1 = 0 then (kb b0 x1 x2 x3 x4 x5 (x6 + (1 : Int32)) q3.2) else (grd (ixb x6 6) (grd (ixb (q3.2.1 18 b0 x6.toNatClampNeg) 6) ((f_X3_casesThatFit b0 ((q3.2.1 18 b0 x6.toNatClampNeg).toNatClampNeg) x2 x3 q3.2).bind fun q8 => if (q8.2.1 12 b0 (q3.2.1 18 b0 x6.toNatClampNeg).toNatClampNeg) = (1 : Int32) then (fj_X0_casesOne_77_9 kb ke b0 x1 x2 x3 (x4 ||| (q8.1 &&& x5)) x5 x6 (q8.1 &&& x5) q8.2) else (fj_X0_casesOne_77_9 kb ke b0 x1 x2 x3 x4 x5 x6 (q8.1 &&& x5) q8.2))))))
def fl_X0_casesOne_9 (ke : Int32 → Stt → Option (Int32 × Stt)) : Nat → Nat → Int32 → Int32 → Int32 → Int32 → Int32 → Int32 → Stt → Option (Int32 × Stt)
  | 0 => fun _ _ _ _ _ _ _ _ => none
  | n + 1 => fun b0 x1 x2 x3 x4 x5 x6 S => fb_X0_casesOne_9 (fl_X0_casesOne_9 ke n) ke b0 x1 x2 x3 x4 x5 x6 S
def f_X0_casesOne (b0 : Nat) (x1 : Int32) (x2 : Int32) (x3 : Int32) (S : Stt) : Option (Int32 × Stt) :=
  fl_X0_casesOne_9 (fun x4 S => some (x4, S)) 300 b0 x1 x2 x3 (0 : Int32) (-1 : Int32) (0 : Int32) S
def fb_X0_firstDayOf_2 (kb : Nat → Int32 → Int32 → Stt → Option (Int32 × Stt)) (ke : Stt → Option (Int32 × Stt)) (b0 : Nat) (x1 : Int32) (x2 : Int32) (S : Stt) : Option (Int32 × Stt) :=
  if (20 : Int32) < x2 then (ke  S) else ((f_X0_holds b0 x1 x2 S).bind fun q2 => if q2.1 = 0 then (kb b0 x1 (x2 + (1 : Int32)) q2.2) else (some (x2, q2.2)))
def fl_X0_firstDayOf_2 (ke : Stt → Option (Int32 × Stt)) : Nat → Nat → Int32 → Int32 → Stt → Option (Int32 × Stt)
  | 0 => fun _ _ _ _ => none
  | n + 1 => fun b0 x1 x2 S => fb_X0_firstDayOf_2 (fl_X0_firstDayOf_2 ke n) ke b0 x1 x2 S
def f_X0_firstDayOf (b0 : Nat) (x1 : Int32) (S : Stt) : Option (Int32 × Stt) :=
  fl_X0_firstDayOf_2 (fun S => some ((-9 : Int32), S)) 300 b0 x1 (0 : Int32) S
def fb_X0_judgeOf_3 (kb : Nat → Int32 → Int32 → Int32 → Int32 → Int32 → Stt → Option (Int32 × Stt)) (ke : Stt → Option (Int32 × Stt)) (b0 : Nat) (x1 : Int32) (x2 : Int32) (x3 : Int32) (x4 : Int32) (x5 : Int32) (S : Stt) : Option (Int32 × Stt) :=
  if (S.1 17 b0 0) ≤ x5 then (ke  S) else (grd (ixb x5 6) ((f_X7_hasBit x2 (S.1 18 b0 x5.toNatClampNeg) S).bind fun q3 => if q3.1 = 0 then (kb b0 x1 x2 x3 x4 (x5 + (1 : Int32)) q3.2) else (grd (ixb (S.1 18 b0 x5.toNatClampNeg) 6) ((f_X3_casesThatFit b0 ((S.1 18 b0 x5.toNatClampNeg).toNatClampNeg) x3 x4 q3.2).bind fun q7 => (f_X7_hasBit q7.1 x1 q7.2).bind fun q9 => if q9.1 = 0 then (kb b0 x1 x2 x3 x4 (x5 + (1 : Int32)) q9.2) else (some ((S.1 18 b0 x5.toNatClampNeg), q9.2))))))
def fl_X0_judgeOf_3 (ke : Stt → Option (Int32 × Stt)) : Nat → Nat → Int32 → Int32 → Int32 → Int32 → Int32 → Stt → Option (Int32 × Stt)
  | 0 => fun _ _ _ _ _ _ _ => none
  | n + 1 => fun b0 x1 x2 x3 x4 x5 S => fb_X0_judgeOf_3 (fl_X0_judgeOf_3 ke n) ke b0 x1 x2 x3 x4 x5 S
def f_X0_judgeOf (b0 : Nat) (x1 : Int32) (x2 : Int32) (x3 : Int32) (x4 : Int32) (S : Stt) : Option (Int32 × Stt) :=
  fl_X0_judgeOf_3 (fun S => some ((-9 : Int32), S)) 300 b0 x1 x2 x3 x4 (0 : Int32) S
def fb_X0_rank_12 (kb : Nat → Int32 → Int32 → Stt → Option (Stt)) (ke : Nat → Int32 → Int32 → Stt → Option (Stt)) (b0 : Nat) (x1 : Int32) (x2 : Int32) (S : Stt) : Option (Stt) :=
  if x2 ≤ 0 then (ke b0 x1 x2 S) else (grd (ixb (x2 - (1 : Int32)) 6) (grd (ixb (S.1 18 b0 (x2 - (1 : Int32)).toNatClampNeg) 6) ((f_X3_weight b0 ((S.1 18 b0 (x2 - (1 : Int32)).toNatClampNeg).toNatClampNeg) S).bind fun q5 => grd (ixb x1 6) ((f_X3_weight b0 x1.toNatClampNeg q5.2).bind fun q8 => if q8.1 ≤ q5.1 then (ke b0 x1 x2 q8.2) else (grd (ixb (x2 - (1 : Int32)) 6) (grd (ixb x2 6) (kb b0 x1 (x2 + (-1 : Int32)) (put q8.2 18 b0 x2.toNatClampNeg (q8.2.1 18 b0 (x2 - (1 : Int32)).toNatClampNeg)))))))))
def fl_X0_rank_12 (ke : Nat → Int32 → Int32 → Stt → Option (Stt)) : Nat → Nat → Int32 → Int32 → Stt → Option (Stt)
  | 0 => fun _ _ _ _ => none
  | n + 1 => fun b0 x1 x2 S => fb_X0_rank_12 (fl_X0_rank_12 ke n) ke b0 x1 x2 S
def fb_X0_rank_2 (kb : Nat → Int32 → Stt → Option (Stt)) (ke : Stt → Option (Stt)) (b0 : Nat) (x1 : Int32) (S : Stt) : Option (Stt) :=
  if (S.1 17 b0 0) ≤ x1 then (ke  S) else (fl_X0_rank_12 (fun b0 x1 x2 S => grd (ixb x2 6) (kb b0 (x1 + (1 : Int32)) (put S 18 b0 x2.toNatClampNeg x1))) 300 b0 x1 x1 S)
def fl_X0_rank_2 (ke : Stt → Option (Stt)) : Nat → Nat → Int32 → Stt → Option (Stt)
  | 0 => fun _ _ _ => none
  | n + 1 => fun b0 x1 S => fb_X0_rank_2 (fl_X0_rank_2 ke n) ke b0 x1 S
def f_X0_rank (b0 : Nat) (S : Stt) : Option (Stt) :=
  fl_X0_rank_2 (fun S => some S) 300 b0 (0 : Int32) S
def fb_X4_planAsTheyCome_10 (kb : Int32 → Int32 → Stt → Option (Int32 × Stt)) (ke : Stt → Option (Int32 × Stt)) (x1 : Int32) (x2 : Int32) (S : Stt) : Option (Int32 × Stt) :=
  if (S.1 42 0 0) ≤ x2 then (ke  S) else ((f_X4_firstClear x2 x1 S).bind fun q2 => if q2.1 = (-9 : Int32) then (some ((0 : Int32), q2.2)) else (grd (ixb x2 8) (kb (q2.1 + (1 : Int32)) (x2 + (1 : Int32)) (put (put q2.2 43 0 x2.toNatClampNeg q2.1) 46 0 0 q2.1))))
def fl_X4_planAsTheyCome_10 (ke : Stt → Option (Int32 × Stt)) : Nat → Int32 → Int32 → Stt → Option (Int32 × Stt)
  | 0 => fun _ _ _ => none
  | n + 1 => fun x1 x2 S => fb_X4_planAsTheyCome_10 (fl_X4_planAsTheyCome_10 ke n) ke x1 x2 S
def f_X4_planAsTheyCome (S : Stt) : Option (Int32 × Stt) :=
  fl_X4_planAsTheyCome_10 (fun S => some ((1 : Int32), S)) 300 (0 : Int32) (0 : Int32) (put S 46 0 0 (-9 : Int32))
def f_X5_isAtFigure (S : Stt) : Option (Int32 × Stt) :=
  if (S.1 26 0 0) = 0 then (if (S.1 24 0 0) ≤ (S.1 25 0 0) then (some ((0 : Int32), S)) else ((f_X5_sign  S).bind fun q3 => if q3.1 < (48 : Int32) then (some ((0 : Int32), q3.2)) else ((f_X5_sign  q3.2).bind fun q6 => if (57 : Int32) < q6.1 then (some ((0 : Int32), q6.2)) else (some ((1 : Int32), q6.2))))) else (some ((0 : Int32), S))
def f_X5_takeFigure (x1 : Int32) (x2 : Int32) (S : Stt) : Option (Int32 × Stt) :=
  if (S.1 26 0 0) = 0 then (if (S.1 24 0 0) ≤ (S.1 25 0 0) then (some (x1, (put S 26 0 0 (1 : Int32)))) else ((f_X5_sign  S).bind fun q3 => if q3.1 < ((48 : Int32) + x1) then (some (x1, (put q3.2 26 0 0 (1 : Int32)))) else ((f_X5_sign  q3.2).bind fun q6 => if q6.1 ≤ ((48 : Int32) + x2) then (grd (decide (¬ (put q6.2 25 0 0 ((q6.2.1 25 0 0) + (1 : Int32))).1 22 0 0 = 0)) ((f_X6_placeOf 1 ((put q6.2 25 0 0 ((q6.2.1 25 0 0) + (1 : Int32))).1 23 0 0) (((put q6.2 25 0 0 ((q6.2.1 25 0 0) + (1 : Int32))).1 25 0 0) - (1 : Int32)) (put q6.2 25 0 0 ((q6.2.1 25 0 0) + (1 : Int32)))).bind fun q10 => some ((q10.1 - (48 : Int32)), q10.2))) else (some (x1, (put q6.2 26 0 0 (1 : Int32))))))) else (some (x1, S))
def f_X7_count (x1 : Int32) (S : Stt) : Option (Int32 × Stt) :=
  if x1 = (0 : Int32) then (some ((S.1 17 0 0), S)) else (if x1 = (1 : Int32) then ((f_X0_countOf 0 (3 : Int32) S).bind fun q3 => some (q3.1, q3.2)) else (if x1 = (2 : Int32) then ((f_X0_countOf 0 (1 : Int32) S).bind fun q6 => some (q6.1, q6.2)) else (if x1 = (3 : Int32) then ((f_X0_countOf 0 (2 : Int32) S).bind fun q9 => some (q9.1, q9.2)) else (if x1 = (4 : Int32) then ((f_X6_countThere 0 S).bind fun q12 => some (q12.1, q12.2)) else (if x1 = (5 : Int32) then ((f_X6_countThere 1 S).bind fun q15 => some (q15.1, q15.2)) else (if x1 = (6 : Int32) then ((f_X7_keptBooks  S).bind fun q18 => some (q18.1, q18.2)) else (some ((-1 : Int32), S))))))))
def f_X7_keep (x1 : Int32) (S : Stt) : Option (Int32 × Stt) :=
  (f_X7_isShelf x1 S).bind fun q1 => if q1.1 = 0 then (some ((-1 : Int32), q1.2)) else (if (q1.2.1 17 0 0) = 0 then (some ((-4 : Int32), q1.2)) else (grd (ixb x1 3) ((f_X0_become (2 + x1.toNatClampNeg) 0 q1.2).bind fun q6 => some ((q6.1 17 0 0), q6))))
def f_X7_on (x1 : Int32) (S : Stt) : Option (Int32 × Stt) :=
  (f_X7_isShelf x1 S).bind fun q1 => if q1.1 = 0 then (some ((-1 : Int32), q1.2)) else (grd (ixb x1 3) (if (q1.2.1 17 (2 + x1.toNatClampNeg) 0) = 0 then ((f_X7_refuse (1 : Int32) q1.2).bind fun q9 => some (q9.1, q9.2)) else (grd (ixb x1 3) ((f_X0_become 0 (2 + x1.toNatClampNeg) q1.2).bind fun q7 => some ((q7.1 17 0 0), q7)))))
def f_X7_page (x1 : Int32) (x2 : Int32) (S : Stt) : Option (Int32 × Stt) :=
  (f_X0_isOne 0 x1 S).bind fun q1 => if q1.1 = 0 then (some ((-1 : Int32), q1.2)) else (if x2 < 0 then (some ((-1 : Int32), q1.2)) else (if x2 ≤ (5 : Int32) then ((f_X0_tell 0 x1 x2 q1.2).bind fun q6 => some ((1 : Int32), (put q6.2 62 0 0 q6.1))) else (some ((-1 : Int32), q1.2))))
def fb_X7_read_83 (kb : Int32 → Int32 → Stt → Option (Int32 × Stt)) (ke : Stt → Option (Int32 × Stt)) (x1 : Int32) (x2 : Int32) (S : Stt) : Option (Int32 × Stt) :=
  if (S.1 17 0 0) ≤ x2 then (ke  S) else ((f_X6_placeOf 0 x1 x2 S).bind fun q15 => (f_X0_isOne 0 q15.1 q15.2).bind fun q17 => if q17.1 = 0 then (kb x1 (x2 + (1 : Int32)) q17.2) else (grd (ixb q15.1 6) (kb x1 (x2 + (1 : Int32)) (put q17.2 15 0 q15.1.toNatClampNeg x2))))
def fl_X7_read_83 (ke : Stt → Option (Int32 × Stt)) : Nat → Int32 → Int32 → Stt → Option (Int32 × Stt)
  | 0 => fun _ _ _ => none
  | n + 1 => fun x1 x2 S => fb_X7_read_83 (fl_X7_read_83 ke n) ke x1 x2 S
def f_X7_read (x1 : Int32) (S : Stt) : Option (Int32 × Stt) :=
  (f_X6_isOne 0 x1 S).bind fun q1 => if q1.1 = 0 then (some ((-1 : Int32), q1.2)) else (if (q1.2.1 17 0 0) = 0 then (some ((-4 : Int32), q1.2)) else ((f_X6_isThere 0 x1 q1.2).bind fun q5 => if q5.1 = 0 then ((f_X7_refuse (1 : Int32) q5.2).bind fun q25 => some (q25.1, q25.2)) else ((f_X6_sizeOf 0 x1 q5.2).bind fun q8 => if q8.1 = (q8.2.1 17 0 0) then ((f_X7_namesEachPageOnce x1 q8.2).bind fun q11 => if q11.1 = 0 then ((f_X7_refuse (3 : Int32) q11.2).bind fun q21 => some (q21.1, q21.2)) else (fl_X7_read_83 (fun S => some ((1 : Int32), S)) 300 x1 (0 : Int32) q11.2)) else ((f_X7_refuse (5 : Int32) q8.2).bind fun q23 => some (q23.1, q23.2)))))
def f_X8_askedRow (x1 : Int32) (S : Stt) : Option (Int32 × Stt) :=
  (f_X8_isRow x1 S).bind fun q1 => if q1.1 = 0 then (some ((-1 : Int32), q1.2)) else (grd (ixb x1 6) (if 0 ≤ (q1.2.1 2 0 x1.toNatClampNeg) then (some ((0 : Int32), q1.2)) else ((f_X8_meet (1 : Int32) q1.2).bind fun q6 => some (q6.1, q6.2))))
def f_X8_askedText (x1 : Int32) (S : Stt) : Option (Int32 × Stt) :=
  (f_X8_isText x1 S).bind fun q1 => if q1.1 = 0 then (some ((-1 : Int32), q1.2)) else (grd (ixb x1 4) (if 0 ≤ (q1.2.1 5 0 x1.toNatClampNeg) then (some ((0 : Int32), q1.2)) else ((f_X8_meet (1 : Int32) q1.2).bind fun q6 => some (q6.1, q6.2))))
def fb_X8_copy_104 (kb : Int32 → Int32 → Int32 → Int32 → Int32 → Int32 → Stt → Option (Int32 × Stt)) (ke : Int32 → Int32 → Int32 → Stt → Option (Int32 × Stt)) (x1 : Int32) (x2 : Int32) (x3 : Int32) (x4 : Int32) (x5 : Int32) (x6 : Int32) (S : Stt) : Option (Int32 × Stt) :=
  if x5 ≤ x6 then (ke x3 x4 x5 S) else ((f_X8_rowAt x1 (x2 + x6) S).bind fun q27 => grd (ixb x6 40) (kb x1 x2 x3 x4 x5 (x6 + (1 : Int32)) (put q27.2 4 0 x6.toNatClampNeg q27.1)))
def fl_X8_copy_104 (ke : Int32 → Int32 → Int32 → Stt → Option (Int32 × Stt)) : Nat → Int32 → Int32 → Int32 → Int32 → Int32 → Int32 → Stt → Option (Int32 × Stt)
  | 0 => fun _ _ _ _ _ _ _ => none
  | n + 1 => fun x1 x2 x3 x4 x5 x6 S => fb_X8_copy_104 (fl_X8_copy_104 ke n) ke x1 x2 x3 x4 x5 x6 S
def fb_X8_copy_136 (kb : Int32 → Int32 → Int32 → Int32 → Stt → Option (Int32 × Stt)) (ke : Stt → Option (Int32 × Stt)) (x3 : Int32) (x4 : Int32) (x5 : Int32) (x6 : Int32) (S : Stt) : Option (Int32 × Stt) :=
  if x5 ≤ x6 then (ke  S) else (grd (ixb x6 40) ((f_X8_setRow x3 (x4 + x6) (S.1 4 0 x6.toNatClampNeg) S).bind fun q32 => kb x3 x4 x5 (x6 + (1 : Int32)) q32))
def fl_X8_copy_136 (ke : Stt → Option (Int32 × Stt)) : Nat → Int32 → Int32 → Int32 → Int32 → Stt → Option (Int32 × Stt)
  | 0 => fun _ _ _ _ _ => none
  | n + 1 => fun x3 x4 x5 x6 S => fb_X8_copy_136 (fl_X8_copy_136 ke n) ke x3 x4 x5 x6 S
def f_X8_copy (x1 : Int32) (x2 : Int32) (x3 : Int32) (x4 : Int32) (x5 : Int32) (S : Stt) : Option (Int32 × Stt) :=
  (f_X8_isRow x1 S).bind fun q1 => if q1.1 = 0 then (some ((-1 : Int32), q1.2)) else ((f_X8_isRow x3 q1.2).bind fun q4 => if q4.1 = 0 then (some ((-1 : Int32), q4.2)) else (if 0 ≤ x5 then (grd (ixb x1 6) (if (q4.2.1 2 0 x1.toNatClampNeg) < 0 then ((f_X8_meet (1 : Int32) q4.2).bind fun q10 => some (q10.1, q10.2)) else (grd (ixb x3 6) (if 0 ≤ (q4.2.1 2 0 x3.toNatClampNeg) then (if x2 < 0 then ((f_X8_meet (2 : Int32) q4.2).bind fun q15 => some (q15.1, q15.2)) else (if x4 < 0 then ((f_X8_meet (2 : Int32) q4.2).bind fun q18 => some (q18.1, q18.2)) else (grd (ixb x1 6) (if 0 < (lg_cmp (x2.toInt64 + x5.toInt64) (q4.2.1 2 0 x1.toNatClampNeg).toInt64) then ((f_X8_meet (2 : Int32) q4.2).bind fun q22 => some (q22.1, q22.2)) else (grd (ixb x3 6) (if (lg_cmp (x4.toInt64 + x5.toInt64) (q4.2.1 2 0 x3.toNatClampNeg).toInt64) ≤ 0 then (fl_X8_copy_104 (fun x3 x4 x5 S => fl_X8_copy_136 (fun S => some ((1 : Int32), S)) 300 x3 x4 x5 (0 : Int32) S) 300 x1 x2 x3 x4 x5 (0 : Int32) q4.2) else ((f_X8_meet (2 : Int32) q4.2).bind fun q34 => some (q34.1, q34.2)))))))) else ((f_X8_meet (1 : Int32) q4.2).bind fun q36 => some (q36.1, q36.2)))))) else ((f_X8_meet (5 : Int32) q4.2).bind fun q38 => some (q38.1, q38.2))))
def f_X8_count (x1 : Int32) (S : Stt) : Option (Int32 × Stt) :=
  (f_X8_in x1 (0 : Int32) (6 : Int32) S).bind fun q1 => if q1.1 = 0 then (some ((-1 : Int32), q1.2)) else ((f_X8_tells x1 q1.2).bind fun q4 => some (q4.1, q4.2))
def fb_X8_digest_9 (kb : Int32 → Stt → Option (Int64 × Stt)) (ke : Stt → Option (Int64 × Stt)) (x1 : Int32) (S : Stt) : Option (Int64 × Stt) :=
  if (6 : Int32) < x1 then (ke  S) else ((f_X8_tells x1 S).bind fun q2 => (f_X8_mix q2.1 q2.2).bind fun q4 => kb (x1 + (1 : Int32)) q4)
def fl_X8_digest_9 (ke : Stt → Option (Int64 × Stt)) : Nat → Int32 → Stt → Option (Int64 × Stt)
  | 0 => fun _ _ => none
  | n + 1 => fun x1 S => fb_X8_digest_9 (fl_X8_digest_9 ke n) ke x1 S
def fb_X8_digest_42 (kb : Int32 → Int32 → Stt → Option (Int64 × Stt)) (ke : Int32 → Stt → Option (Int64 × Stt)) (x1 : Int32) (x2 : Int32) (S : Stt) : Option (Int64 × Stt) :=
  if (5 : Int32) < x2 then (ke x1 S) else ((f_X8_pageOf x1 x2 S).bind fun q8 => (f_X8_mix q8.1 q8.2).bind fun q10 => kb x1 (x2 + (1 : Int32)) q10)
def fl_X8_digest_42 (ke : Int32 → Stt → Option (Int64 × Stt)) : Nat → Int32 → Int32 → Stt → Option (Int64 × Stt)
  | 0 => fun _ _ _ => none
  | n + 1 => fun x1 x2 S => fb_X8_digest_42 (fl_X8_digest_42 ke n) ke x1 x2 S
def fb_X8_digest_32 (kb : Int32 → Stt → Option (Int64 × Stt)) (ke : Stt → Option (Int64 × Stt)) (x1 : Int32) (S : Stt) : Option (Int64 × Stt) :=
  if (S.1 0 10 0) ≤ x1 then (ke  S) else (fl_X8_digest_42 (fun x1 S => kb (x1 + (1 : Int32)) S) 300 x1 (0 : Int32) S)
def fl_X8_digest_32 (ke : Stt → Option (Int64 × Stt)) : Nat → Int32 → Stt → Option (Int64 × Stt)
  | 0 => fun _ _ => none
  | n + 1 => fun x1 S => fb_X8_digest_32 (fl_X8_digest_32 ke n) ke x1 S
def fb_X8_digest_71 (kb : Int32 → Stt → Option (Int64 × Stt)) (ke : Stt → Option (Int64 × Stt)) (x1 : Int32) (S : Stt) : Option (Int64 × Stt) :=
  if (3 : Int32) ≤ x1 then (ke  S) else (grd (ixb ((38 : Int32) * x1) 114) (if (S.1 14 0 ((38 : Int32) * x1).toNatClampNeg) = (-9 : Int32) then ((f_X8_mix (-1 : Int32) S).bind fun q18 => kb (x1 + (1 : Int32)) q18) else (grd (ixb ((38 : Int32) * x1) 114) ((f_X8_mix (S.1 14 0 ((38 : Int32) * x1).toNatClampNeg) S).bind fun q16 => kb (x1 + (1 : Int32)) q16))))
def fl_X8_digest_71 (ke : Stt → Option (Int64 × Stt)) : Nat → Int32 → Stt → Option (Int64 × Stt)
  | 0 => fun _ _ => none
  | n + 1 => fun x1 S => fb_X8_digest_71 (fl_X8_digest_71 ke n) ke x1 S
def fb_X8_digest_146 (kb : Int32 → Int32 → Stt → Option (Int64 × Stt)) (ke : Int32 → Stt → Option (Int64 × Stt)) (x1 : Int32) (x2 : Int32) (S : Stt) : Option (Int64 × Stt) :=
  grd (ixb x1 6) (if (S.1 2 0 x1.toNatClampNeg) ≤ x2 then (ke x1 S) else ((f_X8_rowAt x1 x2 S).bind fun q28 => (f_X8_mix q28.1 q28.2).bind fun q30 => kb x1 (x2 + (1 : Int32)) q30))
def fl_X8_digest_146 (ke : Int32 → Stt → Option (Int64 × Stt)) : Nat → Int32 → Int32 → Stt → Option (Int64 × Stt)
  | 0 => fun _ _ _ => none
  | n + 1 => fun x1 x2 S => fb_X8_digest_146 (fl_X8_digest_146 ke n) ke x1 x2 S
def fb_X8_digest_115 (kb : Int32 → Stt → Option (Int64 × Stt)) (ke : Stt → Option (Int64 × Stt)) (x1 : Int32) (S : Stt) : Option (Int64 × Stt) :=
  if (6 : Int32) ≤ x1 then (ke  S) else (grd (ixb x1 6) (if 0 ≤ (S.1 2 0 x1.toNatClampNeg) then (grd (ixb x1 6) ((f_X8_mix (S.1 2 0 x1.toNatClampNeg) S).bind fun q24 => fl_X8_digest_146 (fun x1 S => kb (x1 + (1 : Int32)) S) 300 x1 (0 : Int32) q24)) else ((f_X8_mix (-1 : Int32) S).bind fun q32 => fl_X8_digest_146 (fun x1 S => kb (x1 + (1 : Int32)) S) 300 x1 (0 : Int32) q32)))
def fl_X8_digest_115 (ke : Stt → Option (Int64 × Stt)) : Nat → Int32 → Stt → Option (Int64 × Stt)
  | 0 => fun _ _ => none
  | n + 1 => fun x1 S => fb_X8_digest_115 (fl_X8_digest_115 ke n) ke x1 S
def fb_X8_digest_210 (kb : Int32 → Int32 → Stt → Option (Int64 × Stt)) (ke : Int32 → Stt → Option (Int64 × Stt)) (x1 : Int32) (x2 : Int32) (S : Stt) : Option (Int64 × Stt) :=
  grd (ixb x1 4) (if (S.1 5 0 x1.toNatClampNeg) ≤ x2 then (ke x1 S) else (grd (ixb (((80 : Int32) * x1) + x2) 320) ((f_X8_mix (S.1 6 0 (((80 : Int32) * x1) + x2).toNatClampNeg) S).bind fun q43 => kb x1 (x2 + (1 : Int32)) q43)))
def fl_X8_digest_210 (ke : Int32 → Stt → Option (Int64 × Stt)) : Nat → Int32 → Int32 → Stt → Option (Int64 × Stt)
  | 0 => fun _ _ _ => none
  | n + 1 => fun x1 x2 S => fb_X8_digest_210 (fl_X8_digest_210 ke n) ke x1 x2 S
def fb_X8_digest_180 (kb : Int32 → Stt → Option (Int64 × Stt)) (ke : Stt → Option (Int64 × Stt)) (x1 : Int32) (S : Stt) : Option (Int64 × Stt) :=
  if (4 : Int32) ≤ x1 then (ke  S) else (grd (ixb x1 4) (if 0 ≤ (S.1 5 0 x1.toNatClampNeg) then (grd (ixb x1 4) ((f_X8_mix (S.1 5 0 x1.toNatClampNeg) S).bind fun q38 => fl_X8_digest_210 (fun x1 S => kb (x1 + (1 : Int32)) S) 300 x1 (0 : Int32) q38)) else ((f_X8_mix (-1 : Int32) S).bind fun q45 => fl_X8_digest_210 (fun x1 S => kb (x1 + (1 : Int32)) S) 300 x1 (0 : Int32) q45)))
def fl_X8_digest_180 (ke : Stt → Option (Int64 × Stt)) : Nat → Int32 → Stt → Option (Int64 × Stt)
  | 0 => fun _ _ => none
  | n + 1 => fun x1 S => fb_X8_digest_180 (fl_X8_digest_180 ke n) ke x1 S
def f_X8_digest (S : Stt) : Option (Int64 × Stt) :=
  fl_X8_digest_9 (fun S => fl_X8_digest_32 (fun S => fl_X8_digest_71 (fun S => fl_X8_digest_115 (fun S => fl_X8_digest_180 (fun S => some ((S.2 30), S)) 300 (0 : Int32) S) 300 (0 : Int32) S) 300 (0 : Int32) S) 300 (0 : Int32) S) 300 (0 : Int32) (putL S 30 (17 : Int64))
def fj_X8_doesBind_74_5 (kb : Int32 → Int32 → Int32 → Stt → Option (Int32 × Stt)) (ke : Stt → Option (Int32 × Stt)) (x2 : Int32) (x3 : Int32) (x4 : Int32) (S : Stt) : Option (Int32 × Stt) :=
  grd (ixb x3 6) ((f_X8_doesPoint (S.1 7 0 x3.toNatClampNeg) S).bind fun q11 => if q11.1 = 0 then (some ((1 : Int32), q11.2)) else (grd (ixb x3 6) (kb x2 (q11.2.1 10 0 x3.toNatClampNeg) (x4 + (1 : Int32)) q11.2)))
def fj_X8_doesBind_50_5 (kb : Int32 → Int32 → Int32 → Stt → Option (Int32 × Stt)) (ke : Stt → Option (Int32 × Stt)) (x2 : Int32) (x3 : Int32) (x4 : Int32) (S : Stt) : Option (Int32 × Stt) :=
  grd (ixb x3 6) (if (S.1 7 0 x3.toNatClampNeg) = (4 : Int32) then (grd (ixb x3 6) (if x2 ≤ ((S.1 12 0 x3.toNatClampNeg) + (2 : Int32)) then (fj_X8_doesBind_74_5 kb ke x2 x3 x4 S) else (some ((0 : Int32), S)))) else (fj_X8_doesBind_74_5 kb ke x2 x3 x4 S))
def fb_X8_doesBind_5 (kb : Int32 → Int32 → Int32 → Stt → Option (Int32 × Stt)) (ke : Stt → Option (Int32 × Stt)) (x2 : Int32) (x3 : Int32) (x4 : Int32) (S : Stt) : Option (Int32 × Stt) :=
  if (S.1 0 10 0) < x4 then (ke  S) else ((f_X8_isPage x3 S).bind fun q2 => if q2.1 = 0 then (some ((0 : Int32), q2.2)) else (if x3 = (q2.2.1 0 20 0) then (some ((0 : Int32), q2.2)) else (grd (ixb x3 6) (if (q2.2.1 7 0 x3.toNatClampNeg) = (5 : Int32) then (fj_X8_doesBind_50_5 kb ke x2 x3 x4 q2.2) else (grd (ixb x3 6) (if x2 < (q2.2.1 12 0 x3.toNatClampNeg) then (some ((0 : Int32), q2.2)) else (fj_X8_doesBind_50_5 kb ke x2 x3 x4 q2.2)))))))
def fl_X8_doesBind_5 (ke : Stt → Option (Int32 × Stt)) : Nat → Int32 → Int32 → Int32 → Stt → Option (Int32 × Stt)
  | 0 => fun _ _ _ _ => none
  | n + 1 => fun x2 x3 x4 S => fb_X8_doesBind_5 (fl_X8_doesBind_5 ke n) ke x2 x3 x4 S
def f_X8_doesBind (x1 : Int32) (x2 : Int32) (S : Stt) : Option (Int32 × Stt) :=
  fl_X8_doesBind_5 (fun S => some ((0 : Int32), S)) 300 x2 x1 (0 : Int32) S
def fb_X8_isInRing_4 (kb : Int32 → Int32 → Int32 → Stt → Option (Int32 × Stt)) (ke : Stt → Option (Int32 × Stt)) (x1 : Int32) (x2 : Int32) (x3 : Int32) (S : Stt) : Option (Int32 × Stt) :=
  if (6 : Int32) ≤ x3 then (ke  S) else ((f_X8_isPage x2 S).bind fun q2 => if q2.1 = 0 then (some ((0 : Int32), q2.2)) else (grd (ixb x2 6) ((f_X8_doesPoint (q2.2.1 7 0 x2.toNatClampNeg) q2.2).bind fun q6 => if q6.1 = 0 then (some ((0 : Int32), q6.2)) else (grd (ixb x2 6) (if (q6.2.1 10 0 x2.toNatClampNeg) = x1 then (some ((1 : Int32), q6.2)) else (kb x1 (q6.2.1 10 0 x2.toNatClampNeg) (x3 + (1 : Int32)) q6.2))))))
def fl_X8_isInRing_4 (ke : Stt → Option (Int32 × Stt)) : Nat → Int32 → Int32 → Int32 → Stt → Option (Int32 × Stt)
  | 0 => fun _ _ _ _ => none
  | n + 1 => fun x1 x2 x3 S => fb_X8_isInRing_4 (fl_X8_isInRing_4 ke n) ke x1 x2 x3 S
def f_X8_isInRing (x1 : Int32) (S : Stt) : Option (Int32 × Stt) :=
  fl_X8_isInRing_4 (fun S => some ((0 : Int32), S)) 300 x1 x1 (0 : Int32) S
def fj_X8_judgeBy_54_6 (kb : Int32 → Int32 → Int32 → Int32 → Stt → Option (Int32 × Stt)) (ke : Int32 → Stt → Option (Int32 × Stt)) (x1 : Int32) (x2 : Int32) (x3 : Int32) (x4 : Int32) (xt0 : Int32) (S : Stt) : Option (Int32 × Stt) :=
  if xt0 = 0 then (kb x1 x2 x3 (x4 + (1 : Int32)) S) else (if x3 = (-9 : Int32) then (kb x1 x2 x4 (x4 + (1 : Int32)) S) else ((f_X8_weightOf x4 S).bind fun q7 => (f_X8_weightOf x3 q7.2).bind fun q9 => if q7.1 ≤ q9.1 then (kb x1 x2 x3 (x4 + (1 : Int32)) q9.2) else (kb x1 x2 x4 (x4 + (1 : Int32)) q9.2)))
def fj_X8_judgeBy_53_6 (kb : Int32 → Int32 → Int32 → Int32 → Stt → Option (Int32 × Stt)) (ke : Int32 → Stt → Option (Int32 × Stt)) (x1 : Int32) (x2 : Int32) (x3 : Int32) (x4 : Int32) (S : Stt) : Option (Int32 × Stt) :=
  fj_X8_judgeBy_54_6 kb ke x1 x2 x3 x4 (0 : Int32) S
def fb_X8_judgeBy_6 (kb : Int32 → Int32 → Int32 → Int32 → Stt → Option (Int32 × Stt)) (ke : Int32 → Stt → Option (Int32 × Stt)) (x1 : Int32) (x2 : Int32) (x3 : Int32) (x4 : Int32) (S : Stt) : Option (Int32 × Stt) :=
  if (S.1 0 10 0) ≤ x4 then (ke x3 S) else ((f_X8_has x2 x4 S).bind fun q2 => if q2.1 = 0 then (fj_X8_judgeBy_53_6 kb ke x1 x2 x3 x4 q2.2) else (grd (ixb x4 6) (if (q2.2.1 7 0 x4.toNatClampNeg) = (3 : Int32) then (fj_X8_judgeBy_53_6 kb ke x1 x2 x3 x4 q2.2) else (grd (ixb x4 6) (if ((q2.2.1 9 0 x4.toNatClampNeg) &&& (x1 ^^^ (-1 : Int32))) = 0 then (fj_X8_judgeBy_54_6 kb ke x1 x2 x3 x4 (1 : Int32) q2.2) else (fj_X8_judgeBy_53_6 kb ke x1 x2 x3 x4 q2.2))))))
def fl_X8_judgeBy_6 (ke : Int32 → Stt → Option (Int32 × Stt)) : Nat → Int32 → Int32 → Int32 → Int32 → Stt → Option (Int32 × Stt)
  | 0 => fun _ _ _ _ _ => none
  | n + 1 => fun x1 x2 x3 x4 S => fb_X8_judgeBy_6 (fl_X8_judgeBy_6 ke n) ke x1 x2 x3 x4 S
def f_X8_judgeBy (x1 : Int32) (x2 : Int32) (S : Stt) : Option (Int32 × Stt) :=
  fl_X8_judgeBy_6 (fun x3 S => some (x3, S)) 300 x1 x2 (-9 : Int32) (0 : Int32) S
def f_X8_page (x1 : Int32) (x2 : Int32) (S : Stt) : Option (Int32 × Stt) :=
  (f_X8_isPage x1 S).bind fun q1 => if q1.1 = 0 then (some ((-1 : Int32), q1.2)) else ((f_X8_in x2 (0 : Int32) (5 : Int32) q1.2).bind fun q4 => if q4.1 = 0 then (some ((-1 : Int32), q4.2)) else ((f_X8_pageOf x1 x2 q4.2).bind fun q7 => (f_X8_ask q7.1 (1 : Int32) q7.2).bind fun q9 => some (q9.1, q9.2)))
def fj_X8_readsPage_232 (xt1 : Int32) (xt2 : Int32) (S : Stt) : Option (Int32 × Stt) :=
  grd (ixb xt1 30) (some ((1 : Int32), (put (put S 13 0 xt1.toNatClampNeg xt2) 0 18 0 (((put S 13 0 xt1.toNatClampNeg xt2).1 0 18 0) + (1 : Int32)))))
def fj_X8_readsPage_212 (x2 : Int32) (x3 : Int32) (x6 : Int32) (xt1 : Int32) (xt2 : Int32) (S : Stt) : Option (Int32 × Stt) :=
  grd (ixb xt1 30) (if x2 = (3 : Int32) then (fj_X8_readsPage_232 (x3 + (4 : Int32)) x6 (put S 13 0 xt1.toNatClampNeg xt2)) else (fj_X8_readsPage_232 (x3 + (4 : Int32)) (-9 : Int32) (put S 13 0 xt1.toNatClampNeg xt2)))
def fj_X8_readsPage_190 (x2 : Int32) (x3 : Int32) (x4 : Int32) (x6 : Int32) (xt1 : Int32) (xt2 : Int32) (S : Stt) : Option (Int32 × Stt) :=
  grd (ixb xt1 30) ((f_X8_doesPoint x2 (put S 13 0 xt1.toNatClampNeg xt2)).bind fun q24 => if q24.1 = 0 then (fj_X8_readsPage_212 x2 x3 x6 (x3 + (3 : Int32)) (-9 : Int32) q24.2) else (fj_X8_readsPage_212 x2 x3 x6 (x3 + (3 : Int32)) x4 q24.2))
def fj_X8_readsPage_168 (x2 : Int32) (x3 : Int32) (x4 : Int32) (x5 : Int32) (x6 : Int32) (xt1 : Int32) (xt2 : Int32) (S : Stt) : Option (Int32 × Stt) :=
  grd (ixb xt1 30) (if x2 = (3 : Int32) then (fj_X8_readsPage_190 x2 x3 x4 x6 (x3 + (2 : Int32)) ((1 : Int32) <<< (x5 &&& 31)) (put S 13 0 xt1.toNatClampNeg xt2)) else (fj_X8_readsPage_190 x2 x3 x4 x6 (x3 + (2 : Int32)) x6 (put S 13 0 xt1.toNatClampNeg xt2)))
def fj_X8_readsPage_132 (x2 : Int32) (x3 : Int32) (x4 : Int32) (x5 : Int32) (xt0 : Int32) (S : Stt) : Option (Int32 × Stt) :=
  if xt0 = (-9 : Int32) then (some ((0 : Int32), S)) else (grd (ixb x3 30) (if x2 = (3 : Int32) then (fj_X8_readsPage_168 x2 x3 x4 x5 xt0 (x3 + (1 : Int32)) (0 : Int32) (put S 13 0 x3.toNatClampNeg x2)) else (fj_X8_readsPage_168 x2 x3 x4 x5 xt0 (x3 + (1 : Int32)) x5 (put S 13 0 x3.toNatClampNeg x2))))
def fj_X8_readsPage_98 (x1 : Int32) (x2 : Int32) (x3 : Int32) (x4 : Int32) (xt0 : Int32) (S : Stt) : Option (Int32 × Stt) :=
  if xt0 = (-9 : Int32) then (fj_X8_readsPage_132 x2 x3 x4 xt0 (-9 : Int32) S) else (if x2 = (3 : Int32) then ((f_X8_figure x1 (0 : Int32) (4 : Int32) S).bind fun q30 => fj_X8_readsPage_132 x2 x3 x4 xt0 q30.1 q30.2) else ((f_X8_readsWords x1 S).bind fun q16 => fj_X8_readsPage_132 x2 x3 x4 xt0 q16.1 q16.2))
def fj_X8_readsPage_61 (x1 : Int32) (x2 : Int32) (x3 : Int32) (xt0 : Int32) (S : Stt) : Option (Int32 × Stt) :=
  if xt0 = (-9 : Int32) then (fj_X8_readsPage_98 x1 x2 x3 xt0 (-9 : Int32) S) else (if x2 = (3 : Int32) then ((f_X8_figure x1 (5 : Int32) (6 : Int32) S).bind fun q32 => fj_X8_readsPage_98 x1 x2 x3 xt0 q32.1 q32.2) else ((f_X8_figure x1 (0 : Int32) (1 : Int32) S).bind fun q12 => fj_X8_readsPage_98 x1 x2 x3 xt0 q12.1 q12.2))
def f_X8_readsPage (x1 : Int32) (S : Stt) : Option (Int32 × Stt) :=
  (f_X8_here x1 S).bind fun q1 => (f_X8_kindOf q1.1 q1.2).bind fun q3 => if q3.1 = (-9 : Int32) then (some ((0 : Int32), q3.2)) else (if (q3.2.1 0 18 0) = (6 : Int32) then (some ((0 : Int32), q3.2)) else ((f_X8_doesPoint q3.1 (put q3.2 0 17 0 ((q3.2.1 0 17 0) + (1 : Int32)))).bind fun q7 => if q7.1 = 0 then (fj_X8_readsPage_61 x1 q3.1 ((5 : Int32) * ((put q3.2 0 17 0 ((q3.2.1 0 17 0) + (1 : Int32))).1 0 18 0)) (0 : Int32) q7.2) else ((f_X8_figure x1 (0 : Int32) (5 : Int32) q7.2).bind fun q34 => fj_X8_readsPage_61 x1 q3.1 ((5 : Int32) * ((put q3.2 0 17 0 ((q3.2.1 0 17 0) + (1 : Int32))).1 0 18 0)) q34.1 q34.2)))
def f_X8_reverse (x1 : Int32) (x2 : Int32) (S : Stt) : Option (Int32 × Stt) :=
  (f_X8_isPage x1 S).bind fun q1 => if q1.1 = 0 then (some ((-1 : Int32), q1.2)) else ((f_X8_in x2 (0 : Int32) (1 : Int32) q1.2).bind fun q4 => if q4.1 = 0 then (some ((-1 : Int32), q4.2)) else (grd (ixb x1 6) (if (q4.2.1 7 0 x1.toNatClampNeg) = (3 : Int32) then ((f_X8_meet (3 : Int32) q4.2).bind fun q11 => some (q11.1, q11.2)) else (grd (ixb x1 6) (grd (ixb x1 6) (some ((q4.2.1 8 0 x1.toNatClampNeg), (put q4.2 8 0 x1.toNatClampNeg x2))))))))
def fb_X8_row_34 (kb : Int32 → Int32 → Int32 → Stt → Option (Int32 × Stt)) (ke : Int32 → Stt → Option (Int32 × Stt)) (x1 : Int32) (x2 : Int32) (x3 : Int32) (S : Stt) : Option (Int32 × Stt) :=
  if (40 : Int32) ≤ x3 then (ke x2 S) else ((f_X8_setRow x1 x3 (0 : Int32) S).bind fun q8 => kb x1 x2 (x3 + (1 : Int32)) q8)
def fl_X8_row_34 (ke : Int32 → Stt → Option (Int32 × Stt)) : Nat → Int32 → Int32 → Int32 → Stt → Option (Int32 × Stt)
  | 0 => fun _ _ _ _ => none
  | n + 1 => fun x1 x2 x3 S => fb_X8_row_34 (fl_X8_row_34 ke n) ke x1 x2 x3 S
def f_X8_row (x1 : Int32) (x2 : Int32) (S : Stt) : Option (Int32 × Stt) :=
  (f_X8_isRow x1 S).bind fun q1 => if q1.1 = 0 then (some ((-1 : Int32), q1.2)) else (if x2 ≤ (40 : Int32) then (if 0 ≤ x2 then (grd (ixb x1 6) (fl_X8_row_34 (fun x2 S => some (x2, S)) 300 x1 x2 (0 : Int32) (put q1.2 2 0 x1.toNatClampNeg x2))) else ((f_X8_meet (5 : Int32) q1.2).bind fun q10 => some (q10.1, q10.2))) else (some ((-1 : Int32), q1.2)))
def f_X8_swap (x1 : Int32) (x2 : Int32) (S : Stt) : Option (Int32 × Stt) :=
  (f_X8_isPage x1 S).bind fun q1 => if q1.1 = 0 then (some ((-1 : Int32), q1.2)) else ((f_X8_isPage x2 q1.2).bind fun q4 => if q4.1 = 0 then (some ((-1 : Int32), q4.2)) else (grd (ixb x1 6) (grd (ixb x2 6) (grd (ixb x1 6) (grd (ixb x2 6) (grd (ixb x1 6) (some (((put (put q4.2 12 0 x1.toNatClampNeg (q4.2.1 12 0 x2.toNatClampNeg)) 12 0 x2.toNatClampNeg (q4.2.1 12 0 x1.toNatClampNeg)).1 12 0 x1.toNatClampNeg), (put (put q4.2 12 0 x1.toNatClampNeg (q4.2.1 12 0 x2.toNatClampNeg)) 12 0 x2.toNatClampNeg (q4.2.1 12 0 x1.toNatClampNeg))))))))))
def fb_X8_text_34 (kb : Int32 → Int32 → Int32 → Stt → Option (Int32 × Stt)) (ke : Int32 → Stt → Option (Int32 × Stt)) (x1 : Int32) (x2 : Int32) (x3 : Int32) (S : Stt) : Option (Int32 × Stt) :=
  if (80 : Int32) ≤ x3 then (ke x2 S) else (grd (ixb (((80 : Int32) * x1) + x3) 320) (kb x1 x2 (x3 + (1 : Int32)) (put S 6 0 (((80 : Int32) * x1) + x3).toNatClampNeg (32 : Int32))))
def fl_X8_text_34 (ke : Int32 → Stt → Option (Int32 × Stt)) : Nat → Int32 → Int32 → Int32 → Stt → Option (Int32 × Stt)
  | 0 => fun _ _ _ _ => none
  | n + 1 => fun x1 x2 x3 S => fb_X8_text_34 (fl_X8_text_34 ke n) ke x1 x2 x3 S
def f_X8_text (x1 : Int32) (x2 : Int32) (S : Stt) : Option (Int32 × Stt) :=
  (f_X8_isText x1 S).bind fun q1 => if q1.1 = 0 then (some ((-1 : Int32), q1.2)) else (if x2 ≤ (80 : Int32) then (if 0 ≤ x2 then (grd (ixb x1 4) (fl_X8_text_34 (fun x2 S => some (x2, S)) 300 x1 x2 (0 : Int32) (put q1.2 5 0 x1.toNatClampNeg x2))) else ((f_X8_meet (5 : Int32) q1.2).bind fun q9 => some (q9.1, q9.2))) else (some ((-1 : Int32), q1.2)))
def f_X0_append (b0 : Nat) (x1 : Int32) (x2 : Int32) (x3 : Int32) (x4 : Int32) (x5 : Int32) (S : Stt) : Option (Stt) :=
  if (S.1 17 b0 0) < (6 : Int32) then (grd (ixb (S.1 17 b0 0) 6) ((f_X3_putWords b0 ((S.1 17 b0 0).toNatClampNeg) x4 (put (put (put S 10 b0 (S.1 17 b0 0).toNatClampNeg x1) 11 b0 (S.1 17 b0 0).toNatClampNeg x2) 12 b0 (S.1 17 b0 0).toNatClampNeg x3)).bind fun q3 => (f_X0_rank b0 (put (put (put q3 14 b0 (S.1 17 b0 0).toNatClampNeg x5) 15 b0 (S.1 17 b0 0).toNatClampNeg ((put q3 14 b0 (S.1 17 b0 0).toNatClampNeg x5).1 17 b0 0)) 17 b0 0 (((put (put q3 14 b0 (S.1 17 b0 0).toNatClampNeg x5) 15 b0 (S.1 17 b0 0).toNatClampNeg ((put q3 14 b0 (S.1 17 b0 0).toNatClampNeg x5).1 17 b0 0)).1 17 b0 0) + (1 : Int32)))).bind fun q5 => some q5)) else (some S)
def f_X0_changeKind (b0 : Nat) (x1 : Int32) (x2 : Int32) (S : Stt) : Option (Stt) :=
  (f_X0_isOne b0 x1 S).bind fun q1 => if q1.1 = 0 then (some q1.2) else (grd (ixb x1 6) ((f_X0_rank b0 (put q1.2 10 b0 x1.toNatClampNeg x2)).bind fun q5 => some q5))
def fb_X0_dropLast_33 (kb : Nat → Int32 → Int32 → Stt → Option (Stt)) (ke : Nat → Stt → Option (Stt)) (b0 : Nat) (x1 : Int32) (x2 : Int32) (S : Stt) : Option (Stt) :=
  if (S.1 17 b0 0) ≤ x2 then (ke b0 S) else (grd (ixb x2 6) (if (S.1 15 b0 x2.toNatClampNeg) ≤ x1 then (kb b0 x1 (x2 + (1 : Int32)) S) else (grd (ixb x2 6) (kb b0 x1 (x2 + (1 : Int32)) (put S 15 b0 x2.toNatClampNeg ((S.1 15 b0 x2.toNatClampNeg) - (1 : Int32)))))))
def fl_X0_dropLast_33 (ke : Nat → Stt → Option (Stt)) : Nat → Nat → Int32 → Int32 → Stt → Option (Stt)
  | 0 => fun _ _ _ _ => none
  | n + 1 => fun b0 x1 x2 S => fb_X0_dropLast_33 (fl_X0_dropLast_33 ke n) ke b0 x1 x2 S
def f_X0_dropLast (b0 : Nat) (S : Stt) : Option (Stt) :=
  if (S.1 17 b0 0) = 0 then (some S) else (grd (ixb ((put S 17 b0 0 ((S.1 17 b0 0) - (1 : Int32))).1 17 b0 0) 6) (fl_X0_dropLast_33 (fun b0 S => (f_X0_rank b0 S).bind fun q7 => some q7) 300 b0 ((put S 17 b0 0 ((S.1 17 b0 0) - (1 : Int32))).1 15 b0 ((put S 17 b0 0 ((S.1 17 b0 0) - (1 : Int32))).1 17 b0 0).toNatClampNeg) (0 : Int32) (put S 17 b0 0 ((S.1 17 b0 0) - (1 : Int32)))))
def fb_X1_hear_63 (kb : Nat → Int32 → Int32 → Int32 → Int32 → Int32 → Stt → Option (Stt)) (ke : Nat → Int32 → Int32 → Int32 → Int32 → Stt → Option (Stt)) (b1 : Nat) (x3 : Int32) (x4 : Int32) (x5 : Int32) (x6 : Int32) (x7 : Int32) (S : Stt) : Option (Stt) :=
  if (5 : Int32) ≤ x7 then (ke b1 x3 x4 x5 x6 S) else ((f_X7_hasBit x5 x7 S).bind fun q12 => if q12.1 = 0 then (kb b1 x3 x4 x5 x6 (x7 + (1 : Int32)) q12.2) else ((f_X0_casesOne b1 x3 x6 x7 q12.2).bind fun q15 => (f_X1_note q15.1 q15.2).bind fun q17 => kb b1 x3 x4 x5 x6 (x7 + (1 : Int32)) q17))
def fl_X1_hear_63 (ke : Nat → Int32 → Int32 → Int32 → Int32 → Stt → Option (Stt)) : Nat → Nat → Int32 → Int32 → Int32 → Int32 → Int32 → Stt → Option (Stt)
  | 0 => fun _ _ _ _ _ _ _ => none
  | n + 1 => fun b1 x3 x4 x5 x6 x7 S => fb_X1_hear_63 (fl_X1_hear_63 ke n) ke b1 x3 x4 x5 x6 x7 S
def fb_X1_hear_41 (kb : Nat → Int32 → Int32 → Int32 → Int32 → Stt → Option (Stt)) (ke : Stt → Option (Stt)) (b1 : Nat) (x3 : Int32) (x4 : Int32) (x5 : Int32) (x6 : Int32) (S : Stt) : Option (Stt) :=
  if (5 : Int32) ≤ x6 then (ke  S) else ((f_X7_hasBit x4 x6 S).bind fun q8 => if q8.1 = 0 then (kb b1 x3 x4 x5 (x6 + (1 : Int32)) q8.2) else (fl_X1_hear_63 (fun b1 x3 x4 x5 x6 S => kb b1 x3 x4 x5 (x6 + (1 : Int32)) S) 300 b1 x3 x4 x5 x6 (0 : Int32) q8.2))
def fl_X1_hear_41 (ke : Stt → Option (Stt)) : Nat → Nat → Int32 → Int32 → Int32 → Int32 → Stt → Option (Stt)
  | 0 => fun _ _ _ _ _ _ => none
  | n + 1 => fun b1 x3 x4 x5 x6 S => fb_X1_hear_41 (fl_X1_hear_41 ke n) ke b1 x3 x4 x5 x6 S
def f_X1_hear (b1 : Nat) (x2 : Int32) (S : Stt) : Option (Stt) :=
  (f_X0_bound b1 x2 S).bind fun q1 => (f_X0_factsFor b1 (5 : Int32) q1.1 q1.2).bind fun q3 => (f_X0_factsFor b1 (6 : Int32) q1.1 q3.2).bind fun q5 => fl_X1_hear_41 (fun S => some S) 300 b1 q1.1 q3.1 q5.1 (0 : Int32) (put (put (put q5.2 31 0 0 (0 : Int32)) 32 0 0 (-1 : Int32)) 33 0 0 (0 : Int32))
def fb_X5_takeWords_6 (kb : Int32 → Int32 → Int32 → Stt → Option (Int32 × Stt)) (ke : Int32 → Stt → Option (Int32 × Stt)) (x1 : Int32) (x2 : Int32) (x3 : Int32) (S : Stt) : Option (Int32 × Stt) :=
  if (80 : Int32) ≤ x3 then (ke x1 S) else ((f_X5_isAtFigure  S).bind fun q2 => if q2.1 = 0 then (ke x1 q2.2) else ((f_X5_takeFigure x2 (6 : Int32) q2.2).bind fun q5 => if (q5.2.1 26 0 0) = 0 then (kb (x1 ||| ((1 : Int32) <<< (q5.1 &&& 31))) (q5.1 + (1 : Int32)) (x3 + (1 : Int32)) q5.2) else (some (x1, q5.2))))
def fl_X5_takeWords_6 (ke : Int32 → Stt → Option (Int32 × Stt)) : Nat → Int32 → Int32 → Int32 → Stt → Option (Int32 × Stt)
  | 0 => fun _ _ _ _ => none
  | n + 1 => fun x1 x2 x3 S => fb_X5_takeWords_6 (fl_X5_takeWords_6 ke n) ke x1 x2 x3 S
def f_X5_takeWords (S : Stt) : Option (Int32 × Stt) :=
  fl_X5_takeWords_6 (fun x1 S => some (x1, S)) 300 (0 : Int32) (0 : Int32) (0 : Int32) S
def f_X7_binds (x1 : Int32) (S : Stt) : Option (Int32 × Stt) :=
  (f_X7_isDay x1 S).bind fun q1 => if q1.1 = 0 then (some ((-1 : Int32), q1.2)) else ((f_X0_bound 0 x1 q1.2).bind fun q4 => some (q4.1, q4.2))
def fj_X7_couldMean_88_3 (kb : Int32 → Int32 → Int32 → Int32 → Stt → Option (Int32 × Stt)) (ke : Stt → Option (Int32 × Stt)) (x1 : Int32) (x2 : Int32) (x3 : Int32) (x4 : Int32) (xt0 : Int32) (xt1 : Int32) (S : Stt) : Option (Int32 × Stt) :=
  if xt0 = xt1 then (kb x1 x2 x3 (x4 + (3 : Int32)) S) else (some ((0 : Int32), S))
def fb_X7_couldMean_3 (kb : Int32 → Int32 → Int32 → Int32 → Stt → Option (Int32 × Stt)) (ke : Stt → Option (Int32 × Stt)) (x1 : Int32) (x2 : Int32) (x3 : Int32) (x4 : Int32) (S : Stt) : Option (Int32 × Stt) :=
  (f_X6_sizeOf 0 x1 S).bind fun q1 => if q1.1 ≤ (x4 + (2 : Int32)) then (ke  q1.2) else ((f_X6_placeOf 0 x1 (x4 + (1 : Int32)) q1.2).bind fun q4 => (f_X0_bound 0 q4.1 q4.2).bind fun q6 => (f_X0_casesOne 0 q6.1 x2 x3 q6.2).bind fun q8 => (f_X6_placeOf 0 x1 x4 q8.2).bind fun q10 => (f_X7_hasBit q8.1 q10.1 q10.2).bind fun q12 => (f_X6_placeOf 0 x1 (x4 + (2 : Int32)) q12.2).bind fun q14 => if q14.1 = (1 : Int32) then (fj_X7_couldMean_88_3 kb ke x1 x2 x3 x4 q12.1 (1 : Int32) q14.2) else (fj_X7_couldMean_88_3 kb ke x1 x2 x3 x4 q12.1 (0 : Int32) q14.2))
def fl_X7_couldMean_3 (ke : Stt → Option (Int32 × Stt)) : Nat → Int32 → Int32 → Int32 → Int32 → Stt → Option (Int32 × Stt)
  | 0 => fun _ _ _ _ _ => none
  | n + 1 => fun x1 x2 x3 x4 S => fb_X7_couldMean_3 (fl_X7_couldMean_3 ke n) ke x1 x2 x3 x4 S
def f_X7_couldMean (x1 : Int32) (x2 : Int32) (x3 : Int32) (S : Stt) : Option (Int32 × Stt) :=
  fl_X7_couldMean_3 (fun S => some ((1 : Int32), S)) 300 x1 x2 x3 (0 : Int32) S
def fb_X7_digest_6 (kb : Int64 → Int32 → Stt → Option (Int64 × Stt)) (ke : Int64 → Stt → Option (Int64 × Stt)) (y1 : Int64) (x3 : Int32) (S : Stt) : Option (Int64 × Stt) :=
  if (6 : Int32) < x3 then (ke y1 S) else ((f_X7_count x3 S).bind fun q2 => kb (((31 : Int64) * y1) + q2.1.toInt64) (x3 + (1 : Int32)) q2.2)
def fl_X7_digest_6 (ke : Int64 → Stt → Option (Int64 × Stt)) : Nat → Int64 → Int32 → Stt → Option (Int64 × Stt)
  | 0 => fun _ _ _ => none
  | n + 1 => fun y1 x3 S => fb_X7_digest_6 (fl_X7_digest_6 ke n) ke y1 x3 S
def fb_X7_digest_47 (kb : Int64 → Int32 → Int32 → Stt → Option (Int64 × Stt)) (ke : Int64 → Int32 → Stt → Option (Int64 × Stt)) (y1 : Int64) (x3 : Int32) (x4 : Int32) (S : Stt) : Option (Int64 × Stt) :=
  if (5 : Int32) < x4 then (ke y1 x3 S) else ((f_X0_tell 0 x3 x4 S).bind fun q6 => kb (((31 : Int64) * y1) + q6.1.toInt64) x3 (x4 + (1 : Int32)) q6.2)
def fl_X7_digest_47 (ke : Int64 → Int32 → Stt → Option (Int64 × Stt)) : Nat → Int64 → Int32 → Int32 → Stt → Option (Int64 × Stt)
  | 0 => fun _ _ _ _ => none
  | n + 1 => fun y1 x3 x4 S => fb_X7_digest_47 (fl_X7_digest_47 ke n) ke y1 x3 x4 S
def fb_X7_digest_33 (kb : Int64 → Int32 → Stt → Option (Int64 × Stt)) (ke : Int64 → Stt → Option (Int64 × Stt)) (y1 : Int64) (x3 : Int32) (S : Stt) : Option (Int64 × Stt) :=
  if (S.1 17 0 0) ≤ x3 then (ke y1 S) else (fl_X7_digest_47 (fun y1 x3 S => kb y1 (x3 + (1 : Int32)) S) 300 y1 x3 (0 : Int32) S)
def fl_X7_digest_33 (ke : Int64 → Stt → Option (Int64 × Stt)) : Nat → Int64 → Int32 → Stt → Option (Int64 × Stt)
  | 0 => fun _ _ _ => none
  | n + 1 => fun y1 x3 S => fb_X7_digest_33 (fl_X7_digest_33 ke n) ke y1 x3 S
def fb_X7_digest_85 (kb : Int64 → Int32 → Stt → Option (Int64 × Stt)) (ke : Int64 → Stt → Option (Int64 × Stt)) (y1 : Int64) (x3 : Int32) (S : Stt) : Option (Int64 × Stt) :=
  if (3 : Int32) ≤ x3 then (ke y1 S) else (grd (ixb x3 3) (if (S.1 17 (2 + x3.toNatClampNeg) 0) = 0 then (kb (((31 : Int64) * y1) + ((-1 : Int32)).toInt64) (x3 + (1 : Int32)) S) else (grd (ixb x3 3) (kb (((31 : Int64) * y1) + (S.1 17 (2 + x3.toNatClampNeg) 0).toInt64) (x3 + (1 : Int32)) S))))
def fl_X7_digest_85 (ke : Int64 → Stt → Option (Int64 × Stt)) : Nat → Int64 → Int32 → Stt → Option (Int64 × Stt)
  | 0 => fun _ _ _ => none
  | n + 1 => fun y1 x3 S => fb_X7_digest_85 (fl_X7_digest_85 ke n) ke y1 x3 S
def f_X7_digest (S : Stt) : Option (Int64 × Stt) :=
  fl_X7_digest_6 (fun y1 S => fl_X7_digest_33 (fun y1 S => fl_X7_digest_85 (fun y1 S => (f_X6_digestOn 0 y1 S).bind fun q12 => (f_X6_digestOn 1 q12.1 q12.2).bind fun q14 => some (q14.1, q14.2)) 300 y1 (0 : Int32) S) 300 y1 (0 : Int32) S) 300 (17 : Int64) (0 : Int32) S
def f_X7_judge (x1 : Int32) (x2 : Int32) (x3 : Int32) (S : Stt) : Option (Int32 × Stt) :=
  (f_X7_isCase x1 S).bind fun q1 => if q1.1 = 0 then (some ((-1 : Int32), q1.2)) else ((f_X7_isDay x3 q1.2).bind fun q4 => if q4.1 = 0 then (some ((-1 : Int32), q4.2)) else (if 0 ≤ x2 then (if (5 : Int32) ≤ (x2 / (10 : Int32)) then (some ((-1 : Int32), q4.2)) else (if (x2 - x2 / (10 : Int32) * (10 : Int32)) < (5 : Int32) then ((f_X0_bound 0 x3 q4.2).bind fun q10 => (f_X0_factsFor 0 (5 : Int32) q10.1 q10.2).bind fun q12 => (f_X7_hasBit q12.1 (x2 / (10 : Int32)) q12.2).bind fun q14 => if q14.1 = 0 then (some ((-1 : Int32), q14.2)) else ((f_X0_factsFor 0 (6 : Int32) q10.1 q14.2).bind fun q17 => (f_X7_hasBit q17.1 (x2 - x2 / (10 : Int32) * (10 : Int32)) q17.2).bind fun q19 => if q19.1 = 0 then (some ((-1 : Int32), q19.2)) else ((f_X0_judgeOf 0 x1 q10.1 (x2 / (10 : Int32)) (x2 - x2 / (10 : Int32) * (10 : Int32)) q19.2).bind fun q22 => some (q22.1, q22.2)))) else (some ((-1 : Int32), q4.2)))) else (some ((-1 : Int32), q4.2))))
def f_X7_mark (x1 : Int32) (x2 : Int32) (S : Stt) : Option (Int32 × Stt) :=
  (f_X0_isOne 0 x1 S).bind fun q1 => if q1.1 = 0 then (some ((-1 : Int32), q1.2)) else (if x2 < (1 : Int32) then (some ((-1 : Int32), q1.2)) else (if x2 ≤ (5 : Int32) then (grd (ixb x1 6) ((f_X3_isOf 0 x1.toNatClampNeg x2 q1.2).bind fun q7 => if q7.1 = 0 then ((f_X7_refuse (3 : Int32) q7.2).bind fun q26 => some (q26.1, q26.2)) else (if x2 = (1 : Int32) then (grd (ixb x1 6) ((f_X3_weight 0 x1.toNatClampNeg q7.2).bind fun q12 => some (q12.1, q12.2))) else (if x2 = (2 : Int32) then ((f_X0_holds 0 x1 (20 : Int32) q7.2).bind fun q15 => if q15.1 = 0 then (some ((0 : Int32), q15.2)) else (some ((1 : Int32), q15.2))) else (if x2 = (3 : Int32) then (grd (ixb x1 6) ((f_X0_havingWords 0 (q7.2.1 13 0 x1.toNatClampNeg) q7.2).bind fun q20 => some (q20.1, q20.2))) else (if x2 = (4 : Int32) then (grd (ixb x1 6) (some (((q7.2.1 15 0 x1.toNatClampNeg) + (2 : Int32)), q7.2))) else ((f_X0_firstDayOf 0 x1 q7.2).bind fun q24 => some (q24.1, q24.2)))))))) else (some ((-1 : Int32), q1.2))))
def f_X7_meanings (x1 : Int32) (S : Stt) : Option (Int32 × Stt) :=
  (f_X7_isDay x1 S).bind fun q1 => if q1.1 = 0 then (some ((-1 : Int32), q1.2)) else ((f_X0_bound 0 x1 q1.2).bind fun q4 => (f_X0_factsFor 0 (5 : Int32) q4.1 q4.2).bind fun q6 => (f_J6_bitCount_0f7a4 q6.1 q6.2).bind fun q8 => (f_X0_factsFor 0 (6 : Int32) q4.1 q8.2).bind fun q10 => (f_J6_bitCount_0f7a4 q10.1 q10.2).bind fun q12 => some ((q8.1 * q12.1), q12.2))
def fj_X7_means_11 (x1 : Int32) (x2 : Int32) (S : Stt) : Option (Int32 × Stt) :=
  (f_X7_isDay x2 S).bind fun q2 => if q2.1 = 0 then (some ((-1 : Int32), q2.2)) else ((f_X0_bound 0 x2 q2.2).bind fun q5 => (f_X0_factsFor 0 x1 q5.1 q5.2).bind fun q7 => some (q7.1, q7.2))
def f_X7_means (x1 : Int32) (x2 : Int32) (S : Stt) : Option (Int32 × Stt) :=
  if x1 = (5 : Int32) then (fj_X7_means_11 x1 x2 S) else (if x1 = (6 : Int32) then (fj_X7_means_11 x1 x2 S) else (some ((-1 : Int32), S)))
def fb_X7_never_6 (kb : Int32 → Int32 → Int32 → Stt → Option (Int32 × Stt)) (ke : Int32 → Int32 → Stt → Option (Int32 × Stt)) (x1 : Int32) (x2 : Int32) (x3 : Int32) (S : Stt) : Option (Int32 × Stt) :=
  if (S.1 17 0 0) ≤ x3 then (ke x1 x2 S) else ((f_X0_firstDayOf 0 x3 S).bind fun q2 => if q2.1 = (-9 : Int32) then ((f_X0_isInRing 0 x3 q2.2).bind fun q5 => if q5.1 = 0 then (kb (x1 ||| ((1 : Int32) <<< (x3 &&& 31))) x2 (x3 + (1 : Int32)) q5.2) else (kb (x1 ||| ((1 : Int32) <<< (x3 &&& 31))) (x2 ||| ((1 : Int32) <<< (x3 &&& 31))) (x3 + (1 : Int32)) q5.2)) else (kb x1 x2 (x3 + (1 : Int32)) q2.2))
def fl_X7_never_6 (ke : Int32 → Int32 → Stt → Option (Int32 × Stt)) : Nat → Int32 → Int32 → Int32 → Stt → Option (Int32 × Stt)
  | 0 => fun _ _ _ _ => none
  | n + 1 => fun x1 x2 x3 S => fb_X7_never_6 (fl_X7_never_6 ke n) ke x1 x2 x3 S
def f_X7_never (S : Stt) : Option (Int32 × Stt) :=
  fl_X7_never_6 (fun x1 x2 S => some (x1, (put S 62 0 0 x2))) 300 (0 : Int32) (0 : Int32) (0 : Int32) S
def fb_X8_askedDeeds_31 (kb : Int32 → Int32 → Stt → Option (Int32 × Stt)) (ke : Stt → Option (Int32 × Stt)) (x1 : Int32) (x4 : Int32) (S : Stt) : Option (Int32 × Stt) :=
  grd (ixb x1 6) (if (S.1 2 0 x1.toNatClampNeg) ≤ x4 then (ke  S) else ((f_X8_rowAt x1 x4 S).bind fun q8 => (f_X8_isCase q8.1 q8.2).bind fun q10 => if q10.1 = 0 then ((f_X8_meet (3 : Int32) q10.2).bind fun q13 => some (q13.1, q13.2)) else (kb x1 (x4 + (1 : Int32)) q10.2)))
def fl_X8_askedDeeds_31 (ke : Stt → Option (Int32 × Stt)) : Nat → Int32 → Int32 → Stt → Option (Int32 × Stt)
  | 0 => fun _ _ _ => none
  | n + 1 => fun x1 x4 S => fb_X8_askedDeeds_31 (fl_X8_askedDeeds_31 ke n) ke x1 x4 S
def f_X8_askedDeeds (x1 : Int32) (x2 : Int32) (S : Stt) : Option (Int32 × Stt) :=
  (f_X8_askedRow x1 S).bind fun q1 => if 0 ≤ q1.1 then (grd (ixb x1 6) (if (q1.2.1 2 0 x1.toNatClampNeg) ≤ x2 then (fl_X8_askedDeeds_31 (fun S => some ((0 : Int32), S)) 300 x1 (0 : Int32) q1.2) else ((f_X8_meet (5 : Int32) q1.2).bind fun q15 => some (q15.1, q15.2)))) else (some (q1.1, q1.2))
def f_X8_at (x1 : Int32) (x2 : Int32) (S : Stt) : Option (Int32 × Stt) :=
  (f_X8_askedRow x1 S).bind fun q1 => if 0 ≤ q1.1 then (grd (ixb x1 6) ((f_X8_in x2 (0 : Int32) ((q1.2.1 2 0 x1.toNatClampNeg) - (1 : Int32)) q1.2).bind fun q5 => if q5.1 = 0 then ((f_X8_meet (2 : Int32) q5.2).bind fun q8 => some (q8.1, q8.2)) else ((f_X8_rowAt x1 x2 q5.2).bind fun q10 => (f_X8_ask q10.1 (1 : Int32) q10.2).bind fun q12 => some (q12.1, q12.2)))) else (some (q1.1, q1.2))
def fb_X8_bindSet_4 (kb : Int32 → Int32 → Int32 → Stt → Option (Int32 × Stt)) (ke : Int32 → Stt → Option (Int32 × Stt)) (x1 : Int32) (x2 : Int32) (x3 : Int32) (S : Stt) : Option (Int32 × Stt) :=
  if (S.1 0 10 0) ≤ x3 then (ke x2 S) else ((f_X8_doesBind x3 x1 S).bind fun q2 => if q2.1 = 0 then (kb x1 (x2 ||| (0 : Int32)) (x3 + (1 : Int32)) q2.2) else (kb x1 (x2 ||| ((1 : Int32) <<< (x3 &&& 31))) (x3 + (1 : Int32)) q2.2))
def fl_X8_bindSet_4 (ke : Int32 → Stt → Option (Int32 × Stt)) : Nat → Int32 → Int32 → Int32 → Stt → Option (Int32 × Stt)
  | 0 => fun _ _ _ _ => none
  | n + 1 => fun x1 x2 x3 S => fb_X8_bindSet_4 (fl_X8_bindSet_4 ke n) ke x1 x2 x3 S
def f_X8_bindSet (x1 : Int32) (S : Stt) : Option (Int32 × Stt) :=
  fl_X8_bindSet_4 (fun x2 S => some (x2, S)) 300 x1 (0 : Int32) (0 : Int32) S
def f_X8_givenBy (x1 : Int32) (x2 : Int32) (x3 : Int32) (x4 : Int32) (S : Stt) : Option (Int32 × Stt) :=
  (f_X8_soOf x1 x2 x3 S).bind fun q1 => (f_X8_judgeBy q1.1 x4 q1.2).bind fun q3 => if q3.1 = (-9 : Int32) then (some ((0 : Int32), q3.2)) else (grd (ixb q3.1 6) (some ((q3.2.1 8 0 q3.1.toNatClampNeg), q3.2)))
def fb_X8_goesOn_10 (kb : Int32 → Stt → Option (Int32 × Stt)) (ke : Stt → Option (Int32 × Stt)) (x1 : Int32) (S : Stt) : Option (Int32 × Stt) :=
  grd (ixb x1 4) (if (S.1 5 0 x1.toNatClampNeg) ≤ (S.1 0 17 0) then (some ((-9 : Int32), S)) else ((f_X8_here x1 S).bind fun q3 => if q3.1 = (32 : Int32) then (kb x1 (put q3.2 0 17 0 ((q3.2.1 0 17 0) + (1 : Int32)))) else ((f_X8_readsPage x1 q3.2).bind fun q6 => if q6.1 = 0 then (ke  q6.2) else (kb x1 q6.2))))
def fl_X8_goesOn_10 (ke : Stt → Option (Int32 × Stt)) : Nat → Int32 → Stt → Option (Int32 × Stt)
  | 0 => fun _ _ => none
  | n + 1 => fun x1 S => fb_X8_goesOn_10 (fl_X8_goesOn_10 ke n) ke x1 S
def f_X8_goesOn (x1 : Int32) (S : Stt) : Option (Int32 × Stt) :=
  fl_X8_goesOn_10 (fun S => some ((S.1 0 17 0), S)) 300 x1 (put (put S 0 17 0 (0 : Int32)) 0 18 0 (0 : Int32))
def fb_X8_layTold_9 (kb : Int32 → Int32 → Int32 → Stt → Option (Stt)) (ke : Stt → Option (Stt)) (x1 : Int32) (x2 : Int32) (x3 : Int32) (S : Stt) : Option (Stt) :=
  if x2 ≤ x3 then (ke  S) else (grd (ixb x3 8) ((f_X8_setRow x1 x3 (S.1 15 0 x3.toNatClampNeg) S).bind fun q5 => kb x1 x2 (x3 + (1 : Int32)) q5))
def fl_X8_layTold_9 (ke : Stt → Option (Stt)) : Nat → Int32 → Int32 → Int32 → Stt → Option (Stt)
  | 0 => fun _ _ _ _ => none
  | n + 1 => fun x1 x2 x3 S => fb_X8_layTold_9 (fl_X8_layTold_9 ke n) ke x1 x2 x3 S
def f_X8_layTold (x1 : Int32) (x2 : Int32) (S : Stt) : Option (Stt) :=
  (f_X8_row x1 x2 S).bind fun q1 => fl_X8_layTold_9 (fun S => some S) 300 x1 x2 (0 : Int32) q1.2
def fb_X8_mark_43 (kb : Int32 → Int32 → Int32 → Int32 → Int32 → Stt → Option (Int32 × Stt)) (ke : Int32 → Int32 → Int32 → Int32 → Stt → Option (Int32 × Stt)) (x1 : Int32) (x2 : Int32) (x3 : Int32) (x4 : Int32) (x5 : Int32) (S : Stt) : Option (Int32 × Stt) :=
  if (S.1 0 10 0) ≤ x5 then (ke x1 x2 x3 x4 S) else (grd (ixb x5 6) (if (S.1 7 0 x5.toNatClampNeg) = (3 : Int32) then (kb x1 x2 (x3 + (0 : Int32)) x4 (x5 + (1 : Int32)) S) else (grd (ixb x5 6) (grd (ixb x1 6) (if ((S.1 9 0 x5.toNatClampNeg) &&& (S.1 9 0 x1.toNatClampNeg)) = 0 then (kb x1 x2 (x3 + (0 : Int32)) x4 (x5 + (1 : Int32)) S) else (kb x1 x2 (x3 + (1 : Int32)) x4 (x5 + (1 : Int32)) S))))))
def fl_X8_mark_43 (ke : Int32 → Int32 → Int32 → Int32 → Stt → Option (Int32 × Stt)) : Nat → Int32 → Int32 → Int32 → Int32 → Int32 → Stt → Option (Int32 × Stt)
  | 0 => fun _ _ _ _ _ _ => none
  | n + 1 => fun x1 x2 x3 x4 x5 S => fb_X8_mark_43 (fl_X8_mark_43 ke n) ke x1 x2 x3 x4 x5 S
def fb_X8_mark_98 (kb : Int32 → Int32 → Int32 → Int32 → Int32 → Stt → Option (Int32 × Stt)) (ke : Int32 → Int32 → Int32 → Int32 → Stt → Option (Int32 × Stt)) (x1 : Int32) (x2 : Int32) (x3 : Int32) (x4 : Int32) (x5 : Int32) (S : Stt) : Option (Int32 × Stt) :=
  if x5 < 0 then (ke x1 x2 x3 x4 S) else ((f_X8_doesBind x1 x5 S).bind fun q17 => if q17.1 = 0 then (kb x1 x2 x3 x4 (x5 + (-1 : Int32)) q17.2) else (kb x1 x2 x3 x5 (x5 + (-1 : Int32)) q17.2))
def fl_X8_mark_98 (ke : Int32 → Int32 → Int32 → Int32 → Stt → Option (Int32 × Stt)) : Nat → Int32 → Int32 → Int32 → Int32 → Int32 → Stt → Option (Int32 × Stt)
  | 0 => fun _ _ _ _ _ _ => none
  | n + 1 => fun x1 x2 x3 x4 x5 S => fb_X8_mark_98 (fl_X8_mark_98 ke n) ke x1 x2 x3 x4 x5 S
def f_X8_mark (x1 : Int32) (x2 : Int32) (S : Stt) : Option (Int32 × Stt) :=
  (f_X8_isPage x1 S).bind fun q1 => if q1.1 = 0 then (some ((-1 : Int32), q1.2)) else ((f_X8_in x2 (1 : Int32) (5 : Int32) q1.2).bind fun q4 => if q4.1 = 0 then (some ((-1 : Int32), q4.2)) else ((f_X8_isA x1 x2 q4.2).bind fun q7 => if q7.1 = 0 then ((f_X8_meet (3 : Int32) q7.2).bind fun q30 => some (q30.1, q30.2)) else (fl_X8_mark_43 (fun x1 x2 x3 x4 S => fl_X8_mark_98 (fun x1 x2 x3 x4 S => if x2 = (1 : Int32) then ((f_X8_weightOf x1 S).bind fun q21 => some (q21.1, q21.2)) else (if x2 = (2 : Int32) then ((f_X8_doesBind x1 (20 : Int32) S).bind fun q24 => if q24.1 = 0 then (some ((0 : Int32), q24.2)) else (some ((1 : Int32), q24.2))) else (if x2 = (3 : Int32) then (some (x3, S)) else (if x2 = (4 : Int32) then (grd (ixb x1 6) (some (((S.1 12 0 x1.toNatClampNeg) + (2 : Int32)), S))) else (some (x4, S)))))) 300 x1 x2 x3 x4 (20 : Int32) S) 300 x1 x2 (0 : Int32) (-9 : Int32) (0 : Int32) q7.2)))
def fb_X8_mean_17 (kb : Int32 → Int64 → Int32 → Stt → Option (Int32 × Stt)) (ke : Int32 → Int64 → Stt → Option (Int32 × Stt)) (x1 : Int32) (y3 : Int64) (x5 : Int32) (S : Stt) : Option (Int32 × Stt) :=
  grd (ixb x1 6) (if (S.1 2 0 x1.toNatClampNeg) ≤ x5 then (ke x1 y3 S) else ((f_X8_rowAt x1 x5 S).bind fun q6 => kb x1 (y3 + q6.1.toInt64) (x5 + (1 : Int32)) q6.2))
def fl_X8_mean_17 (ke : Int32 → Int64 → Stt → Option (Int32 × Stt)) : Nat → Int32 → Int64 → Int32 → Stt → Option (Int32 × Stt)
  | 0 => fun _ _ _ _ => none
  | n + 1 => fun x1 y3 x5 S => fb_X8_mean_17 (fl_X8_mean_17 ke n) ke x1 y3 x5 S
def f_X8_mean (x1 : Int32) (S : Stt) : Option (Int32 × Stt) :=
  (f_X8_askedRow x1 S).bind fun q1 => if 0 ≤ q1.1 then (fl_X8_mean_17 (fun x1 y3 S => grd (ixb x1 6) (if (S.1 2 0 x1.toNatClampNeg) = 0 then ((f_X8_meet (4 : Int32) S).bind fun q14 => some (q14.1, q14.2)) else (grd (ixb x1 6) (grd (decide (¬ (S.1 2 0 x1.toNatClampNeg).toInt64 = 0)) ((f_X8_ask ((y3 / (S.1 2 0 x1.toNatClampNeg).toInt64).toInt32) (1 : Int32) S).bind fun q12 => some (q12.1, q12.2)))))) 300 x1 (0 : Int64) (0 : Int32) q1.2) else (some (q1.1, q1.2))
def fj_X8_meanOf_55_6 (kb : Int32 → Int32 → Int32 → Int32 → Stt → Option (Int32 × Stt)) (ke : Int32 → Stt → Option (Int32 × Stt)) (x1 : Int32) (x2 : Int32) (x3 : Int32) (x4 : Int32) (xt0 : Int32) (S : Stt) : Option (Int32 × Stt) :=
  if xt0 = 0 then (kb x1 x2 x3 (x4 + (1 : Int32)) S) else (if x3 = (-9 : Int32) then (kb x1 x2 x4 (x4 + (1 : Int32)) S) else (grd (ixb x4 6) (grd (ixb x3 6) (if (S.1 12 0 x4.toNatClampNeg) ≤ (S.1 12 0 x3.toNatClampNeg) then (kb x1 x2 x3 (x4 + (1 : Int32)) S) else (kb x1 x2 x4 (x4 + (1 : Int32)) S)))))
def fj_X8_meanOf_54_6 (kb : Int32 → Int32 → Int32 → Int32 → Stt → Option (Int32 × Stt)) (ke : Int32 → Stt → Option (Int32 × Stt)) (x1 : Int32) (x2 : Int32) (x3 : Int32) (x4 : Int32) (S : Stt) : Option (Int32 × Stt) :=
  fj_X8_meanOf_55_6 kb ke x1 x2 x3 x4 (0 : Int32) S
def fb_X8_meanOf_6 (kb : Int32 → Int32 → Int32 → Int32 → Stt → Option (Int32 × Stt)) (ke : Int32 → Stt → Option (Int32 × Stt)) (x1 : Int32) (x2 : Int32) (x3 : Int32) (x4 : Int32) (S : Stt) : Option (Int32 × Stt) :=
  if (S.1 0 10 0) ≤ x4 then (ke x3 S) else (grd (ixb x4 6) (if (S.1 7 0 x4.toNatClampNeg) = (3 : Int32) then (grd (ixb x4 6) ((f_X8_has (S.1 9 0 x4.toNatClampNeg) x1 S).bind fun q10 => if q10.1 = 0 then (fj_X8_meanOf_54_6 kb ke x1 x2 x3 x4 q10.2) else ((f_X8_doesBind x4 x2 q10.2).bind fun q13 => if q13.1 = 0 then (fj_X8_meanOf_54_6 kb ke x1 x2 x3 x4 q13.2) else (fj_X8_meanOf_55_6 kb ke x1 x2 x3 x4 (1 : Int32) q13.2)))) else (fj_X8_meanOf_54_6 kb ke x1 x2 x3 x4 S)))
def fl_X8_meanOf_6 (ke : Int32 → Stt → Option (Int32 × Stt)) : Nat → Int32 → Int32 → Int32 → Int32 → Stt → Option (Int32 × Stt)
  | 0 => fun _ _ _ _ _ => none
  | n + 1 => fun x1 x2 x3 x4 S => fb_X8_meanOf_6 (fl_X8_meanOf_6 ke n) ke x1 x2 x3 x4 S
def f_X8_meanOf (x1 : Int32) (x2 : Int32) (S : Stt) : Option (Int32 × Stt) :=
  fl_X8_meanOf_6 (fun x3 S => if x3 = (-9 : Int32) then (some ((31 : Int32), S)) else (grd (ixb x3 6) (some (((1 : Int32) <<< ((S.1 11 0 x3.toNatClampNeg) &&& 31)), S)))) 300 x1 x2 (-9 : Int32) (0 : Int32) S
def fb_X8_never_20 (kb : Int32 → Int32 → Int32 → Int32 → Int32 → Stt → Option (Int32 × Stt)) (ke : Int32 → Int32 → Int32 → Int32 → Stt → Option (Int32 × Stt)) (x1 : Int32) (x2 : Int32) (x3 : Int32) (x4 : Int32) (x5 : Int32) (S : Stt) : Option (Int32 × Stt) :=
  if (20 : Int32) < x5 then (ke x1 x2 x3 x4 S) else (if x4 = 0 then ((f_X8_doesBind x3 x5 S).bind fun q4 => if q4.1 = 0 then (kb x1 x2 x3 (0 : Int32) (x5 + (1 : Int32)) q4.2) else (kb x1 x2 x3 (1 : Int32) (x5 + (1 : Int32)) q4.2)) else (kb x1 x2 x3 (1 : Int32) (x5 + (1 : Int32)) S))
def fl_X8_never_20 (ke : Int32 → Int32 → Int32 → Int32 → Stt → Option (Int32 × Stt)) : Nat → Int32 → Int32 → Int32 → Int32 → Int32 → Stt → Option (Int32 × Stt)
  | 0 => fun _ _ _ _ _ _ => none
  | n + 1 => fun x1 x2 x3 x4 x5 S => fb_X8_never_20 (fl_X8_never_20 ke n) ke x1 x2 x3 x4 x5 S
def fj_X8_never_68_6 (kb : Int32 → Int32 → Int32 → Stt → Option (Int32 × Stt)) (ke : Int32 → Int32 → Stt → Option (Int32 × Stt)) (x2 : Int32) (x3 : Int32) (x4 : Int32) (xt0 : Int32) (xt1 : Int32) (S : Stt) : Option (Int32 × Stt) :=
  if x4 = 0 then ((f_X8_isInRing x3 S).bind fun q9 => if q9.1 = 0 then (kb (xt0 ||| xt1) (x2 ||| (0 : Int32)) (x3 + (1 : Int32)) q9.2) else (kb (xt0 ||| xt1) (x2 ||| ((1 : Int32) <<< (x3 &&& 31))) (x3 + (1 : Int32)) q9.2)) else (kb (xt0 ||| xt1) (x2 ||| (0 : Int32)) (x3 + (1 : Int32)) S)
def fb_X8_never_6 (kb : Int32 → Int32 → Int32 → Stt → Option (Int32 × Stt)) (ke : Int32 → Int32 → Stt → Option (Int32 × Stt)) (x1 : Int32) (x2 : Int32) (x3 : Int32) (S : Stt) : Option (Int32 × Stt) :=
  if (S.1 0 10 0) ≤ x3 then (ke x1 x2 S) else (fl_X8_never_20 (fun x1 x2 x3 x4 S => if x4 = 0 then (fj_X8_never_68_6 kb ke x2 x3 x4 x1 ((1 : Int32) <<< (x3 &&& 31)) S) else (fj_X8_never_68_6 kb ke x2 x3 x4 x1 (0 : Int32) S)) 300 x1 x2 x3 (0 : Int32) (0 : Int32) S)
def fl_X8_never_6 (ke : Int32 → Int32 → Stt → Option (Int32 × Stt)) : Nat → Int32 → Int32 → Int32 → Stt → Option (Int32 × Stt)
  | 0 => fun _ _ _ _ => none
  | n + 1 => fun x1 x2 x3 S => fb_X8_never_6 (fl_X8_never_6 ke n) ke x1 x2 x3 S
def f_X8_never (S : Stt) : Option (Int32 × Stt) :=
  fl_X8_never_6 (fun x1 x2 S => (f_X8_ask x2 x1 S).bind fun q12 => some (q12.1, q12.2)) 300 (0 : Int32) (0 : Int32) (0 : Int32) S
def f_X8_put (x1 : Int32) (x2 : Int32) (x3 : Int32) (S : Stt) : Option (Int32 × Stt) :=
  (f_X8_askedText x1 S).bind fun q1 => if 0 ≤ q1.1 then (grd (ixb x1 4) ((f_X8_in x2 (0 : Int32) ((q1.2.1 5 0 x1.toNatClampNeg) - (1 : Int32)) q1.2).bind fun q5 => if q5.1 = 0 then ((f_X8_meet (2 : Int32) q5.2).bind fun q10 => some (q10.1, q10.2)) else (grd (ixb (((80 : Int32) * x1) + x2) 320) (grd (ixb (((80 : Int32) * x1) + x2) 320) (some (((q5.2.1 6 0 (((80 : Int32) * x1) + x2).toNatClampNeg) + (1000 : Int32)), (put q5.2 6 0 (((80 : Int32) * x1) + x2).toNatClampNeg x3.toInt8.toInt32))))))) else (some (q1.1, q1.2))
def fb_X8_read_55 (kb : Int32 → Int32 → Int32 → Stt → Option (Int32 × Stt)) (ke : Int32 → Int32 → Stt → Option (Int32 × Stt)) (x1 : Int32) (x3 : Int32) (x4 : Int32) (S : Stt) : Option (Int32 × Stt) :=
  if (S.1 0 10 0) ≤ x4 then (ke x1 x3 S) else ((f_X8_rowAt x1 x4 S).bind fun q11 => (f_X8_isPage q11.1 q11.2).bind fun q13 => if q13.1 = 0 then (kb x1 (x3 ||| (0 : Int32)) (x4 + (1 : Int32)) q13.2) else ((f_X8_rowAt x1 x4 q13.2).bind fun q16 => kb x1 (x3 ||| ((1 : Int32) <<< (q16.1 &&& 31))) (x4 + (1 : Int32)) q16.2))
def fl_X8_read_55 (ke : Int32 → Int32 → Stt → Option (Int32 × Stt)) : Nat → Int32 → Int32 → Int32 → Stt → Option (Int32 × Stt)
  | 0 => fun _ _ _ _ => none
  | n + 1 => fun x1 x3 x4 S => fb_X8_read_55 (fl_X8_read_55 ke n) ke x1 x3 x4 S
def fb_X8_read_121 (kb : Int32 → Int32 → Stt → Option (Int32 × Stt)) (ke : Stt → Option (Int32 × Stt)) (x1 : Int32) (x4 : Int32) (S : Stt) : Option (Int32 × Stt) :=
  if (S.1 0 10 0) ≤ x4 then (ke  S) else ((f_X8_rowAt x1 x4 S).bind fun q20 => grd (ixb q20.1 6) (kb x1 (x4 + (1 : Int32)) (put q20.2 12 0 q20.1.toNatClampNeg x4)))
def fl_X8_read_121 (ke : Stt → Option (Int32 × Stt)) : Nat → Int32 → Int32 → Stt → Option (Int32 × Stt)
  | 0 => fun _ _ _ => none
  | n + 1 => fun x1 x4 S => fb_X8_read_121 (fl_X8_read_121 ke n) ke x1 x4 S
def f_X8_read (x1 : Int32) (S : Stt) : Option (Int32 × Stt) :=
  (f_X8_isRow x1 S).bind fun q1 => if q1.1 = 0 then (some ((-1 : Int32), q1.2)) else (if (q1.2.1 0 10 0) = 0 then (some ((-4 : Int32), q1.2)) else ((f_X8_askedRow x1 q1.2).bind fun q5 => if 0 ≤ q5.1 then (grd (ixb x1 6) (if (q5.2.1 2 0 x1.toNatClampNeg) = (q5.2.1 0 10 0) then (fl_X8_read_55 (fun x1 x3 S => if x3 = (((1 : Int32) <<< ((S.1 0 10 0) &&& 31)) - (1 : Int32)) then (fl_X8_read_121 (fun S => some ((1 : Int32), S)) 300 x1 (0 : Int32) S) else ((f_X8_meet (3 : Int32) S).bind fun q23 => some (q23.1, q23.2))) 300 x1 (0 : Int32) (0 : Int32) q5.2) else ((f_X8_meet (5 : Int32) q5.2).bind fun q25 => some (q25.1, q25.2)))) else (some (q5.1, q5.2))))
def f_X8_tear (x1 : Int32) (S : Stt) : Option (Int32 × Stt) :=
  (f_X8_askedRow x1 S).bind fun q1 => if 0 ≤ q1.1 then (grd (ixb x1 6) (some ((1 : Int32), (put q1.2 2 0 x1.toNatClampNeg (-9 : Int32))))) else (some (q1.1, q1.2))
def f_X0_leaveOut (b0 : Nat) (x1 : Int32) (S : Stt) : Option (Stt) :=
  (f_X0_isOne b0 x1 S).bind fun q1 => if q1.1 = 0 then (some q1.2) else (grd (ixb x1 6) ((f_X0_changeKind b0 x1 (0 : Int32) (put q1.2 15 b0 x1.toNatClampNeg (99 : Int32))).bind fun q5 => some q5))
def fb_X1_hearReading_10 (kb : Nat → Int32 → Stt → Option (Stt)) (ke : Stt → Option (Stt)) (b1 : Nat) (x2 : Int32) (S : Stt) : Option (Stt) :=
  if (S.1 36 0 0) ≤ x2 then (ke  S) else ((f_X1_hear b1 x2 S).bind fun q2 => grd (ixb x2 6) (grd (ixb x2 6) (kb b1 (x2 + (1 : Int32)) (put (put q2 34 0 x2.toNatClampNeg (q2.1 32 0 0)) 35 0 x2.toNatClampNeg ((put q2 34 0 x2.toNatClampNeg (q2.1 32 0 0)).1 33 0 0)))))
def fl_X1_hearReading_10 (ke : Stt → Option (Stt)) : Nat → Nat → Int32 → Stt → Option (Stt)
  | 0 => fun _ _ _ => none
  | n + 1 => fun b1 x2 S => fb_X1_hearReading_10 (fl_X1_hearReading_10 ke n) ke b1 x2 S
def f_X1_hearReading (b1 : Nat) (S : Stt) : Option (Stt) :=
  fl_X1_hearReading_10 (fun S => some S) 300 b1 (0 : Int32) (put S 36 0 0 (S.1 17 b1 0))
def fb_X1_waitingInAll_4 (kb : Nat → Int32 → Int32 → Stt → Option (Int32 × Stt)) (ke : Int32 → Stt → Option (Int32 × Stt)) (b1 : Nat) (x2 : Int32) (x3 : Int32) (S : Stt) : Option (Int32 × Stt) :=
  if (S.1 17 b1 0) ≤ x3 then (ke x2 S) else ((f_X1_hear b1 x3 S).bind fun q2 => (f_X1_waiting  q2).bind fun q4 => (f_J6_bitCount_0f7a4 q4.1 q4.2).bind fun q6 => kb b1 (x2 + q6.1) (x3 + (1 : Int32)) q6.2)
def fl_X1_waitingInAll_4 (ke : Int32 → Stt → Option (Int32 × Stt)) : Nat → Nat → Int32 → Int32 → Stt → Option (Int32 × Stt)
  | 0 => fun _ _ _ _ => none
  | n + 1 => fun b1 x2 x3 S => fb_X1_waitingInAll_4 (fl_X1_waitingInAll_4 ke n) ke b1 x2 x3 S
def f_X1_waitingInAll (b1 : Nat) (S : Stt) : Option (Int32 × Stt) :=
  fl_X1_waitingInAll_4 (fun x2 S => some (x2, S)) 300 b1 (0 : Int32) (0 : Int32) S
def fb_X4_take_17 (kb : Nat → Int32 → Nat → Int32 → Stt → Option (Stt)) (ke : Nat → Stt → Option (Stt)) (z1 : Nat) (x2 : Int32) (b4 : Nat) (x5 : Int32) (S : Stt) : Option (Stt) :=
  if (S.1 42 0 0) ≤ x5 then (ke b4 S) else ((f_X6_placeOf z1 x2 x5 S).bind fun q4 => grd (ixb x5 8) (kb z1 x2 b4 (x5 + (1 : Int32)) (put q4.2 41 0 x5.toNatClampNeg q4.1)))
def fl_X4_take_17 (ke : Nat → Stt → Option (Stt)) : Nat → Nat → Int32 → Nat → Int32 → Stt → Option (Stt)
  | 0 => fun _ _ _ _ _ => none
  | n + 1 => fun z1 x2 b4 x5 S => fb_X4_take_17 (fl_X4_take_17 ke n) ke z1 x2 b4 x5 S
def fb_X4_take_49 (kb : Nat → Int32 → Stt → Option (Stt)) (ke : Stt → Option (Stt)) (b4 : Nat) (x5 : Int32) (S : Stt) : Option (Stt) :=
  if (20 : Int32) < x5 then (ke  S) else ((f_X1_hear b4 x5 S).bind fun q8 => grd (ixb x5 21) (kb b4 (x5 + (1 : Int32)) (put q8 40 0 x5.toNatClampNeg ((q8.1 33 0 0) ^^^ (-1 : Int32)))))
def fl_X4_take_49 (ke : Stt → Option (Stt)) : Nat → Nat → Int32 → Stt → Option (Stt)
  | 0 => fun _ _ _ => none
  | n + 1 => fun b4 x5 S => fb_X4_take_49 (fl_X4_take_49 ke n) ke b4 x5 S
def f_X4_take (z1 : Nat) (x2 : Int32) (b4 : Nat) (S : Stt) : Option (Stt) :=
  (f_X6_sizeOf z1 x2 S).bind fun q1 => fl_X4_take_17 (fun b4 S => fl_X4_take_49 (fun S => some S) 300 b4 (0 : Int32) S) 300 z1 x2 b4 (0 : Int32) (put q1.2 42 0 0 (if (8 : Int32) < q1.1 then (8 : Int32) else q1.1))
def fj_X5_takeItem_97 (b1 : Nat) (x2 : Int32) (xt0 : Int32) (S : Stt) : Option (Stt) :=
  (f_X5_takeFigure (0 : Int32) (1 : Int32) S).bind fun q11 => (f_X5_takeWords  q11.2).bind fun q13 => (f_X0_append b1 x2 xt0 q11.1 q13.1 (-9 : Int32) q13.2).bind fun q15 => some q15
def fj_X5_takeItem_86 (b1 : Nat) (x2 : Int32) (S : Stt) : Option (Stt) :=
  (f_X5_takeFigure (0 : Int32) (5 : Int32) S).bind fun q9 => fj_X5_takeItem_97 b1 x2 q9.1 q9.2
def f_X5_takeItem (b1 : Nat) (S : Stt) : Option (Stt) :=
  (f_X5_sign  S).bind fun q1 => (f_X5_kindByLetter q1.1 q1.2).bind fun q3 => if q3.1 = (-9 : Int32) then (some (put q3.2 26 0 0 (1 : Int32))) else (if (q3.2.1 17 b1 0) = (6 : Int32) then (some (put q3.2 26 0 0 (1 : Int32))) else (if q3.1 = (3 : Int32) then ((f_X5_takeFigure (5 : Int32) (6 : Int32) (put q3.2 25 0 0 ((q3.2.1 25 0 0) + (1 : Int32)))).bind fun q18 => (f_X5_takeFigure (0 : Int32) (4 : Int32) q18.2).bind fun q20 => (f_X0_append b1 q3.1 (-9 : Int32) (0 : Int32) ((1 : Int32) <<< (q18.1 &&& 31)) q20.1 q20.2).bind fun q22 => some q22) else (if q3.1 = (2 : Int32) then (fj_X5_takeItem_86 b1 q3.1 (put q3.2 25 0 0 ((q3.2.1 25 0 0) + (1 : Int32)))) else (if q3.1 = (5 : Int32) then (fj_X5_takeItem_86 b1 q3.1 (put q3.2 25 0 0 ((q3.2.1 25 0 0) + (1 : Int32)))) else (fj_X5_takeItem_97 b1 q3.1 (-9 : Int32) (put q3.2 25 0 0 ((q3.2.1 25 0 0) + (1 : Int32))))))))
def f_X7_add (x1 : Int32) (x2 : Int32) (S : Stt) : Option (Int32 × Stt) :=
  (f_X7_isVerdict x1 S).bind fun q1 => if q1.1 = 0 then (some ((-1 : Int32), q1.2)) else (if x2 < 0 then (some ((-1 : Int32), q1.2)) else (if x2 ≤ (127 : Int32) then (if (q1.2.1 17 0 0) = (6 : Int32) then (some ((-2 : Int32), q1.2)) else ((f_X0_append 0 (0 : Int32) (-9 : Int32) x1 x2 (-9 : Int32) q1.2).bind fun q7 => some (((q7.1 17 0 0) - (1 : Int32)), q7))) else (some ((-1 : Int32), q1.2))))
def f_X7_bitIfKind (x1 : Int32) (x2 : Int32) (x3 : Int32) (x4 : Int32) (x5 : Int32) (S : Stt) : Option (Int32 × Stt) :=
  (f_X0_become 1 0 S).bind fun q1 => (f_X0_changeKind 1 x2 x1 q1).bind fun q3 => (f_X1_hear 1 x4 q3).bind fun q5 => (f_X1_stateOf x3 q5).bind fun q7 => if q7.1 = x5 then (some (((1 : Int32) <<< (x1 &&& 31)), q7.2)) else (some ((0 : Int32), q7.2))
def fb_X7_free_18 (kb : Int32 → Int32 → Stt → Option (Int32 × Stt)) (ke : Stt → Option (Int32 × Stt)) (x1 : Int32) (x3 : Int32) (S : Stt) : Option (Int32 × Stt) :=
  if (20 : Int32) < x3 then (ke  S) else ((f_X1_hear 0 x3 S).bind fun q8 => (f_X1_stateOf x1 q8).bind fun q10 => if q10.1 = 0 then (some (x3, q10.2)) else (kb x1 (x3 + (1 : Int32)) q10.2))
def fl_X7_free_18 (ke : Stt → Option (Int32 × Stt)) : Nat → Int32 → Int32 → Stt → Option (Int32 × Stt)
  | 0 => fun _ _ _ => none
  | n + 1 => fun x1 x3 S => fb_X7_free_18 (fl_X7_free_18 ke n) ke x1 x3 S
def f_X7_free (x1 : Int32) (x2 : Int32) (S : Stt) : Option (Int32 × Stt) :=
  (f_X7_isCase x1 S).bind fun q1 => if q1.1 = 0 then (some ((-1 : Int32), q1.2)) else ((f_X7_isDay x2 q1.2).bind fun q4 => if q4.1 = 0 then (some ((-1 : Int32), q4.2)) else (fl_X7_free_18 (fun S => some ((-9 : Int32), S)) 300 x1 x2 q4.2))
def fb_X7_lots_34 (kb : Int32 → Int32 → Int64 → Int32 → Stt → Option (Int32 × Stt)) (ke : Int32 → Stt → Option (Int32 × Stt)) (x1 : Int32) (x3 : Int32) (y4 : Int64) (x6 : Int32) (S : Stt) : Option (Int32 × Stt) :=
  if x1 ≤ x6 then (ke x3 S) else ((f_X1_hear 0 ((((((48271 : Int64) * y4) - ((48271 : Int64) * y4) / (2147483647 : Int64) * (2147483647 : Int64)) / (32 : Int64)) - ((((48271 : Int64) * y4) - ((48271 : Int64) * y4) / (2147483647 : Int64) * (2147483647 : Int64)) / (32 : Int64)) / (21 : Int64) * (21 : Int64)).toInt32) S).bind fun q6 => (f_X1_waiting  q6).bind fun q8 => (f_X7_hasBit q8.1 (((((48271 : Int64) * y4) - ((48271 : Int64) * y4) / (2147483647 : Int64) * (2147483647 : Int64)) - (((48271 : Int64) * y4) - ((48271 : Int64) * y4) / (2147483647 : Int64) * (2147483647 : Int64)) / (32 : Int64) * (32 : Int64)).toInt32) q8.2).bind fun q10 => if q10.1 = 0 then (kb x1 x3 (((48271 : Int64) * y4) - ((48271 : Int64) * y4) / (2147483647 : Int64) * (2147483647 : Int64)) (x6 + (1 : Int32)) q10.2) else (kb x1 (x3 + (1 : Int32)) (((48271 : Int64) * y4) - ((48271 : Int64) * y4) / (2147483647 : Int64) * (2147483647 : Int64)) (x6 + (1 : Int32)) q10.2))
def fl_X7_lots_34 (ke : Int32 → Stt → Option (Int32 × Stt)) : Nat → Int32 → Int32 → Int64 → Int32 → Stt → Option (Int32 × Stt)
  | 0 => fun _ _ _ _ _ => none
  | n + 1 => fun x1 x3 y4 x6 S => fb_X7_lots_34 (fl_X7_lots_34 ke n) ke x1 x3 y4 x6 S
def f_X7_lots (x1 : Int32) (x2 : Int32) (S : Stt) : Option (Int32 × Stt) :=
  if x1 < (1 : Int32) then (some ((-1 : Int32), S)) else (if (60 : Int32) < x1 then (some ((-1 : Int32), S)) else (if x2 < (1 : Int32) then (some ((-1 : Int32), S)) else (if x2 ≤ (2147483646 : Int32) then (fl_X7_lots_34 (fun x3 S => some (x3, S)) 300 x1 (0 : Int32) x2.toInt64 (0 : Int32) S) else (some ((-1 : Int32), S)))))
def fb_X7_meant_79 (kb : Int32 → Int32 → Int32 → Int32 → Int32 → Stt → Option (Int32 × Stt)) (ke : Int32 → Int32 → Int32 → Int32 → Stt → Option (Int32 × Stt)) (x1 : Int32) (x2 : Int32) (x3 : Int32) (x4 : Int32) (x5 : Int32) (S : Stt) : Option (Int32 × Stt) :=
  if (5 : Int32) ≤ x5 then (ke x1 x2 x3 x4 S) else ((f_X7_couldMean x1 x4 x5 S).bind fun q15 => if q15.1 = 0 then (kb x1 x2 x3 x4 (x5 + (1 : Int32)) q15.2) else (kb x1 (x2 + (1 : Int32)) (x3 ||| ((1 : Int32) <<< (x4 &&& 31))) x4 (x5 + (1 : Int32)) q15.2))
def fl_X7_meant_79 (ke : Int32 → Int32 → Int32 → Int32 → Stt → Option (Int32 × Stt)) : Nat → Int32 → Int32 → Int32 → Int32 → Int32 → Stt → Option (Int32 × Stt)
  | 0 => fun _ _ _ _ _ _ => none
  | n + 1 => fun x1 x2 x3 x4 x5 S => fb_X7_meant_79 (fl_X7_meant_79 ke n) ke x1 x2 x3 x4 x5 S
def fb_X7_meant_70 (kb : Int32 → Int32 → Int32 → Int32 → Stt → Option (Int32 × Stt)) (ke : Int32 → Int32 → Stt → Option (Int32 × Stt)) (x1 : Int32) (x2 : Int32) (x3 : Int32) (x4 : Int32) (S : Stt) : Option (Int32 × Stt) :=
  if (5 : Int32) ≤ x4 then (ke x2 x3 S) else (fl_X7_meant_79 (fun x1 x2 x3 x4 S => kb x1 x2 x3 (x4 + (1 : Int32)) S) 300 x1 x2 x3 x4 (0 : Int32) S)
def fl_X7_meant_70 (ke : Int32 → Int32 → Stt → Option (Int32 × Stt)) : Nat → Int32 → Int32 → Int32 → Int32 → Stt → Option (Int32 × Stt)
  | 0 => fun _ _ _ _ _ => none
  | n + 1 => fun x1 x2 x3 x4 S => fb_X7_meant_70 (fl_X7_meant_70 ke n) ke x1 x2 x3 x4 S
def f_X7_meant (x1 : Int32) (S : Stt) : Option (Int32 × Stt) :=
  (f_X6_isOne 0 x1 S).bind fun q1 => if q1.1 = 0 then (some ((-1 : Int32), q1.2)) else ((f_X6_isThere 0 x1 q1.2).bind fun q4 => if q4.1 = 0 then ((f_X7_refuse (1 : Int32) q4.2).bind fun q22 => some (q22.1, q22.2)) else ((f_X6_sizeOf 0 x1 q4.2).bind fun q7 => if (q7.1 - q7.1 / (3 : Int32) * (3 : Int32)) = 0 then ((f_X7_tellsJudgements x1 q7.2).bind fun q10 => if q10.1 = 0 then ((f_X7_refuse (3 : Int32) q10.2).bind fun q18 => some (q18.1, q18.2)) else (fl_X7_meant_70 (fun x2 x3 S => some (x2, (put S 62 0 0 x3))) 300 x1 (0 : Int32) (0 : Int32) (0 : Int32) q10.2)) else ((f_X7_refuse (5 : Int32) q7.2).bind fun q20 => some (q20.1, q20.2))))
def f_X7_odds (x1 : Int32) (x2 : Int32) (S : Stt) : Option (Int32 × Stt) :=
  (f_X7_isCase x1 S).bind fun q1 => if q1.1 = 0 then (some ((-1 : Int32), q1.2)) else ((f_X7_isDay x2 q1.2).bind fun q4 => if q4.1 = 0 then (some ((-1 : Int32), q4.2)) else ((f_X1_hear 0 x2 q4.2).bind fun q7 => (f_X1_timesOne x1 q7).bind fun q9 => (f_X7_tellFraction q9.1 (q9.2.1 31 0 0) q9.2).bind fun q11 => some ((1 : Int32), q11)))
def f_X7_rip (S : Stt) : Option (Int32 × Stt) :=
  if (S.1 17 0 0) = 0 then (some ((-4 : Int32), S)) else ((f_X0_dropLast 0 S).bind fun q2 => some ((q2.1 17 0 0), q2))
def f_X7_verdict (x1 : Int32) (x2 : Int32) (S : Stt) : Option (Int32 × Stt) :=
  (f_X7_isCase x1 S).bind fun q1 => if q1.1 = 0 then (some ((-1 : Int32), q1.2)) else ((f_X7_isDay x2 q1.2).bind fun q4 => if q4.1 = 0 then (some ((-1 : Int32), q4.2)) else ((f_X1_hear 0 x2 q4.2).bind fun q7 => (f_X1_timesOne x1 q7).bind fun q9 => (f_X1_stateOf x1 (put q9.2 62 0 0 q9.1)).bind fun q11 => some (q11.1, q11.2)))
def f_X7_waits (x1 : Int32) (S : Stt) : Option (Int32 × Stt) :=
  (f_X7_isDay x1 S).bind fun q1 => if q1.1 = 0 then (some ((-1 : Int32), q1.2)) else ((f_X1_hear 0 x1 q1.2).bind fun q4 => (f_J6_bitCount_0f7a4 (q4.1 32 0 0) q4).bind fun q6 => (f_X1_waiting  (put q6.2 62 0 0 q6.1)).bind fun q8 => (f_J6_bitCount_0f7a4 q8.1 q8.2).bind fun q10 => some (q10.1, q10.2))
def f_X8_binds (x1 : Int32) (S : Stt) : Option (Int32 × Stt) :=
  (f_X8_isDay x1 S).bind fun q1 => if q1.1 = 0 then (some ((-1 : Int32), q1.2)) else ((f_X8_bindSet x1 q1.2).bind fun q4 => some (q4.1, q4.2))
def fb_X8_book_35 (kb : Int32 → Stt → Option (Int32 × Stt)) (ke : Stt → Option (Int32 × Stt)) (x3 : Int32) (S : Stt) : Option (Int32 × Stt) :=
  if (S.1 0 10 0) ≤ x3 then (ke  S) else (grd (ixb ((5 : Int32) * x3) 30) (grd (ixb x3 6) (grd (ixb (((5 : Int32) * x3) + (1 : Int32)) 30) (grd (ixb x3 6) (grd (ixb (((5 : Int32) * x3) + (2 : Int32)) 30) (grd (ixb x3 6) (grd (ixb (((5 : Int32) * x3) + (3 : Int32)) 30) (grd (ixb x3 6) (grd (ixb (((5 : Int32) * x3) + (4 : Int32)) 30) (grd (ixb x3 6) (grd (ixb x3 6) (kb (x3 + (1 : Int32)) (put (put (put (put (put (put S 7 0 x3.toNatClampNeg (S.1 13 0 ((5 : Int32) * x3).toNatClampNeg)) 8 0 x3.toNatClampNeg ((put S 7 0 x3.toNatClampNeg (S.1 13 0 ((5 : Int32) * x3).toNatClampNeg)).1 13 0 (((5 : Int32) * x3) + (1 : Int32)).toNatClampNeg)) 9 0 x3.toNatClampNeg ((put (put S 7 0 x3.toNatClampNeg (S.1 13 0 ((5 : Int32) * x3).toNatClampNeg)) 8 0 x3.toNatClampNeg ((put S 7 0 x3.toNatClampNeg (S.1 13 0 ((5 : Int32) * x3).toNatClampNeg)).1 13 0 (((5 : Int32) * x3) + (1 : Int32)).toNatClampNeg)).1 13 0 (((5 : Int32) * x3) + (2 : Int32)).toNatClampNeg)) 10 0 x3.toNatClampNeg ((put (put (put S 7 0 x3.toNatClampNeg (S.1 13 0 ((5 : Int32) * x3).toNatClampNeg)) 8 0 x3.toNatClampNeg ((put S 7 0 x3.toNatClampNeg (S.1 13 0 ((5 : Int32) * x3).toNatClampNeg)).1 13 0 (((5 : Int32) * x3) + (1 : Int32)).toNatClampNeg)) 9 0 x3.toNatClampNeg ((put (put S 7 0 x3.toNatClampNeg (S.1 13 0 ((5 : Int32) * x3).toNatClampNeg)) 8 0 x3.toNatClampNeg ((put S 7 0 x3.toNatClampNeg (S.1 13 0 ((5 : Int32) * x3).toNatClampNeg)).1 13 0 (((5 : Int32) * x3) + (1 : Int32)).toNatClampNeg)).1 13 0 (((5 : Int32) * x3) + (2 : Int32)).toNatClampNeg)).1 13 0 (((5 : Int32) * x3) + (3 : Int32)).toNatClampNeg)) 11 0 x3.toNatClampNeg ((put (put (put (put S 7 0 x3.toNatClampNeg (S.1 13 0 ((5 : Int32) * x3).toNatClampNeg)) 8 0 x3.toNatClampNeg ((put S 7 0 x3.toNatClampNeg (S.1 13 0 ((5 : Int32) * x3).toNatClampNeg)).1 13 0 (((5 : Int32) * x3) + (1 : Int32)).toNatClampNeg)) 9 0 x3.toNatClampNeg ((put (put S 7 0 x3.toNatClampNeg (S.1 13 0 ((5 : Int32) * x3).toNatClampNeg)) 8 0 x3.toNatClampNeg ((put S 7 0 x3.toNatClampNeg (S.1 13 0 ((5 : Int32) * x3).toNatClampNeg)).1 13 0 (((5 : Int32) * x3) + (1 : Int32)).toNatClampNeg)).1 13 0 (((5 : Int32) * x3) + (2 : Int32)).toNatClampNeg)) 10 0 x3.toNatClampNeg ((put (put (put S 7 0 x3.toNatClampNeg (S.1 13 0 ((5 : Int32) * x3).toNatClampNeg)) 8 0 x3.toNatClampNeg ((put S 7 0 x3.toNatClampNeg (S.1 13 0 ((5 : Int32) * x3).toNatClampNeg)).1 13 0 (((5 : Int32) * x3) + (1 : Int32)).toNatClampNeg)) 9 0 x3.toNatClampNeg ((put (put S 7 0 x3.toNatClampNeg (S.1 13 0 ((5 : Int32) * x3).toNatClampNeg)) 8 0 x3.toNatClampNeg ((put S 7 0 x3.toNatClampNeg (S.1 13 0 ((5 : Int32) * x3).toNatClampNeg)).1 13 0 (((5 : Int32) * x3) + (1 : Int32)).toNatClampNeg)).1 13 0 (((5 : Int32) * x3) + (2 : Int32)).toNatClampNeg)).1 13 0 (((5 : Int32) * x3) + (3 : Int32)).toNatClampNeg)).1 13 0 (((5 : Int32) * x3) + (4 : Int32)).toNatClampNeg)) 12 0 x3.toNatClampNeg ((((put (put (put (put (put S 7 0 x3.toNatClampNeg (S.1 13 0 ((5 : Int32) * x3).toNatClampNeg)) 8 0 x3.toNatClampNeg ((put S 7 0 x3.toNatClampNeg (S.1 13 0 ((5 : Int32) * x3).toNatClampNeg)).1 13 0 (((5 : Int32) * x3) + (1 : Int32)).toNatClampNeg)) 9 0 x3.toNatClampNeg ((put (put S 7 0 x3.toNatClampNeg (S.1 13 0 ((5 : Int32) * x3).toNatClampNeg)) 8 0 x3.toNatClampNeg ((put S 7 0 x3.toNatClampNeg (S.1 13 0 ((5 : Int32) * x3).toNatClampNeg)).1 13 0 (((5 : Int32) * x3) + (1 : Int32)).toNatClampNeg)).1 13 0 (((5 : Int32) * x3) + (2 : Int32)).toNatClampNeg)) 10 0 x3.toNatClampNeg ((put (put (put S 7 0 x3.toNatClampNeg (S.1 13 0 ((5 : Int32) * x3).toNatClampNeg)) 8 0 x3.toNatClampNeg ((put S 7 0 x3.toNatClampNeg (S.1 13 0 ((5 : Int32) * x3).toNatClampNeg)).1 13 0 (((5 : Int32) * x3) + (1 : Int32)).toNatClampNeg)) 9 0 x3.toNatClampNeg ((put (put S 7 0 x3.toNatClampNeg (S.1 13 0 ((5 : Int32) * x3).toNatClampNeg)) 8 0 x3.toNatClampNeg ((put S 7 0 x3.toNatClampNeg (S.1 13 0 ((5 : Int32) * x3).toNatClampNeg)).1 13 0 (((5 : Int32) * x3) + (1 : Int32)).toNatClampNeg)).1 13 0 (((5 : Int32) * x3) + (2 : Int32)).toNatClampNeg)).1 13 0 (((5 : Int32) * x3) + (3 : Int32)).toNatClampNeg)) 11 0 x3.toNatClampNeg ((put (put (put (put S 7 0 x3.toNatClampNeg (S.1 13 0 ((5 : Int32) * x3).toNatClampNeg)) 8 0 x3.toNatClampNeg ((put S 7 0 x3.toNatClampNeg (S.1 13 0 ((5 : Int32) * x3).toNatClampNeg)).1 13 0 (((5 : Int32) * x3) + (1 : Int32)).toNatClampNeg)) 9 0 x3.toNatClampNeg ((put (put S 7 0 x3.toNatClampNeg (S.1 13 0 ((5 : Int32) * x3).toNatClampNeg)) 8 0 x3.toNatClampNeg ((put S 7 0 x3.toNatClampNeg (S.1 13 0 ((5 : Int32) * x3).toNatClampNeg)).1 13 0 (((5 : Int32) * x3) + (1 : Int32)).toNatClampNeg)).1 13 0 (((5 : Int32) * x3) + (2 : Int32)).toNatClampNeg)) 10 0 x3.toNatClampNeg ((put (put (put S 7 0 x3.toNatClampNeg (S.1 13 0 ((5 : Int32) * x3).toNatClampNeg)) 8 0 x3.toNatClampNeg ((put S 7 0 x3.toNatClampNeg (S.1 13 0 ((5 : Int32) * x3).toNatClampNeg)).1 13 0 (((5 : Int32) * x3) + (1 : Int32)).toNatClampNeg)) 9 0 x3.toNatClampNeg ((put (put S 7 0 x3.toNatClampNeg (S.1 13 0 ((5 : Int32) * x3).toNatClampNeg)) 8 0 x3.toNatClampNeg ((put S 7 0 x3.toNatClampNeg (S.1 13 0 ((5 : Int32) * x3).toNatClampNeg)).1 13 0 (((5 : Int32) * x3) + (1 : Int32)).toNatClampNeg)).1 13 0 (((5 : Int32) * x3) + (2 : Int32)).toNatClampNeg)).1 13 0 (((5 : Int32) * x3) + (3 : Int32)).toNatClampNeg)).1 13 0 (((5 : Int32) * x3) + (4 : Int32)).toNatClampNeg)).1 0 10 0) - (1 : Int32)) - x3))))))))))))))
def fl_X8_book_35 (ke : Stt → Option (Int32 × Stt)) : Nat → Int32 → Stt → Option (Int32 × Stt)
  | 0 => fun _ _ => none
  | n + 1 => fun x3 S => fb_X8_book_35 (fl_X8_book_35 ke n) ke x3 S
def fb_X8_book_143 (kb : Int32 → Stt → Option (Int32 × Stt)) (ke : Stt → Option (Int32 × Stt)) (x3 : Int32) (S : Stt) : Option (Int32 × Stt) :=
  if (3 : Int32) ≤ x3 then (ke  S) else (grd (ixb ((38 : Int32) * x3) 114) (kb (x3 + (1 : Int32)) (put S 14 0 ((38 : Int32) * x3).toNatClampNeg (-9 : Int32))))
def fl_X8_book_143 (ke : Stt → Option (Int32 × Stt)) : Nat → Int32 → Stt → Option (Int32 × Stt)
  | 0 => fun _ _ => none
  | n + 1 => fun x3 S => fb_X8_book_143 (fl_X8_book_143 ke n) ke x3 S
def f_X8_book (x1 : Int32) (S : Stt) : Option (Int32 × Stt) :=
  (f_X8_askedText x1 S).bind fun q1 => if 0 ≤ q1.1 then ((f_X8_goesOn x1 q1.2).bind fun q4 => if q4.1 = (-9 : Int32) then (fl_X8_book_35 (fun S => fl_X8_book_143 (fun S => some ((S.1 0 10 0), S)) 300 (0 : Int32) S) 300 (0 : Int32) (put q4.2 0 10 0 (q4.2.1 0 18 0))) else (some ((-4 : Int32), q4.2))) else (some (q1.1, q1.2))
def f_X8_fault (x1 : Int32) (S : Stt) : Option (Int32 × Stt) :=
  (f_X8_askedText x1 S).bind fun q1 => if 0 ≤ q1.1 then ((f_X8_goesOn x1 q1.2).bind fun q4 => some (q4.1, q4.2)) else (some (q1.1, q1.2))
def f_X8_judge (x1 : Int32) (x2 : Int32) (x3 : Int32) (S : Stt) : Option (Int32 × Stt) :=
  (f_X8_isCase x1 S).bind fun q1 => if q1.1 = 0 then (some ((-1 : Int32), q1.2)) else ((f_X8_isDay x3 q1.2).bind fun q4 => if q4.1 = 0 then (some ((-1 : Int32), q4.2)) else ((f_X8_in x2 (0 : Int32) (44 : Int32) q4.2).bind fun q7 => if q7.1 = 0 then (some ((-1 : Int32), q7.2)) else (if (5 : Int32) ≤ (x2 - x2 / (10 : Int32) * (10 : Int32)) then (some ((-1 : Int32), q7.2)) else ((f_X8_meanOf (5 : Int32) x3 q7.2).bind fun q11 => (f_X8_has q11.1 (x2 / (10 : Int32)) q11.2).bind fun q13 => if q13.1 = 0 then (some ((-1 : Int32), q13.2)) else ((f_X8_meanOf (6 : Int32) x3 q13.2).bind fun q16 => (f_X8_has q16.1 (x2 - x2 / (10 : Int32) * (10 : Int32)) q16.2).bind fun q18 => if q18.1 = 0 then (some ((-1 : Int32), q18.2)) else ((f_X8_soOf x1 (x2 / (10 : Int32)) (x2 - x2 / (10 : Int32) * (10 : Int32)) q18.2).bind fun q21 => (f_X8_bindSet x3 q21.2).bind fun q23 => (f_X8_judgeBy q21.1 q23.1 q23.2).bind fun q25 => some (q25.1, q25.2)))))))
def f_X8_lay (x1 : Int32) (x2 : Int32) (x3 : Int32) (S : Stt) : Option (Int32 × Stt) :=
  (f_X8_at x1 x2 S).bind fun q1 => if 0 ≤ q1.1 then ((f_X8_setRow x1 x2 x3 q1.2).bind fun q4 => some ((1 : Int32), q4)) else (some (q1.1, q1.2))
def f_X8_meanings (x1 : Int32) (S : Stt) : Option (Int32 × Stt) :=
  (f_X8_isDay x1 S).bind fun q1 => if q1.1 = 0 then (some ((-1 : Int32), q1.2)) else ((f_X8_meanOf (5 : Int32) x1 q1.2).bind fun q4 => (f_X8_sizeOf q4.1 q4.2).bind fun q6 => (f_X8_meanOf (6 : Int32) x1 q6.2).bind fun q8 => (f_X8_sizeOf q8.1 q8.2).bind fun q10 => some ((q6.1 * q10.1), q10.2))
def f_X8_means (x1 : Int32) (x2 : Int32) (S : Stt) : Option (Int32 × Stt) :=
  (f_X8_in x1 (5 : Int32) (6 : Int32) S).bind fun q1 => if q1.1 = 0 then (some ((-1 : Int32), q1.2)) else ((f_X8_isDay x2 q1.2).bind fun q4 => if q4.1 = 0 then (some ((-1 : Int32), q4.2)) else ((f_X8_meanOf x1 x2 q4.2).bind fun q7 => some (q7.1, q7.2)))
def fb_X8_meant_31 (kb : Int32 → Int32 → Stt → Option (Int32 × Stt)) (ke : Int32 → Stt → Option (Int32 × Stt)) (x1 : Int32) (x3 : Int32) (S : Stt) : Option (Int32 × Stt) :=
  grd (ixb x1 6) (if (S.1 2 0 x1.toNatClampNeg) ≤ x3 then (ke x1 S) else ((f_X8_rowAt x1 x3 S).bind fun q8 => (f_X8_isCase q8.1 q8.2).bind fun q10 => if q10.1 = 0 then ((f_X8_meet (3 : Int32) q10.2).bind fun q13 => some (q13.1, q13.2)) else ((f_X8_rowAt x1 (x3 + (1 : Int32)) q10.2).bind fun q15 => (f_X8_isDay q15.1 q15.2).bind fun q17 => if q17.1 = 0 then ((f_X8_meet (3 : Int32) q17.2).bind fun q20 => some (q20.1, q20.2)) else ((f_X8_rowAt x1 (x3 + (2 : Int32)) q17.2).bind fun q22 => (f_X8_in q22.1 (0 : Int32) (1 : Int32) q22.2).bind fun q24 => if q24.1 = 0 then ((f_X8_meet (3 : Int32) q24.2).bind fun q27 => some (q27.1, q27.2)) else (kb x1 (x3 + (3 : Int32)) q24.2)))))
def fl_X8_meant_31 (ke : Int32 → Stt → Option (Int32 × Stt)) : Nat → Int32 → Int32 → Stt → Option (Int32 × Stt)
  | 0 => fun _ _ _ => none
  | n + 1 => fun x1 x3 S => fb_X8_meant_31 (fl_X8_meant_31 ke n) ke x1 x3 S
def fb_X8_meant_116 (kb : Int32 → Int32 → Int32 → Int32 → Int32 → Int32 → Stt → Option (Int32 × Stt)) (ke : Int32 → Int32 → Int32 → Int32 → Int32 → Stt → Option (Int32 × Stt)) (x1 : Int32) (x3 : Int32) (x4 : Int32) (x5 : Int32) (x6 : Int32) (x7 : Int32) (S : Stt) : Option (Int32 × Stt) :=
  grd (ixb x1 6) (if (S.1 2 0 x1.toNatClampNeg) ≤ x7 then (ke x1 x3 x4 x5 x6 S) else (if x6 = 0 then (kb x1 x3 x4 x5 (0 : Int32) (x7 + (3 : Int32)) S) else ((f_X8_rowAt x1 x7 S).bind fun q33 => (f_X8_rowAt x1 (x7 + (1 : Int32)) q33.2).bind fun q35 => (f_X8_bindSet q35.1 q35.2).bind fun q37 => (f_X8_givenBy q33.1 (x5 / (5 : Int32)) (x5 - x5 / (5 : Int32) * (5 : Int32)) q37.1 q37.2).bind fun q39 => (f_X8_rowAt x1 (x7 + (2 : Int32)) q39.2).bind fun q41 => if q39.1 = q41.1 then (kb x1 x3 x4 x5 (1 : Int32) (x7 + (3 : Int32)) q41.2) else (kb x1 x3 x4 x5 (0 : Int32) (x7 + (3 : Int32)) q41.2))))
def fl_X8_meant_116 (ke : Int32 → Int32 → Int32 → Int32 → Int32 → Stt → Option (Int32 × Stt)) : Nat → Int32 → Int32 → Int32 → Int32 → Int32 → Int32 → Stt → Option (Int32 × Stt)
  | 0 => fun _ _ _ _ _ _ _ => none
  | n + 1 => fun x1 x3 x4 x5 x6 x7 S => fb_X8_meant_116 (fl_X8_meant_116 ke n) ke x1 x3 x4 x5 x6 x7 S
def fj_X8_meant_200_103 (kb : Int32 → Int32 → Int32 → Int32 → Stt → Option (Int32 × Stt)) (ke : Int32 → Int32 → Stt → Option (Int32 × Stt)) (x1 : Int32) (x4 : Int32) (x5 : Int32) (x6 : Int32) (xt0 : Int32) (xt1 : Int32) (S : Stt) : Option (Int32 × Stt) :=
  if x6 = 0 then (kb x1 (xt0 + xt1) (x4 ||| (0 : Int32)) (x5 + (1 : Int32)) S) else (kb x1 (xt0 + xt1) (x4 ||| ((1 : Int32) <<< ((x5 / (5 : Int32)) &&& 31))) (x5 + (1 : Int32)) S)
def fb_X8_meant_103 (kb : Int32 → Int32 → Int32 → Int32 → Stt → Option (Int32 × Stt)) (ke : Int32 → Int32 → Stt → Option (Int32 × Stt)) (x1 : Int32) (x3 : Int32) (x4 : Int32) (x5 : Int32) (S : Stt) : Option (Int32 × Stt) :=
  if (25 : Int32) ≤ x5 then (ke x3 x4 S) else (fl_X8_meant_116 (fun x1 x3 x4 x5 x6 S => if x6 = 0 then (fj_X8_meant_200_103 kb ke x1 x4 x5 x6 x3 (0 : Int32) S) else (fj_X8_meant_200_103 kb ke x1 x4 x5 x6 x3 (1 : Int32) S)) 300 x1 x3 x4 x5 (1 : Int32) (0 : Int32) S)
def fl_X8_meant_103 (ke : Int32 → Int32 → Stt → Option (Int32 × Stt)) : Nat → Int32 → Int32 → Int32 → Int32 → Stt → Option (Int32 × Stt)
  | 0 => fun _ _ _ _ _ => none
  | n + 1 => fun x1 x3 x4 x5 S => fb_X8_meant_103 (fl_X8_meant_103 ke n) ke x1 x3 x4 x5 S
def f_X8_meant (x1 : Int32) (S : Stt) : Option (Int32 × Stt) :=
  (f_X8_askedRow x1 S).bind fun q1 => if 0 ≤ q1.1 then (grd (ixb x1 6) (if ((q1.2.1 2 0 x1.toNatClampNeg) - (q1.2.1 2 0 x1.toNatClampNeg) / (3 : Int32) * (3 : Int32)) = 0 then (fl_X8_meant_31 (fun x1 S => fl_X8_meant_103 (fun x3 x4 S => (f_X8_ask x4 x3 S).bind fun q46 => some (q46.1, q46.2)) 300 x1 (0 : Int32) (0 : Int32) (0 : Int32) S) 300 x1 (0 : Int32) q1.2) else ((f_X8_meet (5 : Int32) q1.2).bind fun q48 => some (q48.1, q48.2)))) else (some (q1.1, q1.2))
def fb_X8_onesOf_20 (kb : Int32 → Int32 → Int32 → Int32 → Int32 → Int32 → Int32 → Stt → Option (Int32 × Stt)) (ke : Int32 → Int32 → Int32 → Int32 → Int32 → Int32 → Stt → Option (Int32 × Stt)) (x1 : Int32) (x2 : Int32) (x3 : Int32) (x4 : Int32) (x5 : Int32) (x6 : Int32) (x7 : Int32) (S : Stt) : Option (Int32 × Stt) :=
  if (5 : Int32) ≤ x7 then (ke x1 x2 x3 x4 x5 x6 S) else ((f_X8_has x3 x6 S).bind fun q3 => if q3.1 = 0 then (kb x1 x2 x3 x4 x5 x6 (x7 + (1 : Int32)) q3.2) else ((f_X8_has x4 x7 q3.2).bind fun q6 => if q6.1 = 0 then (kb x1 x2 x3 x4 x5 x6 (x7 + (1 : Int32)) q6.2) else ((f_X8_givenBy x1 x6 x7 x2 (put q6.2 0 22 0 ((q6.2.1 0 22 0) + (1 : Int32)))).bind fun q9 => kb x1 x2 x3 x4 (x5 + q9.1) x6 (x7 + (1 : Int32)) q9.2)))
def fl_X8_onesOf_20 (ke : Int32 → Int32 → Int32 → Int32 → Int32 → Int32 → Stt → Option (Int32 × Stt)) : Nat → Int32 → Int32 → Int32 → Int32 → Int32 → Int32 → Int32 → Stt → Option (Int32 × Stt)
  | 0 => fun _ _ _ _ _ _ _ _ => none
  | n + 1 => fun x1 x2 x3 x4 x5 x6 x7 S => fb_X8_onesOf_20 (fl_X8_onesOf_20 ke n) ke x1 x2 x3 x4 x5 x6 x7 S
def fb_X8_onesOf_11 (kb : Int32 → Int32 → Int32 → Int32 → Int32 → Int32 → Stt → Option (Int32 × Stt)) (ke : Int32 → Stt → Option (Int32 × Stt)) (x1 : Int32) (x2 : Int32) (x3 : Int32) (x4 : Int32) (x5 : Int32) (x6 : Int32) (S : Stt) : Option (Int32 × Stt) :=
  if (5 : Int32) ≤ x6 then (ke x5 S) else (fl_X8_onesOf_20 (fun x1 x2 x3 x4 x5 x6 S => kb x1 x2 x3 x4 x5 (x6 + (1 : Int32)) S) 300 x1 x2 x3 x4 x5 x6 (0 : Int32) S)
def fl_X8_onesOf_11 (ke : Int32 → Stt → Option (Int32 × Stt)) : Nat → Int32 → Int32 → Int32 → Int32 → Int32 → Int32 → Stt → Option (Int32 × Stt)
  | 0 => fun _ _ _ _ _ _ _ => none
  | n + 1 => fun x1 x2 x3 x4 x5 x6 S => fb_X8_onesOf_11 (fl_X8_onesOf_11 ke n) ke x1 x2 x3 x4 x5 x6 S
def f_X8_onesOf (x1 : Int32) (x2 : Int32) (x3 : Int32) (x4 : Int32) (S : Stt) : Option (Int32 × Stt) :=
  fl_X8_onesOf_11 (fun x5 S => some (x5, S)) 300 x1 x2 x3 x4 (0 : Int32) (0 : Int32) (put S 0 22 0 (0 : Int32))
def fb_X5_faultOf_36 (kb : Nat → Int32 → Stt → Option (Int32 × Stt)) (ke : Stt → Option (Int32 × Stt)) (b3 : Nat) (x4 : Int32) (S : Stt) : Option (Int32 × Stt) :=
  if (80 : Int32) ≤ x4 then (ke  S) else (if (S.1 26 0 0) = 0 then (if (S.1 24 0 0) ≤ (S.1 25 0 0) then (ke  S) else ((f_X5_sign  S).bind fun q8 => if q8.1 = (32 : Int32) then (kb b3 (x4 + (1 : Int32)) (put q8.2 25 0 0 ((q8.2.1 25 0 0) + (1 : Int32)))) else ((f_X5_takeItem b3 q8.2).bind fun q11 => kb b3 (x4 + (1 : Int32)) q11))) else (ke  S))
def fl_X5_faultOf_36 (ke : Stt → Option (Int32 × Stt)) : Nat → Nat → Int32 → Stt → Option (Int32 × Stt)
  | 0 => fun _ _ _ => none
  | n + 1 => fun b3 x4 S => fb_X5_faultOf_36 (fl_X5_faultOf_36 ke n) ke b3 x4 S
def fj_X5_faultOf_94 (S : Stt) : Option (Int32 × Stt) :=
  if (S.1 26 0 0) = 0 then (some ((-9 : Int32), S)) else (some ((S.1 25 0 0), S))
def f_X5_faultOf (x2 : Int32) (b3 : Nat) (S : Stt) : Option (Int32 × Stt) :=
  (f_X6_sizeOf 1 x2 (put (put S 22 0 0 1) 23 0 0 x2)).bind fun q1 => (f_X0_empty b3 (put (put (put q1.2 24 0 0 q1.1) 25 0 0 (0 : Int32)) 26 0 0 (0 : Int32))).bind fun q3 => fl_X5_faultOf_36 (fun S => fj_X5_faultOf_94  S) 300 b3 (0 : Int32) q3
def f_X7_all (S : Stt) : Option (Int32 × Stt) :=
  (f_X1_waitingInAll 0 S).bind fun q1 => some (q1.1, q1.2)
def f_X7_deeds (x1 : Int32) (x2 : Int32) (S : Stt) : Option (Int32 × Stt) :=
  (f_X7_refusalOfDeeds x1 x2 (8 : Int32) S).bind fun q1 => if q1.1 = 0 then ((f_X4_take 0 x1 0 q1.2).bind fun q4 => (f_X4_planAsTheyCome  q4).bind fun q6 => if q6.1 = 0 then (some ((-6 : Int32), q6.2)) else ((f_X4_tellDays 0 x2 q6.2).bind fun q9 => some ((q9.1 46 0 0), q9))) else (some (q1.1, q1.2))
def f_X7_flip (x1 : Int32) (x2 : Int32) (S : Stt) : Option (Int32 × Stt) :=
  (f_X7_isCase x1 S).bind fun q1 => if q1.1 = 0 then (some ((-1 : Int32), q1.2)) else (if 0 ≤ x2 then ((f_X1_hearReading 0 q1.2).bind fun q5 => (f_X1_trace x1 q5).bind fun q7 => if q7.1 ≤ x2 then (some ((-9 : Int32), q7.2)) else (grd (ixb x2 6) ((f_X0_pageReadOn 0 (q7.2.1 37 0 x2.toNatClampNeg) q7.2).bind fun q11 => some (q11.1, q11.2)))) else (some ((-1 : Int32), q1.2)))
def f_X7_flips (x1 : Int32) (S : Stt) : Option (Int32 × Stt) :=
  (f_X7_isCase x1 S).bind fun q1 => if q1.1 = 0 then (some ((-1 : Int32), q1.2)) else ((f_X1_hearReading 0 q1.2).bind fun q4 => (f_X1_trace x1 q4).bind fun q6 => some (q6.1, q6.2))
def f_X7_front (S : Stt) : Option (Int32 × Stt) :=
  (f_X0_become 1 0 S).bind fun q1 => (f_X0_turnFromEnd 1 q1).bind fun q3 => (f_X1_waitingInAll 1 q3).bind fun q5 => (f_X0_turnFromFront 1 (put q5.2 62 0 0 q5.1)).bind fun q7 => (f_X1_waitingInAll 1 q7).bind fun q9 => some (q9.1, q9.2)
def fj_X7_kinds_72 (x1 : Int32) (x2 : Int32) (x3 : Int32) (x4 : Int32) (S : Stt) : Option (Int32 × Stt) :=
  (f_X7_bitIfKind (0 : Int32) x1 x2 x3 x4 S).bind fun q15 => (f_X7_bitIfKind (1 : Int32) x1 x2 x3 x4 q15.2).bind fun q17 => (f_X7_bitIfKind (4 : Int32) x1 x2 x3 x4 q17.2).bind fun q19 => some (((q15.1 ||| q17.1) ||| q19.1), q19.2)
def f_X7_kinds (x1 : Int32) (x2 : Int32) (x3 : Int32) (x4 : Int32) (S : Stt) : Option (Int32 × Stt) :=
  (f_X0_isOne 0 x1 S).bind fun q1 => if q1.1 = 0 then (some ((-1 : Int32), q1.2)) else ((f_X7_isCase x2 q1.2).bind fun q4 => if q4.1 = 0 then (some ((-1 : Int32), q4.2)) else ((f_X7_isDay x3 q4.2).bind fun q7 => if q7.1 = 0 then (some ((-1 : Int32), q7.2)) else ((f_X7_isVerdict x4 q7.2).bind fun q10 => if q10.1 = 0 then (some ((-1 : Int32), q10.2)) else (grd (ixb x1 6) (if (q10.2.1 10 0 x1.toNatClampNeg) = 0 then (fj_X7_kinds_72 x1 x2 x3 x4 q10.2) else (if (q10.2.1 10 0 x1.toNatClampNeg) = (1 : Int32) then (fj_X7_kinds_72 x1 x2 x3 x4 q10.2) else (if (q10.2.1 10 0 x1.toNatClampNeg) = (4 : Int32) then (fj_X7_kinds_72 x1 x2 x3 x4 q10.2) else ((f_X7_refuse (3 : Int32) q10.2).bind fun q23 => some (q23.1, q23.2)))))))))
def f_X7_matter (x1 : Int32) (x2 : Int32) (S : Stt) : Option (Int32 × Stt) :=
  (f_X0_isOne 0 x1 S).bind fun q1 => if q1.1 = 0 then (some ((-1 : Int32), q1.2)) else ((f_X7_isDay x2 q1.2).bind fun q4 => if q4.1 = 0 then (some ((-1 : Int32), q4.2)) else ((f_X1_hear 0 x2 q4.2).bind fun q7 => (f_X0_become 1 0 q7).bind fun q9 => (f_X0_leaveOut 1 x1 q9).bind fun q11 => (f_X1_hear 1 x2 q11).bind fun q13 => (f_J6_bitCount_0f7a4 (((q7.1 32 0 0) ^^^ (q13.1 32 0 0)) ||| ((q7.1 33 0 0) ^^^ (q13.1 33 0 0))) q13).bind fun q15 => some (q15.1, q15.2)))
def fb_X7_most_17 (kb : Int32 → Int32 → Int32 → Stt → Option (Int32 × Stt)) (ke : Int32 → Int32 → Stt → Option (Int32 × Stt)) (x1 : Int32) (x2 : Int32) (x3 : Int32) (S : Stt) : Option (Int32 × Stt) :=
  if (32 : Int32) ≤ x3 then (ke x1 x2 S) else ((f_X1_trace x3 S).bind fun q4 => if q4.1 ≤ x2 then (kb x1 x2 (x3 + (1 : Int32)) q4.2) else (kb x3 q4.1 (x3 + (1 : Int32)) q4.2))
def fl_X7_most_17 (ke : Int32 → Int32 → Stt → Option (Int32 × Stt)) : Nat → Int32 → Int32 → Int32 → Stt → Option (Int32 × Stt)
  | 0 => fun _ _ _ _ => none
  | n + 1 => fun x1 x2 x3 S => fb_X7_most_17 (fl_X7_most_17 ke n) ke x1 x2 x3 S
def f_X7_most (S : Stt) : Option (Int32 × Stt) :=
  (f_X1_hearReading 0 S).bind fun q1 => fl_X7_most_17 (fun x1 x2 S => some (x1, (put S 62 0 0 x2))) 300 (0 : Int32) (0 : Int32) (0 : Int32) q1
def f_X8_isOn (x1 : Int32) (x2 : Int32) (S : Stt) : Option (Int32 × Stt) :=
  (f_X8_bindSet x2 S).bind fun q1 => (f_X8_meanOf (5 : Int32) x2 q1.2).bind fun q3 => (f_X8_meanOf (6 : Int32) x2 q3.2).bind fun q5 => (f_X8_onesOf x1 q1.1 q3.1 q5.1 q5.2).bind fun q7 => if q7.1 = 0 then (some ((0 : Int32), q7.2)) else (if q7.1 = (q7.2.1 0 22 0) then (some ((1 : Int32), q7.2)) else (some ((-9 : Int32), q7.2)))
def fb_X8_odds_49 (kb : Int32 → Int32 → Int32 → Stt → Option (Int32 × Stt)) (ke : Int32 → Int32 → Stt → Option (Int32 × Stt)) (x3 : Int32) (x4 : Int32) (x5 : Int32) (S : Stt) : Option (Int32 × Stt) :=
  if x5 = 0 then (ke x3 x4 S) else (grd (decide (¬ x5 = 0)) (kb x3 x5 (x4 - x4 / x5 * x5) S))
def fl_X8_odds_49 (ke : Int32 → Int32 → Stt → Option (Int32 × Stt)) : Nat → Int32 → Int32 → Int32 → Stt → Option (Int32 × Stt)
  | 0 => fun _ _ _ _ => none
  | n + 1 => fun x3 x4 x5 S => fb_X8_odds_49 (fl_X8_odds_49 ke n) ke x3 x4 x5 S
def f_X8_odds (x1 : Int32) (x2 : Int32) (S : Stt) : Option (Int32 × Stt) :=
  (f_X8_isCase x1 S).bind fun q1 => if q1.1 = 0 then (some ((-1 : Int32), q1.2)) else ((f_X8_isDay x2 q1.2).bind fun q4 => if q4.1 = 0 then (some ((-1 : Int32), q4.2)) else ((f_X8_bindSet x2 q4.2).bind fun q7 => (f_X8_meanOf (5 : Int32) x2 q7.2).bind fun q9 => (f_X8_meanOf (6 : Int32) x2 q9.2).bind fun q11 => (f_X8_onesOf x1 q7.1 q9.1 q11.1 q11.2).bind fun q13 => fl_X8_odds_49 (fun x3 x4 S => grd (decide (¬ x4 = 0)) (grd (decide (¬ x4 = 0)) (some ((1 : Int32), (putL (putL S 3 ((x3 / x4).toInt64)) 4 ((((putL S 3 ((x3 / x4).toInt64)).1 0 22 0) / x4).toInt64)))))) 300 q13.1 q13.1 (q13.2.1 0 22 0) q13.2))
def fj_X8_waitsOn_73_29 (kb : Int32 → Int32 → Int32 → Int32 → Int32 → Int32 → Stt → Option (Int32 × Stt)) (ke : Int32 → Stt → Option (Int32 × Stt)) (x2 : Int32) (x3 : Int32) (x4 : Int32) (x5 : Int32) (x6 : Int32) (x7 : Int32) (xt0 : Int32) (S : Stt) : Option (Int32 × Stt) :=
  if xt0 = x2 then (kb x2 x3 x4 x5 (x6 + (1 : Int32)) (x7 + (1 : Int32)) S) else (kb x2 x3 x4 x5 (x6 + (0 : Int32)) (x7 + (1 : Int32)) S)
def fb_X8_waitsOn_29 (kb : Int32 → Int32 → Int32 → Int32 → Int32 → Int32 → Stt → Option (Int32 × Stt)) (ke : Int32 → Stt → Option (Int32 × Stt)) (x2 : Int32) (x3 : Int32) (x4 : Int32) (x5 : Int32) (x6 : Int32) (x7 : Int32) (S : Stt) : Option (Int32 × Stt) :=
  if (32 : Int32) ≤ x7 then (ke x6 S) else ((f_X8_onesOf x7 x3 x4 x5 S).bind fun q8 => if q8.1 = 0 then (fj_X8_waitsOn_73_29 kb ke x2 x3 x4 x5 x6 x7 (0 : Int32) q8.2) else (if q8.1 = (q8.2.1 0 22 0) then (fj_X8_waitsOn_73_29 kb ke x2 x3 x4 x5 x6 x7 (1 : Int32) q8.2) else (fj_X8_waitsOn_73_29 kb ke x2 x3 x4 x5 x6 x7 (-9 : Int32) q8.2)))
def fl_X8_waitsOn_29 (ke : Int32 → Stt → Option (Int32 × Stt)) : Nat → Int32 → Int32 → Int32 → Int32 → Int32 → Int32 → Stt → Option (Int32 × Stt)
  | 0 => fun _ _ _ _ _ _ _ => none
  | n + 1 => fun x2 x3 x4 x5 x6 x7 S => fb_X8_waitsOn_29 (fl_X8_waitsOn_29 ke n) ke x2 x3 x4 x5 x6 x7 S
def f_X8_waitsOn (x1 : Int32) (x2 : Int32) (S : Stt) : Option (Int32 × Stt) :=
  (f_X8_bindSet x1 S).bind fun q1 => (f_X8_meanOf (5 : Int32) x1 q1.2).bind fun q3 => (f_X8_meanOf (6 : Int32) x1 q3.2).bind fun q5 => fl_X8_waitsOn_29 (fun x6 S => some (x6, S)) 300 x2 q1.1 q3.1 q5.1 (0 : Int32) (0 : Int32) q5.2
def fb_X7_book_74 (kb : Int32 → Stt → Option (Int32 × Stt)) (ke : Stt → Option (Int32 × Stt)) (x2 : Int32) (S : Stt) : Option (Int32 × Stt) :=
  if (3 : Int32) ≤ x2 then (ke  S) else (grd (ixb x2 3) ((f_X0_empty (2 + x2.toNatClampNeg) S).bind fun q16 => kb (x2 + (1 : Int32)) q16))
def fl_X7_book_74 (ke : Stt → Option (Int32 × Stt)) : Nat → Int32 → Stt → Option (Int32 × Stt)
  | 0 => fun _ _ => none
  | n + 1 => fun x2 S => fb_X7_book_74 (fl_X7_book_74 ke n) ke x2 S
def f_X7_book (x1 : Int32) (S : Stt) : Option (Int32 × Stt) :=
  (f_X6_isOne 1 x1 S).bind fun q1 => if q1.1 = 0 then (some ((-1 : Int32), q1.2)) else ((f_X6_isThere 1 x1 q1.2).bind fun q4 => if q4.1 = 0 then ((f_X7_refuse (1 : Int32) q4.2).bind fun q18 => some (q18.1, q18.2)) else ((f_X5_faultOf x1 1 q4.2).bind fun q7 => if q7.1 = (-9 : Int32) then ((f_X0_become 0 1 q7.2).bind fun q10 => (f_X0_turnFromEnd 0 q10).bind fun q12 => fl_X7_book_74 (fun S => some ((S.1 17 0 0), S)) 300 (0 : Int32) q12) else (some ((-4 : Int32), q7.2))))
def f_X7_fault (x1 : Int32) (S : Stt) : Option (Int32 × Stt) :=
  (f_X6_isOne 1 x1 S).bind fun q1 => if q1.1 = 0 then (some ((-1 : Int32), q1.2)) else ((f_X6_isThere 1 x1 q1.2).bind fun q4 => if q4.1 = 0 then ((f_X7_refuse (1 : Int32) q4.2).bind fun q9 => some (q9.1, q9.2)) else ((f_X5_faultOf x1 1 q4.2).bind fun q7 => some (q7.1, q7.2)))
def fb_X8_allWaits_4 (kb : Int32 → Int32 → Stt → Option (Int32 × Stt)) (ke : Int32 → Stt → Option (Int32 × Stt)) (x1 : Int32) (x2 : Int32) (S : Stt) : Option (Int32 × Stt) :=
  if (S.1 0 10 0) ≤ x2 then (ke x1 S) else ((f_X8_waitsOn x2 (-9 : Int32) S).bind fun q2 => kb (x1 + q2.1) (x2 + (1 : Int32)) q2.2)
def fl_X8_allWaits_4 (ke : Int32 → Stt → Option (Int32 × Stt)) : Nat → Int32 → Int32 → Stt → Option (Int32 × Stt)
  | 0 => fun _ _ _ => none
  | n + 1 => fun x1 x2 S => fb_X8_allWaits_4 (fl_X8_allWaits_4 ke n) ke x1 x2 S
def f_X8_allWaits (S : Stt) : Option (Int32 × Stt) :=
  fl_X8_allWaits_4 (fun x1 S => some (x1, S)) 300 (0 : Int32) (0 : Int32) S
def fj_X8_flipsOf_80_15 (kb : Int32 → Int32 → Int32 → Int32 → Int32 → Stt → Option (Int32 × Stt)) (ke : Int32 → Stt → Option (Int32 × Stt)) (x1 : Int32) (x2 : Int32) (x4 : Int32) (x5 : Int32) (x6 : Int32) (x7 : Int32) (xt1 : Int32) (S : Stt) : Option (Int32 × Stt) :=
  if x7 = 0 then (kb x1 x2 x6 (x4 + (0 : Int32)) (x5 + (1 : Int32)) (put S 0 26 0 xt1)) else (kb x1 x2 x6 (x4 + (1 : Int32)) (x5 + (1 : Int32)) (put S 0 26 0 xt1))
def fj_X8_flipsOf_76_15 (kb : Int32 → Int32 → Int32 → Int32 → Int32 → Stt → Option (Int32 × Stt)) (ke : Int32 → Stt → Option (Int32 × Stt)) (x1 : Int32) (x2 : Int32) (x4 : Int32) (x5 : Int32) (x6 : Int32) (x7 : Int32) (S : Stt) : Option (Int32 × Stt) :=
  fj_X8_flipsOf_80_15 kb ke x1 x2 x4 x5 x6 x7 (S.1 0 26 0) S
def fj_X8_flipsOf_57_15 (kb : Int32 → Int32 → Int32 → Int32 → Int32 → Stt → Option (Int32 × Stt)) (ke : Int32 → Stt → Option (Int32 × Stt)) (x1 : Int32) (x2 : Int32) (x4 : Int32) (x5 : Int32) (x6 : Int32) (xt0 : Int32) (S : Stt) : Option (Int32 × Stt) :=
  if xt0 = 0 then (fj_X8_flipsOf_76_15 kb ke x1 x2 x4 x5 x6 xt0 S) else (if x4 = x2 then (fj_X8_flipsOf_80_15 kb ke x1 x2 x4 x5 x6 xt0 x5 S) else (fj_X8_flipsOf_76_15 kb ke x1 x2 x4 x5 x6 xt0 S))
def fj_X8_flipsOf_56_15 (kb : Int32 → Int32 → Int32 → Int32 → Int32 → Stt → Option (Int32 × Stt)) (ke : Int32 → Stt → Option (Int32 × Stt)) (x1 : Int32) (x2 : Int32) (x4 : Int32) (x5 : Int32) (x6 : Int32) (S : Stt) : Option (Int32 × Stt) :=
  fj_X8_flipsOf_57_15 kb ke x1 x2 x4 x5 x6 (0 : Int32) S
def fb_X8_flipsOf_15 (kb : Int32 → Int32 → Int32 → Int32 → Int32 → Stt → Option (Int32 × Stt)) (ke : Int32 → Stt → Option (Int32 × Stt)) (x1 : Int32) (x2 : Int32) (x3 : Int32) (x4 : Int32) (x5 : Int32) (S : Stt) : Option (Int32 × Stt) :=
  if (S.1 0 10 0) ≤ x5 then (ke x4 S) else ((f_X8_isOn x1 x5 S).bind fun q2 => if q2.1 = (-9 : Int32) then (kb x1 x2 x3 x4 (x5 + (1 : Int32)) q2.2) else (if x3 = (-9 : Int32) then (fj_X8_flipsOf_56_15 kb ke x1 x2 x4 x5 q2.1 q2.2) else (if q2.1 = x3 then (fj_X8_flipsOf_56_15 kb ke x1 x2 x4 x5 q2.1 q2.2) else (fj_X8_flipsOf_57_15 kb ke x1 x2 x4 x5 q2.1 (1 : Int32) q2.2))))
def fl_X8_flipsOf_15 (ke : Int32 → Stt → Option (Int32 × Stt)) : Nat → Int32 → Int32 → Int32 → Int32 → Int32 → Stt → Option (Int32 × Stt)
  | 0 => fun _ _ _ _ _ _ => none
  | n + 1 => fun x1 x2 x3 x4 x5 S => fb_X8_flipsOf_15 (fl_X8_flipsOf_15 ke n) ke x1 x2 x3 x4 x5 S
def f_X8_flipsOf (x1 : Int32) (x2 : Int32) (S : Stt) : Option (Int32 × Stt) :=
  fl_X8_flipsOf_15 (fun x4 S => some (x4, S)) 300 x1 x2 (-9 : Int32) (0 : Int32) (0 : Int32) (put S 0 26 0 (-9 : Int32))
def fb_X8_freeFrom_2 (kb : Int32 → Int32 → Stt → Option (Int32 × Stt)) (ke : Stt → Option (Int32 × Stt)) (x1 : Int32) (x3 : Int32) (S : Stt) : Option (Int32 × Stt) :=
  if (20 : Int32) < x3 then (ke  S) else ((f_X8_isOn x1 x3 S).bind fun q2 => if q2.1 = 0 then (some (x3, q2.2)) else (kb x1 (x3 + (1 : Int32)) q2.2))
def fl_X8_freeFrom_2 (ke : Stt → Option (Int32 × Stt)) : Nat → Int32 → Int32 → Stt → Option (Int32 × Stt)
  | 0 => fun _ _ _ => none
  | n + 1 => fun x1 x3 S => fb_X8_freeFrom_2 (fl_X8_freeFrom_2 ke n) ke x1 x3 S
def f_X8_freeFrom (x1 : Int32) (x2 : Int32) (S : Stt) : Option (Int32 × Stt) :=
  fl_X8_freeFrom_2 (fun S => some ((-9 : Int32), S)) 300 x1 x2 S
def fj_X8_kinds_107_71 (kb : Int32 → Int32 → Int32 → Int32 → Int32 → Int32 → Int32 → Stt → Option (Int32 × Stt)) (ke : Int32 → Int32 → Int32 → Stt → Option (Int32 × Stt)) (x1 : Int32) (x2 : Int32) (x3 : Int32) (x4 : Int32) (x5 : Int32) (x6 : Int32) (x7 : Int32) (xt0 : Int32) (S : Stt) : Option (Int32 × Stt) :=
  if xt0 = 0 then (kb x1 x2 x3 x4 x5 (x6 ||| (0 : Int32)) (x7 + (1 : Int32)) S) else ((f_X8_isOn x2 x3 S).bind fun q19 => if q19.1 = x4 then (kb x1 x2 x3 x4 x5 (x6 ||| ((1 : Int32) <<< (x7 &&& 31))) (x7 + (1 : Int32)) q19.2) else (kb x1 x2 x3 x4 x5 (x6 ||| (0 : Int32)) (x7 + (1 : Int32)) q19.2))
def fj_X8_kinds_102_71 (kb : Int32 → Int32 → Int32 → Int32 → Int32 → Int32 → Int32 → Stt → Option (Int32 × Stt)) (ke : Int32 → Int32 → Int32 → Stt → Option (Int32 × Stt)) (x1 : Int32) (x2 : Int32) (x3 : Int32) (x4 : Int32) (x5 : Int32) (x6 : Int32) (x7 : Int32) (S : Stt) : Option (Int32 × Stt) :=
  fj_X8_kinds_107_71 kb ke x1 x2 x3 x4 x5 x6 x7 (1 : Int32) S
def fb_X8_kinds_71 (kb : Int32 → Int32 → Int32 → Int32 → Int32 → Int32 → Int32 → Stt → Option (Int32 × Stt)) (ke : Int32 → Int32 → Int32 → Stt → Option (Int32 × Stt)) (x1 : Int32) (x2 : Int32) (x3 : Int32) (x4 : Int32) (x5 : Int32) (x6 : Int32) (x7 : Int32) (S : Stt) : Option (Int32 × Stt) :=
  if (4 : Int32) < x7 then (ke x1 x5 x6 S) else (grd (ixb x1 6) (if x7 = 0 then (fj_X8_kinds_102_71 kb ke x1 x2 x3 x4 x5 x6 x7 (put S 7 0 x1.toNatClampNeg x7)) else (if x7 = (1 : Int32) then (fj_X8_kinds_102_71 kb ke x1 x2 x3 x4 x5 x6 x7 (put S 7 0 x1.toNatClampNeg x7)) else (if x7 = (4 : Int32) then (fj_X8_kinds_102_71 kb ke x1 x2 x3 x4 x5 x6 x7 (put S 7 0 x1.toNatClampNeg x7)) else (fj_X8_kinds_107_71 kb ke x1 x2 x3 x4 x5 x6 x7 (0 : Int32) (put S 7 0 x1.toNatClampNeg x7))))))
def fl_X8_kinds_71 (ke : Int32 → Int32 → Int32 → Stt → Option (Int32 × Stt)) : Nat → Int32 → Int32 → Int32 → Int32 → Int32 → Int32 → Int32 → Stt → Option (Int32 × Stt)
  | 0 => fun _ _ _ _ _ _ _ _ => none
  | n + 1 => fun x1 x2 x3 x4 x5 x6 x7 S => fb_X8_kinds_71 (fl_X8_kinds_71 ke n) ke x1 x2 x3 x4 x5 x6 x7 S
def f_X8_kinds (x1 : Int32) (x2 : Int32) (x3 : Int32) (x4 : Int32) (S : Stt) : Option (Int32 × Stt) :=
  (f_X8_isPage x1 S).bind fun q1 => if q1.1 = 0 then (some ((-1 : Int32), q1.2)) else ((f_X8_isCase x2 q1.2).bind fun q4 => if q4.1 = 0 then (some ((-1 : Int32), q4.2)) else ((f_X8_isDay x3 q4.2).bind fun q7 => if q7.1 = 0 then (some ((-1 : Int32), q7.2)) else ((f_X8_in x4 (0 : Int32) (1 : Int32) q7.2).bind fun q10 => if q10.1 = 0 then (some ((-1 : Int32), q10.2)) else (grd (ixb x1 6) (if (q10.2.1 7 0 x1.toNatClampNeg) = 0 then (fl_X8_kinds_71 (fun x1 x5 x6 S => grd (ixb x1 6) (some (x6, (put S 7 0 x1.toNatClampNeg x5)))) 300 x1 x2 x3 x4 (q10.2.1 7 0 x1.toNatClampNeg) (0 : Int32) (0 : Int32) q10.2) else (if (q10.2.1 7 0 x1.toNatClampNeg) = (1 : Int32) then (fl_X8_kinds_71 (fun x1 x5 x6 S => grd (ixb x1 6) (some (x6, (put S 7 0 x1.toNatClampNeg x5)))) 300 x1 x2 x3 x4 (q10.2.1 7 0 x1.toNatClampNeg) (0 : Int32) (0 : Int32) q10.2) else (if (q10.2.1 7 0 x1.toNatClampNeg) = (4 : Int32) then (fl_X8_kinds_71 (fun x1 x5 x6 S => grd (ixb x1 6) (some (x6, (put S 7 0 x1.toNatClampNeg x5)))) 300 x1 x2 x3 x4 (q10.2.1 7 0 x1.toNatClampNeg) (0 : Int32) (0 : Int32) q10.2) else ((f_X8_meet (3 : Int32) q10.2).bind fun q29 => some (q29.1, q29.2)))))))))
def fb_X8_lots_31 (kb : Int32 → Int64 → Int32 → Int32 → Stt → Option (Int32 × Stt)) (ke : Int32 → Stt → Option (Int32 × Stt)) (x1 : Int32) (y3 : Int64) (x5 : Int32) (x6 : Int32) (S : Stt) : Option (Int32 × Stt) :=
  if x1 ≤ x6 then (ke x5 S) else ((f_X8_isOn (((((48271 : Int64) * y3) - ((48271 : Int64) * y3) / (2147483647 : Int64) * (2147483647 : Int64)) - (((48271 : Int64) * y3) - ((48271 : Int64) * y3) / (2147483647 : Int64) * (2147483647 : Int64)) / (32 : Int64) * (32 : Int64)).toInt32) ((((((48271 : Int64) * y3) - ((48271 : Int64) * y3) / (2147483647 : Int64) * (2147483647 : Int64)) / (32 : Int64)) - ((((48271 : Int64) * y3) - ((48271 : Int64) * y3) / (2147483647 : Int64) * (2147483647 : Int64)) / (32 : Int64)) / (21 : Int64) * (21 : Int64)).toInt32) S).bind fun q8 => if q8.1 = (-9 : Int32) then (kb x1 (((48271 : Int64) * y3) - ((48271 : Int64) * y3) / (2147483647 : Int64) * (2147483647 : Int64)) (x5 + (1 : Int32)) (x6 + (1 : Int32)) q8.2) else (kb x1 (((48271 : Int64) * y3) - ((48271 : Int64) * y3) / (2147483647 : Int64) * (2147483647 : Int64)) (x5 + (0 : Int32)) (x6 + (1 : Int32)) q8.2))
def fl_X8_lots_31 (ke : Int32 → Stt → Option (Int32 × Stt)) : Nat → Int32 → Int64 → Int32 → Int32 → Stt → Option (Int32 × Stt)
  | 0 => fun _ _ _ _ _ => none
  | n + 1 => fun x1 y3 x5 x6 S => fb_X8_lots_31 (fl_X8_lots_31 ke n) ke x1 y3 x5 x6 S
def f_X8_lots (x1 : Int32) (x2 : Int32) (S : Stt) : Option (Int32 × Stt) :=
  (f_X8_in x1 (1 : Int32) (60 : Int32) S).bind fun q1 => if q1.1 = 0 then (some ((-1 : Int32), q1.2)) else ((f_X8_in x2 (1 : Int32) (2147483646 : Int32) q1.2).bind fun q4 => if q4.1 = 0 then (some ((-1 : Int32), q4.2)) else (fl_X8_lots_31 (fun x5 S => some (x5, S)) 300 x1 x2.toInt64 (0 : Int32) (0 : Int32) q4.2))
def fb_X8_matter_22 (kb : Int32 → Int32 → Int32 → Int32 → Stt → Option (Int32 × Stt)) (ke : Int32 → Stt → Option (Int32 × Stt)) (x1 : Int32) (x2 : Int32) (x3 : Int32) (x4 : Int32) (S : Stt) : Option (Int32 × Stt) :=
  if (32 : Int32) ≤ x4 then (ke x3 S) else ((f_X8_isOn x4 x2 S).bind fun q8 => (f_X8_isOn x4 x2 (put q8.2 0 20 0 x1)).bind fun q10 => if q8.1 = q10.1 then (kb x1 x2 (x3 + (0 : Int32)) (x4 + (1 : Int32)) (put q10.2 0 20 0 (-9 : Int32))) else (kb x1 x2 (x3 + (1 : Int32)) (x4 + (1 : Int32)) (put q10.2 0 20 0 (-9 : Int32))))
def fl_X8_matter_22 (ke : Int32 → Stt → Option (Int32 × Stt)) : Nat → Int32 → Int32 → Int32 → Int32 → Stt → Option (Int32 × Stt)
  | 0 => fun _ _ _ _ _ => none
  | n + 1 => fun x1 x2 x3 x4 S => fb_X8_matter_22 (fl_X8_matter_22 ke n) ke x1 x2 x3 x4 S
def f_X8_matter (x1 : Int32) (x2 : Int32) (S : Stt) : Option (Int32 × Stt) :=
  (f_X8_isPage x1 S).bind fun q1 => if q1.1 = 0 then (some ((-1 : Int32), q1.2)) else ((f_X8_isDay x2 q1.2).bind fun q4 => if q4.1 = 0 then (some ((-1 : Int32), q4.2)) else (fl_X8_matter_22 (fun x3 S => some (x3, S)) 300 x1 x2 (0 : Int32) (0 : Int32) q4.2))
def f_X8_verdict (x1 : Int32) (x2 : Int32) (S : Stt) : Option (Int32 × Stt) :=
  (f_X8_isCase x1 S).bind fun q1 => if q1.1 = 0 then (some ((-1 : Int32), q1.2)) else ((f_X8_isDay x2 q1.2).bind fun q4 => if q4.1 = 0 then (some ((-1 : Int32), q4.2)) else ((f_X8_isOn x1 x2 q4.2).bind fun q7 => (f_X8_bindSet x2 q7.2).bind fun q9 => (f_X8_meanOf (5 : Int32) x2 q9.2).bind fun q11 => (f_X8_meanOf (6 : Int32) x2 q11.2).bind fun q13 => (f_X8_onesOf x1 q9.1 q11.1 q13.1 q13.2).bind fun q15 => (f_X8_ask q15.1 q7.1 q15.2).bind fun q17 => some (q17.1, q17.2)))
def f_X8_waits (x1 : Int32) (S : Stt) : Option (Int32 × Stt) :=
  (f_X8_isDay x1 S).bind fun q1 => if q1.1 = 0 then (some ((-1 : Int32), q1.2)) else ((f_X8_waitsOn x1 (1 : Int32) q1.2).bind fun q4 => (f_X8_waitsOn x1 (-9 : Int32) q4.2).bind fun q6 => (f_X8_ask q4.1 q6.1 q6.2).bind fun q8 => some (q8.1, q8.2))
def f_X8_all (S : Stt) : Option (Int32 × Stt) :=
  (f_X8_allWaits  S).bind fun q1 => some (q1.1, q1.2)
def fj_X8_deeds_66_32 (kb : Int32 → Int32 → Int32 → Int32 → Stt → Option (Int32 × Stt)) (ke : Int32 → Int32 → Int32 → Stt → Option (Int32 × Stt)) (x1 : Int32) (x2 : Int32) (x5 : Int32) (xt1 : Int32) (xt2 : Int32) (S : Stt) : Option (Int32 × Stt) :=
  (f_X8_freeFrom xt1 xt2 S).bind fun q12 => if q12.1 = (-9 : Int32) then (some ((-6 : Int32), q12.2)) else (grd (ixb x5 8) (kb x1 x2 q12.1 (x5 + (1 : Int32)) (put q12.2 15 0 x5.toNatClampNeg q12.1)))
def fb_X8_deeds_32 (kb : Int32 → Int32 → Int32 → Int32 → Stt → Option (Int32 × Stt)) (ke : Int32 → Int32 → Int32 → Stt → Option (Int32 × Stt)) (x1 : Int32) (x2 : Int32) (x4 : Int32) (x5 : Int32) (S : Stt) : Option (Int32 × Stt) :=
  grd (ixb x1 6) (if (S.1 2 0 x1.toNatClampNeg) ≤ x5 then (ke x1 x2 x4 S) else ((f_X8_rowAt x1 x5 S).bind fun q9 => if x4 = (-9 : Int32) then (fj_X8_deeds_66_32 kb ke x1 x2 x5 q9.1 (0 : Int32) q9.2) else (fj_X8_deeds_66_32 kb ke x1 x2 x5 q9.1 (x4 + (1 : Int32)) q9.2)))
def fl_X8_deeds_32 (ke : Int32 → Int32 → Int32 → Stt → Option (Int32 × Stt)) : Nat → Int32 → Int32 → Int32 → Int32 → Stt → Option (Int32 × Stt)
  | 0 => fun _ _ _ _ _ => none
  | n + 1 => fun x1 x2 x4 x5 S => fb_X8_deeds_32 (fl_X8_deeds_32 ke n) ke x1 x2 x4 x5 S
def fj_X8_deeds_18 (x1 : Int32) (x2 : Int32) (xt0 : Int32) (S : Stt) : Option (Int32 × Stt) :=
  if 0 ≤ xt0 then (fl_X8_deeds_32 (fun x1 x2 x4 S => grd (ixb x1 6) ((f_X8_layTold x2 (S.1 2 0 x1.toNatClampNeg) S).bind fun q17 => some (x4, q17))) 300 x1 x2 (-9 : Int32) (0 : Int32) S) else (some (xt0, S))
def f_X8_deeds (x1 : Int32) (x2 : Int32) (S : Stt) : Option (Int32 × Stt) :=
  (f_X8_isRow x2 S).bind fun q1 => if q1.1 = 0 then (fj_X8_deeds_18 x1 x2 (-1 : Int32) q1.2) else ((f_X8_askedDeeds x1 (8 : Int32) q1.2).bind fun q4 => fj_X8_deeds_18 x1 x2 q4.1 q4.2)
def fb_X8_flip_28 (kb : Int32 → Int32 → Stt → Option (Int32 × Stt)) (ke : Stt → Option (Int32 × Stt)) (x3 : Int32) (x4 : Int32) (S : Stt) : Option (Int32 × Stt) :=
  if (S.1 0 10 0) ≤ x4 then (ke  S) else (if x3 = (-9 : Int32) then (ke  S) else (grd (ixb x4 6) (if (S.1 12 0 x4.toNatClampNeg) = x3 then (some (x4, S)) else (kb x3 (x4 + (1 : Int32)) S))))
def fl_X8_flip_28 (ke : Stt → Option (Int32 × Stt)) : Nat → Int32 → Int32 → Stt → Option (Int32 × Stt)
  | 0 => fun _ _ _ => none
  | n + 1 => fun x3 x4 S => fb_X8_flip_28 (fl_X8_flip_28 ke n) ke x3 x4 S
def f_X8_flip (x1 : Int32) (x2 : Int32) (S : Stt) : Option (Int32 × Stt) :=
  (f_X8_isCase x1 S).bind fun q1 => if q1.1 = 0 then (some ((-1 : Int32), q1.2)) else (if 0 ≤ x2 then ((f_X8_flipsOf x1 x2 q1.2).bind fun q5 => fl_X8_flip_28 (fun S => some ((-9 : Int32), S)) 300 (q5.2.1 0 26 0) (0 : Int32) q5.2) else (some ((-1 : Int32), q1.2)))
def f_X8_flips (x1 : Int32) (S : Stt) : Option (Int32 × Stt) :=
  (f_X8_isCase x1 S).bind fun q1 => if q1.1 = 0 then (some ((-1 : Int32), q1.2)) else ((f_X8_flipsOf x1 (-9 : Int32) q1.2).bind fun q4 => some (q4.1, q4.2))
def f_X8_free (x1 : Int32) (x2 : Int32) (S : Stt) : Option (Int32 × Stt) :=
  (f_X8_isCase x1 S).bind fun q1 => if q1.1 = 0 then (some ((-1 : Int32), q1.2)) else ((f_X8_isDay x2 q1.2).bind fun q4 => if q4.1 = 0 then (some ((-1 : Int32), q4.2)) else ((f_X8_freeFrom x1 x2 q4.2).bind fun q7 => some (q7.1, q7.2)))
def fb_X8_front_6 (kb : Int32 → Stt → Option (Int32 × Stt)) (ke : Stt → Option (Int32 × Stt)) (x1 : Int32) (S : Stt) : Option (Int32 × Stt) :=
  if (S.1 0 10 0) ≤ x1 then (ke  S) else (grd (ixb x1 6) (kb (x1 + (1 : Int32)) (put S 12 0 x1.toNatClampNeg x1)))
def fl_X8_front_6 (ke : Stt → Option (Int32 × Stt)) : Nat → Int32 → Stt → Option (Int32 × Stt)
  | 0 => fun _ _ => none
  | n + 1 => fun x1 S => fb_X8_front_6 (fl_X8_front_6 ke n) ke x1 S
def fb_X8_front_34 (kb : Int32 → Int32 → Stt → Option (Int32 × Stt)) (ke : Int32 → Stt → Option (Int32 × Stt)) (x1 : Int32) (x2 : Int32) (S : Stt) : Option (Int32 × Stt) :=
  if (S.1 0 10 0) ≤ x2 then (ke x1 S) else (grd (ixb x2 6) (kb x1 (x2 + (1 : Int32)) (put S 12 0 x2.toNatClampNeg (((S.1 0 10 0) - (1 : Int32)) - x2))))
def fl_X8_front_34 (ke : Int32 → Stt → Option (Int32 × Stt)) : Nat → Int32 → Int32 → Stt → Option (Int32 × Stt)
  | 0 => fun _ _ _ => none
  | n + 1 => fun x1 x2 S => fb_X8_front_34 (fl_X8_front_34 ke n) ke x1 x2 S
def f_X8_front (S : Stt) : Option (Int32 × Stt) :=
  (f_X8_putAside  S).bind fun q1 => fl_X8_front_6 (fun S => (f_X8_allWaits  S).bind fun q5 => fl_X8_front_34 (fun x1 S => (f_X8_allWaits  S).bind fun q9 => (f_X8_comeBack  q9.2).bind fun q11 => (f_X8_ask q9.1 x1 q11).bind fun q13 => some (q13.1, q13.2)) 300 q5.1 (0 : Int32) q5.2) 300 (0 : Int32) q1
def fj_X8_most_32_6 (kb : Int32 → Int32 → Int32 → Stt → Option (Int32 × Stt)) (ke : Int32 → Int32 → Stt → Option (Int32 × Stt)) (x2 : Int32) (x3 : Int32) (x4 : Int32) (xt0 : Int32) (S : Stt) : Option (Int32 × Stt) :=
  if x4 ≤ x2 then (kb xt0 x2 (x3 + (1 : Int32)) S) else (kb xt0 x4 (x3 + (1 : Int32)) S)
def fb_X8_most_6 (kb : Int32 → Int32 → Int32 → Stt → Option (Int32 × Stt)) (ke : Int32 → Int32 → Stt → Option (Int32 × Stt)) (x1 : Int32) (x2 : Int32) (x3 : Int32) (S : Stt) : Option (Int32 × Stt) :=
  if (32 : Int32) ≤ x3 then (ke x1 x2 S) else ((f_X8_flipsOf x3 (-9 : Int32) S).bind fun q2 => if q2.1 ≤ x2 then (fj_X8_most_32_6 kb ke x2 x3 q2.1 x1 q2.2) else (fj_X8_most_32_6 kb ke x2 x3 q2.1 x3 q2.2))
def fl_X8_most_6 (ke : Int32 → Int32 → Stt → Option (Int32 × Stt)) : Nat → Int32 → Int32 → Int32 → Stt → Option (Int32 × Stt)
  | 0 => fun _ _ _ _ => none
  | n + 1 => fun x1 x2 x3 S => fb_X8_most_6 (fl_X8_most_6 ke n) ke x1 x2 x3 S
def f_X8_most (S : Stt) : Option (Int32 × Stt) :=
  fl_X8_most_6 (fun x1 x2 S => (f_X8_ask x2 x1 S).bind fun q6 => some (q6.1, q6.2)) 300 (0 : Int32) (0 : Int32) (0 : Int32) S
def fb_X4_tryFrom_3 (fr : Int32 → Int32 → Int32 → Stt → Option (Stt)) (kb : Int32 → Int32 → Int32 → Int32 → Stt → Option (Stt)) (ke : Stt → Option (Stt)) (x1 : Int32) (x2 : Int32) (x3 : Int32) (x4 : Int32) (S : Stt) : Option (Stt) :=
  if (S.1 42 0 0) ≤ x4 then (ke  S) else (if (S.1 42 0 0) ≤ x1 then (ke  S) else ((f_X7_hasBit x2 x4 S).bind fun q3 => if q3.1 = 0 then ((f_X4_firstClear x4 x3 q3.2).bind fun q6 => if q6.1 = (-9 : Int32) then (kb x1 x2 x3 (x4 + (1 : Int32)) q6.2) else (if q6.1 < (q6.2.1 46 0 0) then (grd (ixb x1 8) (if ((put q6.2 44 0 x1.toNatClampNeg x4).1 42 0 0) ≤ (x1 + (1 : Int32)) then (grd (cpb (0 : Int32) (0 : Int32) ((put (put q6.2 44 0 x1.toNatClampNeg x4) 46 0 0 q6.1).1 42 0 0) 8 8) (kb x1 x2 x3 (x4 + (1 : Int32)) (putA (put (put q6.2 44 0 x1.toNatClampNeg x4) 46 0 0 q6.1) 45 0 (va_cpy ((put (put q6.2 44 0 x1.toNatClampNeg x4) 46 0 0 q6.1).1 44 0) ((put (put q6.2 44 0 x1.toNatClampNeg x4) 46 0 0 q6.1).1 45 0) (0 : Int32).toNatClampNeg (0 : Int32).toNatClampNeg ((put (put q6.2 44 0 x1.toNatClampNeg x4) 46 0 0 q6.1).1 42 0 0).toNatClampNeg)))) else ((fr (x1 + (1 : Int32)) (x2 ||| ((1 : Int32) <<< (x4 &&& 31))) (q6.1 + (1 : Int32)) (put q6.2 44 0 x1.toNatClampNeg x4)).bind fun q13 => kb x1 x2 x3 (x4 + (1 : Int32)) q13))) else (kb x1 x2 x3 (x4 + (1 : Int32)) q6.2))) else (kb x1 x2 x3 (x4 + (1 : Int32)) q3.2)))
def fl_X4_tryFrom_3 (fr : Int32 → Int32 → Int32 → Stt → Option (Stt)) (ke : Stt → Option (Stt)) : Nat → Int32 → Int32 → Int32 → Int32 → Stt → Option (Stt)
  | 0 => fun _ _ _ _ _ => none
  | n + 1 => fun x1 x2 x3 x4 S => fb_X4_tryFrom_3 fr (fl_X4_tryFrom_3 fr ke n) ke x1 x2 x3 x4 S
def fo_X4_tryFrom (fr : Int32 → Int32 → Int32 → Stt → Option (Stt)) (x1 : Int32) (x2 : Int32) (x3 : Int32) (S : Stt) : Option (Stt) :=
  fl_X4_tryFrom_3 fr (fun S => some S) 300 x1 x2 x3 (0 : Int32) S
def f_X4_tryFrom : Nat → Int32 → Int32 → Int32 → Stt → Option (Stt)
  | 0 => fun _ _ _ _ => none
  | n + 1 => fun x1 x2 x3 S => fo_X4_tryFrom (f_X4_tryFrom n) x1 x2 x3 S
def fj_X4_planSoonest_32 (S : Stt) : Option (Int32 × Stt) :=
  if (S.1 46 0 0) = (99 : Int32) then (some ((0 : Int32), S)) else (some ((1 : Int32), S))
def fj_X4_planSoonest_15 (xt1 : Int32) (S : Stt) : Option (Int32 × Stt) :=
  if ((put S 46 0 0 xt1).1 42 0 0) ≤ 0 then (fj_X4_planSoonest_32  (put S 46 0 0 xt1)) else ((f_X4_tryFrom 10 (0 : Int32) (0 : Int32) (0 : Int32) (put S 46 0 0 xt1)).bind fun q4 => fj_X4_planSoonest_32  q4)
def f_X4_planSoonest (S : Stt) : Option (Int32 × Stt) :=
  if (S.1 42 0 0) = 0 then (fj_X4_planSoonest_15 (-9 : Int32) S) else (fj_X4_planSoonest_15 (99 : Int32) S)
def f_X7_order (x1 : Int32) (x2 : Int32) (S : Stt) : Option (Int32 × Stt) :=
  (f_X7_refusalOfDeeds x1 x2 (5 : Int32) S).bind fun q1 => if q1.1 = 0 then ((f_X4_take 0 x1 0 q1.2).bind fun q4 => (f_X4_planSoonest  q4).bind fun q6 => if q6.1 = 0 then (some ((-6 : Int32), q6.2)) else ((f_X4_tellPlaces 0 x2 q6.2).bind fun q9 => some ((q9.1 46 0 0), q9))) else (some (q1.1, q1.2))
def fj_X8_orderOn_98_58 (fr : Int32 → Int32 → Int32 → Int32 → Stt → Option (Stt)) (kb : Int32 → Int32 → Int32 → Int32 → Int32 → Stt → Option (Stt)) (ke : Stt → Option (Stt)) (x1 : Int32) (x2 : Int32) (x3 : Int32) (x4 : Int32) (x5 : Int32) (xt0 : Int32) (S : Stt) : Option (Stt) :=
  if xt0 = (-9 : Int32) then (kb x1 x2 x3 x4 (x5 + (1 : Int32)) S) else (grd (ixb x2 6) ((fr x1 (x2 + (1 : Int32)) (x3 &&& (((1 : Int32) <<< (x5 &&& 31)) ^^^ (-1 : Int32))) xt0 (put S 16 0 x2.toNatClampNeg x5)).bind fun q10 => kb x1 x2 x3 x4 (x5 + (1 : Int32)) q10))
def fb_X8_orderOn_58 (fr : Int32 → Int32 → Int32 → Int32 → Stt → Option (Stt)) (kb : Int32 → Int32 → Int32 → Int32 → Int32 → Stt → Option (Stt)) (ke : Stt → Option (Stt)) (x1 : Int32) (x2 : Int32) (x3 : Int32) (x4 : Int32) (x5 : Int32) (S : Stt) : Option (Stt) :=
  grd (ixb x1 6) (if (S.1 2 0 x1.toNatClampNeg) ≤ x5 then (ke  S) else ((f_X8_has x3 x5 S).bind fun q5 => if q5.1 = 0 then (fj_X8_orderOn_98_58 fr kb ke x1 x2 x3 x4 x5 (-9 : Int32) q5.2) else ((f_X8_rowAt x1 x5 q5.2).bind fun q12 => (f_X8_freeFrom q12.1 (x4 + (1 : Int32)) q12.2).bind fun q14 => fj_X8_orderOn_98_58 fr kb ke x1 x2 x3 x4 x5 q14.1 q14.2)))
def fl_X8_orderOn_58 (fr : Int32 → Int32 → Int32 → Int32 → Stt → Option (Stt)) (ke : Stt → Option (Stt)) : Nat → Int32 → Int32 → Int32 → Int32 → Int32 → Stt → Option (Stt)
  | 0 => fun _ _ _ _ _ _ => none
  | n + 1 => fun x1 x2 x3 x4 x5 S => fb_X8_orderOn_58 fr (fl_X8_orderOn_58 fr ke n) ke x1 x2 x3 x4 x5 S
def fb_X8_orderOn_28 (fr : Int32 → Int32 → Int32 → Int32 → Stt → Option (Stt)) (kb : Int32 → Int32 → Stt → Option (Stt)) (ke : Stt → Option (Stt)) (x2 : Int32) (x5 : Int32) (S : Stt) : Option (Stt) :=
  if x2 ≤ x5 then (ke  S) else (grd (ixb x5 6) (grd (ixb x5 8) (kb x2 (x5 + (1 : Int32)) (put S 15 0 x5.toNatClampNeg (S.1 16 0 x5.toNatClampNeg)))))
def fl_X8_orderOn_28 (fr : Int32 → Int32 → Int32 → Int32 → Stt → Option (Stt)) (ke : Stt → Option (Stt)) : Nat → Int32 → Int32 → Stt → Option (Stt)
  | 0 => fun _ _ _ => none
  | n + 1 => fun x2 x5 S => fb_X8_orderOn_28 fr (fl_X8_orderOn_28 fr ke n) ke x2 x5 S
def fo_X8_orderOn (fr : Int32 → Int32 → Int32 → Int32 → Stt → Option (Stt)) (x1 : Int32) (x2 : Int32) (x3 : Int32) (x4 : Int32) (S : Stt) : Option (Stt) :=
  grd (ixb x1 6) (if x2 = (S.1 2 0 x1.toNatClampNeg) then (if (S.1 0 24 0) ≤ x4 then (some S) else (fl_X8_orderOn_28 fr (fun S => some S) 300 x2 (0 : Int32) (put S 0 24 0 x4))) else (fl_X8_orderOn_58 fr (fun S => some S) 300 x1 x2 x3 x4 (0 : Int32) S))
def f_X8_orderOn : Nat → Int32 → Int32 → Int32 → Int32 → Stt → Option (Stt)
  | 0 => fun _ _ _ _ _ => none
  | n + 1 => fun x1 x2 x3 x4 S => fo_X8_orderOn (f_X8_orderOn n) x1 x2 x3 x4 S
def fb_X8_readOn_61 (fr : Int32 → Int32 → Stt → Option (Stt)) (kb : Int32 → Int32 → Int32 → Stt → Option (Stt)) (ke : Stt → Option (Stt)) (x1 : Int32) (x2 : Int32) (x3 : Int32) (S : Stt) : Option (Stt) :=
  if (S.1 0 10 0) ≤ x3 then (ke  S) else ((f_X8_has x2 x3 S).bind fun q3 => if q3.1 = 0 then (kb x1 x2 (x3 + (1 : Int32)) q3.2) else (grd (ixb x1 6) (grd (ixb x3 6) ((fr (x1 + (1 : Int32)) (x2 &&& (((1 : Int32) <<< (x3 &&& 31)) ^^^ (-1 : Int32))) (put (put q3.2 16 0 x1.toNatClampNeg x3) 12 0 x3.toNatClampNeg x1)).bind fun q8 => kb x1 x2 (x3 + (1 : Int32)) q8))))
def fl_X8_readOn_61 (fr : Int32 → Int32 → Stt → Option (Stt)) (ke : Stt → Option (Stt)) : Nat → Int32 → Int32 → Int32 → Stt → Option (Stt)
  | 0 => fun _ _ _ _ => none
  | n + 1 => fun x1 x2 x3 S => fb_X8_readOn_61 fr (fl_X8_readOn_61 fr ke n) ke x1 x2 x3 S
def fb_X8_readOn_29 (fr : Int32 → Int32 → Stt → Option (Stt)) (kb : Int32 → Stt → Option (Stt)) (ke : Stt → Option (Stt)) (x4 : Int32) (S : Stt) : Option (Stt) :=
  if (S.1 0 10 0) ≤ x4 then (ke  S) else (grd (ixb x4 6) (grd (ixb x4 6) (kb (x4 + (1 : Int32)) (put S 18 0 x4.toNatClampNeg (S.1 16 0 x4.toNatClampNeg)))))
def fl_X8_readOn_29 (fr : Int32 → Int32 → Stt → Option (Stt)) (ke : Stt → Option (Stt)) : Nat → Int32 → Stt → Option (Stt)
  | 0 => fun _ _ => none
  | n + 1 => fun x4 S => fb_X8_readOn_29 fr (fl_X8_readOn_29 fr ke n) ke x4 S
def fo_X8_readOn (fr : Int32 → Int32 → Stt → Option (Stt)) (x1 : Int32) (x2 : Int32) (S : Stt) : Option (Stt) :=
  if x1 = (S.1 0 10 0) then ((f_X8_allWaits  S).bind fun q10 => if (q10.2.1 0 28 0) ≤ q10.1 then (some q10.2) else (fl_X8_readOn_29 fr (fun S => some S) 300 (0 : Int32) (put q10.2 0 28 0 q10.1))) else (fl_X8_readOn_61 fr (fun S => some S) 300 x1 x2 (0 : Int32) S)
def f_X8_readOn : Nat → Int32 → Int32 → Stt → Option (Stt)
  | 0 => fun _ _ _ => none
  | n + 1 => fun x1 x2 S => fo_X8_readOn (f_X8_readOn n) x1 x2 S
def fb_X8_best_58 (kb : Int32 → Int32 → Stt → Option (Int32 × Stt)) (ke : Stt → Option (Int32 × Stt)) (x1 : Int32) (x2 : Int32) (S : Stt) : Option (Int32 × Stt) :=
  if (S.1 0 10 0) ≤ x2 then (ke  S) else (grd (ixb x2 6) ((f_X8_setRow x1 x2 (S.1 18 0 x2.toNatClampNeg) S).bind fun q15 => kb x1 (x2 + (1 : Int32)) q15))
def fl_X8_best_58 (ke : Stt → Option (Int32 × Stt)) : Nat → Int32 → Int32 → Stt → Option (Int32 × Stt)
  | 0 => fun _ _ _ => none
  | n + 1 => fun x1 x2 S => fb_X8_best_58 (fl_X8_best_58 ke n) ke x1 x2 S
def f_X8_best (x1 : Int32) (S : Stt) : Option (Int32 × Stt) :=
  (f_X8_isRow x1 S).bind fun q1 => if q1.1 = 0 then (some ((-1 : Int32), q1.2)) else (if (q1.2.1 0 10 0) = 0 then (some ((-4 : Int32), q1.2)) else ((f_X8_putAside  q1.2).bind fun q5 => (f_X8_readOn 10 (0 : Int32) (((1 : Int32) <<< (((put q5 0 28 0 (1048576 : Int32)).1 0 10 0) &&& 31)) - (1 : Int32)) (put q5 0 28 0 (1048576 : Int32))).bind fun q7 => (f_X8_comeBack  q7).bind fun q9 => (f_X8_row x1 (q9.1 0 10 0) q9).bind fun q11 => fl_X8_best_58 (fun S => some ((S.1 0 28 0), S)) 300 x1 (0 : Int32) q11.2))
def fj_X8_order_17 (x1 : Int32) (x2 : Int32) (xt0 : Int32) (S : Stt) : Option (Int32 × Stt) :=
  if 0 ≤ xt0 then (grd (ixb x1 6) ((f_X8_orderOn 10 x1 (0 : Int32) (((1 : Int32) <<< (((put S 0 24 0 (1048576 : Int32)).1 2 0 x1.toNatClampNeg) &&& 31)) - (1 : Int32)) (-1 : Int32) (put S 0 24 0 (1048576 : Int32))).bind fun q8 => if (q8.1 0 24 0) = (1048576 : Int32) then (some ((-6 : Int32), q8)) else (grd (ixb x1 6) ((f_X8_layTold x2 (q8.1 2 0 x1.toNatClampNeg) q8).bind fun q12 => if 0 ≤ (q12.1 0 24 0) then (some ((q12.1 0 24 0), q12)) else (some ((-9 : Int32), q12)))))) else (some (xt0, S))
def f_X8_order (x1 : Int32) (x2 : Int32) (S : Stt) : Option (Int32 × Stt) :=
  (f_X8_isRow x2 S).bind fun q1 => if q1.1 = 0 then (fj_X8_order_17 x1 x2 (-1 : Int32) q1.2) else ((f_X8_askedDeeds x1 (5 : Int32) q1.2).bind fun q4 => fj_X8_order_17 x1 x2 q4.1 q4.2)
def f_X2_goOn (fr : Nat → Int32 → Int32 → Stt → Option (Stt)) (b1 : Nat) (x3 : Int32) (x4 : Int32) (S : Stt) : Option (Stt) :=
  if (S.1 17 b1 0) ≤ (x3 + (1 : Int32)) then (grd (cpb (0 : Int32) (0 : Int32) ((put S 52 0 0 x4).1 17 b1 0) 6 6) (some (putA (put S 52 0 0 x4) 51 0 (va_cpy ((put S 52 0 0 x4).1 50 0) ((put S 52 0 0 x4).1 51 0) (0 : Int32).toNatClampNeg (0 : Int32).toNatClampNeg ((put S 52 0 0 x4).1 17 b1 0).toNatClampNeg)))) else ((fr b1 (x3 + (1 : Int32)) x4 S).bind fun q3 => some q3)
def fj_X2_tryDay_93_3 (fr : Nat → Int32 → Int32 → Stt → Option (Stt)) (kb : Nat → Int32 → Int32 → Int32 → Stt → Option (Stt)) (ke : Stt → Option (Stt)) (b1 : Nat) (x3 : Int32) (x4 : Int32) (x5 : Int32) (S : Stt) : Option (Stt) :=
  grd (ixb x5 6) (kb b1 x3 x4 (x5 + (1 : Int32)) (put S 15 b1 x5.toNatClampNeg (99 : Int32)))
def fb_X2_tryDay_3 (fr : Nat → Int32 → Int32 → Stt → Option (Stt)) (kb : Nat → Int32 → Int32 → Int32 → Stt → Option (Stt)) (ke : Stt → Option (Stt)) (b1 : Nat) (x3 : Int32) (x4 : Int32) (x5 : Int32) (S : Stt) : Option (Stt) :=
  if (S.1 17 b1 0) ≤ x5 then (ke  S) else (if (S.1 17 b1 0) ≤ x3 then (ke  S) else (grd (ixb x5 6) (if (S.1 15 b1 x5.toNatClampNeg) = (99 : Int32) then (grd (ixb x5 6) ((f_X1_hear b1 x3 (put S 15 b1 x5.toNatClampNeg x3)).bind fun q6 => (f_X1_waiting  q6).bind fun q8 => (f_J6_bitCount_0f7a4 q8.1 q8.2).bind fun q10 => if (q10.2.1 52 0 0) ≤ (x4 + q10.1) then (fj_X2_tryDay_93_3 fr kb ke b1 x3 x4 x5 q10.2) else (grd (ixb x3 6) ((f_X2_goOn fr b1 x3 (x4 + q10.1) (put q10.2 50 0 x3.toNatClampNeg x5)).bind fun q15 => fj_X2_tryDay_93_3 fr kb ke b1 x3 x4 x5 q15)))) else (kb b1 x3 x4 (x5 + (1 : Int32)) S))))
def fl_X2_tryDay_3 (fr : Nat → Int32 → Int32 → Stt → Option (Stt)) (ke : Stt → Option (Stt)) : Nat → Nat → Int32 → Int32 → Int32 → Stt → Option (Stt)
  | 0 => fun _ _ _ _ _ => none
  | n + 1 => fun b1 x3 x4 x5 S => fb_X2_tryDay_3 fr (fl_X2_tryDay_3 fr ke n) ke b1 x3 x4 x5 S
def fo_X2_tryDay (fr : Nat → Int32 → Int32 → Stt → Option (Stt)) (b1 : Nat) (x3 : Int32) (x4 : Int32) (S : Stt) : Option (Stt) :=
  fl_X2_tryDay_3 fr (fun S => some S) 300 b1 x3 x4 (0 : Int32) S
def f_X2_tryDay : Nat → Nat → Int32 → Int32 → Stt → Option (Stt)
  | 0 => fun _ _ _ _ => none
  | n + 1 => fun b1 x3 x4 S => fo_X2_tryDay (f_X2_tryDay n) b1 x3 x4 S
def fb_X2_findBest_9 (kb : Nat → Int32 → Stt → Option (Stt)) (ke : Nat → Stt → Option (Stt)) (b1 : Nat) (x3 : Int32) (S : Stt) : Option (Stt) :=
  if (S.1 17 b1 0) ≤ x3 then (ke b1 S) else (grd (ixb x3 6) (kb b1 (x3 + (1 : Int32)) (put S 15 b1 x3.toNatClampNeg (99 : Int32))))
def fl_X2_findBest_9 (ke : Nat → Stt → Option (Stt)) : Nat → Nat → Int32 → Stt → Option (Stt)
  | 0 => fun _ _ _ => none
  | n + 1 => fun b1 x3 S => fb_X2_findBest_9 (fl_X2_findBest_9 ke n) ke b1 x3 S
def f_X2_findBest (b1 : Nat) (S : Stt) : Option (Stt) :=
  fl_X2_findBest_9 (fun b1 S => (f_X2_tryDay 10 b1 (0 : Int32) (0 : Int32) S).bind fun q3 => some q3) 300 b1 (0 : Int32) (put S 52 0 0 (193 : Int32))
def fb_X7_best_70 (kb : Int32 → Int32 → Stt → Option (Int32 × Stt)) (ke : Stt → Option (Int32 × Stt)) (x1 : Int32) (x2 : Int32) (S : Stt) : Option (Int32 × Stt) :=
  if (S.1 17 0 0) ≤ x2 then (ke  S) else (grd (ixb x2 6) ((f_X6_write 0 x1 x2 (S.1 51 0 x2.toNatClampNeg) S).bind fun q13 => kb x1 (x2 + (1 : Int32)) q13))
def fl_X7_best_70 (ke : Stt → Option (Int32 × Stt)) : Nat → Int32 → Int32 → Stt → Option (Int32 × Stt)
  | 0 => fun _ _ _ => none
  | n + 1 => fun x1 x2 S => fb_X7_best_70 (fl_X7_best_70 ke n) ke x1 x2 S
def f_X7_best (x1 : Int32) (S : Stt) : Option (Int32 × Stt) :=
  (f_X6_isOne 0 x1 S).bind fun q1 => if q1.1 = 0 then (some ((-1 : Int32), q1.2)) else (if (q1.2.1 17 0 0) = 0 then (some ((-4 : Int32), q1.2)) else ((f_X0_become 1 0 q1.2).bind fun q5 => (f_X2_findBest 1 q5).bind fun q7 => (f_X6_make 0 x1 (q7.1 17 0 0) (0 : Int32) q7).bind fun q9 => fl_X7_best_70 (fun S => some ((S.1 52 0 0), S)) 300 x1 (0 : Int32) q9))
