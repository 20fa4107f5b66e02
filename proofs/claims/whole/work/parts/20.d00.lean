-- J9_max_7cf53
def fn_J9_max_7cf53 (a1 : Int32) (a2 : Int32) (m : am_m) : Option (Int32) :=
  (if a1 < a2 then some a2 else some a1)
-- J9_min_7cf53
def fn_J9_min_7cf53 (a1 : Int32) (a2 : Int32) (m : am_m) : Option (Int32) :=
  (if a2 < a1 then some a2 else some a1)
-- J6_bitCount_0f7a4
def fn_J6_bitCount_0f7a4 (a1 : Int32) (m : am_m) : Option (Int32) :=
  some ((((((((a1 - (((a1.toUInt32 >>> ((1 : Int32).toUInt32 &&& Int32.toUInt32 31)).toInt32) &&& (1431655765 : Int32))) &&& (858993459 : Int32)) + ((((a1 - (((a1.toUInt32 >>> ((1 : Int32).toUInt32 &&& Int32.toUInt32 31)).toInt32) &&& (1431655765 : Int32))).toUInt32 >>> ((2 : Int32).toUInt32 &&& Int32.toUInt32 31)).toInt32) &&& (858993459 : Int32))) + (((((a1 - (((a1.toUInt32 >>> ((1 : Int32).toUInt32 &&& Int32.toUInt32 31)).toInt32) &&& (1431655765 : Int32))) &&& (858993459 : Int32)) + ((((a1 - (((a1.toUInt32 >>> ((1 : Int32).toUInt32 &&& Int32.toUInt32 31)).toInt32) &&& (1431655765 : Int32))).toUInt32 >>> ((2 : Int32).toUInt32 &&& Int32.toUInt32 31)).toInt32) &&& (858993459 : Int32))).toUInt32 >>> ((4 : Int32).toUInt32 &&& Int32.toUInt32 31)).toInt32)) &&& (252645135 : Int32)) + (((((((a1 - (((a1.toUInt32 >>> ((1 : Int32).toUInt32 &&& Int32.toUInt32 31)).toInt32) &&& (1431655765 : Int32))) &&& (858993459 : Int32)) + ((((a1 - (((a1.toUInt32 >>> ((1 : Int32).toUInt32 &&& Int32.toUInt32 31)).toInt32) &&& (1431655765 : Int32))).toUInt32 >>> ((2 : Int32).toUInt32 &&& Int32.toUInt32 31)).toInt32) &&& (858993459 : Int32))) + (((((a1 - (((a1.toUInt32 >>> ((1 : Int32).toUInt32 &&& Int32.toUInt32 31)).toInt32) &&& (1431655765 : Int32))) &&& (858993459 : Int32)) + ((((a1 - (((a1.toUInt32 >>> ((1 : Int32).toUInt32 &&& Int32.toUInt32 31)).toInt32) &&& (1431655765 : Int32))).toUInt32 >>> ((2 : Int32).toUInt32 &&& Int32.toUInt32 31)).toInt32) &&& (858993459 : Int32))).toUInt32 >>> ((4 : Int32).toUInt32 &&& Int32.toUInt32 31)).toInt32)) &&& (252645135 : Int32)).toUInt32 >>> ((8 : Int32).toUInt32 &&& Int32.toUInt32 31)).toInt32)) + ((((((((a1 - (((a1.toUInt32 >>> ((1 : Int32).toUInt32 &&& Int32.toUInt32 31)).toInt32) &&& (1431655765 : Int32))) &&& (858993459 : Int32)) + ((((a1 - (((a1.toUInt32 >>> ((1 : Int32).toUInt32 &&& Int32.toUInt32 31)).toInt32) &&& (1431655765 : Int32))).toUInt32 >>> ((2 : Int32).toUInt32 &&& Int32.toUInt32 31)).toInt32) &&& (858993459 : Int32))) + (((((a1 - (((a1.toUInt32 >>> ((1 : Int32).toUInt32 &&& Int32.toUInt32 31)).toInt32) &&& (1431655765 : Int32))) &&& (858993459 : Int32)) + ((((a1 - (((a1.toUInt32 >>> ((1 : Int32).toUInt32 &&& Int32.toUInt32 31)).toInt32) &&& (1431655765 : Int32))).toUInt32 >>> ((2 : Int32).toUInt32 &&& Int32.toUInt32 31)).toInt32) &&& (858993459 : Int32))).toUInt32 >>> ((4 : Int32).toUInt32 &&& Int32.toUInt32 31)).toInt32)) &&& (252645135 : Int32)) + (((((((a1 - (((a1.toUInt32 >>> ((1 : Int32).toUInt32 &&& Int32.toUInt32 31)).toInt32) &&& (1431655765 : Int32))) &&& (858993459 : Int32)) + ((((a1 - (((a1.toUInt32 >>> ((1 : Int32).toUInt32 &&& Int32.toUInt32 31)).toInt32) &&& (1431655765 : Int32))).toUInt32 >>> ((2 : Int32).toUInt32 &&& Int32.toUInt32 31)).toInt32) &&& (858993459 : Int32))) + (((((a1 - (((a1.toUInt32 >>> ((1 : Int32).toUInt32 &&& Int32.toUInt32 31)).toInt32) &&& (1431655765 : Int32))) &&& (858993459 : Int32)) + ((((a1 - (((a1.toUInt32 >>> ((1 : Int32).toUInt32 &&& Int32.toUInt32 31)).toInt32) &&& (1431655765 : Int32))).toUInt32 >>> ((2 : Int32).toUInt32 &&& Int32.toUInt32 31)).toInt32) &&& (858993459 : Int32))).toUInt32 >>> ((4 : Int32).toUInt32 &&& Int32.toUInt32 31)).toInt32)) &&& (252645135 : Int32)).toUInt32 >>> ((8 : Int32).toUInt32 &&& Int32.toUInt32 31)).toInt32)).toUInt32 >>> ((16 : Int32).toUInt32 &&& Int32.toUInt32 31)).toInt32)) &&& (63 : Int32))
-- J9_abs_0f7a4
def fn_J9_abs_0f7a4 (a1 : Int32) (m : am_m) : Option (Int32) :=
  (if 0 ≤ a1 then some a1 else some (-a1))
-- X10_in
def fn_X10_in (a1 : Int64) (a2 : Int64) (a3 : Int64) (m : am_m) : Option (Int32) :=
  (if (lg_cmp a1 a2) < 0 then some 0 else (if 0 < (lg_cmp a1 a3) then some 0 else some 1))
-- X10_is
def fn_X10_is (a1 : Int32) (a2 : Int32) (m : am_m) : Option (Int32) :=
  (if ((a1 >>> (a2 &&& 31)) &&& (1 : Int32)) ≠ (1 : Int32) then some 0 else some 1)
-- X10_ones
def lp_X10_ones_4 : Nat → Int32 → Int32 → Int32 → am_m → Option (Int32)
  | 0, _, _, _, _ => none
  | n + 1, x0, x1, x2, m =>
  (if (7 : Int32) ≤ x2 then some x1 else lp_X10_ones_4 n x0 (x1 + ((x0 >>> (x2 &&& 31)) &&& (1 : Int32))) (x2 + 1) m)
def fn_X10_ones (a1 : Int32) (m : am_m) : Option (Int32) :=
  (lp_X10_ones_4 1000000 a1 0 0 m).bind fun q2 => some q2
-- X10_bounded
def fn_X10_bounded (a1 : Int64) (a2 : Int32) (a3 : Int32) (m : am_m) : Option (Int32) :=
  (if 0 ≤ (lg_cmp a1 a2.toInt64) then (if (lg_cmp a1 a3.toInt64) ≤ 0 then some a1.toInt32 else some a3) else some a2)
-- X10_tell
def fn_X10_tell (a1 : Int32) (m : am_m) : Option (Int32 × am_m) :=
  (if 0 ≤ a1 then some (a1, am_si m 10 0 1 (if 0 ≤ a1 then (0 : Int32) else a1)) else am_ck (-a1) 7 (am_ck (-a1) 7 (some (a1, am_si (am_si m 10 0 1 (if 0 ≤ a1 then (0 : Int32) else a1)) 43 0 (-a1).toNatClampNeg ((m.1 43 0 (-a1).toNatClampNeg) + (1 : Int32))))))
-- X10_change
def fn_X10_change (a1 : Int32) (a2 : Int32) (m : am_m) : Option (Int32 × am_m) :=
  am_ck a1 5518 (am_ck a1 5518 (some ((m.1 44 0 a1.toNatClampNeg), am_si (am_si m 44 0 a1.toNatClampNeg a2) 10 0 1 0)))
-- X10_lasting
def fn_X10_lasting (a1 : Int32) (m : am_m) : Option (Int32 × am_m) :=
  (fn_X10_tell a1 (am_si m 10 0 8 (if 0 ≤ a1 then (0 : Int32) else (m.1 10 0 8)))).bind fun r2 => some (r2.1, r2.2)
-- X10_keepAll
def lp_X10_keepAll_2 : Nat → Int32 → Int32 → am_m → Option (am_m)
  | 0, _, _, _ => none
  | n + 1, x1, x2, m =>
  (if (108 : Int32) ≤ x2 then some m else am_ck ((4 : Int32) + x2) 5518 (am_ck (((108 : Int32) * x1) + x2) 1944 (lp_X10_keepAll_2 n x1 (x2 + 1) (am_si m 46 0 (((108 : Int32) * x1) + x2).toNatClampNeg (m.1 44 0 ((4 : Int32) + x2).toNatClampNeg)))))
def fn_X10_keepAll (a1 : Int32) (m : am_m) : Option (am_m) :=
  (lp_X10_keepAll_2 1000000 a1 0 m).bind fun q4 => some q4
-- X10_putBack
def lp_X10_putBack_2 : Nat → Int32 → Int32 → am_m → Option (am_m)
  | 0, _, _, _ => none
  | n + 1, x1, x2, m =>
  (if (108 : Int32) ≤ x2 then some m else am_ck (((108 : Int32) * x1) + x2) 1944 (am_ck ((4 : Int32) + x2) 5518 (lp_X10_putBack_2 n x1 (x2 + 1) (am_si m 44 0 ((4 : Int32) + x2).toNatClampNeg (m.1 46 0 (((108 : Int32) * x1) + x2).toNatClampNeg)))))
def fn_X10_putBack (a1 : Int32) (m : am_m) : Option (am_m) :=
  (lp_X10_putBack_2 1000000 a1 0 m).bind fun q4 => some q4
-- X10_remember
def lp_X10_remember_11 : Nat → Int32 → Int32 → am_m → Option (am_m)
  | 0, _, _, _ => none
  | n + 1, x1, x2, m =>
  (if (1620 : Int32) ≤ x2 then some m else am_ck (x2 + (108 : Int32)) 1944 (am_ck x2 1944 (lp_X10_remember_11 n x1 (x2 + 1) (am_si m 46 0 x2.toNatClampNeg (m.1 46 0 (x2 + (108 : Int32)).toNatClampNeg)))))
def lp_X10_remember_41 : Nat → Int32 → Int32 → am_m → Option (am_m)
  | 0, _, _, _ => none
  | n + 1, x1, x2, m =>
  (if (15 : Int32) ≤ x2 then some m else am_ck (x2 + (1 : Int32)) 16 (am_ck x2 16 (lp_X10_remember_41 n x1 (x2 + 1) (am_si m 47 0 x2.toNatClampNeg (m.1 47 0 (x2 + (1 : Int32)).toNatClampNeg)))))
def fn_X10_remember (a1 : Int32) (m : am_m) : Option (am_m) :=
  (if (m.1 10 0 8) ≠ (16 : Int32) then some m else (lp_X10_remember_11 1000000 a1 0 m).bind fun q5 => (lp_X10_remember_41 1000000 a1 0 q5).bind fun q10 => some (am_si q10 10 0 8 ((q10.1 10 0 8) - (1 : Int32)))).bind fun q12 => (fn_X10_keepAll (q12.1 10 0 8) q12).bind fun r13 => am_ck (r13.1 10 0 8) 16 (some (am_si (am_si r13 47 0 (r13.1 10 0 8).toNatClampNeg a1) 10 0 8 ((r13.1 10 0 8) + (1 : Int32))))
-- X10_undo
def fn_X10_undo  (m : am_m) : Option (Int32 × am_m) :=
  (if (m.1 10 0 8) ≠ 0 then (fn_X10_putBack ((m.1 10 0 8) - (1 : Int32)) (am_si (am_si m 10 0 0 0) 10 0 8 ((m.1 10 0 8) - (1 : Int32)))).bind fun r2 => am_ck (r2.1 10 0 8) 16 ((fn_X10_tell (r2.1 47 0 (r2.1 10 0 8).toNatClampNeg) r2).bind fun r5 => some (r5.1, r5.2)) else (fn_X10_tell (-3) (am_si m 10 0 0 0)).bind fun r7 => some (r7.1, r7.2))
-- X10_image
def lp_X10_image_23 : Nat → Int32 → Int32 → am_m → Option (am_m)
  | 0, _, _, _ => none
  | n + 1, x1, x2, m =>
  (if (5518 : Int32) ≤ x2 then some m else am_ck x2 5518 (am_ck (((5518 : Int32) * x1) + x2) 11036 (lp_X10_image_23 n x1 (x2 + 1) (am_si m 45 0 (((5518 : Int32) * x1) + x2).toNatClampNeg (m.1 44 0 x2.toNatClampNeg)))))
def fn_X10_image (a1 : Int32) (m : am_m) : Option (Int32 × am_m) :=
  (fn_X10_in a1.toInt64 0 1 (am_si m 10 0 0 0)).bind fun r1 => (if r1 ≠ 0 then (lp_X10_image_23 1000000 a1 0 (am_si m 10 0 0 0)).bind fun q7 => am_ck a1 2 ((fn_X10_tell 0 (am_si q7 91 0 a1.toNatClampNeg 1)).bind fun r11 => some (r11.1, r11.2)) else (fn_X10_tell (-1) (am_si m 10 0 0 0)).bind fun r13 => some (r13.1, r13.2))
-- X10_back
def lp_X10_back_39 : Nat → Int32 → Int32 → am_m → Option (am_m)
  | 0, _, _, _ => none
  | n + 1, x1, x2, m =>
  (if (5518 : Int32) ≤ x2 then some m else am_ck (((5518 : Int32) * x1) + x2) 11036 (am_ck x2 5518 (lp_X10_back_39 n x1 (x2 + 1) (am_si m 44 0 x2.toNatClampNeg (m.1 45 0 (((5518 : Int32) * x1) + x2).toNatClampNeg)))))
def fn_X10_back (a1 : Int32) (m : am_m) : Option (Int32 × am_m) :=
  (fn_X10_in a1.toInt64 0 1 (am_si m 10 0 0 0)).bind fun r1 => (if r1 ≠ 0 then am_ck a1 2 ((if (m.1 91 0 a1.toNatClampNeg) ≠ 0 then (lp_X10_back_39 1000000 a1 0 (am_si m 10 0 0 0)).bind fun q9 => (fn_X10_lasting 0 q9).bind fun r11 => some (r11.1, r11.2) else (fn_X10_tell (-2) (am_si m 10 0 0 0)).bind fun r13 => some (r13.1, r13.2))) else (fn_X10_tell (-1) (am_si m 10 0 0 0)).bind fun r15 => some (r15.1, r15.2))
-- X10_isFolk
def fn_X10_isFolk (a1 : Int32) (m : am_m) : Option (Int32) :=
  (fn_X10_in a1.toInt64 0 (((m.1 44 0 0).toInt64) - (1 : Int64)) m).bind fun r1 => am_gd (r1 = 0 ∨ r1 = 1) (some r1)
-- X10_all
def fn_X10_all  (m : am_m) : Option (Int32) :=
  some (((1 : Int32) <<< ((m.1 44 0 0) &&& 31)) - (1 : Int32))
-- X10_areThere
def fn_X10_areThere (a1 : Int32) (m : am_m) : Option (Int32) :=
  (fn_X10_all  m).bind fun r1 => (if (a1 &&& (r1 ^^^ (-1 : Int32))) ≠ 0 then some 0 else some 1)
-- X10_isSet
def fn_X10_isSet (a1 : Int32) (m : am_m) : Option (Int32) :=
  (fn_X10_in a1.toInt64 0 127 m).bind fun r1 => am_gd (r1 = 0 ∨ r1 = 1) (some r1)
-- X10_weightOf
def fn_X10_weightOf (a1 : Int32) (a2 : Int32) (m : am_m) : Option (Int32) :=
  am_ck (((14 : Int32) + ((7 : Int32) * a1)) + a2) 5518 (some (m.1 44 0 (((14 : Int32) + ((7 : Int32) * a1)) + a2).toNatClampNeg))
-- X10_harmsOf
def lp_X10_harmsOf_4 : Nat → Int32 → Int32 → am_m → Option (Int32)
  | 0, _, _, _ => none
  | n + 1, x1, x2, m =>
  (if (49 : Int32) ≤ x2 then some x1 else am_ck ((14 : Int32) + x2) 5518 (lp_X10_harmsOf_4 n (x1 + (if (m.1 44 0 ((14 : Int32) + x2).toNatClampNeg) ≤ 0 then (0 : Int32) else (1 : Int32))) (x2 + 1) m))
def fn_X10_harmsOf  (m : am_m) : Option (Int32) :=
  (lp_X10_harmsOf_4 1000000 0 0 m).bind fun q4 => some q4
-- X10_starving
def lp_X10_starving_4 : Nat → Int32 → Int32 → am_m → Option (Int32)
  | 0, _, _, _ => none
  | n + 1, x1, x2, m =>
  (if (m.1 44 0 0) ≤ x2 then some x1 else am_ck ((7 : Int32) + x2) 5518 (lp_X10_starving_4 n (x1 + (if (m.1 44 0 ((7 : Int32) + x2).toNatClampNeg) ≠ 0 then (0 : Int32) else (1 : Int32))) (x2 + 1) m))
def fn_X10_starving  (m : am_m) : Option (Int32) :=
  (lp_X10_starving_4 1000000 0 0 m).bind fun q4 => some q4
-- X10_folk
def fn_X10_folk (a1 : Int32) (m : am_m) : Option (Int32 × am_m) :=
  (fn_X10_in a1.toInt64 0 9 (am_si m 10 0 0 0)).bind fun r1 => (if r1 ≠ 0 then (if (m.1 44 0 0) ≠ (7 : Int32) then am_ck ((7 : Int32) + (m.1 44 0 0)) 5518 ((fn_X10_lasting (m.1 44 0 0) (am_si (am_si (am_si m 10 0 0 0) 44 0 ((7 : Int32) + (m.1 44 0 0)).toNatClampNeg a1) 44 0 0 (((am_si (am_si m 10 0 0 0) 44 0 ((7 : Int32) + (m.1 44 0 0)).toNatClampNeg a1).1 44 0 0) + (1 : Int32)))).bind fun r6 => some (r6.1, r6.2)) else (fn_X10_tell (-5) (am_si m 10 0 0 0)).bind fun r8 => some (r8.1, r8.2)) else (fn_X10_tell (-1) (am_si m 10 0 0 0)).bind fun r10 => some (r10.1, r10.2))
-- X10_harmsBy
def lp_X10_harmsBy_5 : Nat → Int32 → Int32 → Int32 → Int32 → am_m → Option (Int32)
  | 0, _, _, _, _, _ => none
  | n + 1, x1, x2, x3, x4, m =>
  (if (m.1 44 0 0) ≤ x4 then some x3 else (if x2 = 0 then (fn_X10_weightOf x4 x1 m).bind fun r3 => some r3 else (fn_X10_weightOf x1 x4 m).bind fun r5 => some r5).bind fun q7 => lp_X10_harmsBy_5 n x1 x2 (x3 + (if q7 ≤ 0 then (0 : Int32) else (1 : Int32))) (x4 + 1) m)
def fn_X10_harmsBy (a1 : Int32) (a2 : Int32) (m : am_m) : Option (Int32) :=
  (lp_X10_harmsBy_5 1000000 a1 a2 0 0 m).bind fun q10 => some q10
-- X10_reckon
def fn_X10_reckon (a1 : Int32) (a2 : Int64) (a3 : Int64) (m : am_m) : Option (Int64 × am_m) :=
  (if a1 = 20 then some ((a2 + a3), m) else (if a1 = 21 then some ((a2 - a3), m) else (if a1 = 22 then some ((a2 * a3), m) else (if a1 = 23 then am_gd ((if (lg_cmp a3 (0 : Int64)) ≠ 0 then (0 : Int32) else (1 : Int32)) = 0 ∨ (if (lg_cmp a3 (0 : Int64)) ≠ 0 then (0 : Int32) else (1 : Int32)) = 1) ((if (if (lg_cmp a3 (0 : Int64)) ≠ 0 then (0 : Int32) else (1 : Int32)) = 0 then am_gd (¬ a3 = 0) (some ((a2 / a3), am_si m 10 0 38 (if (lg_cmp a3 (0 : Int64)) ≠ 0 then (0 : Int32) else (1 : Int32)))) else some (0, am_si m 10 0 38 (if (lg_cmp a3 (0 : Int64)) ≠ 0 then (0 : Int32) else (1 : Int32))))) else (if a1 = 24 then am_gd ((if (lg_cmp a3 (0 : Int64)) ≠ 0 then (0 : Int32) else (1 : Int32)) = 0 ∨ (if (lg_cmp a3 (0 : Int64)) ≠ 0 then (0 : Int32) else (1 : Int32)) = 1) ((if (if (lg_cmp a3 (0 : Int64)) ≠ 0 then (0 : Int32) else (1 : Int32)) = 0 then am_gd (¬ a3 = 0) (some ((a2 - a2 / a3 * a3), am_si m 10 0 38 (if (lg_cmp a3 (0 : Int64)) ≠ 0 then (0 : Int32) else (1 : Int32)))) else some (0, am_si m 10 0 38 (if (lg_cmp a3 (0 : Int64)) ≠ 0 then (0 : Int32) else (1 : Int32))))) else (if a1 = 25 then (if 0 ≤ (lg_cmp a2 a3) then some (0, m) else some (1, m)) else (if a1 = 26 then (if (lg_cmp a2 a3) ≤ 0 then some (0, m) else some (1, m)) else (if (lg_cmp a2 a3) ≠ 0 then some (0, m) else some (1, m)))))))))
-- X10_reckonAll
def lp_X10_reckonAll_10 : Nat → Int32 → Int32 → Int32 → am_m → Option (Int32 × am_m)
  | 0, _, _, _, _ => none
  | n + 1, x2, x3, x4, m =>
  (if x2 ≤ x4 then some (x3, m) else (if (m.1 10 0 38) ≠ 0 then some (x3, m) else (if (m.1 10 0 20) = 0 then am_ck (((m.1 10 0 34) + (98 : Int32)) + ((2 : Int32) * x4)) 5518 (some (m.1 44 0 (((m.1 10 0 34) + (98 : Int32)) + ((2 : Int32) * x4)).toNatClampNeg)) else am_ck x4 400 (some (m.1 52 0 x4.toNatClampNeg))).bind fun q6 => (if (m.1 10 0 20) = 0 then am_ck ((((m.1 10 0 34) + (98 : Int32)) + ((2 : Int32) * x4)) + (1 : Int32)) 5518 (some (m.1 44 0 ((((m.1 10 0 34) + (98 : Int32)) + ((2 : Int32) * x4)) + (1 : Int32)).toNatClampNeg)) else am_ck x4 400 (some (m.1 53 0 x4.toNatClampNeg))).bind fun q10 => (if (20 : Int32) ≤ q6 then (if (28 : Int32) ≤ q6 then (if q6 ≠ (28 : Int32) then am_ck (x3 - (1 : Int32)) 400 ((if (lg_cmp (m.2.1 87 0 (x3 - (1 : Int32)).toNatClampNeg) (if q6 ≠ (29 : Int32) then (1 : Int64) else (0 : Int64))) ≠ 0 then some ((x3 - 1), (x4 + 1), m) else some (x3, q10, m))) else am_ck (x3 - (1 : Int32)) 400 (am_ck (x3 - (1 : Int32)) 400 (some (x3, (x4 + 1), am_sg m 87 0 (x3 - (1 : Int32)).toNatClampNeg ((1 : Int64) - (m.2.1 87 0 (x3 - (1 : Int32)).toNatClampNeg)))))) else am_ck ((x3 - 1) - (1 : Int32)) 400 (am_ck (x3 - 1) 400 ((fn_X10_reckon q6 (m.2.1 87 0 ((x3 - 1) - (1 : Int32)).toNatClampNeg) (m.2.1 87 0 (x3 - 1).toNatClampNeg) m).bind fun r21 => am_ck ((x3 - 1) - (1 : Int32)) 400 ((if (r21.2.1 10 0 38) ≠ 0 then some (1 : Int32) else am_ck ((x3 - 1) - (1 : Int32)) 400 ((fn_X10_in ((am_sg r21.2 87 0 ((x3 - 1) - (1 : Int32)).toNatClampNeg r21.1).2.1 87 0 ((x3 - 1) - (1 : Int32)).toNatClampNeg) (-1000000000) 1000000000 (am_sg r21.2 87 0 ((x3 - 1) - (1 : Int32)).toNatClampNeg r21.1)).bind fun r26 => (if r26 ≠ 0 then some (0 : Int32) else some (1 : Int32)))).bind fun q29 => am_gd (q29 = 0 ∨ q29 = 1) (some ((x3 - 1), (x4 + 1), am_si (am_sg r21.2 87 0 ((x3 - 1) - (1 : Int32)).toNatClampNeg r21.1) 10 0 38 q29)))))) else (if q6 ≠ 0 then (if (m.1 10 0 20) ≠ 0 then (if (6 : Int32) ≤ q6 then (fn_X10_isFolk q10 m).bind fun r35 => (if r35 ≠ 0 then (if q6 ≠ (6 : Int32) then am_ck q10 7 (some ((m.1 62 0 q10.toNatClampNeg).toInt64)) else am_ck ((7 : Int32) + q10) 5518 (some ((m.1 44 0 ((7 : Int32) + q10).toNatClampNeg).toInt64))) else some (-1 : Int64)) else am_ck q6 13 (some (m.2.1 86 0 q6.toNatClampNeg))) else am_ck q6 13 (some (m.2.1 85 0 q6.toNatClampNeg))) else some q10.toInt64).bind fun q43 => am_ck x3 400 (some ((x3 + 1), (x4 + 1), am_sg m 87 0 x3.toNatClampNeg q43))).bind fun q46 => lp_X10_reckonAll_10 n x2 q46.1 q46.2.1 q46.2.2))
def fn_X10_reckonAll (a1 : Int32) (a2 : Int32) (m : am_m) : Option (am_m) :=
  (lp_X10_reckonAll_10 1000000 a2 0 a1 (am_si m 10 0 38 0)).bind fun q50 => some (am_sg q50.2 10 0 39 (if q50.1 ≤ 0 then (0 : Int64) else (q50.2.2.1 87 0 0)))
-- X10_isSo
def fn_X10_isSo (a1 : Int32) (m : am_m) : Option (Int32 × am_m) :=
  am_ck (a1 + (5 : Int32)) 5518 (am_ck (a1 + (6 : Int32)) 5518 ((if (m.1 44 0 (a1 + (6 : Int32)).toNatClampNeg) ≤ (m.1 44 0 (a1 + (5 : Int32)).toNatClampNeg) then am_ck a1 5518 ((if (m.1 44 0 a1.toNatClampNeg) = (3 : Int32) then some (1, m) else am_ck (a1 + (3 : Int32)) 5518 (am_ck (a1 + (4 : Int32)) 5518 ((fn_X10_reckonAll (m.1 44 0 (a1 + (3 : Int32)).toNatClampNeg) (m.1 44 0 (a1 + (4 : Int32)).toNatClampNeg) m).bind fun r8 => (if (r8.1 10 0 38) ≠ 0 then some (0, am_sg r8 10 0 40 (r8.2.1 10 0 39)) else some (1, am_sg r8 10 0 40 (r8.2.1 10 0 39))))))) else am_ck (a1 + (5 : Int32)) 5518 (am_ck (a1 + (6 : Int32)) 5518 ((fn_X10_reckonAll (m.1 44 0 (a1 + (5 : Int32)).toNatClampNeg) (m.1 44 0 (a1 + (6 : Int32)).toNatClampNeg) m).bind fun r13 => (if (r13.1 10 0 38) ≠ 0 then some (0, r13) else (if (lg_cmp (r13.2.1 10 0 39) (0 : Int64)) ≠ 0 then am_ck a1 5518 ((if (r13.1 44 0 a1.toNatClampNeg) = (3 : Int32) then some (1, r13) else am_ck (a1 + (3 : Int32)) 5518 (am_ck (a1 + (4 : Int32)) 5518 ((fn_X10_reckonAll (r13.1 44 0 (a1 + (3 : Int32)).toNatClampNeg) (r13.1 44 0 (a1 + (4 : Int32)).toNatClampNeg) r13).bind fun r21 => (if (r21.1 10 0 38) ≠ 0 then some (0, am_sg r21 10 0 40 (r21.2.1 10 0 39)) else some (1, am_sg r21 10 0 40 (r21.2.1 10 0 39))))))) else some (0, r13))))))))
-- X10_tells
def lp_X10_tells_180 : Nat → Int32 → Int64 → Int32 → am_m → Option (Int64 × am_m)
  | 0, _, _, _, _ => none
  | n + 1, x1, x7, x9, m =>
  am_ck ((m.1 10 0 34) + (1 : Int32)) 5518 ((if (m.1 44 0 ((m.1 10 0 34) + (1 : Int32)).toNatClampNeg) ≤ x9 then some (x7, m) else am_ck (((m.1 10 0 34) + (2 : Int32)) + ((8 : Int32) * x9)) 5518 ((if (m.1 44 0 (((m.1 10 0 34) + (2 : Int32)) + ((8 : Int32) * x9)).toNatClampNeg) ≠ x1 then some (x7, m) else (fn_X10_isSo (((m.1 10 0 34) + (2 : Int32)) + ((8 : Int32) * x9)) m).bind fun r17 => (if r17.1 = 0 then some (x7, r17.2) else some ((if x1 ≠ (3 : Int32) then (r17.2.2.1 10 0 40) else (1 : Int64)), r17.2))).bind fun q21 => lp_X10_tells_180 n x1 q21.1 (x9 + 1) q21.2)))
def fn_X10_tells (a1 : Int32) (a2 : Int32) (a3 : Int32) (a4 : Int32) (a5 : Int64) (m : am_m) : Option (Int64 × am_m) :=
  (if (m.1 44 0 3) ≠ (-1 : Int32) then (if a3 ≠ (-1 : Int32) then (fn_X10_weightOf a2 a3 (am_sg (am_sg (am_si m 10 0 34 ((118 : Int32) + ((900 : Int32) * (m.1 44 0 3)))) 85 0 1 a2.toInt64) 85 0 2 a3.toInt64)).bind fun r3 => some r3.toInt64 else some (-1 : Int64)).bind fun q5 => (if a3 = (-1 : Int32) then some (-1 : Int64) else (fn_X10_weightOf a2 a3 (am_sg (am_sg (am_sg (am_si m 10 0 34 ((118 : Int32) + ((900 : Int32) * (m.1 44 0 3)))) 85 0 1 a2.toInt64) 85 0 2 a3.toInt64) 85 0 3 q5)).bind fun r7 => (if r7 ≠ 0 then am_ck (((63 : Int32) + ((7 : Int32) * a2)) + a3) 5518 (some (((m.1 44 0 4) - (m.1 44 0 (((63 : Int32) + ((7 : Int32) * a2)) + a3).toNatClampNeg)).toInt64)) else some (-1 : Int64))).bind fun q11 => am_ck ((7 : Int32) + a2) 5518 ((lp_X10_tells_180 1000000 a1 a5 0 (am_sg (am_sg (am_sg (am_sg (am_sg (am_sg (am_sg (am_sg (am_si m 10 0 34 ((118 : Int32) + ((900 : Int32) * (m.1 44 0 3)))) 85 0 1 a2.toInt64) 85 0 2 a3.toInt64) 85 0 3 q5) 85 0 4 q11) 85 0 5 ((m.1 44 0 ((7 : Int32) + a2).toNatClampNeg).toInt64)) 85 0 6 a4.toInt64) 85 0 7 ((m.1 44 0 4).toInt64)) 85 0 8 ((m.1 44 0 6).toInt64))).bind fun q23 => some (q23.1, q23.2)) else some (a5, m))
-- X10_hungersBy
def fn_X10_hungersBy (a1 : Int32) (m : am_m) : Option (Int32 × am_m) :=
  (fn_X10_tells 2 a1 (-1) (-1) 1 m).bind fun r1 => (fn_X10_bounded r1.1 0 9 r1.2).bind fun r3 => some (r3, r1.2)
-- X10_barsOff
def fn_X10_barsOff (a1 : Int32) (a2 : Int32) (m : am_m) : Option (Int32 × am_m) :=
  (fn_X10_tells 3 a1 a2 (-1) 0 m).bind fun r1 => (if (lg_cmp r1.1 (1 : Int64)) ≠ 0 then some (0, r1.2) else some (1, r1.2))
-- X10_countsAs
def fn_X10_countsAs (a1 : Int32) (a2 : Int32) (m : am_m) : Option (Int32 × am_m) :=
  (fn_X10_weightOf a1 a2 m).bind fun r1 => (fn_X10_tells 0 a1 a2 (-1) r1.toInt64 m).bind fun r3 => (fn_X10_bounded r3.1 0 9 r3.2).bind fun r5 => some (r5, r3.2)
-- X10_maySit
def fn_X10_maySit (a1 : Int32) (a2 : Int32) (m : am_m) : Option (Int32 × am_m) :=
  (fn_X10_countsAs a1 a2 m).bind fun r1 => (fn_X10_countsAs a2 a1 r1.2).bind fun r3 => (if (r1.1 + r3.1) ≤ 0 then some (0, r3.2) else (fn_X10_barsOff a1 a2 r3.2).bind fun r6 => (if r6.1 ≠ 0 then some (0, r6.2) else (fn_X10_barsOff a2 a1 r6.2).bind fun r9 => (if r9.1 ≠ 0 then some (0, r9.2) else some (1, r9.2))))
-- X10_layMay
def lp_X10_layMay_14 : Nat → Int32 → Int32 → am_m → Option (am_m)
  | 0, _, _, _ => none
  | n + 1, x1, x2, m =>
  (if (m.1 44 0 0) ≤ x2 then some m else (if x1 = x2 then some ((0 : Int32), m) else (fn_X10_maySit x1 x2 m).bind fun r4 => (if r4.1 = 0 then some ((0 : Int32), r4.2) else some ((1 : Int32), r4.2))).bind fun q7 => am_gd (q7.1 = 0 ∨ q7.1 = 1) (am_ck (((7 : Int32) * x1) + x2) 49 ((if x1 = x2 then some ((0 : Int32), am_si q7.2 92 0 (((7 : Int32) * x1) + x2).toNatClampNeg q7.1) else (fn_X10_barsOff x1 x2 (am_si q7.2 92 0 (((7 : Int32) * x1) + x2).toNatClampNeg q7.1)).bind fun r11 => (if r11.1 ≠ 0 then some ((1 : Int32), r11.2) else (fn_X10_barsOff x2 x1 r11.2).bind fun r14 => (if r14.1 = 0 then some ((0 : Int32), r14.2) else some ((1 : Int32), r14.2)))).bind fun q17 => am_gd (q17.1 = 0 ∨ q17.1 = 1) (am_ck (((7 : Int32) * x1) + x2) 49 (lp_X10_layMay_14 n x1 (x2 + 1) (am_si q17.2 93 0 (((7 : Int32) * x1) + x2).toNatClampNeg q17.1))))))
def lp_X10_layMay_2 : Nat → Int32 → am_m → Option (am_m)
  | 0, _, _ => none
  | n + 1, x1, m =>
  (if (m.1 44 0 0) ≤ x1 then some m else (lp_X10_layMay_14 1000000 x1 0 m).bind fun q22 => lp_X10_layMay_2 n (x1 + 1) q22)
def fn_X10_layMay  (m : am_m) : Option (am_m) :=
  (lp_X10_layMay_2 1000000 0 m).bind fun q24 => some q24
-- X10_sitsWith
def lp_X10_sitsWith_4 : Nat → Int32 → Int32 → Int32 → am_m → Option (Int32)
  | 0, _, _, _, _ => none
  | n + 1, x1, x2, x3, m =>
  (if (m.1 44 0 0) ≤ x3 then some x2 else am_ck (((7 : Int32) * x1) + x3) 49 (lp_X10_sitsWith_4 n x1 (x2 ||| (if (m.1 92 0 (((7 : Int32) * x1) + x3).toNatClampNeg) = 0 then (0 : Int32) else ((1 : Int32) <<< (x3 &&& 31)))) (x3 + 1) m))
def fn_X10_sitsWith (a1 : Int32) (m : am_m) : Option (Int32) :=
  (lp_X10_sitsWith_4 1000000 a1 0 0 m).bind fun q4 => some q4
-- X10_of
def fn_X10_of (a1 : Int32) (a2 : Int32) (m : am_m) : Option (Int32 × am_m) :=
  (fn_X10_isFolk a1 (am_si m 10 0 0 0)).bind fun r1 => (if r1 ≠ 0 then (if a2 = 0 then am_ck ((7 : Int32) + a1) 5518 (some ((m.1 44 0 ((7 : Int32) + a1).toNatClampNeg), am_si m 10 0 0 0)) else (if a2 = 1 then (fn_X10_layMay  (am_si m 10 0 0 0)).bind fun r7 => (fn_X10_sitsWith a1 r7).bind fun r9 => some (r9, r7) else (if a2 = 2 then (fn_X10_hungersBy a1 (am_si m 10 0 0 0)).bind fun r12 => some (r12.1, r12.2) else (if a2 = 3 then (fn_X10_harmsBy a1 1 (am_si m 10 0 0 0)).bind fun r15 => some (r15, am_si m 10 0 0 0) else (if a2 = 4 then (fn_X10_harmsBy a1 0 (am_si m 10 0 0 0)).bind fun r18 => some (r18, am_si m 10 0 0 0) else some ((-1), am_si m 10 0 0 0)))))) else some ((-1), am_si m 10 0 0 0))
-- X10_asks
def fn_X10_asks (a1 : Int32) (a2 : Int32) (a3 : Int32) (m : am_m) : Option (Int32 × am_m) :=
  (fn_X10_isFolk a1 (am_si m 10 0 0 0)).bind fun r1 => (if r1 = 0 then some ((-1), am_si m 10 0 0 0) else (fn_X10_isFolk a2 (am_si m 10 0 0 0)).bind fun r4 => (if r4 = 0 then some ((-1), am_si m 10 0 0 0) else (if a1 ≠ a2 then (if a3 = 0 then (fn_X10_weightOf a1 a2 (am_si m 10 0 0 0)).bind fun r9 => some (r9, am_si m 10 0 0 0) else (if a3 = 1 then (fn_X10_weightOf a1 a2 (am_si m 10 0 0 0)).bind fun r12 => (if r12 ≠ 0 then am_ck (((63 : Int32) + ((7 : Int32) * a1)) + a2) 5518 (some ((m.1 44 0 (((63 : Int32) + ((7 : Int32) * a1)) + a2).toNatClampNeg), am_si m 10 0 0 0)) else some ((-1), am_si m 10 0 0 0)) else (if a3 = 2 then (fn_X10_countsAs a1 a2 (am_si m 10 0 0 0)).bind fun r17 => some (r17.1, r17.2) else (if a3 = 3 then (fn_X10_barsOff a1 a2 (am_si m 10 0 0 0)).bind fun r20 => (if r20.1 = 0 then some (0, r20.2) else some (1, r20.2)) else (if a3 = 4 then (fn_X10_maySit a1 a2 (am_si m 10 0 0 0)).bind fun r24 => (if r24.1 = 0 then some (0, r24.2) else some (1, r24.2)) else some ((-1), am_si m 10 0 0 0)))))) else some ((-1), am_si m 10 0 0 0))))
-- X10_terms
def fn_X10_terms (a1 : Int32) (a2 : Int32) (m : am_m) : Option (Int32 × am_m) :=
  (if a1 ≠ 0 then (if a1 ≠ (1 : Int32) then (if a1 ≠ (2 : Int32) then some (0 : Int32) else (fn_X10_in a2.toInt64 0 9 (am_si m 10 0 0 0)).bind fun r4 => (if r4 = 0 then some (0 : Int32) else some (1 : Int32))) else (fn_X10_in a2.toInt64 0 10 (am_si m 10 0 0 0)).bind fun r7 => some r7) else (fn_X10_in a2.toInt64 0 999 (am_si m 10 0 0 0)).bind fun r9 => some r9).bind fun q11 => (if q11 ≠ 0 then (fn_X10_change ((4 : Int32) + a1) a2 (am_si (am_si m 10 0 0 0) 10 0 8 0)).bind fun r13 => some (r13.1, r13.2) else (fn_X10_tell (-1) (am_si m 10 0 0 0)).bind fun r15 => some (r15.1, r15.2))
-- X10_setHarm
def fn_X10_setHarm (a1 : Int32) (a2 : Int32) (a3 : Int32) (m : am_m) : Option (am_m) :=
  am_ck (((14 : Int32) + ((7 : Int32) * a1)) + a2) 5518 (am_ck (((63 : Int32) + ((7 : Int32) * a1)) + a2) 5518 (some (am_si (am_si m 44 0 (((14 : Int32) + ((7 : Int32) * a1)) + a2).toNatClampNeg a3) 44 0 (((63 : Int32) + ((7 : Int32) * a1)) + a2).toNatClampNeg ((am_si m 44 0 (((14 : Int32) + ((7 : Int32) * a1)) + a2).toNatClampNeg a3).1 44 0 4))))
-- X10_row
def lp_X10_row_35 : Nat → Int32 → Int32 → Int32 → am_m → Option (Int32 × am_m)
  | 0, _, _, _, _ => none
  | n + 1, x1, x2, x3, m =>
  (if x1 ≤ x3 then some (x2, m) else (if x1 ≤ (x3 + (2 : Int32)) then some (x2, am_si m 10 0 11 ((m.1 10 0 11) + (1 : Int32))) else am_ck x3 400 ((fn_X10_isFolk (m.1 50 0 x3.toNatClampNeg) m).bind fun r5 => (if r5 = 0 then some (x2, am_si m 10 0 11 ((m.1 10 0 11) + (1 : Int32))) else am_ck (x3 + (1 : Int32)) 400 ((fn_X10_isFolk (m.1 50 0 (x3 + (1 : Int32)).toNatClampNeg) m).bind fun r9 => (if r9 = 0 then some (x2, am_si m 10 0 11 ((m.1 10 0 11) + (1 : Int32))) else am_ck x3 400 (am_ck (x3 + (1 : Int32)) 400 ((if (m.1 50 0 x3.toNatClampNeg) = (m.1 50 0 (x3 + (1 : Int32)).toNatClampNeg) then some (x2, am_si m 10 0 11 ((m.1 10 0 11) + (1 : Int32))) else am_ck (x3 + (2 : Int32)) 400 ((fn_X10_in ((m.1 50 0 (x3 + (2 : Int32)).toNatClampNeg).toInt64) 1 9 m).bind fun r16 => (if r16 = 0 then some (x2, am_si m 10 0 11 ((m.1 10 0 11) + (1 : Int32))) else am_ck x3 400 (am_ck (x3 + (1 : Int32)) 400 (am_ck (x3 + (2 : Int32)) 400 ((fn_X10_setHarm (m.1 50 0 x3.toNatClampNeg) (m.1 50 0 (x3 + (1 : Int32)).toNatClampNeg) (m.1 50 0 (x3 + (2 : Int32)).toNatClampNeg) m).bind fun r22 => some ((x2 + 1), r22)))))))))))))).bind fun q24 => lp_X10_row_35 n x1 q24.1 (x3 + 3) q24.2)
def fn_X10_row  (m : am_m) : Option (Int32 × am_m) :=
  (if (m.1 10 0 13) ≠ 0 then (lp_X10_row_35 1000000 (m.1 10 0 13) 0 0 (am_si (am_si (am_si m 10 0 0 0) 10 0 13 0) 10 0 11 0)).bind fun q26 => (fn_X10_lasting q26.1 q26.2).bind fun r28 => some (r28.1, r28.2) else (fn_X10_tell (-6) (am_si (am_si m 10 0 0 0) 10 0 13 0)).bind fun r30 => some (r30.1, r30.2))
-- X10_crumbs
def fn_X10_crumbs  (m : am_m) : Option (Int32 × am_m) :=
  some ((m.1 10 0 11), am_si m 10 0 0 0)
-- X10_four
def lp_X10_four_3 : Nat → Int32 → Int32 → am_m → Option (am_m)
  | 0, _, _, _ => none
  | n + 1, x1, x2, m =>
  (if x2 < 0 then some m else am_ck (m.1 10 0 13) 400 (lp_X10_four_3 n x1 (x2 - 8) (am_si (am_si m 50 0 (m.1 10 0 13).toNatClampNeg ((x1 >>> (x2 &&& 31)) &&& (255 : Int32))) 10 0 13 ((m.1 10 0 13) + (1 : Int32)))))
def fn_X10_four (a1 : Int32) (m : am_m) : Option (am_m) :=
  (lp_X10_four_3 1000000 a1 24 m).bind fun q3 => some q3
-- X10_feed
def fn_X10_feed (a1 : Int32) (a2 : Int32) (a3 : Int32) (a4 : Int32) (a5 : Int32) (m : am_m) : Option (Int32 × am_m) :=
  (if ((m.1 10 0 13) + (20 : Int32)) ≤ (400 : Int32) then (fn_X10_four a1 (am_si m 10 0 0 0)).bind fun r2 => (fn_X10_four a2 r2).bind fun r4 => (fn_X10_four a3 r4).bind fun r6 => (fn_X10_four a4 r6).bind fun r8 => (fn_X10_four a5 r8).bind fun r10 => some ((r10.1 10 0 13), r10) else some ((-1), am_si m 10 0 0 0))
-- X10_end
def fn_X10_end (a1 : Int32) (m : am_m) : Option (Int32 × am_m) :=
  (if a1 < 0 then some ((-1), am_si m 10 0 0 0) else (if a1 ≤ (m.1 10 0 13) then some (a1, am_si (am_si m 10 0 0 0) 10 0 13 a1) else some ((-1), am_si m 10 0 0 0)))
-- X10_isSmall
def fn_X10_isSmall (a1 : Int32) (m : am_m) : Option (Int32) :=
  (if a1 < (97 : Int32) then some 0 else (if (122 : Int32) < a1 then some 0 else some 1))
-- X10_isDigit
def fn_X10_isDigit (a1 : Int32) (m : am_m) : Option (Int32) :=
  (if a1 < (48 : Int32) then some 0 else (if (57 : Int32) < a1 then some 0 else some 1))
-- X10_next
def lp_X10_next_8 : Nat → am_m → Option (am_m)
  | 0, _ => none
  | n + 1, m =>
  (if (m.1 10 0 13) ≤ (m.1 10 0 14) then some m else am_ck (m.1 10 0 14) 400 ((if (m.1 50 0 (m.1 10 0 14).toNatClampNeg) ≠ (32 : Int32) then some m else lp_X10_next_8 n  (am_si m 10 0 14 ((m.1 10 0 14) + (1 : Int32))))))
def lp_X10_next_149 : Nat → am_m → Option (am_m)
  | 0, _ => none
  | n + 1, m =>
  (if (m.1 10 0 16) ≠ (1 : Int32) then some m else (if (m.1 10 0 13) ≤ (m.1 10 0 15) then some m else am_ck (m.1 10 0 15) 400 ((fn_X10_isSmall (m.1 50 0 (m.1 10 0 15).toNatClampNeg) m).bind fun r22 => (if r22 = 0 then some m else (if (10 : Int32) ≤ ((m.1 10 0 15) - (m.1 10 0 14)) then some (-1 : Int64) else am_ck (m.1 10 0 15) 400 (some ((((m.2.1 10 0 17) * (32 : Int64)) + ((m.1 50 0 (m.1 10 0 15).toNatClampNeg).toInt64)) - (96 : Int64)))).bind fun q27 => lp_X10_next_149 n  (am_si (am_sg m 10 0 17 q27) 10 0 15 ((m.1 10 0 15) + (1 : Int32)))))))
def lp_X10_next_243 : Nat → am_m → Option (am_m)
  | 0, _ => none
  | n + 1, m =>
  (if (m.1 10 0 16) ≠ (2 : Int32) then some m else (if (m.1 10 0 13) ≤ (m.1 10 0 15) then some m else am_ck (m.1 10 0 15) 400 ((fn_X10_isDigit (m.1 50 0 (m.1 10 0 15).toNatClampNeg) m).bind fun r34 => (if r34 = 0 then some m else (if (lg_cmp (m.2.1 10 0 17) (1000000 : Int64)) ≤ 0 then am_ck (m.1 10 0 15) 400 (some ((((m.2.1 10 0 17) * (10 : Int64)) + ((m.1 50 0 (m.1 10 0 15).toNatClampNeg).toInt64)) - (48 : Int64))) else some (m.2.1 10 0 17)).bind fun q39 => lp_X10_next_243 n  (am_si (am_sg m 10 0 17 q39) 10 0 15 ((m.1 10 0 15) + (1 : Int32)))))))
def fn_X10_next  (m : am_m) : Option (am_m) :=
  (lp_X10_next_8 1000000  (am_si m 10 0 14 (m.1 10 0 15))).bind fun q4 => (if (q4.1 10 0 14) ≠ (q4.1 10 0 13) then am_ck (q4.1 10 0 14) 400 ((fn_X10_isSmall (q4.1 50 0 (q4.1 10 0 14).toNatClampNeg) (am_sg (am_si q4 10 0 15 (q4.1 10 0 14)) 10 0 17 0)).bind fun r8 => (if r8 = 0 then am_ck (q4.1 10 0 14) 400 ((fn_X10_isDigit (q4.1 50 0 (q4.1 10 0 14).toNatClampNeg) (am_sg (am_si q4 10 0 15 (q4.1 10 0 14)) 10 0 17 0)).bind fun r12 => (if r12 = 0 then some (3 : Int32) else some (2 : Int32))) else some (1 : Int32))) else some (0 : Int32)).bind fun q15 => (if q15 ≠ (3 : Int32) then some (am_si (am_sg (am_si q4 10 0 15 (q4.1 10 0 14)) 10 0 17 0) 10 0 16 q15) else am_ck (q4.1 10 0 14) 400 (some (am_si (am_sg (am_si (am_sg (am_si q4 10 0 15 (q4.1 10 0 14)) 10 0 17 0) 10 0 16 q15) 10 0 17 ((q4.1 50 0 (q4.1 10 0 14).toNatClampNeg).toInt64)) 10 0 15 ((q4.1 10 0 14) + (1 : Int32))))).bind fun q18 => (lp_X10_next_149 1000000  q18).bind fun q29 => (lp_X10_next_243 1000000  q29).bind fun q41 => some q41
-- X10_begin
def fn_X10_begin  (m : am_m) : Option (am_m) :=
  (fn_X10_next  (am_si (am_si (am_si m 10 0 15 0) 10 0 19 0) 10 0 18 (-1))).bind fun r1 => some r1
-- X10_isWord
def fn_X10_isWord (a1 : Int64) (m : am_m) : Option (Int32) :=
  (if (m.1 10 0 16) ≠ (1 : Int32) then some 0 else (if (lg_cmp (m.2.1 10 0 17) a1) ≠ 0 then some 0 else some 1))
-- X10_isSign
def fn_X10_isSign (a1 : Int32) (m : am_m) : Option (Int32) :=
  (if (m.1 10 0 16) ≠ (3 : Int32) then some 0 else (if (lg_cmp (m.2.1 10 0 17) a1.toInt64) ≠ 0 then some 0 else some 1))
-- X10_must
def fn_X10_must (a1 : Int32) (m : am_m) : Option (am_m) :=
  (if (m.1 10 0 19) ≠ 0 then some m else (if a1 ≠ 0 then some m else some (am_si (am_si m 10 0 19 1) 10 0 18 (m.1 10 0 14)))).bind fun q3 => (if (q3.1 10 0 19) ≠ 0 then some q3 else (fn_X10_next  q3).bind fun r5 => some r5)
-- X10_number
def fn_X10_number (a1 : Int64) (a2 : Int64) (m : am_m) : Option (Int32 × am_m) :=
  (if (m.1 10 0 16) ≠ (2 : Int32) then some (0 : Int32) else (fn_X10_in (m.2.1 10 0 17) a1 a2 m).bind fun r2 => (if r2 = 0 then some (0 : Int32) else some (1 : Int32))).bind fun q5 => (fn_X10_must q5 m).bind fun r6 => some ((m.2.1 10 0 17).toInt32, r6)
-- X10_fault
def fn_X10_fault  (m : am_m) : Option (Int32 × am_m) :=
  some ((m.1 10 0 18), am_si m 10 0 0 0)
-- X10_emit
def fn_X10_emit (a1 : Int32) (a2 : Int32) (m : am_m) : Option (am_m) :=
  am_ck (m.1 10 0 23) 400 (am_ck (m.1 10 0 23) 400 (some (am_si (am_si (am_si m 52 0 (m.1 10 0 23).toNatClampNeg a1) 53 0 (m.1 10 0 23).toNatClampNeg a2) 10 0 23 ((m.1 10 0 23) + (1 : Int32)))))
-- X10_push
def fn_X10_push (a1 : Int32) (a2 : Int32) (m : am_m) : Option (am_m) :=
  am_ck (m.1 10 0 29) 400 (am_ck (m.1 10 0 29) 400 (some (am_si (am_si (am_si m 54 0 (m.1 10 0 29).toNatClampNeg a1) 55 0 (m.1 10 0 29).toNatClampNeg a2) 10 0 29 ((m.1 10 0 29) + (1 : Int32)))))
-- X10_binds
def fn_X10_binds (a1 : Int32) (m : am_m) : Option (Int32) :=
  (if a1 < (31 : Int32) then (if a1 ≠ (30 : Int32) then (if a1 ≠ (29 : Int32) then (if a1 ≠ (28 : Int32) then (if a1 < (25 : Int32) then (if a1 < (22 : Int32) then some 5 else some 6) else some 4) else some 3) else some 2) else some 1) else some 0)
-- X10_settle
def lp_X10_settle_0 : Nat → Int32 → am_m → Option (am_m)
  | 0, _, _ => none
  | n + 1, x1, m =>
  (if (m.1 10 0 29) ≤ 0 then some m else am_ck ((m.1 10 0 29) - (1 : Int32)) 400 ((fn_X10_binds (m.1 54 0 ((m.1 10 0 29) - (1 : Int32)).toNatClampNeg) m).bind fun r3 => (if r3 < x1 then some m else am_ck ((m.1 10 0 29) - (1 : Int32)) 400 ((if (m.1 54 0 ((m.1 10 0 29) - (1 : Int32)).toNatClampNeg) = (29 : Int32) then am_ck ((m.1 10 0 29) - (1 : Int32)) 400 (am_ck (m.1 55 0 ((m.1 10 0 29) - (1 : Int32)).toNatClampNeg) 400 (lp_X10_settle_0 n x1 (am_si (am_si m 10 0 29 ((m.1 10 0 29) - (1 : Int32))) 53 0 (m.1 55 0 ((m.1 10 0 29) - (1 : Int32)).toNatClampNeg).toNatClampNeg (m.1 10 0 23)))) else am_ck ((m.1 10 0 29) - (1 : Int32)) 400 ((if (m.1 54 0 ((m.1 10 0 29) - (1 : Int32)).toNatClampNeg) ≠ (30 : Int32) then am_ck ((m.1 10 0 29) - (1 : Int32)) 400 ((fn_X10_emit (m.1 54 0 ((m.1 10 0 29) - (1 : Int32)).toNatClampNeg) 0 (am_si m 10 0 29 ((m.1 10 0 29) - (1 : Int32)))).bind fun r13 => lp_X10_settle_0 n x1 r13) else am_ck ((m.1 10 0 29) - (1 : Int32)) 400 (am_ck (m.1 55 0 ((m.1 10 0 29) - (1 : Int32)).toNatClampNeg) 400 (lp_X10_settle_0 n x1 (am_si (am_si m 10 0 29 ((m.1 10 0 29) - (1 : Int32))) 53 0 (m.1 55 0 ((m.1 10 0 29) - (1 : Int32)).toNatClampNeg).toNatClampNeg (m.1 10 0 23)))))))))))
def fn_X10_settle (a1 : Int32) (m : am_m) : Option (am_m) :=
  (lp_X10_settle_0 1000000 a1 m).bind fun q17 => some q17
-- X10_inner
def lp_X10_inner_4 : Nat → Int32 → Int32 → am_m → Option (Int32)
  | 0, _, _, _ => none
  | n + 1, x1, x2, m =>
  (if (m.1 10 0 29) ≤ x2 then some x1 else am_ck x2 400 ((if (m.1 54 0 x2.toNatClampNeg) < (31 : Int32) then some x1 else am_ck x2 400 (some (m.1 54 0 x2.toNatClampNeg))).bind fun q5 => lp_X10_inner_4 n q5 (x2 + 1) m))
def fn_X10_inner  (m : am_m) : Option (Int32) :=
  (lp_X10_inner_4 1000000 (-1) 0 m).bind fun q7 => some q7
-- X10_isCompared
def lp_X10_isCompared_7 : Nat → Int32 → am_m → Option (Int32)
  | 0, _, _ => none
  | n + 1, x1, m =>
  (if x1 < 0 then some x1 else am_ck x1 400 ((fn_X10_in ((m.1 54 0 x1.toNatClampNeg).toInt64) 20 24 m).bind fun r3 => (if r3 = 0 then some x1 else lp_X10_isCompared_7 n (x1 - 1) m)))
def fn_X10_isCompared  (m : am_m) : Option (Int32) :=
  (lp_X10_isCompared_7 1000000 ((m.1 10 0 29) - (1 : Int32)) m).bind fun q6 => (if q6 < 0 then some 0 else am_ck q6 400 ((fn_X10_in ((m.1 54 0 q6.toNatClampNeg).toInt64) 25 27 m).bind fun r10 => (if r10 = 0 then some 0 else some 1)))
-- X10_partAt
def lp_X10_partAt_4 : Nat → Int32 → Int32 → am_m → Option (Int32)
  | 0, _, _, _ => none
  | n + 1, x1, x2, m =>
  (if (8 : Int32) ≤ x2 then some x1 else am_ck x2 8 ((fn_X10_isWord (m.2.1 82 0 x2.toNatClampNeg) m).bind fun r3 => lp_X10_partAt_4 n (if r3 = 0 then x1 else (x2 + (1 : Int32))) (x2 + 1) m))
def fn_X10_partAt  (m : am_m) : Option (Int32) :=
  (lp_X10_partAt_4 1000000 (-1) 0 m).bind fun q6 => some q6
-- X10_orderPartAt
def lp_X10_orderPartAt_4 : Nat → Int32 → Int32 → am_m → Option (Int32)
  | 0, _, _, _ => none
  | n + 1, x1, x2, m =>
  (if (7 : Int32) ≤ x2 then some x1 else am_ck x2 7 ((fn_X10_isWord (m.2.1 83 0 x2.toNatClampNeg) m).bind fun r3 => lp_X10_orderPartAt_4 n (if r3 = 0 then x1 else (x2 + (1 : Int32))) (x2 + 1) m))
def fn_X10_orderPartAt  (m : am_m) : Option (Int32) :=
  (lp_X10_orderPartAt_4 1000000 (-1) 0 m).bind fun q6 => some q6
-- X10_openBracket
def fn_X10_openBracket (a1 : Int32) (m : am_m) : Option (am_m) :=
  (fn_X10_must (if (8 : Int32) ≤ (m.1 10 0 30) then (0 : Int32) else (1 : Int32)) m).bind fun r2 => (if (r2.1 10 0 19) ≠ 0 then some r2 else (fn_X10_push a1 0 (am_si r2 10 0 30 ((r2.1 10 0 30) + (1 : Int32)))).bind fun r5 => some r5)
-- X10_leaf
def fn_X10_leaf (a1 : Int32) (a2 : Int32) (a3 : Int32) (m : am_m) : Option (am_m) :=
  (if a1 = 0 then some (0 : Int32) else (if (50 : Int32) ≤ (m.1 10 0 26) then some (0 : Int32) else some (1 : Int32))).bind fun q3 => (fn_X10_must q3 m).bind fun r4 => (if (r4.1 10 0 19) ≠ 0 then some r4 else (fn_X10_emit a2 a3 r4).bind fun r7 => some (am_si r7 10 0 26 ((r7.1 10 0 26) + (1 : Int32))))
-- X10_readPart
def fn_X10_readPart  (m : am_m) : Option (Int32 × am_m) :=
  (fn_X10_isSign 91 m).bind fun r1 => (if r1 = 0 then (if (m.1 10 0 20) = 0 then (fn_X10_partAt  m).bind fun r5 => some r5 else (fn_X10_orderPartAt  m).bind fun r7 => some r7).bind fun q9 => (if (m.1 10 0 16) ≠ (2 : Int32) then some (0 : Int32) else (if 0 < (lg_cmp (m.2.1 10 0 17) (1000 : Int64)) then some (0 : Int32) else some (1 : Int32))).bind fun q12 => (if q9 ≠ (-1 : Int32) then some (1 : Int32) else (if q12 = 0 then some (0 : Int32) else some (1 : Int32))).bind fun q15 => (fn_X10_leaf q15 (if q9 ≠ (-1 : Int32) then q9 else (0 : Int32)) (if q12 = 0 then (0 : Int32) else ((m.2.1 10 0 17).toInt32)) m).bind fun r18 => (if (r18.1 10 0 20) = 0 then some (3, r18) else (if q9 < (6 : Int32) then some (3, r18) else (if (r18.1 10 0 19) ≠ 0 then some (3, r18) else (fn_X10_number 0 6 r18).bind fun r23 => am_ck ((r18.1 10 0 23) - (1 : Int32)) 400 (some (3, am_si r23.2 53 0 ((r18.1 10 0 23) - (1 : Int32)).toNatClampNeg r23.1))))) else (fn_X10_openBracket 32 m).bind fun r29 => some (1, r29))
-- X10_readPlain
def fn_X10_readPlain  (m : am_m) : Option (Int32 × am_m) :=
  (fn_X10_isWord 14836 m).bind fun r1 => (if r1 = 0 then (fn_X10_isSign 40 m).bind fun r4 => (if r4 = 0 then (fn_X10_readPart  m).bind fun r7 => some (r7.1, r7.2) else (fn_X10_openBracket 31 m).bind fun r9 => some (0, r9)) else (fn_X10_push 28 0 m).bind fun r11 => (fn_X10_next  r11).bind fun r13 => some (0, r13))
-- X10_behindSum
def fn_X10_behindSum (a1 : Int32) (m : am_m) : Option (Int32 × am_m) :=
  (fn_X10_isSign 43 m).bind fun r1 => (if r1 = 0 then (fn_X10_isSign 45 m).bind fun r4 => (if r4 = 0 then (fn_X10_isSign 42 m).bind fun r7 => (if r7 = 0 then (fn_X10_isSign 47 m).bind fun r10 => (if r10 = 0 then (fn_X10_isSign 37 m).bind fun r13 => (if r13 = 0 then some (-1 : Int32) else some (24 : Int32)) else some (23 : Int32)) else some (22 : Int32)) else some (21 : Int32)) else some (20 : Int32)).bind fun q16 => (if q16 = (-1 : Int32) then (fn_X10_inner  m).bind fun r18 => (if r18 ≠ (32 : Int32) then (if r18 ≠ (-1 : Int32) then (fn_X10_isCompared  m).bind fun r22 => (if r22 = 0 then (fn_X10_isSign 60 m).bind fun r25 => (if r25 = 0 then (fn_X10_isSign 62 m).bind fun r28 => (if r28 = 0 then some (27 : Int32) else some (26 : Int32)) else some (25 : Int32)).bind fun q31 => (if q31 ≠ (27 : Int32) then some (1 : Int32) else (fn_X10_isSign 61 m).bind fun r33 => (if r33 = 0 then some (0 : Int32) else some (1 : Int32))).bind fun q36 => (fn_X10_must q36 m).bind fun r37 => (if (r37.1 10 0 19) ≠ 0 then some (1, r37) else (fn_X10_settle 5 r37).bind fun r40 => (fn_X10_push q31 0 r40).bind fun r42 => some (1, r42)) else some (2, m)) else (if a1 ≠ 0 then (fn_X10_isCompared  m).bind fun r47 => (if r47 = 0 then (fn_X10_isSign 60 m).bind fun r50 => (if r50 = 0 then (fn_X10_isSign 62 m).bind fun r53 => (if r53 = 0 then some (27 : Int32) else some (26 : Int32)) else some (25 : Int32)).bind fun q56 => (if q56 ≠ (27 : Int32) then some (1 : Int32) else (fn_X10_isSign 61 m).bind fun r58 => (if r58 = 0 then some (0 : Int32) else some (1 : Int32))).bind fun q61 => (fn_X10_must q61 m).bind fun r62 => (if (r62.1 10 0 19) ≠ 0 then some (1, r62) else (fn_X10_settle 5 r62).bind fun r65 => (fn_X10_push q56 0 r65).bind fun r67 => some (1, r67)) else some (2, m)) else some (4, m))) else (fn_X10_isSign 93 m).bind fun r71 => (fn_X10_must r71 m).bind fun r73 => (if (r73.1 10 0 19) ≠ 0 then some (3, r73) else (fn_X10_settle 5 r73).bind fun r76 => some (3, am_si (am_si r76 10 0 29 ((r76.1 10 0 29) - (1 : Int32))) 10 0 30 ((r76.1 10 0 30) - (1 : Int32))))) else (fn_X10_binds q16 m).bind fun r78 => (fn_X10_settle r78 m).bind fun r80 => (fn_X10_push q16 0 r80).bind fun r82 => (fn_X10_next  r82).bind fun r84 => some (1, r84))
-- X10_behindTest
def fn_X10_behindTest  (m : am_m) : Option (Int32 × am_m) :=
  (fn_X10_isWord 1476 m).bind fun r1 => (if r1 ≠ 0 then (fn_X10_settle (if r1 = 0 then (1 : Int32) else (2 : Int32)) m).bind fun r5 => (fn_X10_push (if r1 = 0 then (30 : Int32) else (29 : Int32)) (r5.1 10 0 23) r5).bind fun r8 => (fn_X10_emit (if r1 = 0 then (30 : Int32) else (29 : Int32)) 0 r8).bind fun r11 => (fn_X10_next  r11).bind fun r13 => some (0, r13) else (fn_X10_isWord 498 m).bind fun r15 => (if r15 = 0 then (fn_X10_inner  m).bind fun r18 => (if r18 ≠ (-1 : Int32) then (fn_X10_isSign 41 m).bind fun r21 => (fn_X10_must r21 m).bind fun r23 => (if (r23.1 10 0 19) ≠ 0 then some (2, r23) else (fn_X10_settle 1 r23).bind fun r26 => some (2, am_si (am_si r26 10 0 29 ((r26.1 10 0 29) - (1 : Int32))) 10 0 30 ((r26.1 10 0 30) - (1 : Int32)))) else some (4, m)) else (fn_X10_settle (if r1 = 0 then (1 : Int32) else (2 : Int32)) m).bind fun r29 => (fn_X10_push (if r1 = 0 then (30 : Int32) else (29 : Int32)) (r29.1 10 0 23) r29).bind fun r32 => (fn_X10_emit (if r1 = 0 then (30 : Int32) else (29 : Int32)) 0 r32).bind fun r35 => (fn_X10_next  r35).bind fun r37 => some (0, r37)))
-- X10_readExpression
def lp_X10_readExpression_20 : Nat → Int32 → Int32 → am_m → Option (am_m)
  | 0, _, _, _ => none
  | n + 1, x1, x2, m =>
  (if (m.1 10 0 19) ≠ 0 then some m else (if x2 = (4 : Int32) then some m else (if x2 ≠ 0 then (if x2 ≠ (1 : Int32) then (if x2 ≠ (3 : Int32) then (fn_X10_behindTest  m).bind fun r7 => some (r7.1, r7.2) else (fn_X10_behindSum x1 m).bind fun r9 => some (r9.1, r9.2)) else (fn_X10_readPart  m).bind fun r11 => some (r11.1, r11.2)) else (fn_X10_readPlain  m).bind fun r13 => some (r13.1, r13.2)).bind fun q15 => lp_X10_readExpression_20 n x1 q15.1 q15.2))
def fn_X10_readExpression (a1 : Int32) (m : am_m) : Option (am_m) :=
  (lp_X10_readExpression_20 1000000 a1 (if a1 = 0 then (1 : Int32) else (0 : Int32)) (am_si (am_si m 10 0 29 0) 10 0 30 0)).bind fun q17 => (fn_X10_settle 1 q17).bind fun r19 => some r19
-- X10_beginText
def fn_X10_beginText (a1 : Int32) (m : am_m) : Option (am_m) :=
  am_gd (a1 = 0 ∨ a1 = 1) ((fn_X10_begin  (am_si m 10 0 20 a1)).bind fun r2 => some (am_si (am_si (am_si r2 10 0 21 0) 10 0 23 0) 10 0 26 0))
-- X10_endText
def fn_X10_endText  (m : am_m) : Option (am_m) :=
  (if (m.1 10 0 19) ≠ 0 then some m else (if (m.1 10 0 16) = 0 then some m else (fn_X10_must 0 m).bind fun r3 => some r3)).bind fun q5 => some (am_si (am_si q5 10 0 20 0) 10 0 13 0)
-- X10_readLaw
def lp_X10_readLaw_4 : Nat → Int32 → Int32 → am_m → Option (Int32)
  | 0, _, _, _ => none
  | n + 1, x1, x2, m =>
  (if (4 : Int32) ≤ x2 then some x1 else am_ck x2 4 ((fn_X10_isWord (m.2.1 84 0 x2.toNatClampNeg) m).bind fun r3 => lp_X10_readLaw_4 n (if r3 = 0 then x1 else x2) (x2 + 1) m))
def lp_X10_readLaw_75 : Nat → Int32 → Int32 → Int32 → am_m → Option (am_m)
  | 0, _, _, _, _ => none
  | n + 1, x1, x2, x3, m =>
  (if (8 : Int32) ≤ x3 then some m else am_ck (x2 + x3) 96 (lp_X10_readLaw_75 n x1 x2 (x3 + 1) (am_si m 51 0 (x2 + x3).toNatClampNeg 0)))
def fn_X10_readLaw  (m : am_m) : Option (am_m) :=
  (lp_X10_readLaw_4 1000000 (-1) 0 m).bind fun q6 => (if q6 = (-1 : Int32) then some (0 : Int32) else (if (12 : Int32) ≤ (m.1 10 0 21) then some (0 : Int32) else some (1 : Int32))).bind fun q10 => (fn_X10_must q10 m).bind fun r11 => (if (r11.1 10 0 19) = 0 then (lp_X10_readLaw_75 1000000 q6 ((8 : Int32) * (r11.1 10 0 21)) 0 r11).bind fun q16 => am_ck ((8 : Int32) * (r11.1 10 0 21)) 96 (am_ck (((8 : Int32) * (r11.1 10 0 21)) + (3 : Int32)) 96 ((if q6 = (3 : Int32) then some (am_si (am_si (am_si q16 51 0 ((8 : Int32) * (r11.1 10 0 21)).toNatClampNeg q6) 10 0 21 ((q16.1 10 0 21) + (1 : Int32))) 51 0 (((8 : Int32) * (r11.1 10 0 21)) + (3 : Int32)).toNatClampNeg (q16.1 10 0 23)) else (fn_X10_readExpression 0 (am_si (am_si (am_si q16 51 0 ((8 : Int32) * (r11.1 10 0 21)).toNatClampNeg q6) 10 0 21 ((q16.1 10 0 21) + (1 : Int32))) 51 0 (((8 : Int32) * (r11.1 10 0 21)) + (3 : Int32)).toNatClampNeg (q16.1 10 0 23))).bind fun r21 => some r21).bind fun q23 => am_ck (((8 : Int32) * (r11.1 10 0 21)) + (4 : Int32)) 96 (am_ck (((8 : Int32) * (r11.1 10 0 21)) + (5 : Int32)) 96 ((if (q23.1 10 0 19) ≠ 0 then some (am_si (am_si q23 51 0 (((8 : Int32) * (r11.1 10 0 21)) + (4 : Int32)).toNatClampNeg (q23.1 10 0 23)) 51 0 (((8 : Int32) * (r11.1 10 0 21)) + (5 : Int32)).toNatClampNeg (q23.1 10 0 23)) else (fn_X10_isWord 294 (am_si (am_si q23 51 0 (((8 : Int32) * (r11.1 10 0 21)) + (4 : Int32)).toNatClampNeg (q23.1 10 0 23)) 51 0 (((8 : Int32) * (r11.1 10 0 21)) + (5 : Int32)).toNatClampNeg (q23.1 10 0 23))).bind fun r27 => (if r27 = 0 then some (am_si (am_si q23 51 0 (((8 : Int32) * (r11.1 10 0 21)) + (4 : Int32)).toNatClampNeg (q23.1 10 0 23)) 51 0 (((8 : Int32) * (r11.1 10 0 21)) + (5 : Int32)).toNatClampNeg (q23.1 10 0 23)) else (fn_X10_next  (am_si (am_si q23 51 0 (((8 : Int32) * (r11.1 10 0 21)) + (4 : Int32)).toNatClampNeg (q23.1 10 0 23)) 51 0 (((8 : Int32) * (r11.1 10 0 21)) + (5 : Int32)).toNatClampNeg (q23.1 10 0 23))).bind fun r30 => (fn_X10_readExpression 1 r30).bind fun r32 => some r32)).bind fun q34 => am_ck (((8 : Int32) * (r11.1 10 0 21)) + (6 : Int32)) 96 (some (am_si q34 51 0 (((8 : Int32) * (r11.1 10 0 21)) + (6 : Int32)).toNatClampNeg (q34.1 10 0 23))))))) else some r11)
-- X10_law
def lp_X10_law_37 : Nat → am_m → Option (am_m)
  | 0, _ => none
  | n + 1, m =>
  (if (m.1 10 0 19) ≠ 0 then some m else (fn_X10_isSign 59 m).bind fun r7 => (if r7 = 0 then some m else (fn_X10_next  m).bind fun r10 => (fn_X10_readLaw  r10).bind fun r12 => lp_X10_law_37 n  r12))
def lp_X10_law_110 : Nat → Int32 → Int32 → am_m → Option (am_m)
  | 0, _, _, _ => none
  | n + 1, x1, x2, m =>
  (if ((8 : Int32) * (m.1 10 0 21)) ≤ x2 then some m else am_ck x2 96 (am_ck ((x1 + (2 : Int32)) + x2) 5518 (lp_X10_law_110 n x1 (x2 + 1) (am_si m 44 0 ((x1 + (2 : Int32)) + x2).toNatClampNeg (m.1 51 0 x2.toNatClampNeg)))))
def lp_X10_law_145 : Nat → Int32 → Int32 → am_m → Option (am_m)
  | 0, _, _, _ => none
  | n + 1, x1, x2, m =>
  (if (m.1 10 0 23) ≤ x2 then some m else am_ck x2 400 (am_ck ((x1 + (98 : Int32)) + ((2 : Int32) * x2)) 5518 (am_ck x2 400 (am_ck (((x1 + (98 : Int32)) + ((2 : Int32) * x2)) + (1 : Int32)) 5518 (lp_X10_law_145 n x1 (x2 + 1) (am_si (am_si m 44 0 ((x1 + (98 : Int32)) + ((2 : Int32) * x2)).toNatClampNeg (m.1 52 0 x2.toNatClampNeg)) 44 0 (((x1 + (98 : Int32)) + ((2 : Int32) * x2)) + (1 : Int32)).toNatClampNeg (m.1 53 0 x2.toNatClampNeg)))))))
def fn_X10_law  (m : am_m) : Option (Int32 × am_m) :=
  (if (m.1 44 0 2) ≠ (6 : Int32) then (fn_X10_beginText 0 (am_si m 10 0 0 0)).bind fun r2 => (fn_X10_readLaw  r2).bind fun r4 => (lp_X10_law_37 1000000  r4).bind fun q14 => (fn_X10_endText  q14).bind fun r16 => (if (r16.1 10 0 19) = 0 then am_ck (((118 : Int32) + ((900 : Int32) * (r16.1 44 0 2))) + (1 : Int32)) 5518 ((lp_X10_law_110 1000000 ((118 : Int32) + ((900 : Int32) * (r16.1 44 0 2))) 0 (am_si r16 44 0 (((118 : Int32) + ((900 : Int32) * (r16.1 44 0 2))) + (1 : Int32)).toNatClampNeg (r16.1 10 0 21))).bind fun q23 => (lp_X10_law_145 1000000 ((118 : Int32) + ((900 : Int32) * (r16.1 44 0 2))) 0 q23).bind fun q30 => (fn_X10_tell (((q30.1 44 0 2) + (1 : Int32)) - (1 : Int32)) (am_si q30 44 0 2 ((q30.1 44 0 2) + (1 : Int32)))).bind fun r32 => some (r32.1, r32.2)) else (fn_X10_tell (-6) r16).bind fun r34 => some (r34.1, r34.2)) else (fn_X10_tell (-5) (am_si (am_si m 10 0 0 0) 10 0 13 0)).bind fun r36 => some (r36.1, r36.2))
-- X10_isLaw
def fn_X10_isLaw (a1 : Int32) (m : am_m) : Option (Int32) :=
  (if a1 = (-1 : Int32) then some 1 else (fn_X10_in a1.toInt64 0 (((m.1 44 0 2).toInt64) - (1 : Int64)) m).bind fun r2 => (if r2 = 0 then some 0 else some 1))
-- X10_force
def fn_X10_force (a1 : Int32) (m : am_m) : Option (Int32 × am_m) :=
  (fn_X10_isLaw a1 (am_si m 10 0 0 0)).bind fun r1 => (if r1 = 0 then (fn_X10_tell (-2) (am_si m 10 0 0 0)).bind fun r4 => some (r4.1, r4.2) else (fn_X10_change 3 a1 (am_si m 10 0 0 0)).bind fun r6 => some (r6.1, r6.2))
-- X10_feedsAt
def fn_X10_feedsAt (a1 : Int32) (a2 : Int32) (m : am_m) : Option (Int32 × am_m) :=
  (fn_X10_tells 1 a1 (-1) a2 2 m).bind fun r1 => (fn_X10_bounded r1.1 0 9 r1.2).bind fun r3 => some (r3, r1.2)
-- X10_isTable
def lp_X10_isTable_16 : Nat → Int32 → Int32 → Int32 → am_m → Option (Int32)
  | 0, _, _, _, _ => none
  | n + 1, x1, x2, x3, m =>
  (if (m.1 44 0 0) ≤ x3 then some x2 else (if x2 = 0 then some x2 else (fn_X10_is x1 x3 m).bind fun r6 => (if r6 = 0 then some (1 : Int32) else (fn_X10_sitsWith x3 m).bind fun r9 => (if ((x1 &&& (((1 : Int32) <<< (x3 &&& 31)) ^^^ (-1 : Int32))) &&& (r9 ^^^ (-1 : Int32))) ≠ 0 then some (0 : Int32) else some (1 : Int32))).bind fun q12 => lp_X10_isTable_16 n x1 q12 (x3 + 1) m))
def fn_X10_isTable (a1 : Int32) (m : am_m) : Option (Int32) :=
  (fn_X10_ones a1 m).bind fun r1 => (lp_X10_isTable_16 1000000 a1 (if r1 ≤ (1 : Int32) then (0 : Int32) else (1 : Int32)) 0 m).bind fun q14 => am_gd (q14 = 0 ∨ q14 = 1) (some q14)
-- X10_harmNow
def fn_X10_harmNow (a1 : Int32) (a2 : Int32) (a3 : Int32) (m : am_m) : Option (Int32 × am_m) :=
  (fn_X10_in a3.toInt64 1 9 m).bind fun r1 => (if r1 = 0 then some ((-1), m) else (if a1 ≠ a2 then (fn_X10_isFolk a1 m).bind fun r5 => (if r5 = 0 then some ((-2), m) else (fn_X10_isFolk a2 m).bind fun r8 => (if r8 ≠ 0 then (fn_X10_weightOf a1 a2 m).bind fun r11 => (if r11 ≠ a3 then (fn_X10_remember 0 m).bind fun r14 => (fn_X10_setHarm a1 a2 a3 r14).bind fun r16 => some (r11, r16) else some ((-3), m)) else some ((-2), m))) else some ((-1), m)))
-- X10_harm
def fn_X10_harm (a1 : Int32) (a2 : Int32) (a3 : Int32) (m : am_m) : Option (Int32 × am_m) :=
  (fn_X10_harmNow a1 a2 a3 (am_si m 10 0 0 0)).bind fun r1 => (fn_X10_tell r1.1 r1.2).bind fun r3 => some (r3.1, r3.2)
-- X10_feastIt
def lp_X10_feastIt_2 : Nat → Int32 → Int32 → am_m → Option (am_m)
  | 0, _, _, _ => none
  | n + 1, x1, x2, m =>
  (if (m.1 44 0 0) ≤ x2 then some m else (fn_X10_is x1 x2 m).bind fun r2 => (if r2 = 0 then some ((0 : Int32), m) else (fn_X10_ones x1 m).bind fun r5 => (fn_X10_feedsAt x2 r5 m).bind fun r7 => some (r7.1, r7.2)).bind fun q9 => am_ck x2 7 (lp_X10_feastIt_2 n x1 (x2 + 1) (am_si q9.2 56 0 x2.toNatClampNeg q9.1)))
def lp_X10_feastIt_47 : Nat → Int32 → am_m → Option (am_m)
  | 0, _, _ => none
  | n + 1, x2, m =>
  (if (m.1 44 0 0) ≤ x2 then some m else am_ck ((7 : Int32) + x2) 5518 (am_ck x2 7 ((fn_X10_bounded (((m.1 44 0 ((7 : Int32) + x2).toNatClampNeg) + (m.1 56 0 x2.toNatClampNeg)).toInt64) 0 9 m).bind fun r17 => am_ck ((7 : Int32) + x2) 5518 (lp_X10_feastIt_47 n (x2 + 1) (am_si m 44 0 ((7 : Int32) + x2).toNatClampNeg r17)))))
def fn_X10_feastIt (a1 : Int32) (m : am_m) : Option (am_m) :=
  (lp_X10_feastIt_2 1000000 a1 0 m).bind fun q12 => (lp_X10_feastIt_47 1000000 0 q12).bind fun q20 => some q20
-- X10_feastNow
def fn_X10_feastNow (a1 : Int32) (m : am_m) : Option (Int32 × am_m) :=
  (fn_X10_isSet a1 m).bind fun r1 => (if r1 ≠ 0 then (fn_X10_areThere a1 m).bind fun r4 => (if r4 ≠ 0 then (fn_X10_layMay  m).bind fun r7 => (fn_X10_isTable a1 r7).bind fun r9 => (if r9 ≠ 0 then (fn_X10_remember 1 r7).bind fun r12 => (fn_X10_feastIt a1 r12).bind fun r14 => (fn_X10_ones a1 r14).bind fun r16 => some (r16, r14) else some ((-3), r7)) else some ((-2), m)) else some ((-1), m))
-- X10_feast
def fn_X10_feast (a1 : Int32) (m : am_m) : Option (Int32 × am_m) :=
  (fn_X10_feastNow a1 (am_si m 10 0 0 0)).bind fun r1 => (fn_X10_tell r1.1 r1.2).bind fun r3 => some (r3.1, r3.2)
-- X10_pardonNow
def fn_X10_pardonNow (a1 : Int32) (a2 : Int32) (m : am_m) : Option (Int32 × am_m) :=
  (if a1 ≠ a2 then (fn_X10_isFolk a1 m).bind fun r2 => (if r2 = 0 then some ((-2), m) else (fn_X10_isFolk a2 m).bind fun r5 => (if r5 ≠ 0 then (fn_X10_weightOf a1 a2 m).bind fun r8 => (if r8 ≠ 0 then (fn_X10_remember 2 m).bind fun r11 => am_ck (((14 : Int32) + ((7 : Int32) * a1)) + a2) 5518 (some (r8, am_si r11 44 0 (((14 : Int32) + ((7 : Int32) * a1)) + a2).toNatClampNeg 0)) else some ((-3), m)) else some ((-2), m))) else some ((-1), m))
-- X10_pardon
def fn_X10_pardon (a1 : Int32) (a2 : Int32) (m : am_m) : Option (Int32 × am_m) :=
  (fn_X10_pardonNow a1 a2 (am_si m 10 0 0 0)).bind fun r1 => (fn_X10_tell r1.1 r1.2).bind fun r3 => some (r3.1, r3.2)
-- X10_passIt
def lp_X10_passIt_2 : Nat → Int32 → am_m → Option (am_m)
  | 0, _, _ => none
  | n + 1, x1, m =>
  (if (m.1 44 0 0) ≤ x1 then some m else (fn_X10_hungersBy x1 m).bind fun r2 => am_ck x1 7 (lp_X10_passIt_2 n (x1 + 1) (am_si r2.2 56 0 x1.toNatClampNeg r2.1)))
def lp_X10_passIt_31 : Nat → Int32 → am_m → Option (am_m)
  | 0, _, _ => none
  | n + 1, x1, m =>
  (if (m.1 44 0 0) ≤ x1 then some m else am_ck ((7 : Int32) + x1) 5518 (am_ck x1 7 ((fn_X10_bounded (((m.1 44 0 ((7 : Int32) + x1).toNatClampNeg) - (m.1 56 0 x1.toNatClampNeg)).toInt64) 0 9 m).bind fun r10 => am_ck ((7 : Int32) + x1) 5518 (lp_X10_passIt_31 n (x1 + 1) (am_si m 44 0 ((7 : Int32) + x1).toNatClampNeg r10)))))
def fn_X10_passIt  (m : am_m) : Option (am_m) :=
  (lp_X10_passIt_2 1000000 0 m).bind fun q5 => (lp_X10_passIt_31 1000000 0 q5).bind fun q13 => some (am_si q13 44 0 4 ((q13.1 44 0 4) + (1 : Int32)))
-- X10_passNow
def fn_X10_passNow  (m : am_m) : Option (Int32 × am_m) :=
  (if (m.1 44 0 4) ≠ (999 : Int32) then (fn_X10_remember 3 m).bind fun r2 => (fn_X10_passIt  r2).bind fun r4 => (fn_X10_starving  r4).bind fun r6 => some (r6, r4) else some ((-3), m))
-- X10_pass
def fn_X10_pass  (m : am_m) : Option (Int32 × am_m) :=
  (fn_X10_passNow  (am_si m 10 0 0 0)).bind fun r1 => (fn_X10_tell r1.1 r1.2).bind fun r3 => some (r3.1, r3.2)
-- X10_largestSet
def lp_X10_largestSet_6 : Nat → Int32 → Int32 → Int32 → am_m → Option (Int32)
  | 0, _, _, _, _ => none
  | n + 1, x1, x2, x3, m =>
  (fn_X10_all  m).bind fun r1 => (if r1 < x3 then some x2 else (fn_X10_ones x3 m).bind fun r4 => (if r4 ≤ x1 then some (x1, x2) else (fn_X10_isTable x3 m).bind fun r7 => (if r7 = 0 then some (x1, x2) else (fn_X10_ones x3 m).bind fun r10 => some (r10, x3))).bind fun q12 => lp_X10_largestSet_6 n q12.1 q12.2 (x3 + 1) m)
def fn_X10_largestSet  (m : am_m) : Option (Int32) :=
  (lp_X10_largestSet_6 1000000 1 0 0 m).bind fun q14 => some q14
-- X10_largest
def fn_X10_largest (a1 : Int32) (m : am_m) : Option (Int32 × am_m) :=
  (fn_X10_layMay  (am_si m 10 0 0 0)).bind fun r1 => (fn_X10_largestSet  r1).bind fun r3 => (if r3 = 0 then some ((-1), r1) else (fn_X10_in a1.toInt64 0 1 r1).bind fun r6 => (if r6 ≠ 0 then (if a1 ≠ 0 then some (r3, r1) else (fn_X10_ones r3 r1).bind fun r10 => some (r10, r1)) else some ((-1), r1)))
-- X10_setsAhead
def lp_X10_setsAhead_4 : Nat → Int32 → Int32 → Int32 → am_m → Option (Int32)
  | 0, _, _, _, _ => none
  | n + 1, x1, x2, x3, m =>
  (if x1 ≤ x3 then some x2 else am_ck x3 8 ((if (m.1 57 0 x3.toNatClampNeg) < x2 then some x2 else am_ck x3 8 (some ((m.1 57 0 x3.toNatClampNeg) + (1 : Int32)))).bind fun q5 => lp_X10_setsAhead_4 n x1 q5 (x3 + 1) m))
def fn_X10_setsAhead (a1 : Int32) (m : am_m) : Option (Int32) :=
  (lp_X10_setsAhead_4 1000000 a1 0 0 m).bind fun q7 => some q7
-- X10_setOf
def lp_X10_setOf_5 : Nat → Int32 → Int32 → Int32 → Int32 → am_m → Option (Int32)
  | 0, _, _, _, _, _ => none
  | n + 1, x1, x2, x3, x4, m =>
  (if x2 ≤ x4 then some x3 else am_ck x4 8 (lp_X10_setOf_5 n x1 x2 (x3 ||| (if (m.1 57 0 x4.toNatClampNeg) ≠ x1 then (0 : Int32) else ((1 : Int32) <<< (x4 &&& 31)))) (x4 + 1) m))
def fn_X10_setOf (a1 : Int32) (a2 : Int32) (m : am_m) : Option (Int32) :=
  (lp_X10_setOf_5 1000000 a1 a2 0 0 m).bind fun q4 => some q4
-- X10_worthOf
def lp_X10_worthOf_19 : Nat → Int32 → Int32 → Int32 → Int32 → Int32 → am_m → Option (Sum (Unit) (Int32))
  | 0, _, _, _, _, _, _ => none
  | n + 1, x1, x2, x3, x4, x5, m =>
  (if x3 ≤ x5 then some (.inl ()) else (fn_X10_setOf x5 x2 m).bind fun r4 => (if x1 = 0 then (fn_X10_ones r4 m).bind fun r7 => (if (2 : Int32) ≤ r7 then lp_X10_worthOf_19 n x1 x2 x3 x4 (x5 + 1) m else some (.inr 100000000)) else (fn_X10_isTable r4 m).bind fun r10 => (if r10 ≠ 0 then lp_X10_worthOf_19 n x1 x2 x3 x4 (x5 + 1) m else some (.inr 100000000))))
def lp_X10_worthOf_84 : Nat → Int32 → Int32 → Int32 → Int32 → Int32 → Int32 → am_m → Option (Sum (Int32) (Int32))
  | 0, _, _, _, _, _, _, _ => none
  | n + 1, x1, x2, x3, x4, x5, x6, m =>
  (if x2 ≤ x6 then some (.inl x4) else (if x1 ≠ 0 then lp_X10_worthOf_84 n x1 x2 x3 x4 x5 (x6 + 1) m else am_ck x5 8 (am_ck x6 8 ((if (m.1 57 0 x5.toNatClampNeg) ≠ (m.1 57 0 x6.toNatClampNeg) then lp_X10_worthOf_84 n x1 x2 x3 x4 x5 (x6 + 1) m else am_ck (((7 : Int32) * x5) + x6) 49 ((if (m.1 93 0 (((7 : Int32) * x5) + x6).toNatClampNeg) = 0 then am_ck (((7 : Int32) * x5) + x6) 49 (lp_X10_worthOf_84 n x1 x2 x3 (x4 + (if (m.1 92 0 (((7 : Int32) * x5) + x6).toNatClampNeg) = 0 then (1 : Int32) else (0 : Int32))) x5 (x6 + 1) m) else some (.inr 100000000))))))))
def lp_X10_worthOf_72 : Nat → Int32 → Int32 → Int32 → Int32 → Int32 → am_m → Option (Sum (Int32) (Int32))
  | 0, _, _, _, _, _, _ => none
  | n + 1, x1, x2, x3, x4, x5, m =>
  (if x2 ≤ x5 then some (.inl x4) else (lp_X10_worthOf_84 1000000 x1 x2 x3 x4 x5 (x5 + (1 : Int32)) m).bind fun w28 => (match w28 with
    | .inl q25 => lp_X10_worthOf_72 n x1 x2 x3 q25 (x5 + 1) m
    | .inr rr27 => some (.inr rr27)))
def fn_X10_worthOf (a1 : Int32) (m : am_m) : Option (Int32) :=
  (fn_X10_setsAhead (m.1 44 0 0) m).bind fun r1 => (lp_X10_worthOf_19 1000000 a1 (m.1 44 0 0) r1 0 0 m).bind fun w35 => (match w35 with
    | .inl q13 => (lp_X10_worthOf_72 1000000 a1 (m.1 44 0 0) r1 0 0 m).bind fun w33 => (match w33 with
    | .inl q29 => (if a1 = 0 then some q29 else some r1)
    | .inr rr32 => some rr32)
    | .inr rr34 => some rr34)
-- X10_findParts
def lp_X10_findParts_111 : Nat → Int32 → Int32 → Int32 → Int32 → am_m → Option (am_m)
  | 0, _, _, _, _, _ => none
  | n + 1, x1, x2, x3, x4, m =>
  (if x2 ≤ x4 then some m else (if (m.1 10 0 46) ≤ x3 then some m else am_ck x4 8 (am_ck x4 7 (lp_X10_findParts_111 n x1 x2 x3 (x4 + 1) (am_si m 58 0 x4.toNatClampNeg (m.1 57 0 x4.toNatClampNeg))))))
def lp_X10_findParts_32 : Nat → Int32 → Int32 → am_m → Option (am_m)
  | 0, _, _, _ => none
  | n + 1, x1, x2, m =>
  (if x2 < 0 then some m else am_ck x2 8 (am_ck x2 8 ((if x2 = (m.1 44 0 0) then lp_X10_findParts_32 n x1 (x2 - 1) (am_si m 57 0 x2.toNatClampNeg ((m.1 57 0 x2.toNatClampNeg) + (1 : Int32))) else am_ck x2 8 ((fn_X10_setsAhead x2 (am_si m 57 0 x2.toNatClampNeg ((m.1 57 0 x2.toNatClampNeg) + (1 : Int32)))).bind fun r8 => (if ((am_si m 57 0 x2.toNatClampNeg ((m.1 57 0 x2.toNatClampNeg) + (1 : Int32))).1 57 0 x2.toNatClampNeg) ≤ r8 then am_ck (x2 + 1) 8 ((if (x2 + 1) ≠ (m.1 44 0 0) then some (100000000 : Int32) else (fn_X10_worthOf x1 (am_si (am_si m 57 0 x2.toNatClampNeg ((m.1 57 0 x2.toNatClampNeg) + (1 : Int32))) 57 0 (x2 + 1).toNatClampNeg (-1))).bind fun r13 => some r13).bind fun q15 => (lp_X10_findParts_111 1000000 x1 (x2 + 1) q15 0 (am_si (am_si m 57 0 x2.toNatClampNeg ((m.1 57 0 x2.toNatClampNeg) + (1 : Int32))) 57 0 (x2 + 1).toNatClampNeg (-1))).bind fun q20 => lp_X10_findParts_32 n x1 (x2 + 1) (am_si q20 10 0 46 (if (q20.1 10 0 46) ≤ q15 then (q20.1 10 0 46) else q15))) else lp_X10_findParts_32 n x1 (x2 - 1) (am_si m 57 0 x2.toNatClampNeg ((m.1 57 0 x2.toNatClampNeg) + (1 : Int32)))))))))
def fn_X10_findParts (a1 : Int32) (m : am_m) : Option (am_m) :=
  (if (m.1 44 0 0) ≠ 0 then some ((0 : Int32), am_si (am_si m 10 0 46 100000000) 57 0 0 (-1)) else some ((-1 : Int32), am_si (am_si (am_si m 10 0 46 100000000) 57 0 0 (-1)) 10 0 46 0)).bind fun q2 => (lp_X10_findParts_32 1000000 a1 q2.1 q2.2).bind fun q24 => some q24
-- X10_tables
def fn_X10_tables (a1 : Int32) (m : am_m) : Option (Int32 × am_m) :=
  (fn_X10_in a1.toInt64 0 ((m.1 44 0 0).toInt64) (am_si m 10 0 0 0)).bind fun r1 => (if r1 ≠ 0 then (fn_X10_layMay  (am_si m 10 0 0 0)).bind fun r4 => (fn_X10_findParts 1 r4).bind fun r6 => (if (r6.1 10 0 46) ≠ (100000000 : Int32) then (if a1 ≠ 0 then am_ck (a1 - (1 : Int32)) 7 (some ((r6.1 58 0 (a1 - (1 : Int32)).toNatClampNeg), r6)) else some ((r6.1 10 0 46), r6)) else some ((-1), r6)) else some ((-1), am_si m 10 0 0 0))
-- X10_newHarms
def fn_X10_newHarms (a1 : Int32) (m : am_m) : Option (Int32 × am_m) :=
  (fn_X10_in a1.toInt64 0 ((m.1 44 0 0).toInt64) (am_si m 10 0 0 0)).bind fun r1 => (if r1 ≠ 0 then (fn_X10_layMay  (am_si m 10 0 0 0)).bind fun r4 => (fn_X10_findParts 0 r4).bind fun r6 => (if (r6.1 10 0 46) ≠ (100000000 : Int32) then (if a1 ≠ 0 then am_ck (a1 - (1 : Int32)) 7 (some ((r6.1 58 0 (a1 - (1 : Int32)).toNatClampNeg), r6)) else some ((r6.1 10 0 46), r6)) else some ((-1), r6)) else some ((-1), am_si m 10 0 0 0))
-- X10_layParts
def lp_X10_layParts_38 : Nat → Int32 → Int32 → am_m → Option (am_m)
  | 0, _, _, _ => none
  | n + 1, x1, x2, m =>
  (if x1 < x2 then some m else am_ck x1 128 ((if (m.1 94 0 x1.toNatClampNeg) ≠ 0 then some (1 : Int32) else (if (x2 &&& (x1 ^^^ (-1 : Int32))) ≠ 0 then some (0 : Int32) else am_ck x2 128 ((if (m.1 95 0 x2.toNatClampNeg) = 0 then some (0 : Int32) else am_ck (x1 &&& (x2 ^^^ (-1 : Int32))) 128 ((if (m.1 94 0 (x1 &&& (x2 ^^^ (-1 : Int32))).toNatClampNeg) = 0 then some (0 : Int32) else some (1 : Int32))))))).bind fun q19 => am_gd (q19 = 0 ∨ q19 = 1) (am_ck x1 128 (lp_X10_layParts_38 n x1 (x2 + 1) (am_si m 94 0 x1.toNatClampNeg q19)))))
def lp_X10_layParts_2 : Nat → Int32 → am_m → Option (am_m)
  | 0, _, _ => none
  | n + 1, x1, m =>
  (fn_X10_all  m).bind fun r1 => (if r1 < x1 then some m else (fn_X10_isTable x1 m).bind fun r4 => am_gd (r4 = 0 ∨ r4 = 1) (am_ck x1 128 (am_gd ((if x1 ≠ 0 then (0 : Int32) else (1 : Int32)) = 0 ∨ (if x1 ≠ 0 then (0 : Int32) else (1 : Int32)) = 1) (am_ck x1 128 ((lp_X10_layParts_38 1000000 x1 1 (am_si (am_si m 95 0 x1.toNatClampNeg r4) 94 0 x1.toNatClampNeg (if x1 ≠ 0 then (0 : Int32) else (1 : Int32)))).bind fun q23 => lp_X10_layParts_2 n (x1 + 1) q23)))))
def fn_X10_layParts  (m : am_m) : Option (am_m) :=
  (lp_X10_layParts_2 1000000 0 m).bind fun q25 => some q25
-- X10_leftOut
def lp_X10_leftOut_34 : Nat → Int32 → Int32 → Int32 → Int32 → am_m → Option (Int32 × Int32)
  | 0, _, _, _, _, _ => none
  | n + 1, x1, x2, x3, x4, m =>
  (fn_X10_all  m).bind fun r8 => (if r8 < x4 then some (x2, x3) else (fn_X10_ones x4 m).bind fun r11 => (if x2 ≤ r11 then some (x2, x3) else (fn_X10_all  m).bind fun r14 => am_ck (r14 &&& (x4 ^^^ (-1 : Int32))) 128 ((if (m.1 94 0 (r14 &&& (x4 ^^^ (-1 : Int32))).toNatClampNeg) = 0 then some (x2, x3) else (fn_X10_ones x4 m).bind fun r18 => some (r18, x4)))).bind fun q20 => lp_X10_leftOut_34 n x1 q20.1 q20.2 (x4 + 1) m)
def fn_X10_leftOut (a1 : Int32) (m : am_m) : Option (Int32 × am_m) :=
  (fn_X10_in a1.toInt64 0 1 (am_si m 10 0 0 0)).bind fun r1 => (if r1 ≠ 0 then (fn_X10_layMay  (am_si m 10 0 0 0)).bind fun r4 => (fn_X10_layParts  r4).bind fun r6 => (lp_X10_leftOut_34 1000000 a1 100000000 0 0 r6).bind fun q22 => (if a1 ≠ 0 then some (q22.2, r6) else some (q22.1, r6)) else some ((-1), am_si m 10 0 0 0))
-- X10_suffered
def lp_X10_suffered_5 : Nat → Int32 → Int32 → Int32 → Int32 → am_m → Option (Int32 × am_m)
  | 0, _, _, _, _, _ => none
  | n + 1, x1, x2, x3, x4, m =>
  (if (m.1 44 0 0) ≤ x4 then some (x3, m) else (if x4 = x1 then some ((0 : Int32), m) else (fn_X10_is x2 x4 m).bind fun r3 => (if r3 = 0 then some ((0 : Int32), m) else (fn_X10_countsAs x4 x1 m).bind fun r6 => some (r6.1, r6.2))).bind fun q8 => lp_X10_suffered_5 n x1 x2 (x3 + q8.1) (x4 + 1) q8.2)
def fn_X10_suffered (a1 : Int32) (a2 : Int32) (m : am_m) : Option (Int32 × am_m) :=
  (lp_X10_suffered_5 1000000 a1 a2 0 0 m).bind fun q10 => some (q10.1, q10.2)
-- X10_seat
def lp_X10_seat_60 : Nat → Int32 → Int32 → Int32 → Int32 → Int32 → Int32 → am_m → Option (Int32 × am_m)
  | 0, _, _, _, _, _, _, _ => none
  | n + 1, x1, x2, x3, x4, x5, x6, m =>
  (if (m.1 44 0 0) ≤ x6 then some (x5, m) else (fn_X10_is x1 x4 m).bind fun r14 => (if r14 = 0 then some (x5, m) else (fn_X10_suffered x6 x1 m).bind fun r17 => (fn_X10_suffered x4 x1 r17.2).bind fun r19 => (if x6 = x4 then some (0 : Int32) else (fn_X10_is x1 x6 r19.2).bind fun r22 => (if r22 = 0 then some (0 : Int32) else (if 0 < (r17.1 - r19.1) then some (1 : Int32) else (if (r17.1 - r19.1) ≠ 0 then some (0 : Int32) else (if x4 ≤ x6 then some (0 : Int32) else some (1 : Int32)))))).bind fun q28 => lp_X10_seat_60 n x1 x2 x3 x4 (x5 + q28) (x6 + 1) r19.2))
def lp_X10_seat_43 : Nat → Int32 → Int32 → Int32 → Int32 → am_m → Option (Int32 × am_m)
  | 0, _, _, _, _, _ => none
  | n + 1, x1, x2, x3, x4, m =>
  (if (m.1 44 0 0) ≤ x4 then some (x3, m) else (lp_X10_seat_60 1000000 x1 x2 x3 x4 0 0 m).bind fun q30 => (fn_X10_is x1 x4 q30.2).bind fun r32 => (if r32 = 0 then some x3 else (if q30.1 ≠ x2 then some x3 else some x4)).bind fun q36 => lp_X10_seat_43 n x1 x2 q36 (x4 + 1) q30.2)
def fn_X10_seat (a1 : Int32) (a2 : Int32) (m : am_m) : Option (Int32 × am_m) :=
  (fn_X10_isSet a1 (am_si m 10 0 0 0)).bind fun r1 => (if r1 = 0 then some ((-1), am_si m 10 0 0 0) else (fn_X10_areThere a1 (am_si m 10 0 0 0)).bind fun r4 => (if r4 = 0 then some ((-1), am_si m 10 0 0 0) else (fn_X10_ones a1 (am_si m 10 0 0 0)).bind fun r7 => (fn_X10_in a2.toInt64 0 (r7.toInt64 - (1 : Int64)) (am_si m 10 0 0 0)).bind fun r9 => (if r9 ≠ 0 then (lp_X10_seat_43 1000000 a1 a2 (-1) 0 (am_si m 10 0 0 0)).bind fun q38 => some (q38.1, q38.2) else some ((-1), am_si m 10 0 0 0))))
-- X10_layFar
def lp_X10_layFar_2 : Nat → Int32 → Int32 → am_m → Option (am_m)
  | 0, _, _, _ => none
  | n + 1, x1, x2, m =>
  (if (m.1 44 0 0) ≤ x2 then some m else am_ck x2 7 (lp_X10_layFar_2 n x1 (x2 + 1) (am_si m 59 0 x2.toNatClampNeg (if x2 ≠ x1 then (100000000 : Int32) else (0 : Int32)))))
def lp_X10_layFar_59 : Nat → Int32 → Int32 → Int32 → am_m → Option (am_m)
  | 0, _, _, _, _ => none
  | n + 1, x2, x3, x4, m =>
  (if (m.1 44 0 0) ≤ x4 then some m else am_ck (((7 : Int32) * x3) + x4) 49 ((if (m.1 92 0 (((7 : Int32) * x3) + x4).toNatClampNeg) = 0 then am_ck x3 7 (some (m.1 59 0 x3.toNatClampNeg)) else am_ck x4 7 (am_ck x3 7 ((if (m.1 59 0 x3.toNatClampNeg) ≤ ((m.1 59 0 x4.toNatClampNeg) + (1 : Int32)) then am_ck x3 7 (some (m.1 59 0 x3.toNatClampNeg)) else am_ck x4 7 (some ((m.1 59 0 x4.toNatClampNeg) + (1 : Int32))))))).bind fun q17 => am_ck x3 7 (lp_X10_layFar_59 n x2 x3 (x4 + 1) (am_si m 59 0 x3.toNatClampNeg q17))))
def lp_X10_layFar_46 : Nat → Int32 → Int32 → am_m → Option (am_m)
  | 0, _, _, _ => none
  | n + 1, x2, x3, m =>
  (if (m.1 44 0 0) ≤ x3 then some m else (lp_X10_layFar_59 1000000 x2 x3 0 m).bind fun q20 => lp_X10_layFar_46 n x2 (x3 + 1) q20)
def lp_X10_layFar_38 : Nat → Int32 → am_m → Option (am_m)
  | 0, _, _ => none
  | n + 1, x2, m =>
  (if (7 : Int32) ≤ x2 then some m else (lp_X10_layFar_46 1000000 x2 0 m).bind fun q22 => lp_X10_layFar_38 n (x2 + 1) q22)
def fn_X10_layFar (a1 : Int32) (m : am_m) : Option (am_m) :=
  (lp_X10_layFar_2 1000000 a1 0 m).bind fun q4 => (lp_X10_layFar_38 1000000 0 q4).bind fun q24 => some q24
-- X10_chain
def lp_X10_chain_104 : Nat → Int32 → Int32 → Int32 → Int32 → am_m → Option (Int32)
  | 0, _, _, _, _, _ => none
  | n + 1, x3, x4, x5, x6, m =>
  am_ck (((7 : Int32) * x4) + x6) 49 ((if (m.1 92 0 (((7 : Int32) * x4) + x6).toNatClampNeg) = 0 then lp_X10_chain_104 n x3 x4 x5 (x6 + 1) m else am_ck x6 7 (am_ck x4 7 ((if (m.1 59 0 x6.toNatClampNeg) = ((m.1 59 0 x4.toNatClampNeg) - (1 : Int32)) then some x6 else lp_X10_chain_104 n x3 x4 x5 (x6 + 1) m)))))
def lp_X10_chain_95 : Nat → Int32 → Int32 → Int32 → am_m → Option (Int32)
  | 0, _, _, _, _ => none
  | n + 1, x3, x4, x5, m =>
  (if x3 < x5 then some x4 else (lp_X10_chain_104 1000000 x3 x4 x5 0 m).bind fun q26 => lp_X10_chain_95 n x3 q26 (x5 + 1) m)
def fn_X10_chain (a1 : Int32) (a2 : Int32) (a3 : Int32) (m : am_m) : Option (Int32 × am_m) :=
  (fn_X10_isFolk a1 (am_si m 10 0 0 0)).bind fun r1 => (if r1 = 0 then some ((-1), am_si m 10 0 0 0) else (fn_X10_isFolk a2 (am_si m 10 0 0 0)).bind fun r4 => (if r4 = 0 then some ((-1), am_si m 10 0 0 0) else (if (-1 : Int32) ≤ a3 then (fn_X10_layMay  (am_si m 10 0 0 0)).bind fun r8 => (fn_X10_layFar a2 r8).bind fun r10 => am_ck a1 7 ((if (r10.1 59 0 a1.toNatClampNeg) = (100000000 : Int32) then am_ck a1 7 ((if (r10.1 59 0 a1.toNatClampNeg) ≠ (100000000 : Int32) then am_ck a1 7 (some ((r10.1 59 0 a1.toNatClampNeg), r10)) else some ((-1), r10))) else (if a3 ≠ (-1 : Int32) then am_ck a1 7 ((if a3 < (r10.1 59 0 a1.toNatClampNeg) then (lp_X10_chain_95 1000000 a3 a1 0 r10).bind fun q28 => some (q28, r10) else some ((-1), r10))) else am_ck a1 7 ((if (r10.1 59 0 a1.toNatClampNeg) ≠ (100000000 : Int32) then am_ck a1 7 (some ((r10.1 59 0 a1.toNatClampNeg), r10)) else some ((-1), r10)))))) else some ((-1), am_si m 10 0 0 0))))
-- X10_circlesNow
def lp_X10_circlesNow_45 : Nat → Int32 → Int32 → Int32 → Int32 → Int32 → Int32 → am_m → Option (Int32)
  | 0, _, _, _, _, _, _, _ => none
  | n + 1, x1, x2, x3, x4, x5, x6, m =>
  (if (m.1 44 0 0) ≤ x6 then some x4 else (fn_X10_is x4 x6 m).bind fun r7 => (if r7 = 0 then some (0 : Int32) else (fn_X10_sitsWith x6 m).bind fun r10 => some r10).bind fun q12 => lp_X10_circlesNow_45 n x1 x2 x3 (x4 ||| q12) x5 (x6 + 1) m)
def lp_X10_circlesNow_35 : Nat → Int32 → Int32 → Int32 → Int32 → Int32 → am_m → Option (Int32)
  | 0, _, _, _, _, _, _ => none
  | n + 1, x1, x2, x3, x4, x5, m =>
  (if (7 : Int32) ≤ x5 then some x4 else (lp_X10_circlesNow_45 1000000 x1 x2 x3 x4 x5 0 m).bind fun q14 => lp_X10_circlesNow_35 n x1 x2 x3 q14 (x5 + 1) m)
def lp_X10_circlesNow_6 : Nat → Int32 → Int32 → Int32 → am_m → Option (Int32)
  | 0, _, _, _, _ => none
  | n + 1, x1, x2, x3, m =>
  (if (m.1 44 0 0) ≤ x3 then some x2 else (fn_X10_is x1 x3 m).bind fun r2 => (if r2 ≠ 0 then some (x1, x2) else (lp_X10_circlesNow_35 1000000 x1 (x2 + 1) x3 ((1 : Int32) <<< (x3 &&& 31)) 0 m).bind fun q16 => some ((x1 ||| q16), (x2 + 1))).bind fun q18 => lp_X10_circlesNow_6 n q18.1 q18.2 (x3 + 1) m)
def fn_X10_circlesNow  (m : am_m) : Option (Int32) :=
  (lp_X10_circlesNow_6 1000000 0 0 0 m).bind fun q20 => some q20
-- X10_circles
def fn_X10_circles  (m : am_m) : Option (Int32 × am_m) :=
  (fn_X10_layMay  (am_si m 10 0 0 0)).bind fun r1 => (fn_X10_circlesNow  r1).bind fun r3 => some (r3, r1)
-- X10_isBridge
def fn_X10_isBridge (a1 : Int32) (a2 : Int32) (m : am_m) : Option (Int32 × am_m) :=
  (fn_X10_circlesNow  m).bind fun r1 => am_ck (((7 : Int32) * a1) + a2) 49 (am_ck (((7 : Int32) * a2) + a1) 49 ((fn_X10_circlesNow  (am_si (am_si m 92 0 (((7 : Int32) * a1) + a2).toNatClampNeg 0) 92 0 (((7 : Int32) * a2) + a1).toNatClampNeg 0)).bind fun r7 => am_ck (((7 : Int32) * a1) + a2) 49 (am_ck (((7 : Int32) * a2) + a1) 49 (am_gd ((if r7 ≤ r1 then (0 : Int32) else (1 : Int32)) = 0 ∨ (if r7 ≤ r1 then (0 : Int32) else (1 : Int32)) = 1) (some ((if r7 ≤ r1 then (0 : Int32) else (1 : Int32)), am_si (am_si (am_si (am_si m 92 0 (((7 : Int32) * a1) + a2).toNatClampNeg 0) 92 0 (((7 : Int32) * a2) + a1).toNatClampNeg 0) 92 0 (((7 : Int32) * a1) + a2).toNatClampNeg 1) 92 0 (((7 : Int32) * a2) + a1).toNatClampNeg 1))))))
-- X10_bridges
def lp_X10_bridges_33 : Nat → Int32 → Int32 → Int32 → Int32 → Int32 → am_m → Option (Int32 × Int32 × am_m)
  | 0, _, _, _, _, _, _ => none
  | n + 1, x1, x2, x3, x4, x5, m =>
  (if (m.1 44 0 0) ≤ x5 then some (x2, x3, m) else am_ck (((7 : Int32) * x4) + x5) 49 ((if (m.1 92 0 (((7 : Int32) * x4) + x5).toNatClampNeg) = 0 then some (x2, x3, m) else (fn_X10_isBridge x4 x5 m).bind fun r7 => (if r7.1 = 0 then some (x2, x3, r7.2) else some ((x2 + 1), (if x2 ≠ x1 then x3 else (((10 : Int32) * x4) + x5)), r7.2))).bind fun q11 => lp_X10_bridges_33 n x1 q11.1 q11.2.1 x4 (x5 + 1) q11.2.2))
def lp_X10_bridges_16 : Nat → Int32 → Int32 → Int32 → Int32 → am_m → Option (Int32 × Int32 × am_m)
  | 0, _, _, _, _, _ => none
  | n + 1, x1, x2, x3, x4, m =>
  (if (m.1 44 0 0) ≤ x4 then some (x2, x3, m) else (lp_X10_bridges_33 1000000 x1 x2 x3 x4 (x4 + (1 : Int32)) m).bind fun q13 => lp_X10_bridges_16 n x1 q13.1 q13.2.1 (x4 + 1) q13.2.2)
def fn_X10_bridges (a1 : Int32) (m : am_m) : Option (Int32 × am_m) :=
  (fn_X10_layMay  (am_si m 10 0 0 0)).bind fun r1 => (lp_X10_bridges_16 1000000 a1 0 (-1) 0 r1).bind fun q15 => (if a1 ≠ (-1 : Int32) then some (q15.2.1, q15.2.2) else some (q15.1, q15.2.2))
-- X10_sat
def fn_X10_sat (a1 : Int32) (m : am_m) : Option (Int32 × am_m) :=
  (fn_X10_isSet a1 (am_si m 10 0 0 0)).bind fun r1 => (if r1 = 0 then (fn_X10_tell (-1) (am_si m 10 0 0 0)).bind fun r4 => some (r4.1, r4.2) else (fn_X10_ones a1 (am_si m 10 0 0 0)).bind fun r6 => (if (2 : Int32) ≤ r6 then (fn_X10_areThere a1 (am_si m 10 0 0 0)).bind fun r9 => (if r9 ≠ 0 then (if (m.1 44 0 1) ≠ (6 : Int32) then am_ck ((112 : Int32) + (m.1 44 0 1)) 5518 ((fn_X10_tell ((m.1 44 0 1) + (1 : Int32)) (am_si (am_si (am_si m 10 0 0 0) 44 0 ((112 : Int32) + (m.1 44 0 1)).toNatClampNeg a1) 44 0 1 (((am_si (am_si m 10 0 0 0) 44 0 ((112 : Int32) + (m.1 44 0 1)).toNatClampNeg a1).1 44 0 1) + (1 : Int32)))).bind fun r14 => some (r14.1, r14.2)) else (fn_X10_tell (-5) (am_si m 10 0 0 0)).bind fun r16 => some (r16.1, r16.2)) else (fn_X10_tell (-2) (am_si m 10 0 0 0)).bind fun r18 => some (r18.1, r18.2)) else (fn_X10_tell (-1) (am_si m 10 0 0 0)).bind fun r20 => some (r20.1, r20.2)))
-- X10_forget
def fn_X10_forget  (m : am_m) : Option (Int32 × am_m) :=
  some ((m.1 44 0 1), am_si (am_si m 10 0 0 0) 44 0 1 0)
-- X10_satBoth
def lp_X10_satBoth_5 : Nat → Int32 → Int32 → Int32 → Int32 → am_m → Option (Int32)
  | 0, _, _, _, _, _ => none
  | n + 1, x1, x2, x3, x4, m =>
  (if (m.1 44 0 1) ≤ x4 then some x3 else (if x3 ≠ 0 then some (1 : Int32) else am_ck ((112 : Int32) + x4) 5518 ((fn_X10_is (m.1 44 0 ((112 : Int32) + x4).toNatClampNeg) x1 m).bind fun r4 => (if r4 = 0 then some (0 : Int32) else am_ck ((112 : Int32) + x4) 5518 ((fn_X10_is (m.1 44 0 ((112 : Int32) + x4).toNatClampNeg) x2 m).bind fun r8 => (if r8 = 0 then some (0 : Int32) else some (1 : Int32)))))).bind fun q11 => lp_X10_satBoth_5 n x1 x2 q11 (x4 + 1) m)
def fn_X10_satBoth (a1 : Int32) (a2 : Int32) (m : am_m) : Option (Int32) :=
  (lp_X10_satBoth_5 1000000 a1 a2 0 0 m).bind fun q13 => am_gd (q13 = 0 ∨ q13 = 1) (some q13)
-- X10_doubted
def lp_X10_doubted_33 : Nat → Int32 → Int32 → Int32 → Int32 → Int32 → am_m → Option (Int32 × Int32)
  | 0, _, _, _, _, _, _ => none
  | n + 1, x1, x2, x3, x4, x5, m =>
  (if (m.1 44 0 0) ≤ x5 then some (x2, x3) else (fn_X10_satBoth x4 x5 m).bind fun r5 => (if r5 = 0 then some (x2, x3) else am_ck (((7 : Int32) * x4) + x5) 49 ((if (m.1 92 0 (((7 : Int32) * x4) + x5).toNatClampNeg) ≠ 0 then some (x2, x3) else some ((x2 + 1), (if x2 ≠ x1 then x3 else (((10 : Int32) * x4) + x5)))))).bind fun q11 => lp_X10_doubted_33 n x1 q11.1 q11.2 x4 (x5 + 1) m)
def lp_X10_doubted_16 : Nat → Int32 → Int32 → Int32 → Int32 → am_m → Option (Int32 × Int32)
  | 0, _, _, _, _, _ => none
  | n + 1, x1, x2, x3, x4, m =>
  (if (m.1 44 0 0) ≤ x4 then some (x2, x3) else (lp_X10_doubted_33 1000000 x1 x2 x3 x4 (x4 + (1 : Int32)) m).bind fun q13 => lp_X10_doubted_16 n x1 q13.1 q13.2 (x4 + 1) m)
def fn_X10_doubted (a1 : Int32) (m : am_m) : Option (Int32 × am_m) :=
  (fn_X10_layMay  (am_si m 10 0 0 0)).bind fun r1 => (lp_X10_doubted_16 1000000 a1 0 (-1) 0 r1).bind fun q15 => (if a1 ≠ (-1 : Int32) then some (q15.2, r1) else some (q15.1, r1))
-- X10_fittingFor
def lp_X10_fittingFor_4 : Nat → Int32 → Int32 → Int32 → am_m → Option (Int32)
  | 0, _, _, _, _ => none
  | n + 1, x1, x2, x3, m =>
  (if (m.1 44 0 0) ≤ x3 then some x2 else (fn_X10_is x1 x3 m).bind fun r2 => (if r2 ≠ 0 then some (0 : Int32) else (fn_X10_sitsWith x3 m).bind fun r5 => (if (x1 &&& (r5 ^^^ (-1 : Int32))) ≠ 0 then some (0 : Int32) else some ((1 : Int32) <<< (x3 &&& 31)))).bind fun q8 => lp_X10_fittingFor_4 n x1 (x2 ||| q8) (x3 + 1) m)
def fn_X10_fittingFor (a1 : Int32) (m : am_m) : Option (Int32) :=
  (lp_X10_fittingFor_4 1000000 a1 0 0 m).bind fun q10 => some q10
-- X10_fitting
def fn_X10_fitting (a1 : Int32) (m : am_m) : Option (Int32 × am_m) :=
  (fn_X10_isSet a1 (am_si m 10 0 0 0)).bind fun r1 => (if r1 = 0 then some ((-1), am_si m 10 0 0 0) else (fn_X10_areThere a1 (am_si m 10 0 0 0)).bind fun r4 => (if r4 ≠ 0 then (fn_X10_layMay  (am_si m 10 0 0 0)).bind fun r7 => (fn_X10_fittingFor a1 r7).bind fun r9 => some (r9, r7) else some ((-1), am_si m 10 0 0 0)))
-- X10_ask
def lp_X10_ask_53 : Nat → Int32 → Int32 → Int32 → Int32 → Int32 → am_m → Option (Int32)
  | 0, _, _, _, _, _, _ => none
  | n + 1, x2, x3, x4, x5, x6, m =>
  (if (m.1 44 0 0) ≤ x6 then some x5 else (if x3 = 0 then some x5 else (fn_X10_sitsWith x6 m).bind fun r16 => (fn_X10_ones (x3 &&& r16) m).bind fun r18 => (fn_X10_ones x3 m).bind fun r20 => lp_X10_ask_53 n x2 x3 (if x4 ≤ (if 0 ≤ (((2 : Int32) * r18) - r20) then (((2 : Int32) * r18) - r20) else (-(((2 : Int32) * r18) - r20))) then x4 else (if 0 ≤ (((2 : Int32) * r18) - r20) then (((2 : Int32) * r18) - r20) else (-(((2 : Int32) * r18) - r20)))) (if x4 ≤ (if 0 ≤ (((2 : Int32) * r18) - r20) then (((2 : Int32) * r18) - r20) else (-(((2 : Int32) * r18) - r20))) then x5 else x6) (x6 + 1) m))
def fn_X10_ask (a1 : Int32) (a2 : Int32) (m : am_m) : Option (Int32 × am_m) :=
  (fn_X10_isSet a1 (am_si m 10 0 0 0)).bind fun r1 => (if r1 = 0 then some ((-1), am_si m 10 0 0 0) else (fn_X10_areThere a1 (am_si m 10 0 0 0)).bind fun r4 => (if r4 = 0 then some ((-1), am_si m 10 0 0 0) else (fn_X10_in a2.toInt64 0 1 (am_si m 10 0 0 0)).bind fun r7 => (if r7 ≠ 0 then (fn_X10_layMay  (am_si m 10 0 0 0)).bind fun r10 => (fn_X10_fittingFor a1 r10).bind fun r12 => (lp_X10_ask_53 1000000 a2 r12 100000000 (-1) 0 r10).bind fun q25 => (if q25 = (-1 : Int32) then some (q25, r10) else (if a2 ≠ 0 then (fn_X10_sitsWith q25 r10).bind fun r29 => (fn_X10_ones (r12 &&& r29) r10).bind fun r31 => some (r31, r10) else some (q25, r10))) else some ((-1), am_si m 10 0 0 0))))
-- X10_lasts
def lp_X10_lasts_23 : Nat → Int32 → Int32 → am_m → Option (Int32 × am_m)
  | 0, _, _, _ => none
  | n + 1, x1, x2, m =>
  (if (100 : Int32) < x2 then some (x2, m) else am_ck ((7 : Int32) + x1) 5518 ((if (m.1 44 0 ((7 : Int32) + x1).toNatClampNeg) ≤ 0 then some (x2, m) else (fn_X10_passIt  m).bind fun r9 => lp_X10_lasts_23 n x1 (x2 + 1) r9)))
def fn_X10_lasts (a1 : Int32) (m : am_m) : Option (Int32 × am_m) :=
  (fn_X10_isFolk a1 (am_si m 10 0 0 0)).bind fun r1 => (if r1 ≠ 0 then (fn_X10_keepAll 16 (am_si m 10 0 0 0)).bind fun r4 => (lp_X10_lasts_23 1000000 a1 0 r4).bind fun q11 => (fn_X10_putBack 16 q11.2).bind fun r13 => (if q11.1 ≤ (100 : Int32) then some (q11.1, r13) else some ((-1), r13)) else some ((-1), am_si m 10 0 0 0))
-- X10_fedBy
def lp_X10_fedBy_27 : Nat → Int32 → Int32 → Int32 → am_m → Option (Int32)
  | 0, _, _, _, _ => none
  | n + 1, x1, x2, x3, m =>
  (if (m.1 44 0 0) ≤ x3 then some x2 else am_ck ((7 : Int32) + x3) 5518 (lp_X10_fedBy_27 n x1 (x2 ||| (if x1 ≤ (m.1 44 0 ((7 : Int32) + x3).toNatClampNeg) then (0 : Int32) else ((1 : Int32) <<< (x3 &&& 31)))) (x3 + 1) m))
def lp_X10_fedBy_68 : Nat → Int32 → Int32 → am_m → Option (am_m)
  | 0, _, _, _ => none
  | n + 1, x2, x3, m =>
  (fn_X10_all  m).bind fun r11 => (if r11 < x3 then some m else am_ck x3 128 (lp_X10_fedBy_68 n x2 (x3 + 1) (am_si m 60 0 x3.toNatClampNeg (if x3 ≠ 0 then (100000000 : Int32) else (0 : Int32)))))
def lp_X10_fedBy_112 : Nat → Int32 → Int32 → Int32 → am_m → Option (am_m)
  | 0, _, _, _, _ => none
  | n + 1, x2, x3, x4, m =>
  (fn_X10_all  m).bind fun r21 => (if r21 < x4 then some m else am_ck x3 128 ((if (100000000 : Int32) ≤ (m.1 60 0 x3.toNatClampNeg) then some m else (fn_X10_isTable x4 m).bind fun r26 => (if r26 = 0 then some m else am_ck x3 128 (am_ck (x3 ||| x4) 128 ((if (m.1 60 0 (x3 ||| x4).toNatClampNeg) ≤ ((m.1 60 0 x3.toNatClampNeg) + (1 : Int32)) then am_ck (x3 ||| x4) 128 (some (m.1 60 0 (x3 ||| x4).toNatClampNeg)) else am_ck x3 128 (some ((m.1 60 0 x3.toNatClampNeg) + (1 : Int32)))).bind fun q34 => am_ck (x3 ||| x4) 128 (some (am_si m 60 0 (x3 ||| x4).toNatClampNeg q34))))).bind fun q37 => lp_X10_fedBy_112 n x2 x3 (x4 + 1) q37)))
def lp_X10_fedBy_101 : Nat → Int32 → Int32 → am_m → Option (am_m)
  | 0, _, _, _ => none
  | n + 1, x2, x3, m =>
  (fn_X10_all  m).bind fun r18 => (if r18 < x3 then some m else (lp_X10_fedBy_112 1000000 x2 x3 0 m).bind fun q39 => lp_X10_fedBy_101 n x2 (x3 + 1) q39)
def lp_X10_fedBy_210 : Nat → Int32 → Int32 → Int32 → am_m → Option (Int32)
  | 0, _, _, _, _ => none
  | n + 1, x2, x3, x4, m =>
  (fn_X10_all  m).bind fun r43 => (if r43 < x4 then some x3 else (if (x2 &&& (x4 ^^^ (-1 : Int32))) ≠ 0 then some x3 else am_ck x4 128 ((if x3 ≤ (m.1 60 0 x4.toNatClampNeg) then some x3 else am_ck x4 128 (some (m.1 60 0 x4.toNatClampNeg))))).bind fun q50 => lp_X10_fedBy_210 n x2 q50 (x4 + 1) m)
def fn_X10_fedBy (a1 : Int32) (m : am_m) : Option (Int32 × am_m) :=
  (fn_X10_in a1.toInt64 0 10 (am_si m 10 0 0 0)).bind fun r1 => (if r1 ≠ 0 then (fn_X10_layMay  (am_si m 10 0 0 0)).bind fun r4 => (lp_X10_fedBy_27 1000000 a1 0 0 r4).bind fun q9 => (lp_X10_fedBy_68 1000000 q9 0 r4).bind fun q16 => (lp_X10_fedBy_101 1000000 q9 0 q16).bind fun q41 => (lp_X10_fedBy_210 1000000 q9 100000000 0 q41).bind fun q52 => (if q52 ≠ (100000000 : Int32) then some (q52, q41) else some ((-1), q41)) else some ((-1), am_si m 10 0 0 0))
-- X10_few
def lp_X10_few_35 : Nat → Int32 → Int32 → Int32 → am_m → Option (am_m)
  | 0, _, _, _, _ => none
  | n + 1, x1, x2, x3, m =>
  (if (21 : Int32) ≤ x3 then some m else am_ck x3 21 (lp_X10_few_35 n x1 x2 (x3 + 1) (am_sg m 88 0 x3.toNatClampNeg (if x3 ≠ 0 then (0 : Int64) else (1000000000000 : Int64)))))
def lp_X10_few_85 : Nat → Int32 → Int32 → Int32 → Int32 → Int32 → am_m → Option (am_m)
  | 0, _, _, _, _, _, _ => none
  | n + 1, x1, x2, x3, x4, x5, m =>
  (if x5 < 0 then some m else am_ck x5 21 (am_ck x5 21 (am_ck (x5 + (1 : Int32)) 21 (am_ck (x5 + (1 : Int32)) 21 (lp_X10_few_85 n x1 x2 x3 x4 (x5 - 1) (am_sg (am_sg m 88 0 x5.toNatClampNeg (((m.2.1 88 0 x5.toNatClampNeg) * (((10 : Int32) - x3).toInt64)) / (10 : Int64))) 88 0 (x5 + (1 : Int32)).toNatClampNeg (((am_sg m 88 0 x5.toNatClampNeg (((m.2.1 88 0 x5.toNatClampNeg) * (((10 : Int32) - x3).toInt64)) / (10 : Int64))).2.1 88 0 (x5 + (1 : Int32)).toNatClampNeg) + (((m.2.1 88 0 x5.toNatClampNeg) * x3.toInt64) / (10 : Int64)))))))))
def lp_X10_few_74 : Nat → Int32 → Int32 → Int32 → Int32 → am_m → Option (am_m)
  | 0, _, _, _, _, _ => none
  | n + 1, x1, x2, x3, x4, m =>
  (if x2 ≤ x4 then some m else (lp_X10_few_85 1000000 x1 x2 x3 x4 (x1 - (1 : Int32)) m).bind fun q18 => lp_X10_few_74 n x1 x2 x3 (x4 + 1) q18)
def lp_X10_few_157 : Nat → Int32 → Int64 → Int32 → am_m → Option (Int64)
  | 0, _, _, _, _ => none
  | n + 1, x1, x4, x6, m =>
  (if x1 ≤ x6 then some x4 else am_ck x6 21 (lp_X10_few_157 n x1 (x4 + (m.2.1 88 0 x6.toNatClampNeg)) (x6 + 1) m))
def fn_X10_few (a1 : Int32) (a2 : Int32) (m : am_m) : Option (Int64 × am_m) :=
  (fn_X10_in a1.toInt64 1 20 (am_si m 10 0 0 0)).bind fun r1 => (if r1 = 0 then some ((-1), am_si m 10 0 0 0) else (fn_X10_in a2.toInt64 0 99 (am_si m 10 0 0 0)).bind fun r4 => (if r4 ≠ 0 then (lp_X10_few_35 1000000 a1 a2 0 (am_si m 10 0 0 0)).bind fun q10 => (lp_X10_few_74 1000000 a1 a2 (q10.1 44 0 5) 0 q10).bind fun q20 => (lp_X10_few_157 1000000 a1 0 0 q20).bind fun q24 => some (q24, q20) else some ((-1), am_si m 10 0 0 0)))
-- X10_compare
def fn_X10_compare (a1 : Int32) (m : am_m) : Option (Int32 × am_m) :=
  (fn_X10_isLaw a1 (am_si m 10 0 0 0)).bind fun r1 => (if r1 ≠ 0 then (fn_X10_layMay  (am_si (am_si m 10 0 0 0) 44 0 3 a1)).bind fun r4 => (fn_X10_largestSet  (am_si r4 44 0 3 (m.1 44 0 3))).bind fun r6 => (fn_X10_ones r6 (am_si r4 44 0 3 (m.1 44 0 3))).bind fun r8 => some (r8, am_si r4 44 0 3 (m.1 44 0 3)) else some ((-1), am_si m 10 0 0 0))
-- X10_readSum
def fn_X10_readSum (a1 : Int32) (m : am_m) : Option (am_m) :=
  am_ck a1 120 ((if (m.1 10 0 19) ≠ 0 then some (am_si m 61 0 a1.toNatClampNeg (m.1 10 0 23)) else (fn_X10_readExpression 0 (am_si m 61 0 a1.toNatClampNeg (m.1 10 0 23))).bind fun r3 => some r3).bind fun q5 => am_ck (a1 + (1 : Int32)) 120 (some (am_si q5 61 0 (a1 + (1 : Int32)).toNatClampNeg (q5.1 10 0 23))))
-- X10_readBehind
def fn_X10_readBehind (a1 : Int64) (a2 : Int32) (m : am_m) : Option (am_m) :=
  (if (m.1 10 0 19) ≠ 0 then some m else (fn_X10_isWord a1 m).bind fun r2 => (fn_X10_must r2 m).bind fun r4 => some r4).bind fun q6 => (fn_X10_readSum a2 q6).bind fun r7 => some r7
-- X10_readOrder
def lp_X10_readOrder_4 : Nat → Int32 → Int32 → am_m → Option (Int32)
  | 0, _, _, _ => none
  | n + 1, x1, x2, m =>
  (if (4 : Int32) ≤ x2 then some x1 else am_ck x2 4 ((fn_X10_isWord (m.2.1 89 0 x2.toNatClampNeg) m).bind fun r3 => lp_X10_readOrder_4 n (if r3 = 0 then x1 else x2) (x2 + 1) m))
def lp_X10_readOrder_85 : Nat → Int32 → Int32 → Int32 → am_m → Option (am_m)
  | 0, _, _, _, _ => none
  | n + 1, x1, x2, x3, m =>
  (if (10 : Int32) ≤ x3 then some m else am_ck (x2 + x3) 120 (lp_X10_readOrder_85 n x1 x2 (x3 + 1) (am_si m 61 0 (x2 + x3).toNatClampNeg 0)))
def fn_X10_readOrder  (m : am_m) : Option (am_m) :=
  (lp_X10_readOrder_4 1000000 (-1) 0 m).bind fun q6 => (if q6 = (-1 : Int32) then some (0 : Int32) else (if (12 : Int32) ≤ (m.1 10 0 21) then some (0 : Int32) else some (1 : Int32))).bind fun q10 => (fn_X10_must q10 m).bind fun r11 => (if (r11.1 10 0 19) = 0 then (lp_X10_readOrder_85 1000000 q6 ((10 : Int32) * (r11.1 10 0 21)) 0 (am_si r11 10 0 21 ((r11.1 10 0 21) + (1 : Int32)))).bind fun q16 => am_ck ((10 : Int32) * (r11.1 10 0 21)) 120 ((if q6 = (3 : Int32) then some (am_si q16 61 0 ((10 : Int32) * (r11.1 10 0 21)).toNatClampNeg q6) else (fn_X10_readSum (((10 : Int32) * (r11.1 10 0 21)) + (1 : Int32)) (am_si q16 61 0 ((10 : Int32) * (r11.1 10 0 21)).toNatClampNeg q6)).bind fun r20 => some r20).bind fun q22 => (if q6 = 0 then (fn_X10_readBehind 655 (((10 : Int32) * (r11.1 10 0 21)) + (3 : Int32)) q22).bind fun r24 => some r24 else (if q6 ≠ (2 : Int32) then some q22 else (fn_X10_readBehind 655 (((10 : Int32) * (r11.1 10 0 21)) + (3 : Int32)) q22).bind fun r27 => some r27)).bind fun q29 => (if q6 ≠ 0 then some q29 else (fn_X10_readBehind 89 (((10 : Int32) * (r11.1 10 0 21)) + (5 : Int32)) q29).bind fun r31 => some r31).bind fun q33 => am_ck (((10 : Int32) * (r11.1 10 0 21)) + (9 : Int32)) 120 ((if (q33.1 10 0 19) ≠ 0 then some (am_si q33 61 0 (((10 : Int32) * (r11.1 10 0 21)) + (9 : Int32)).toNatClampNeg 1) else (fn_X10_isWord 21279923 (am_si q33 61 0 (((10 : Int32) * (r11.1 10 0 21)) + (9 : Int32)).toNatClampNeg 1)).bind fun r36 => (if r36 = 0 then some (am_si q33 61 0 (((10 : Int32) * (r11.1 10 0 21)) + (9 : Int32)).toNatClampNeg 1) else (fn_X10_next  (am_si q33 61 0 (((10 : Int32) * (r11.1 10 0 21)) + (9 : Int32)).toNatClampNeg 1)).bind fun r39 => (fn_X10_number 1 20 r39).bind fun r41 => am_ck (((10 : Int32) * (r11.1 10 0 21)) + (9 : Int32)) 120 (some (am_si r41.2 61 0 (((10 : Int32) * (r11.1 10 0 21)) + (9 : Int32)).toNatClampNeg r41.1)))).bind fun q44 => am_ck (((10 : Int32) * (r11.1 10 0 21)) + (7 : Int32)) 120 ((if (q44.1 10 0 19) ≠ 0 then some (am_si q44 61 0 (((10 : Int32) * (r11.1 10 0 21)) + (7 : Int32)).toNatClampNeg (q44.1 10 0 23)) else (fn_X10_isWord 294 (am_si q44 61 0 (((10 : Int32) * (r11.1 10 0 21)) + (7 : Int32)).toNatClampNeg (q44.1 10 0 23))).bind fun r47 => (if r47 = 0 then some (am_si q44 61 0 (((10 : Int32) * (r11.1 10 0 21)) + (7 : Int32)).toNatClampNeg (q44.1 10 0 23)) else (fn_X10_next  (am_si q44 61 0 (((10 : Int32) * (r11.1 10 0 21)) + (7 : Int32)).toNatClampNeg (q44.1 10 0 23))).bind fun r50 => (fn_X10_readExpression 1 r50).bind fun r52 => some r52)).bind fun q54 => am_ck (((10 : Int32) * (r11.1 10 0 21)) + (8 : Int32)) 120 (some (am_si q54 61 0 (((10 : Int32) * (r11.1 10 0 21)) + (8 : Int32)).toNatClampNeg (q54.1 10 0 23)))))) else some r11)
-- X10_sumOf
def fn_X10_sumOf (a1 : Int32) (m : am_m) : Option (Int32 × am_m) :=
  (if (m.1 10 0 58) ≠ 0 then some ((-1), m) else am_ck a1 120 (am_ck (a1 + (1 : Int32)) 120 ((if (m.1 61 0 a1.toNatClampNeg) ≠ (m.1 61 0 (a1 + (1 : Int32)).toNatClampNeg) then am_ck a1 120 (am_ck (a1 + (1 : Int32)) 120 ((fn_X10_reckonAll (m.1 61 0 a1.toNatClampNeg) (m.1 61 0 (a1 + (1 : Int32)).toNatClampNeg) (am_si m 10 0 20 1)).bind fun r7 => am_gd ((r7.1 10 0 38) = 0 ∨ (r7.1 10 0 38) = 1) (some ((r7.2.1 10 0 39).toInt32, am_si (am_si r7 10 0 20 0) 10 0 58 (r7.1 10 0 38))))) else some ((-1), m)))))
-- X10_act
def fn_X10_act (a1 : Int32) (a2 : Int32) (a3 : Int32) (a4 : Int32) (m : am_m) : Option (Int32 × am_m) :=
  (if a1 = 0 then (fn_X10_harmNow a2 a3 a4 m).bind fun r2 => some (r2.1, r2.2) else (if a1 = 1 then (fn_X10_feastNow a2 m).bind fun r5 => some (r5.1, r5.2) else (if a1 = 2 then (fn_X10_pardonNow a2 a3 m).bind fun r8 => some (r8.1, r8.2) else (fn_X10_passNow  m).bind fun r10 => some (r10.1, r10.2))))
-- X10_run
def lp_X10_run_63 : Nat → Int32 → Int32 → am_m → Option (am_m)
  | 0, _, _, _ => none
  | n + 1, x1, x2, m =>
  (if (m.1 44 0 0) ≤ x2 then some m else (fn_X10_sitsWith x2 m).bind fun r8 => am_ck x2 7 (lp_X10_run_63 n x1 (x2 + 1) (am_si m 62 0 x2.toNatClampNeg r8)))
def fn_X10_run (a1 : Int32) (m : am_m) : Option (Int32 × am_m) :=
  (fn_X10_harmsOf  (am_sg (am_sg (am_sg m 86 0 1 ((m.1 44 0 4).toInt64)) 86 0 2 ((m.1 10 0 55).toInt64)) 86 0 3 ((m.1 10 0 56).toInt64))).bind fun r1 => (fn_X10_starving  (am_sg (am_sg (am_sg (am_sg m 86 0 1 ((m.1 44 0 4).toInt64)) 86 0 2 ((m.1 10 0 55).toInt64)) 86 0 3 ((m.1 10 0 56).toInt64)) 86 0 4 r1.toInt64)).bind fun r3 => (fn_X10_layMay  (am_sg (am_sg (am_sg (am_sg (am_sg m 86 0 1 ((m.1 44 0 4).toInt64)) 86 0 2 ((m.1 10 0 55).toInt64)) 86 0 3 ((m.1 10 0 56).toInt64)) 86 0 4 r1.toInt64) 86 0 5 r3.toInt64)).bind fun r5 => (lp_X10_run_63 1000000 a1 0 r5).bind fun q11 => am_ck (a1 + (7 : Int32)) 120 (am_ck (a1 + (8 : Int32)) 120 ((if (q11.1 61 0 (a1 + (8 : Int32)).toNatClampNeg) ≤ (q11.1 61 0 (a1 + (7 : Int32)).toNatClampNeg) then (fn_X10_sumOf (a1 + (1 : Int32)) (am_si q11 10 0 58 0)).bind fun r16 => (fn_X10_sumOf (a1 + (3 : Int32)) r16.2).bind fun r18 => (fn_X10_sumOf (a1 + (5 : Int32)) r18.2).bind fun r20 => (if (r20.2.1 10 0 58) = 0 then am_ck a1 120 ((fn_X10_act (r20.2.1 61 0 a1.toNatClampNeg) r16.1 r18.1 r20.1 r20.2).bind fun r24 => (if 0 ≤ r24.1 then am_ck a1 120 (some (0, am_si (am_si r24.2 10 0 56 (if (r24.2.1 61 0 a1.toNatClampNeg) ≠ (1 : Int32) then (r24.2.1 10 0 56) else r24.1)) 10 0 55 ((r24.2.1 10 0 55) + (1 : Int32)))) else some ((-3), r24.2))) else some ((-3), r20.2)) else (fn_X10_sumOf (a1 + (7 : Int32)) (am_si q11 10 0 58 0)).bind fun r29 => (if (r29.2.1 10 0 58) ≠ 0 then some (0, r29.2) else (if r29.1 ≠ 0 then (fn_X10_sumOf (a1 + (1 : Int32)) r29.2).bind fun r33 => (fn_X10_sumOf (a1 + (3 : Int32)) r33.2).bind fun r35 => (fn_X10_sumOf (a1 + (5 : Int32)) r35.2).bind fun r37 => (if (r37.2.1 10 0 58) = 0 then am_ck a1 120 ((fn_X10_act (r37.2.1 61 0 a1.toNatClampNeg) r33.1 r35.1 r37.1 r37.2).bind fun r41 => (if 0 ≤ r41.1 then am_ck a1 120 (some (0, am_si (am_si r41.2 10 0 56 (if (r41.2.1 61 0 a1.toNatClampNeg) ≠ (1 : Int32) then (r41.2.1 10 0 56) else r41.1)) 10 0 55 ((r41.2.1 10 0 55) + (1 : Int32)))) else some ((-3), r41.2))) else some ((-3), r37.2)) else some (0, r29.2))))))
-- X10_giveBack
def lp_X10_giveBack_8 : Nat → Int32 → Int32 → am_m → Option (am_m)
  | 0, _, _, _ => none
  | n + 1, x1, x2, m =>
  (if (1728 : Int32) ≤ x2 then some m else am_ck x2 1728 (am_ck x2 1944 (lp_X10_giveBack_8 n x1 (x2 + 1) (am_si m 46 0 x2.toNatClampNeg (m.1 48 0 x2.toNatClampNeg)))))
def lp_X10_giveBack_35 : Nat → Int32 → Int32 → am_m → Option (am_m)
  | 0, _, _, _ => none
  | n + 1, x1, x2, m =>
  (if (16 : Int32) ≤ x2 then some m else am_ck x2 16 (am_ck x2 16 (lp_X10_giveBack_35 n x1 (x2 + 1) (am_si m 47 0 x2.toNatClampNeg (m.1 49 0 x2.toNatClampNeg)))))
def fn_X10_giveBack (a1 : Int32) (m : am_m) : Option (am_m) :=
  (fn_X10_putBack 17 m).bind fun r1 => (lp_X10_giveBack_8 1000000 a1 0 r1).bind fun q6 => (lp_X10_giveBack_35 1000000 a1 0 q6).bind fun q11 => some (am_si q11 10 0 8 a1)
-- X10_orders
def lp_X10_orders_19 : Nat → am_m → Option (am_m)
  | 0, _ => none
  | n + 1, m =>
  (if (m.1 10 0 19) ≠ 0 then some m else (fn_X10_isSign 59 m).bind fun r6 => (if r6 = 0 then some m else (fn_X10_next  m).bind fun r9 => (fn_X10_readOrder  r9).bind fun r11 => lp_X10_orders_19 n  r11))
def lp_X10_orders_77 : Nat → Int32 → Int32 → am_m → Option (am_m)
  | 0, _, _, _ => none
  | n + 1, x1, x2, m =>
  (if (1728 : Int32) ≤ x2 then some m else am_ck x2 1944 (am_ck x2 1728 (lp_X10_orders_77 n x1 (x2 + 1) (am_si m 48 0 x2.toNatClampNeg (m.1 46 0 x2.toNatClampNeg)))))
def lp_X10_orders_104 : Nat → Int32 → Int32 → am_m → Option (am_m)
  | 0, _, _, _ => none
  | n + 1, x1, x2, m =>
  (if (16 : Int32) ≤ x2 then some m else am_ck x2 16 (am_ck x2 16 (lp_X10_orders_104 n x1 (x2 + 1) (am_si m 49 0 x2.toNatClampNeg (m.1 47 0 x2.toNatClampNeg)))))
def lp_X10_orders_150 : Nat → Int32 → Int32 → Int32 → am_m → Option (Sum (am_m) (Int32 × am_m))
  | 0, _, _, _, _ => none
  | n + 1, x1, x2, x3, m =>
  am_ck (((10 : Int32) * x2) + (9 : Int32)) 120 ((if (m.1 61 0 (((10 : Int32) * x2) + (9 : Int32)).toNatClampNeg) ≤ x3 then some (.inl m) else (fn_X10_run ((10 : Int32) * x2) m).bind fun r33 => (if 0 ≤ r33.1 then lp_X10_orders_150 n x1 x2 (x3 + 1) r33.2 else (fn_X10_giveBack x1 r33.2).bind fun r36 => (fn_X10_tell (-3) (am_si r36 10 0 57 x2)).bind fun r38 => some (.inr (r38.1, r38.2)))))
def lp_X10_orders_140 : Nat → Int32 → Int32 → am_m → Option (Sum (am_m) (Int32 × am_m))
  | 0, _, _, _ => none
  | n + 1, x1, x2, m =>
  (if (m.1 10 0 21) ≤ x2 then some (.inl m) else (lp_X10_orders_150 1000000 x1 x2 0 m).bind fun w43 => (match w43 with
    | .inl q40 => lp_X10_orders_140 n x1 (x2 + 1) q40
    | .inr rr42 => some (.inr rr42)))
def fn_X10_orders  (m : am_m) : Option (Int32 × am_m) :=
  (fn_X10_beginText 1 (am_si (am_si m 10 0 0 0) 10 0 57 (-1))).bind fun r1 => (fn_X10_readOrder  r1).bind fun r3 => (lp_X10_orders_19 1000000  r3).bind fun q13 => (fn_X10_endText  q13).bind fun r15 => (if (r15.1 10 0 19) = 0 then (fn_X10_keepAll 17 r15).bind fun r18 => (lp_X10_orders_77 1000000 (r18.1 10 0 8) 0 r18).bind fun q23 => (lp_X10_orders_104 1000000 (r18.1 10 0 8) 0 q23).bind fun q28 => (lp_X10_orders_140 1000000 (r18.1 10 0 8) 0 (am_si (am_si q28 10 0 55 0) 10 0 56 (-1))).bind fun w49 => (match w49 with
    | .inl q44 => (fn_X10_tell (q44.1 10 0 55) q44).bind fun r46 => some (r46.1, r46.2)
    | .inr rr48 => some rr48) else (fn_X10_tell (-6) r15).bind fun r50 => some (r50.1, r50.2))
-- X10_stopped
def fn_X10_stopped  (m : am_m) : Option (Int32 × am_m) :=
  some ((m.1 10 0 57), am_si m 10 0 0 0)
-- X10_draw
def fn_X10_draw (a1 : Int32) (m : am_m) : Option (Int32 × am_m) :=
  am_gd (¬ a1.toInt64 = 0) (some ((((((m.2.1 10 0 59) * (1103 : Int64)) + (12345 : Int64)) - (((m.2.1 10 0 59) * (1103 : Int64)) + (12345 : Int64)) / (1000003 : Int64) * (1000003 : Int64)) - ((((m.2.1 10 0 59) * (1103 : Int64)) + (12345 : Int64)) - (((m.2.1 10 0 59) * (1103 : Int64)) + (12345 : Int64)) / (1000003 : Int64) * (1000003 : Int64)) / a1.toInt64 * a1.toInt64).toInt32, am_sg m 10 0 59 ((((m.2.1 10 0 59) * (1103 : Int64)) + (12345 : Int64)) - (((m.2.1 10 0 59) * (1103 : Int64)) + (12345 : Int64)) / (1000003 : Int64) * (1000003 : Int64))))
-- X10_seasons
def lp_X10_seasons_65 : Nat → Int32 → Int32 → am_m → Option (am_m)
  | 0, _, _, _ => none
  | n + 1, x2, x3, m =>
  (if x2 ≤ x3 then some m else (if (999 : Int32) ≤ (m.1 44 0 4) then some m else (fn_X10_draw (m.1 44 0 0) m).bind fun r14 => (fn_X10_draw (r14.2.1 44 0 0) r14.2).bind fun r16 => (fn_X10_draw 9 r16.2).bind fun r18 => (fn_X10_draw 4 r18.2).bind fun r20 => (if r14.1 = r16.1 then some r20.2 else (if (2 : Int32) ≤ r20.1 then some r20.2 else (fn_X10_weightOf r14.1 r16.1 r20.2).bind fun r24 => (if r24 = (r18.1 + (1 : Int32)) then some r20.2 else (fn_X10_setHarm r14.1 r16.1 (r18.1 + (1 : Int32)) r20.2).bind fun r27 => some r27)).bind fun q29 => (if r20.1 ≠ (2 : Int32) then some q29 else (fn_X10_maySit r14.1 r16.1 q29).bind fun r31 => (if r31.1 = 0 then some r31.2 else (fn_X10_feastIt (((1 : Int32) <<< (r14.1 &&& 31)) ||| ((1 : Int32) <<< (r16.1 &&& 31))) r31.2).bind fun r34 => some r34)).bind fun q36 => (if r20.1 ≠ (3 : Int32) then some q36 else am_ck (((14 : Int32) + ((7 : Int32) * r14.1)) + r16.1) 5518 (some (am_si q36 44 0 (((14 : Int32) + ((7 : Int32) * r14.1)) + r16.1).toNatClampNeg 0)))).bind fun q41 => (fn_X10_passIt  q41).bind fun r42 => lp_X10_seasons_65 n x2 (x3 + 1) r42))
def lp_X10_seasons_224 : Nat → Int32 → am_m → Option (am_m)
  | 0, _, _ => none
  | n + 1, x3, m =>
  (if (108 : Int32) ≤ x3 then some m else am_ck ((4 : Int32) + x3) 5518 (am_ck x3 108 (lp_X10_seasons_224 n (x3 + 1) (am_si m 63 0 x3.toNatClampNeg (m.1 44 0 ((4 : Int32) + x3).toNatClampNeg)))))
def fn_X10_seasons (a1 : Int32) (a2 : Int32) (m : am_m) : Option (Int32 × am_m) :=
  (fn_X10_in a1.toInt64 0 1000000 (am_si m 10 0 0 0)).bind fun r1 => (if r1 = 0 then (fn_X10_tell (-1) (am_si m 10 0 0 0)).bind fun r4 => some (r4.1, r4.2) else (fn_X10_in a2.toInt64 1 60 (am_si m 10 0 0 0)).bind fun r6 => (if r6 ≠ 0 then (if (m.1 44 0 0) ≠ 0 then (fn_X10_keepAll 16 (am_si m 10 0 0 0)).bind fun r10 => (lp_X10_seasons_65 1000000 a2 0 (am_sg r10 10 0 59 a1.toInt64)).bind fun q45 => (lp_X10_seasons_224 1000000 0 q45).bind fun q50 => (fn_X10_starving  (am_si q50 10 0 61 (q50.1 44 0 0))).bind fun r52 => (fn_X10_putBack 16 (am_si q50 10 0 61 (q50.1 44 0 0))).bind fun r54 => (fn_X10_tell r52 r54).bind fun r56 => some (r56.1, r56.2) else (fn_X10_tell (-3) (am_si m 10 0 0 0)).bind fun r58 => some (r58.1, r58.2)) else (fn_X10_tell (-1) (am_si m 10 0 0 0)).bind fun r60 => some (r60.1, r60.2)))
-- X10_drawn
def fn_X10_drawn (a1 : Int32) (a2 : Int32) (m : am_m) : Option (Int32 × am_m) :=
  (fn_X10_in a1.toInt64 0 (((m.1 10 0 61).toInt64) - (1 : Int64)) (am_si m 10 0 0 0)).bind fun r1 => (if r1 = 0 then some ((-1), am_si m 10 0 0 0) else (if a2 = (-1 : Int32) then (if a1 ≠ a2 then (if a2 ≠ (-1 : Int32) then am_ck (((10 : Int32) + ((7 : Int32) * a1)) + a2) 108 (some ((m.1 63 0 (((10 : Int32) + ((7 : Int32) * a1)) + a2).toNatClampNeg), am_si m 10 0 0 0)) else am_ck ((3 : Int32) + a1) 108 (some ((m.1 63 0 ((3 : Int32) + a1).toNatClampNeg), am_si m 10 0 0 0))) else some ((-1), am_si m 10 0 0 0)) else (fn_X10_in a2.toInt64 0 (((m.1 10 0 61).toInt64) - (1 : Int64)) (am_si m 10 0 0 0)).bind fun r9 => (if r9 = 0 then some ((-1), am_si m 10 0 0 0) else (if a1 ≠ a2 then (if a2 ≠ (-1 : Int32) then am_ck (((10 : Int32) + ((7 : Int32) * a1)) + a2) 108 (some ((m.1 63 0 (((10 : Int32) + ((7 : Int32) * a1)) + a2).toNatClampNeg), am_si m 10 0 0 0)) else am_ck ((3 : Int32) + a1) 108 (some ((m.1 63 0 ((3 : Int32) + a1).toNatClampNeg), am_si m 10 0 0 0))) else some ((-1), am_si m 10 0 0 0)))))
-- X10_count
def fn_X10_count (a1 : Int32) (m : am_m) : Option (Int32 × am_m) :=
  (if a1 = 0 then some ((m.1 44 0 0), am_si m 10 0 0 0) else (if a1 = 1 then (fn_X10_harmsOf  (am_si m 10 0 0 0)).bind fun r3 => some (r3, am_si m 10 0 0 0) else (if a1 = 2 then (fn_X10_starving  (am_si m 10 0 0 0)).bind fun r6 => some (r6, am_si m 10 0 0 0) else (if a1 = 3 then some ((m.1 44 0 1), am_si m 10 0 0 0) else (if a1 = 4 then some ((m.1 44 0 2), am_si m 10 0 0 0) else (if a1 = 5 then some ((m.1 10 0 8), am_si m 10 0 0 0) else (if a1 = 6 then some ((m.1 10 0 13), am_si m 10 0 0 0) else (if a1 = 7 then some ((m.1 43 0 1), am_si m 10 0 0 0) else (if a1 = 8 then some ((m.1 43 0 2), am_si m 10 0 0 0) else (if a1 = 9 then some ((m.1 43 0 3), am_si m 10 0 0 0) else (if a1 = 10 then some ((m.1 43 0 5), am_si m 10 0 0 0) else (if a1 = 11 then some ((m.1 43 0 6), am_si m 10 0 0 0) else (if a1 = 12 then some ((m.1 44 0 3), am_si m 10 0 0 0) else (fn_X10_in a1.toInt64 13 15 (am_si m 10 0 0 0)).bind fun r18 => (if r18 = 0 then some ((-1), am_si m 10 0 0 0) else am_ck (((4 : Int32) + a1) - (13 : Int32)) 5518 (some ((m.1 44 0 (((4 : Int32) + a1) - (13 : Int32)).toNatClampNeg), am_si m 10 0 0 0))))))))))))))))
-- X10_status
def fn_X10_status  (m : am_m) : Option (Int32 × am_m) :=
  some ((m.1 10 0 1), am_si m 10 0 0 0)
