-- X0_begin
def fn_X0_begin (a1 : Int32) (m : am_m) : Option (am_m) :=
  some (am_sg m 0 0 0 a1.toInt64)
-- X0_next
def fn_X0_next (a1 : Int32) (m : am_m) : Option (Int32 × am_m) :=
  (if a1 ≤ 0 then some (0, am_sg m 0 0 0 ((((m.2.1 0 0 0) * (1103 : Int64)) + (12345 : Int64)) - (((m.2.1 0 0 0) * (1103 : Int64)) + (12345 : Int64)) / (1000003 : Int64) * (1000003 : Int64))) else am_gd (¬ a1.toInt64 = 0) (some ((((((m.2.1 0 0 0) * (1103 : Int64)) + (12345 : Int64)) - (((m.2.1 0 0 0) * (1103 : Int64)) + (12345 : Int64)) / (1000003 : Int64) * (1000003 : Int64)) - ((((m.2.1 0 0 0) * (1103 : Int64)) + (12345 : Int64)) - (((m.2.1 0 0 0) * (1103 : Int64)) + (12345 : Int64)) / (1000003 : Int64) * (1000003 : Int64)) / a1.toInt64 * a1.toInt64).toInt32, am_sg m 0 0 0 ((((m.2.1 0 0 0) * (1103 : Int64)) + (12345 : Int64)) - (((m.2.1 0 0 0) * (1103 : Int64)) + (12345 : Int64)) / (1000003 : Int64) * (1000003 : Int64)))))
-- X1_look
def fn_X1_look (a1 : Nat) (a2 : Option Nat) (m : am_m) : Option (am_m) :=
  some (am_sb (am_sa m (some a1)) a2)
-- X1_folks
def fn_X1_folks  (m : am_m) : Option (Int32) :=
  (m.2.2.1 0).bind fun u1 => some (m.1 8 u1 0)
-- X1_knowOne
def fn_X1_knowOne (a1 : Int32) (a2 : Int32) (a3 : Int32) (a4 : Int32) (m : am_m) : Option (am_m) :=
  (m.2.2.1 0).bind fun u1 => some (am_si (am_si (am_si (am_si (am_si (am_si (am_si (am_si m 20 0 0 a1) 20 0 1 (-1)) 20 0 2 (-1)) 20 0 3 (-1)) 20 0 4 a2) 20 0 5 a3) 20 0 6 a4) 20 0 7 (m.1 39 u1 2))
-- X8_hasTwo
def fn_X8_hasTwo (a0 : Nat) (a1 : Int32) (a2 : Int32) (m : am_m) : Option (Int32) :=
  (if a1 < 0 then some 0 else (if (m.1 8 a0 0) ≤ a1 then some 0 else (if a2 < 0 then some 0 else (if (m.1 8 a0 0) ≤ a2 then some 0 else (if a1 = a2 then some 0 else some 1)))))
-- X1_knowTwo
def fn_X1_knowTwo (a1 : Int32) (a2 : Int32) (m : am_m) : Option (am_m) :=
  (m.2.2.1 0).bind fun u1 => (fn_X8_hasTwo u1 a1 a2 m).bind fun r3 => (if r3 = 0 then some (0 : Int32) else (m.2.2.1 0).bind fun u7 => am_ck (if r3 = 0 then (0 : Int32) else ((a1 * (7 : Int32)) + a2)) 49 (some (m.1 37 u7 (if r3 = 0 then (0 : Int32) else ((a1 * (7 : Int32)) + a2)).toNatClampNeg))).bind fun q10 => (if r3 = 0 then some (-1 : Int32) else (m.2.2.1 0).bind fun u12 => am_ck a1 7 (some (m.1 36 u12 a1.toNatClampNeg))).bind fun q15 => (m.2.2.1 0).bind fun u16 => (fn_X1_knowOne a1 q15 (-1) (m.1 39 u16 0) m).bind fun r18 => (if q10 ≤ 0 then some (-1 : Int32) else (r18.2.2.1 0).bind fun u21 => (r18.2.2.1 0).bind fun u23 => am_ck (if r3 = 0 then (0 : Int32) else ((a1 * (7 : Int32)) + a2)) 49 (some ((r18.1 39 u21 0) - (r18.1 38 u23 (if r3 = 0 then (0 : Int32) else ((a1 * (7 : Int32)) + a2)).toNatClampNeg)))).bind fun q26 => some (am_si (am_si (am_si r18 20 0 1 a2) 20 0 2 q10) 20 0 3 q26)
-- X1_joined
def fn_X1_joined (a1 : Int32) (a2 : Int64) (a3 : Int64) (m : am_m) : Option (Int64) :=
  ((if a1 = 37 then (if (lg_cmp a3 (0 : Int64)) ≠ 0 then am_gd (¬ a3 = 0) (some (a2 - a2 / a3 * a3)) else some (2000000000 : Int64)).bind fun q4 => some q4 else (if a1 = 42 then some (a2 * a3) else (if a1 = 43 then some (a2 + a3) else (if a1 = 45 then some (a2 - a3) else (if a1 = 47 then (if (lg_cmp a3 (0 : Int64)) ≠ 0 then am_gd (¬ a3 = 0) (some (a2 / a3)) else some (2000000000 : Int64)).bind fun q12 => some q12 else (if a1 = 60 then (if 0 ≤ (lg_cmp a2 a3) then some (0 : Int64) else some (1 : Int64)).bind fun q16 => some q16 else (if a1 = 62 then (if (lg_cmp a2 a3) ≤ 0 then some (0 : Int64) else some (1 : Int64)).bind fun q20 => some q20 else (if (lg_cmp a2 a3) ≠ 0 then some (0 : Int64) else some (1 : Int64)).bind fun q23 => some q23)))))))).bind fun q25 => (if 0 < (lg_cmp q25 (1000000000 : Int64)) then some 2000000000 else (if 0 ≤ (lg_cmp q25 (-1000000000 : Int64)) then some q25 else some 2000000000))
-- X1_tell
def lp_X1_tell_l_16 : Nat → Nat → Int32 → Int32 → Int32 → am_m → Option (Sum (am_m) (Int32 × am_m))
  | 0, _, _, _, _, _ => none
  | n + 1, x1, x4, x5, x6, m =>
  (if (m.1 5 x1 3) ≤ x6 then some (.inl m) else (if x5 < 0 then some (.inl m) else (if (m.1 5 x1 3) ≤ x5 then some (.inl m) else am_ck x5 (m.2.2.2.2.2.2.1 29 x1) ((some ((m.1 29 x1 x5.toNatClampNeg) &&& (511 : Int32))).bind fun v6 => am_ck x5 (m.2.2.2.2.2.2.1 29 x1) ((some ((m.1 29 x1 x5.toNatClampNeg) >>> ((9 : Int32) &&& 31))).bind fun v9 => (if v6 ≠ (257 : Int32) then (if v6 = (256 : Int32) then (if (Int32.ofNat 51) ≤ x4 then some (.inr (2000000000, m)) else (if v9 < 0 then some (.inr (2000000000, m)) else (if v6 ≠ (258 : Int32) then (if v6 ≠ (256 : Int32) then am_ck v9 8 (some ((m.1 20 0 v9.toNatClampNeg).toInt64)) else some v9.toInt64).bind fun q18 => am_ck x4 51 (lp_X1_tell_l_16 n x1 (x4 + 1) (x5 + 1) (x6 + 1) (am_sg m 80 0 x4.toNatClampNeg q18)) else (if v9 < (Int32.ofNat 8) then (if v6 ≠ (256 : Int32) then am_ck v9 8 (some ((m.1 20 0 v9.toNatClampNeg).toInt64)) else some v9.toInt64).bind fun q24 => am_ck x4 51 (lp_X1_tell_l_16 n x1 (x4 + 1) (x5 + 1) (x6 + 1) (am_sg m 80 0 x4.toNatClampNeg q24)) else some (.inr (2000000000, m)))))) else (if v6 ≠ (258 : Int32) then (if (1 : Int32) ≤ x4 then (if v6 ≠ (261 : Int32) then (if v6 = (259 : Int32) then am_ck (x4 - (1 : Int32)) 51 ((if v6 ≠ (259 : Int32) then some (0 : Int64) else some (1 : Int64)).bind fun q33 => (if (lg_cmp (m.2.1 80 0 (x4 - (1 : Int32)).toNatClampNeg) q33) ≠ 0 then some (0 : Int32) else some (1 : Int32)).bind fun q35 => (if q35 = 0 then some (x5 + 1) else some v9).bind fun q37 => (if q35 = 0 then some (x4 - (1 : Int32)) else some x4).bind fun q39 => lp_X1_tell_l_16 n x1 q39 q37 (x6 + 1) m) else (if v6 ≠ (260 : Int32) then (if (2 : Int32) ≤ x4 then am_ck ((x4 - 1) - (1 : Int32)) 51 (am_ck (x4 - 1) 51 ((fn_X1_joined v6 (m.2.1 80 0 ((x4 - 1) - (1 : Int32)).toNatClampNeg) (m.2.1 80 0 (x4 - 1).toNatClampNeg) m).bind fun r48 => am_ck ((x4 - 1) - (1 : Int32)) 51 (am_ck ((x4 - 1) - (1 : Int32)) 51 ((if (lg_cmp ((am_sg m 80 0 ((x4 - 1) - (1 : Int32)).toNatClampNeg r48).2.1 80 0 ((x4 - 1) - (1 : Int32)).toNatClampNeg) (2000000000 : Int64)) ≠ 0 then lp_X1_tell_l_16 n x1 (x4 - 1) (x5 + 1) (x6 + 1) (am_sg m 80 0 ((x4 - 1) - (1 : Int32)).toNatClampNeg r48) else some (.inr (2000000000, am_sg m 80 0 ((x4 - 1) - (1 : Int32)).toNatClampNeg r48))))))) else some (.inr (2000000000, m))) else am_ck (x4 - (1 : Int32)) 51 ((if v6 ≠ (259 : Int32) then some (0 : Int64) else some (1 : Int64)).bind fun q55 => (if (lg_cmp (m.2.1 80 0 (x4 - (1 : Int32)).toNatClampNeg) q55) ≠ 0 then some (0 : Int32) else some (1 : Int32)).bind fun q57 => (if q57 = 0 then some (x5 + 1) else some v9).bind fun q59 => (if q57 = 0 then some (x4 - (1 : Int32)) else some x4).bind fun q61 => lp_X1_tell_l_16 n x1 q61 q59 (x6 + 1) m))) else am_ck (x4 - (1 : Int32)) 51 (am_ck (x4 - (1 : Int32)) 51 (lp_X1_tell_l_16 n x1 x4 (x5 + 1) (x6 + 1) (am_sg m 80 0 (x4 - (1 : Int32)).toNatClampNeg ((1 : Int64) - (m.2.1 80 0 (x4 - (1 : Int32)).toNatClampNeg)))))) else some (.inr (2000000000, m))) else (if (Int32.ofNat 51) ≤ x4 then some (.inr (2000000000, m)) else (if v9 < 0 then some (.inr (2000000000, m)) else (if v6 ≠ (258 : Int32) then (if v6 ≠ (256 : Int32) then am_ck v9 8 (some ((m.1 20 0 v9.toNatClampNeg).toInt64)) else some v9.toInt64).bind fun q73 => am_ck x4 51 (lp_X1_tell_l_16 n x1 (x4 + 1) (x5 + 1) (x6 + 1) (am_sg m 80 0 x4.toNatClampNeg q73)) else (if v9 < (Int32.ofNat 8) then (if v6 ≠ (256 : Int32) then am_ck v9 8 (some ((m.1 20 0 v9.toNatClampNeg).toInt64)) else some v9.toInt64).bind fun q79 => am_ck x4 51 (lp_X1_tell_l_16 n x1 (x4 + 1) (x5 + 1) (x6 + 1) (am_sg m 80 0 x4.toNatClampNeg q79)) else some (.inr (2000000000, m)))))))) else (if x4 ≠ (1 : Int32) then some (.inr (2000000000, m)) else some (.inr ((m.2.1 80 0 0).toInt32, m)))))))))
def fn_X1_tell_l (a1 : Nat) (a2 : Int32) (m : am_m) : Option (Int32 × am_m) :=
  (if a2 ≠ (-1 : Int32) then (lp_X1_tell_l_16 1000000 a1 0 a2 0 m).bind fun w86 => (match w86 with
    | .inl q83 => some (2000000000, q83)
    | .inr rr85 => some rr85) else some (1, m))
def lp_X1_tell_o_16 : Nat → Nat → Int32 → Int32 → Int32 → am_m → Option (Sum (am_m) (Int32 × am_m))
  | 0, _, _, _, _, _ => none
  | n + 1, x1, x4, x5, x6, m =>
  (if (m.1 5 x1 3) ≤ x6 then some (.inl m) else (if x5 < 0 then some (.inl m) else (if (m.1 5 x1 3) ≤ x5 then some (.inl m) else am_ck x5 (m.2.2.2.2.2.2.1 29 x1) ((some ((m.1 29 x1 x5.toNatClampNeg) &&& (511 : Int32))).bind fun v6 => am_ck x5 (m.2.2.2.2.2.2.1 29 x1) ((some ((m.1 29 x1 x5.toNatClampNeg) >>> ((9 : Int32) &&& 31))).bind fun v9 => (if v6 ≠ (257 : Int32) then (if v6 = (256 : Int32) then (if (Int32.ofNat 51) ≤ x4 then some (.inr (2000000000, m)) else (if v9 < 0 then some (.inr (2000000000, m)) else (if v6 ≠ (258 : Int32) then (if v6 ≠ (256 : Int32) then am_ck v9 19 (some ((m.1 41 0 v9.toNatClampNeg).toInt64)) else some v9.toInt64).bind fun q18 => am_ck x4 51 (lp_X1_tell_o_16 n x1 (x4 + 1) (x5 + 1) (x6 + 1) (am_sg m 80 0 x4.toNatClampNeg q18)) else (if v9 < (Int32.ofNat 19) then (if v6 ≠ (256 : Int32) then am_ck v9 19 (some ((m.1 41 0 v9.toNatClampNeg).toInt64)) else some v9.toInt64).bind fun q24 => am_ck x4 51 (lp_X1_tell_o_16 n x1 (x4 + 1) (x5 + 1) (x6 + 1) (am_sg m 80 0 x4.toNatClampNeg q24)) else some (.inr (2000000000, m)))))) else (if v6 ≠ (258 : Int32) then (if (1 : Int32) ≤ x4 then (if v6 ≠ (261 : Int32) then (if v6 = (259 : Int32) then am_ck (x4 - (1 : Int32)) 51 ((if v6 ≠ (259 : Int32) then some (0 : Int64) else some (1 : Int64)).bind fun q33 => (if (lg_cmp (m.2.1 80 0 (x4 - (1 : Int32)).toNatClampNeg) q33) ≠ 0 then some (0 : Int32) else some (1 : Int32)).bind fun q35 => (if q35 = 0 then some (x5 + 1) else some v9).bind fun q37 => (if q35 = 0 then some (x4 - (1 : Int32)) else some x4).bind fun q39 => lp_X1_tell_o_16 n x1 q39 q37 (x6 + 1) m) else (if v6 ≠ (260 : Int32) then (if (2 : Int32) ≤ x4 then am_ck ((x4 - 1) - (1 : Int32)) 51 (am_ck (x4 - 1) 51 ((fn_X1_joined v6 (m.2.1 80 0 ((x4 - 1) - (1 : Int32)).toNatClampNeg) (m.2.1 80 0 (x4 - 1).toNatClampNeg) m).bind fun r48 => am_ck ((x4 - 1) - (1 : Int32)) 51 (am_ck ((x4 - 1) - (1 : Int32)) 51 ((if (lg_cmp ((am_sg m 80 0 ((x4 - 1) - (1 : Int32)).toNatClampNeg r48).2.1 80 0 ((x4 - 1) - (1 : Int32)).toNatClampNeg) (2000000000 : Int64)) ≠ 0 then lp_X1_tell_o_16 n x1 (x4 - 1) (x5 + 1) (x6 + 1) (am_sg m 80 0 ((x4 - 1) - (1 : Int32)).toNatClampNeg r48) else some (.inr (2000000000, am_sg m 80 0 ((x4 - 1) - (1 : Int32)).toNatClampNeg r48))))))) else some (.inr (2000000000, m))) else am_ck (x4 - (1 : Int32)) 51 ((if v6 ≠ (259 : Int32) then some (0 : Int64) else some (1 : Int64)).bind fun q55 => (if (lg_cmp (m.2.1 80 0 (x4 - (1 : Int32)).toNatClampNeg) q55) ≠ 0 then some (0 : Int32) else some (1 : Int32)).bind fun q57 => (if q57 = 0 then some (x5 + 1) else some v9).bind fun q59 => (if q57 = 0 then some (x4 - (1 : Int32)) else some x4).bind fun q61 => lp_X1_tell_o_16 n x1 q61 q59 (x6 + 1) m))) else am_ck (x4 - (1 : Int32)) 51 (am_ck (x4 - (1 : Int32)) 51 (lp_X1_tell_o_16 n x1 x4 (x5 + 1) (x6 + 1) (am_sg m 80 0 (x4 - (1 : Int32)).toNatClampNeg ((1 : Int64) - (m.2.1 80 0 (x4 - (1 : Int32)).toNatClampNeg)))))) else some (.inr (2000000000, m))) else (if (Int32.ofNat 51) ≤ x4 then some (.inr (2000000000, m)) else (if v9 < 0 then some (.inr (2000000000, m)) else (if v6 ≠ (258 : Int32) then (if v6 ≠ (256 : Int32) then am_ck v9 19 (some ((m.1 41 0 v9.toNatClampNeg).toInt64)) else some v9.toInt64).bind fun q73 => am_ck x4 51 (lp_X1_tell_o_16 n x1 (x4 + 1) (x5 + 1) (x6 + 1) (am_sg m 80 0 x4.toNatClampNeg q73)) else (if v9 < (Int32.ofNat 19) then (if v6 ≠ (256 : Int32) then am_ck v9 19 (some ((m.1 41 0 v9.toNatClampNeg).toInt64)) else some v9.toInt64).bind fun q79 => am_ck x4 51 (lp_X1_tell_o_16 n x1 (x4 + 1) (x5 + 1) (x6 + 1) (am_sg m 80 0 x4.toNatClampNeg q79)) else some (.inr (2000000000, m)))))))) else (if x4 ≠ (1 : Int32) then some (.inr (2000000000, m)) else some (.inr ((m.2.1 80 0 0).toInt32, m)))))))))
def fn_X1_tell_o (a1 : Nat) (a2 : Int32) (m : am_m) : Option (Int32 × am_m) :=
  (if a2 ≠ (-1 : Int32) then (lp_X1_tell_o_16 1000000 a1 0 a2 0 m).bind fun w86 => (match w86 with
    | .inl q83 => some (2000000000, q83)
    | .inr rr85 => some rr85) else some (1, m))
-- X5_headOf
def fn_X5_headOf (a0 : Nat) (a1 : Int32) (a2 : Int32) (m : am_m) : Option (Int32) :=
  (if a1 < 0 then some (0 : Int32) else (if (m.1 5 a0 2) ≤ a1 then some (0 : Int32) else (if a2 < 0 then some (0 : Int32) else (if (6 : Int32) ≤ a2 then some (0 : Int32) else (if (Int32.ofNat (m.2.2.2.2.2.2.1 28 a0)) ≤ ((a1 * (6 : Int32)) + a2) then some (0 : Int32) else some (1 : Int32)))))).bind fun q6 => (if q6 = 0 then some (-1) else am_ck ((a1 * (6 : Int32)) + a2) (m.2.2.2.2.2.2.1 28 a0) (some (m.1 28 a0 ((a1 * (6 : Int32)) + a2).toNatClampNeg)))
-- X1_tellsLaw
def lp_X1_tellsLaw_19 : Nat → Int32 → Int32 → Int32 → am_m → Option (Sum (am_m) (Int32 × am_m))
  | 0, _, _, _, _ => none
  | n + 1, x1, x2, x3, m =>
  (if x3 < 0 then some (.inl m) else (m.2.2.2.1 0).bind fun u6 => (fn_X5_headOf u6 x3 0 m).bind fun r8 => (if r8 ≠ x1 then lp_X1_tellsLaw_19 n x1 x2 (x3 - 1) m else (m.2.2.2.1 0).bind fun u11 => (m.2.2.2.1 0).bind fun u13 => (fn_X5_headOf u13 x3 2 m).bind fun r15 => (fn_X1_tell_l u11 r15 m).bind fun r17 => (if r17.1 ≠ (1 : Int32) then lp_X1_tellsLaw_19 n x1 x2 (x3 - 1) r17.2 else (r17.2.2.2.2.1 0).bind fun u20 => (r17.2.2.2.2.1 0).bind fun u22 => (fn_X5_headOf u22 x3 3 r17.2).bind fun r24 => (fn_X1_tell_l u20 r24 r17.2).bind fun r26 => (if r26.1 = (2000000000 : Int32) then lp_X1_tellsLaw_19 n x1 x2 (x3 - 1) r26.2 else (fn_J9_min_7cf53 9 r26.1 r26.2).bind fun r29 => (fn_J9_max_7cf53 0 r29 r26.2).bind fun r31 => some (.inr (r31, r26.2))))))
def fn_X1_tellsLaw (a1 : Int32) (a2 : Int32) (m : am_m) : Option (Int32 × am_m) :=
  (match (m.2.2.2.1 0) with
    | none => some (a2, m)
    | some u1 => (m.2.2.2.1 0).bind fun u3 => (lp_X1_tellsLaw_19 1000000 a1 a2 ((m.1 5 u3 2) - (1 : Int32)) m).bind fun w36 => (match w36 with
    | .inl q33 => some (a2, q33)
    | .inr rr35 => some rr35))
-- X1_countsOf
def fn_X1_countsOf (a1 : Int32) (a2 : Int32) (m : am_m) : Option (Int32 × am_m) :=
  (fn_X1_knowTwo a1 a2 m).bind fun r1 => (fn_X1_tellsLaw 266 (r1.1 20 0 2) r1).bind fun r3 => some (r3.1, r3.2)
-- X1_isBarred
def fn_X1_isBarred (a1 : Int32) (a2 : Int32) (m : am_m) : Option (Int32 × am_m) :=
  (fn_X1_knowTwo a1 a2 m).bind fun r1 => (fn_X1_tellsLaw 269 (-1) r1).bind fun r3 => (if r3.1 = (-1 : Int32) then some (0, r3.2) else some (1, r3.2))
-- X1_maySit
def fn_X1_maySit (a1 : Int32) (a2 : Int32) (m : am_m) : Option (Int32 × am_m) :=
  (if a1 ≠ a2 then (fn_X1_knowTwo a1 a2 m).bind fun r2 => (fn_X1_tellsLaw 266 (r2.1 20 0 2) r2).bind fun r4 => (fn_X1_tellsLaw 269 (-1) r4.2).bind fun r6 => (if (if r6.1 = (-1 : Int32) then (0 : Int32) else (1 : Int32)) ≠ 0 then some (r4.1, (if r6.1 = (-1 : Int32) then (0 : Int32) else (1 : Int32)), r6.2) else (fn_X1_knowTwo a2 a1 r6.2).bind fun r10 => (fn_X1_tellsLaw 266 (r10.1 20 0 2) r10).bind fun r12 => (fn_X1_tellsLaw 269 (-1) r12.2).bind fun r14 => some ((r4.1 + r12.1), (if r14.1 = (-1 : Int32) then (0 : Int32) else (1 : Int32)), r14.2)).bind fun q17 => (if q17.2.1 ≠ 0 then some (0, q17.2.2) else (if q17.1 ≤ 0 then some (0, q17.2.2) else some (1, q17.2.2))) else some (0, m))
-- X1_companions
def lp_X1_companions_4 : Nat → Int32 → Int32 → Int32 → am_m → Option (Int32 × am_m)
  | 0, _, _, _, _ => none
  | n + 1, x1, x2, x3, m =>
  (m.2.2.1 0).bind fun u1 => (if (m.1 8 u1 0) ≤ x3 then some (x2, m) else (fn_X1_maySit x1 x3 m).bind fun r4 => lp_X1_companions_4 n x1 (if r4.1 = 0 then x2 else (x2 ||| ((1 : Int32) <<< (x3 &&& 31)))) (x3 + 1) r4.2)
def fn_X1_companions (a1 : Int32) (m : am_m) : Option (Int32 × am_m) :=
  (lp_X1_companions_4 1000000 a1 0 0 m).bind fun q7 => some (q7.1, q7.2)
-- X1_isTable
def lp_X1_isTable_12 : Nat → Int32 → Int32 → Int32 → am_m → Option (Sum (am_m) (Int32 × am_m))
  | 0, _, _, _, _ => none
  | n + 1, x1, x2, x3, m =>
  (if (7 : Int32) ≤ x3 then some (.inl m) else (if (((x1 >>> (x2 &&& 31)) &&& (x1 >>> (x3 &&& 31))) &&& (1 : Int32)) ≠ (1 : Int32) then lp_X1_isTable_12 n x1 x2 (x3 + 1) m else (fn_X1_maySit x2 x3 m).bind fun r4 => (if r4.1 ≠ 0 then lp_X1_isTable_12 n x1 x2 (x3 + 1) r4.2 else some (.inr (0, r4.2)))))
def lp_X1_isTable_2 : Nat → Int32 → Int32 → am_m → Option (Sum (am_m) (Int32 × am_m))
  | 0, _, _, _ => none
  | n + 1, x1, x2, m =>
  (if (7 : Int32) ≤ x2 then some (.inl m) else (lp_X1_isTable_12 1000000 x1 x2 (x2 + (1 : Int32)) m).bind fun w10 => (match w10 with
    | .inl q7 => lp_X1_isTable_2 n x1 (x2 + 1) q7
    | .inr rr9 => some (.inr rr9)))
def fn_X1_isTable (a1 : Int32) (m : am_m) : Option (Int32 × am_m) :=
  (lp_X1_isTable_2 1000000 a1 0 m).bind fun w17 => (match w17 with
    | .inl q11 => (fn_J6_bitCount_0f7a4 a1 q11).bind fun r13 => (if r13 < (2 : Int32) then some (0, q11) else some (1, q11))
    | .inr rr16 => some rr16)
-- X1_sufferedBy
def lp_X1_sufferedBy_5 : Nat → Int32 → Int32 → Int32 → Int32 → am_m → Option (Int32 × am_m)
  | 0, _, _, _, _, _ => none
  | n + 1, x1, x2, x3, x4, m =>
  (if (7 : Int32) ≤ x4 then some (x3, m) else (if x4 = x1 then some (x3, m) else (if ((x2 >>> (x4 &&& 31)) &&& (1 : Int32)) ≠ (1 : Int32) then some (x3, m) else (fn_X1_countsOf x4 x1 m).bind fun r4 => some ((x3 + r4.1), r4.2))).bind fun q6 => lp_X1_sufferedBy_5 n x1 x2 q6.1 (x4 + 1) q6.2)
def fn_X1_sufferedBy (a1 : Int32) (a2 : Int32) (m : am_m) : Option (Int32 × am_m) :=
  (lp_X1_sufferedBy_5 1000000 a1 a2 0 0 m).bind fun q8 => some (q8.1, q8.2)
-- X1_hungerOf
def fn_X1_hungerOf (a1 : Int32) (a2 : Int32) (a3 : Int32) (m : am_m) : Option (Int32 × am_m) :=
  (fn_X1_knowOne a1 a2 (-1) a3 m).bind fun r1 => (fn_X1_tellsLaw 268 1 r1).bind fun r3 => some (r3.1, r3.2)
-- X1_feedTable
def lp_X1_feedTable_7 : Nat → Int32 → Int32 → Int32 → am_m → Option (am_m)
  | 0, _, _, _, _ => none
  | n + 1, x1, x2, x3, m =>
  (m.2.2.1 0).bind fun u3 => (if (m.1 8 u3 0) ≤ x3 then some m else (if ((x1 >>> (x3 &&& 31)) &&& (1 : Int32)) ≠ (1 : Int32) then some m else (m.2.2.1 0).bind fun u7 => am_ck x3 7 ((m.2.2.1 0).bind fun u10 => (fn_X1_knowOne x3 (m.1 36 u7 x3.toNatClampNeg) x2 (m.1 39 u10 0) m).bind fun r12 => (r12.2.2.1 0).bind fun u14 => (r12.2.2.1 0).bind fun u16 => am_ck x3 7 ((fn_X1_tellsLaw 267 2 r12).bind fun r19 => (fn_J9_min_7cf53 9 ((r12.1 36 u16 x3.toNatClampNeg) + r19.1) r19.2).bind fun r21 => am_ck x3 7 (some (am_si r19.2 36 u14 x3.toNatClampNeg r21))))).bind fun q24 => lp_X1_feedTable_7 n x1 x2 (x3 + 1) q24)
def fn_X1_feedTable (a1 : Int32) (m : am_m) : Option (am_m) :=
  (fn_J6_bitCount_0f7a4 a1 m).bind fun r1 => (lp_X1_feedTable_7 1000000 a1 r1 0 m).bind fun q26 => some q26
-- X1_passDay
def lp_X1_passDay_2 : Nat → Int32 → am_m → Option (am_m)
  | 0, _, _ => none
  | n + 1, x1, m =>
  (m.2.2.1 0).bind fun u1 => (if (m.1 8 u1 0) ≤ x1 then some m else (m.2.2.1 0).bind fun u4 => (m.2.2.1 0).bind fun u6 => am_ck x1 7 ((m.2.2.1 0).bind fun u9 => am_ck x1 7 ((m.2.2.1 0).bind fun u12 => (fn_X1_hungerOf x1 (m.1 36 u9 x1.toNatClampNeg) (m.1 39 u12 0) m).bind fun r14 => (fn_J9_max_7cf53 0 ((m.1 36 u6 x1.toNatClampNeg) - r14.1) r14.2).bind fun r16 => am_ck x1 7 (lp_X1_passDay_2 n (x1 + 1) (am_si r14.2 36 u4 x1.toNatClampNeg r16)))))
def fn_X1_passDay  (m : am_m) : Option (am_m) :=
  (lp_X1_passDay_2 1000000 0 m).bind fun q19 => (q19.2.2.1 0).bind fun u21 => some (am_si q19 39 u21 0 ((q19.1 39 u21 0) + (1 : Int32)))
-- X6_isThere
def fn_X6_isThere (a1 : Int32) (m : am_m) : Option (Int32) :=
  (if a1 < 0 then some 0 else (if (m.1 6 0 0) ≤ a1 then some 0 else some 1))
-- X6_mayOf
def fn_X6_mayOf (a1 : Int32) (m : am_m) : Option (Int32) :=
  (fn_X6_isThere a1 m).bind fun r1 => (if r1 = 0 then some 0 else am_ck a1 7 (some (m.1 30 0 a1.toNatClampNeg)))
-- X6_barsOf
def fn_X6_barsOf (a1 : Int32) (m : am_m) : Option (Int32) :=
  (fn_X6_isThere a1 m).bind fun r1 => (if r1 = 0 then some 0 else am_ck a1 7 (some (m.1 31 0 a1.toNatClampNeg)))
-- X2_isAllowed
def fn_X2_isAllowed (a2 : Int32) (a3 : Int32) (m : am_m) : Option (Int32) :=
  (if (m.1 2 0 0) = 0 then (fn_X6_barsOf a2 m).bind fun r2 => (if (a3 &&& r2) ≠ 0 then some 0 else some 1) else (fn_X6_mayOf a2 m).bind fun r5 => (if (a3 &&& (r5 ^^^ (-1 : Int32))) ≠ 0 then some 0 else some 1))
-- X2_keepIfCheaper
def lp_X2_keepIfCheaper_2 : Nat → Int32 → Int32 → Int32 → am_m → Option (Sum (Unit) (am_m))
  | 0, _, _, _, _ => none
  | n + 1, x1, x2, x3, m =>
  (if x1 ≤ x3 then some (.inl ()) else (if (7 : Int32) ≤ x3 then some (.inl ()) else am_ck x3 7 ((fn_J6_bitCount_0f7a4 (m.1 21 0 x3.toNatClampNeg) m).bind fun r4 => (if (2 : Int32) ≤ r4 then lp_X2_keepIfCheaper_2 n x1 x2 (x3 + 1) m else some (.inr m)))))
def fn_X2_keepIfCheaper (a1 : Int32) (a2 : Int32) (m : am_m) : Option (am_m) :=
  (lp_X2_keepIfCheaper_2 1000000 a1 a2 0 m).bind fun w15 => (match w15 with
    | .inl q7 => (if (m.1 2 0 2) = (-1 : Int32) then am_gd (¬ ((0 : Int32) < 0 ∨ (0 : Int32) < 0 ∨ (7 : Int32) < 0 ∨ 7 < (0 : Int32).toNatClampNeg + (7 : Int32).toNatClampNeg ∨ 7 < (0 : Int32).toNatClampNeg + (7 : Int32).toNatClampNeg)) (some (am_sc (am_si m 2 0 2 (if (m.1 2 0 0) = 0 then a2 else a1)) 22 0 23 0 (0 : Int32).toNatClampNeg (0 : Int32).toNatClampNeg (7 : Int32).toNatClampNeg)) else (if (m.1 2 0 2) ≤ (if (m.1 2 0 0) = 0 then a2 else a1) then some m else am_gd (¬ ((0 : Int32) < 0 ∨ (0 : Int32) < 0 ∨ (7 : Int32) < 0 ∨ 7 < (0 : Int32).toNatClampNeg + (7 : Int32).toNatClampNeg ∨ 7 < (0 : Int32).toNatClampNeg + (7 : Int32).toNatClampNeg)) (some (am_sc (am_si m 2 0 2 (if (m.1 2 0 0) = 0 then a2 else a1)) 22 0 23 0 (0 : Int32).toNatClampNeg (0 : Int32).toNatClampNeg (7 : Int32).toNatClampNeg))))
    | .inr rr14 => some rr14)
-- X2_place
def lp_X2_place_25 (rc : am_rp) : Nat → Int32 → Int32 → Int32 → Int32 → am_m → Option (am_m)
  | 0, _, _, _, _, _ => none
  | n + 1, x2, x3, x4, x5, m =>
  (if x3 < x5 then some m else (if (7 : Int32) ≤ x5 then some m else (if x3 ≤ x5 then some (0 : Int32) else am_ck x5 7 (some (m.1 21 0 x5.toNatClampNeg))).bind fun q9 => (fn_X2_isAllowed x2 q9 m).bind fun r10 => (if r10 = 0 then some m else am_ck x5 7 (am_ck x2 7 ((fn_X6_mayOf x2 (am_si (am_si m 21 0 x5.toNatClampNeg (q9 ||| ((1 : Int32) <<< (x2 &&& 31)))) 22 0 x2.toNatClampNeg x5)).bind fun r15 => (fn_J6_bitCount_0f7a4 (q9 &&& (r15 ^^^ (-1 : Int32))) (am_si (am_si m 21 0 x5.toNatClampNeg (q9 ||| ((1 : Int32) <<< (x2 &&& 31)))) 22 0 x2.toNatClampNeg x5)).bind fun r17 => (fn_J9_max_7cf53 x3 (x5 + (1 : Int32)) (am_si (am_si m 21 0 x5.toNatClampNeg (q9 ||| ((1 : Int32) <<< (x2 &&& 31)))) 22 0 x2.toNatClampNeg x5)).bind fun r19 => (rc (x2 + (1 : Int32)) r19 (x4 + r17) (am_si (am_si m 21 0 x5.toNatClampNeg (q9 ||| ((1 : Int32) <<< (x2 &&& 31)))) 22 0 x2.toNatClampNeg x5)).bind fun r21 => am_ck x5 7 (some (am_si r21 21 0 x5.toNatClampNeg q9))))).bind fun q24 => lp_X2_place_25 rc n x2 x3 x4 (x5 + 1) q24))
def fn_X2_place (rc : am_rp) (a2 : Int32) (a3 : Int32) (a4 : Int32) (m : am_m) : Option (am_m) :=
  (if (m.1 2 0 1) ≤ a2 then (fn_X2_keepIfCheaper a3 a4 m).bind fun r2 => some r2 else (if a2 < (7 : Int32) then (lp_X2_place_25 rc 1000000 a2 a3 a4 0 m).bind fun q27 => some q27 else (fn_X2_keepIfCheaper a3 a4 m).bind fun r29 => some r29))
def am_pl : Nat → Int32 → Int32 → Int32 → am_m → Option am_m
  | 0 => fun _ _ _ _ => none
  | n + 1 => fun a b c m => fn_X2_place (am_pl n) a b c m
-- X2_begin
def fn_X2_begin  (m : am_m) : Option (am_m) :=
  (am_pl 10 0 0 0 (am_si (am_si m 2 0 1 (m.1 6 0 0)) 2 0 2 (-1))).bind fun r1 => some r1
-- X2_intoTables
def fn_X2_intoTables  (m : am_m) : Option (am_m) :=
  (fn_X2_begin  (am_si m 2 0 0 1)).bind fun r1 => some r1
-- X2_intoSets
def fn_X2_intoSets  (m : am_m) : Option (am_m) :=
  (fn_X2_begin  (am_si m 2 0 0 0)).bind fun r1 => some r1
-- X2_answer
def fn_X2_answer (a1 : Int32) (m : am_m) : Option (Int32) :=
  (if (m.1 2 0 2) = (-1 : Int32) then some (-1) else (if a1 < 0 then some (-1) else (if a1 ≤ (m.1 2 0 1) then (if a1 ≠ 0 then am_ck (a1 - (1 : Int32)) 7 (some (m.1 23 0 (a1 - (1 : Int32)).toNatClampNeg)) else some (m.1 2 0 2)) else some (-1))))
-- X3_clear
def fn_X3_clear (a0 : Nat) (m : am_m) : Option (am_m) :=
  some (am_si m 3 a0 1 0)
-- X3_become
def fn_X3_become (a0 : Nat) (a1 : Nat) (m : am_m) : Option (am_m) :=
  am_gd (¬ ((0 : Int32) < 0 ∨ (0 : Int32) < 0 ∨ (208 : Int32) < 0 ∨ 208 < (0 : Int32).toNatClampNeg + (208 : Int32).toNatClampNeg ∨ 208 < (0 : Int32).toNatClampNeg + (208 : Int32).toNatClampNeg)) (some (am_sc (am_si m 3 a0 1 (m.1 3 a1 1)) 24 a1 24 a0 (0 : Int32).toNatClampNeg (0 : Int32).toNatClampNeg (208 : Int32).toNatClampNeg))
-- X3_forgetOldest
def lp_X3_forgetOldest_3 : Nat → Nat → Int32 → am_m → Option (am_m)
  | 0, _, _, _ => none
  | n + 1, x0, x1, m =>
  (if (208 : Int32) ≤ x1 then some m else am_ck x1 208 (am_ck (x1 - (13 : Int32)) 208 (lp_X3_forgetOldest_3 n x0 (x1 + 1) (am_si m 24 x0 (x1 - (13 : Int32)).toNatClampNeg (m.1 24 x0 x1.toNatClampNeg)))))
def fn_X3_forgetOldest (a0 : Nat) (m : am_m) : Option (am_m) :=
  (lp_X3_forgetOldest_3 1000000 a0 13 m).bind fun q4 => some (am_si q4 3 a0 1 15)
-- X8_weightOf
def fn_X8_weightOf (a0 : Nat) (a1 : Int32) (a2 : Int32) (m : am_m) : Option (Int32) :=
  (fn_X8_hasTwo a0 a1 a2 m).bind fun r1 => (if r1 = 0 then some 0 else am_ck ((a1 * (7 : Int32)) + a2) 49 (some (m.1 37 a0 ((a1 * (7 : Int32)) + a2).toNatClampNeg)))
-- X8_sinceOf
def fn_X8_sinceOf (a0 : Nat) (a1 : Int32) (a2 : Int32) (m : am_m) : Option (Int32) :=
  (fn_X8_hasTwo a0 a1 a2 m).bind fun r1 => (if r1 = 0 then some 0 else am_ck ((a1 * (7 : Int32)) + a2) 49 (some (m.1 38 a0 ((a1 * (7 : Int32)) + a2).toNatClampNeg)))
-- X3_keep
def fn_X3_keep (a0 : Nat) (a1 : Int32) (a2 : Int32) (a3 : Int32) (a4 : Nat) (m : am_m) : Option (am_m) :=
  (if (m.1 3 a0 1) < (16 : Int32) then some m else (fn_X3_forgetOldest a0 m).bind fun r2 => some r2).bind fun q4 => am_ck (((q4.1 3 a0 1) * (13 : Int32)) + (0 : Int32)) 208 (am_ck (((q4.1 3 a0 1) * (13 : Int32)) + (1 : Int32)) 208 (am_ck (((q4.1 3 a0 1) * (13 : Int32)) + (2 : Int32)) 208 ((fn_X8_weightOf a4 a2 a3 (am_si (am_si (am_si q4 24 a0 (((q4.1 3 a0 1) * (13 : Int32)) + (0 : Int32)).toNatClampNeg a1) 24 a0 (((q4.1 3 a0 1) * (13 : Int32)) + (1 : Int32)).toNatClampNeg a2) 24 a0 (((q4.1 3 a0 1) * (13 : Int32)) + (2 : Int32)).toNatClampNeg a3)).bind fun r8 => am_ck (((q4.1 3 a0 1) * (13 : Int32)) + (3 : Int32)) 208 ((fn_X8_sinceOf a4 a2 a3 (am_si (am_si (am_si (am_si q4 24 a0 (((q4.1 3 a0 1) * (13 : Int32)) + (0 : Int32)).toNatClampNeg a1) 24 a0 (((q4.1 3 a0 1) * (13 : Int32)) + (1 : Int32)).toNatClampNeg a2) 24 a0 (((q4.1 3 a0 1) * (13 : Int32)) + (2 : Int32)).toNatClampNeg a3) 24 a0 (((q4.1 3 a0 1) * (13 : Int32)) + (3 : Int32)).toNatClampNeg r8)).bind fun r11 => am_ck (((q4.1 3 a0 1) * (13 : Int32)) + (4 : Int32)) 208 (am_ck (((q4.1 3 a0 1) * (13 : Int32)) + (5 : Int32)) 208 (am_gd (¬ ((0 : Int32) < 0 ∨ (((q4.1 3 a0 1) * (13 : Int32)) + (6 : Int32)) < 0 ∨ (7 : Int32) < 0 ∨ 7 < (0 : Int32).toNatClampNeg + (7 : Int32).toNatClampNeg ∨ 208 < (((q4.1 3 a0 1) * (13 : Int32)) + (6 : Int32)).toNatClampNeg + (7 : Int32).toNatClampNeg)) (some (am_si (am_sc (am_si (am_si (am_si (am_si (am_si (am_si q4 24 a0 (((q4.1 3 a0 1) * (13 : Int32)) + (0 : Int32)).toNatClampNeg a1) 24 a0 (((q4.1 3 a0 1) * (13 : Int32)) + (1 : Int32)).toNatClampNeg a2) 24 a0 (((q4.1 3 a0 1) * (13 : Int32)) + (2 : Int32)).toNatClampNeg a3) 24 a0 (((q4.1 3 a0 1) * (13 : Int32)) + (3 : Int32)).toNatClampNeg r8) 24 a0 (((q4.1 3 a0 1) * (13 : Int32)) + (4 : Int32)).toNatClampNeg r11) 24 a0 (((q4.1 3 a0 1) * (13 : Int32)) + (5 : Int32)).toNatClampNeg (q4.1 39 a4 0)) 36 a4 24 a0 (0 : Int32).toNatClampNeg (((q4.1 3 a0 1) * (13 : Int32)) + (6 : Int32)).toNatClampNeg (7 : Int32).toNatClampNeg) 3 a0 1 ((q4.1 3 a0 1) + (1 : Int32))))))))))
-- X8_setHarm
def fn_X8_setHarm (a0 : Nat) (a1 : Int32) (a2 : Int32) (a3 : Int32) (a4 : Int32) (m : am_m) : Option (am_m) :=
  (fn_X8_hasTwo a0 a1 a2 m).bind fun r1 => (if r1 = 0 then some m else am_ck ((a1 * (7 : Int32)) + a2) 49 (am_ck ((a1 * (7 : Int32)) + a2) 49 (some (am_si (am_si m 37 a0 ((a1 * (7 : Int32)) + a2).toNatClampNeg a3) 38 a0 ((a1 * (7 : Int32)) + a2).toNatClampNeg a4))))
-- X3_undoLatest
def fn_X3_undoLatest (a0 : Nat) (a1 : Nat) (m : am_m) : Option (Int32 × am_m) :=
  (if (1 : Int32) ≤ (m.1 3 a0 1) then am_ck ((((am_si m 3 a0 1 ((m.1 3 a0 1) - (1 : Int32))).1 3 a0 1) * (13 : Int32)) + (5 : Int32)) 208 (am_gd (¬ (((((am_si m 3 a0 1 ((m.1 3 a0 1) - (1 : Int32))).1 3 a0 1) * (13 : Int32)) + (6 : Int32)) < 0 ∨ (0 : Int32) < 0 ∨ (7 : Int32) < 0 ∨ 208 < ((((am_si m 3 a0 1 ((m.1 3 a0 1) - (1 : Int32))).1 3 a0 1) * (13 : Int32)) + (6 : Int32)).toNatClampNeg + (7 : Int32).toNatClampNeg ∨ 7 < (0 : Int32).toNatClampNeg + (7 : Int32).toNatClampNeg)) (am_ck ((((am_si m 3 a0 1 ((m.1 3 a0 1) - (1 : Int32))).1 3 a0 1) * (13 : Int32)) + (1 : Int32)) 208 (am_ck ((((am_si m 3 a0 1 ((m.1 3 a0 1) - (1 : Int32))).1 3 a0 1) * (13 : Int32)) + (2 : Int32)) 208 (am_ck ((((am_si m 3 a0 1 ((m.1 3 a0 1) - (1 : Int32))).1 3 a0 1) * (13 : Int32)) + (3 : Int32)) 208 (am_ck ((((am_si m 3 a0 1 ((m.1 3 a0 1) - (1 : Int32))).1 3 a0 1) * (13 : Int32)) + (4 : Int32)) 208 ((fn_X8_setHarm a1 (m.1 24 a0 ((((am_si m 3 a0 1 ((m.1 3 a0 1) - (1 : Int32))).1 3 a0 1) * (13 : Int32)) + (1 : Int32)).toNatClampNeg) (m.1 24 a0 ((((am_si m 3 a0 1 ((m.1 3 a0 1) - (1 : Int32))).1 3 a0 1) * (13 : Int32)) + (2 : Int32)).toNatClampNeg) (m.1 24 a0 ((((am_si m 3 a0 1 ((m.1 3 a0 1) - (1 : Int32))).1 3 a0 1) * (13 : Int32)) + (3 : Int32)).toNatClampNeg) (m.1 24 a0 ((((am_si m 3 a0 1 ((m.1 3 a0 1) - (1 : Int32))).1 3 a0 1) * (13 : Int32)) + (4 : Int32)).toNatClampNeg) (am_sc (am_si (am_si m 3 a0 1 ((m.1 3 a0 1) - (1 : Int32))) 39 a1 0 (m.1 24 a0 ((((am_si m 3 a0 1 ((m.1 3 a0 1) - (1 : Int32))).1 3 a0 1) * (13 : Int32)) + (5 : Int32)).toNatClampNeg)) 24 a0 36 a1 ((((am_si m 3 a0 1 ((m.1 3 a0 1) - (1 : Int32))).1 3 a0 1) * (13 : Int32)) + (6 : Int32)).toNatClampNeg (0 : Int32).toNatClampNeg (7 : Int32).toNatClampNeg)).bind fun r8 => am_ck ((((am_si m 3 a0 1 ((m.1 3 a0 1) - (1 : Int32))).1 3 a0 1) * (13 : Int32)) + (0 : Int32)) 208 (some ((r8.1 24 a0 ((((am_si m 3 a0 1 ((m.1 3 a0 1) - (1 : Int32))).1 3 a0 1) * (13 : Int32)) + (0 : Int32)).toNatClampNeg), r8)))))))) else some ((-3), m))
-- X4_addToken
def fn_X4_addToken (a1 : Int32) (a2 : Int32) (a3 : Int32) (m : am_m) : Option (am_m) :=
  (if (401 : Int32) ≤ (m.1 4 0 4) then some m else am_ck (m.1 4 0 4) 401 (am_ck (m.1 4 0 4) 401 (am_ck (m.1 4 0 4) 401 (some (am_si (am_si (am_si (am_si m 25 0 (m.1 4 0 4).toNatClampNeg a1) 26 0 (m.1 4 0 4).toNatClampNeg a2) 27 0 (m.1 4 0 4).toNatClampNeg a3) 4 0 4 ((m.1 4 0 4) + (1 : Int32)))))))
-- X4_isLetter
def fn_X4_isLetter (a1 : Int32) (m : am_m) : Option (Int32) :=
  (if a1 < (97 : Int32) then some 0 else (if (122 : Int32) < a1 then some 0 else some 1))
-- X4_isDigit
def fn_X4_isDigit (a1 : Int32) (m : am_m) : Option (Int32) :=
  (if a1 < (48 : Int32) then some 0 else (if (57 : Int32) < a1 then some 0 else some 1))
-- X7_byteAt
def fn_X7_byteAt (a1 : Int32) (m : am_m) : Option (Int32) :=
  (if a1 < 0 then some (-1) else (if (m.1 7 0 1) ≤ a1 then some (-1) else am_ck a1 400 (some (m.1 35 0 a1.toNatClampNeg))))
-- X4_numberOf
def lp_X4_numberOf_5 : Nat → Int32 → Int32 → Int32 → am_m → Option (Int32)
  | 0, _, _, _, _ => none
  | n + 1, x2, x3, x4, m =>
  (if x2 ≤ x4 then some x3 else (fn_X7_byteAt x4 m).bind fun r2 => (fn_J9_min_7cf53 1001 (((x3 * (10 : Int32)) + r2) - (48 : Int32)) m).bind fun r4 => lp_X4_numberOf_5 n x2 r4 (x4 + 1) m)
def fn_X4_numberOf (a2 : Int32) (a3 : Int32) (m : am_m) : Option (Int32) :=
  (lp_X4_numberOf_5 1000000 a3 0 a2 m).bind fun q6 => some q6
-- X4_isSame
def lp_X4_isSame_3 : Nat → Int32 → Int32 → Int32 → Int32 → am_m → Option (Sum (Unit) (Int32))
  | 0, _, _, _, _, _ => none
  | n + 1, x1, x2, x3, x4, m =>
  (if x3 ≤ x4 then some (.inl ()) else (fn_X7_byteAt (x1 + x4) m).bind fun r2 => am_ck (x2 + x4) 145 ((if r2 = (am_ch (x2 + x4)) then lp_X4_isSame_3 n x1 x2 x3 (x4 + 1) m else some (.inr 0))))
def fn_X4_isSame (a2 : Int32) (a3 : Int32) (a4 : Int32) (m : am_m) : Option (Int32) :=
  (lp_X4_isSame_3 1000000 a2 a3 a4 0 m).bind fun w9 => (match w9 with
    | .inl q6 => some 1
    | .inr rr8 => some rr8)
-- X4_wordOf
def lp_X4_wordOf_10 : Nat → Int32 → Int32 → Int32 → Int32 → Int32 → am_m → Option (Sum (Unit) (Int32))
  | 0, _, _, _, _, _, _ => none
  | n + 1, x1, x2, x3, x4, x5, m =>
  (if (145 : Int32) ≤ x5 then some (.inl ()) else am_ck x5 145 ((if (am_ch x5) ≠ (32 : Int32) then lp_X4_wordOf_10 n x1 x2 x3 x4 (x5 + 1) m else (if (x5 - x4) ≠ (x2 - x1) then lp_X4_wordOf_10 n x1 x2 (x3 + 1) (x5 + (1 : Int32)) (x5 + 1) m else (fn_X4_isSame x1 x4 (x5 - x4) m).bind fun r5 => (if r5 = 0 then lp_X4_wordOf_10 n x1 x2 (x3 + 1) (x5 + (1 : Int32)) (x5 + 1) m else some (.inr x3))))))
def fn_X4_wordOf (a2 : Int32) (a3 : Int32) (m : am_m) : Option (Int32) :=
  (lp_X4_wordOf_10 1000000 a2 a3 259 0 0 m).bind fun w11 => (match w11 with
    | .inl q8 => some 258
    | .inr rr10 => some rr10)
-- X4_split
def lp_X4_split_83 : Nat → Int32 → Int32 → am_m → Option (Int32)
  | 0, _, _, _ => none
  | n + 1, x2, x3, m =>
  (if (m.1 7 0 1) ≤ x2 then some x2 else (fn_X7_byteAt x2 m).bind fun r14 => (fn_X4_isDigit r14 m).bind fun r16 => (if r16 = 0 then some x2 else lp_X4_split_83 n (x2 + 1) x3 m))
def lp_X4_split_35 : Nat → Int32 → Int32 → am_m → Option (Int32)
  | 0, _, _, _ => none
  | n + 1, x2, x3, m =>
  (if (m.1 7 0 1) ≤ x2 then some x2 else (fn_X7_byteAt x2 m).bind fun r26 => (fn_X4_isLetter r26 m).bind fun r28 => (if r28 = 0 then some x2 else lp_X4_split_35 n (x2 + 1) x3 m))
def lp_X4_split_7 : Nat → Int32 → am_m → Option (am_m)
  | 0, _, _ => none
  | n + 1, x2, m =>
  (if (m.1 7 0 1) ≤ x2 then some m else (fn_X7_byteAt x2 m).bind fun r2 => (fn_X4_isLetter r2 m).bind fun r4 => (if r4 = 0 then (fn_X4_isDigit r2 m).bind fun r7 => (if r7 = 0 then (if r2 = (32 : Int32) then some ((x2 + 1), m) else (fn_X4_addToken r2 0 x2 m).bind fun r11 => some ((x2 + 1), r11)) else (lp_X4_split_83 1000000 (x2 + 1) x2 m).bind fun q19 => (fn_X4_numberOf x2 q19 m).bind fun r21 => (fn_X4_addToken 256 r21 x2 m).bind fun r23 => some (q19, r23)) else (lp_X4_split_35 1000000 (x2 + 1) x2 m).bind fun q31 => (fn_X4_wordOf x2 q31 m).bind fun r33 => (fn_X4_addToken r33 0 x2 m).bind fun r35 => some (q31, r35)).bind fun q37 => lp_X4_split_7 n q37.1 q37.2)
def fn_X4_split  (m : am_m) : Option (am_m) :=
  (lp_X4_split_7 1000000 0 (am_si m 4 0 4 0)).bind fun q39 => (fn_X4_addToken 257 0 (q39.1 7 0 1) q39).bind fun r41 => some r41
-- X4_goTo
def fn_X4_goTo (a1 : Int32) (m : am_m) : Option (am_m) :=
  (fn_J9_min_7cf53 a1 ((m.1 4 0 4) - (1 : Int32)) m).bind fun r1 => (fn_J9_max_7cf53 0 r1 m).bind fun r3 => am_ck r3 401 (am_ck r3 401 (some (am_si (am_si (am_si m 4 0 5 r3) 4 0 6 (m.1 25 0 r3.toNatClampNeg)) 4 0 7 (m.1 26 0 r3.toNatClampNeg))))
-- X4_failed
def fn_X4_failed  (m : am_m) : Option (Int32 × am_m) :=
  am_ck (m.1 4 0 5) 401 (some (0, am_si m 4 0 10 (m.1 27 0 (m.1 4 0 5).toNatClampNeg)))
-- X4_took
def fn_X4_took (a1 : Int32) (m : am_m) : Option (Int32 × am_m) :=
  (if (m.1 4 0 6) = a1 then (fn_X4_goTo ((m.1 4 0 5) + (1 : Int32)) m).bind fun r2 => some (1, r2) else (fn_X4_failed  m).bind fun r4 => am_gd (r4.1 = 0 ∨ r4.1 = 1) (some (r4.1, r4.2)))
-- X4_sumsOf
def fn_X4_sumsOf (a1 : Int32) (m : am_m) : Option (Int32) :=
  (if a1 = 266 then (if (m.1 4 0 9) = 0 then some 1 else some (-1)) else (if a1 = 267 then (if (m.1 4 0 9) = 0 then some 1 else some (-1)) else (if a1 = 268 then (if (m.1 4 0 9) = 0 then some 1 else some (-1)) else (if a1 = 269 then (if (m.1 4 0 9) = 0 then some 0 else some (-1)) else (if a1 = 270 then (if (m.1 4 0 9) = 0 then some (-1) else some 3) else (if a1 = 271 then (if (m.1 4 0 9) = 0 then some (-1) else some 1) else (if a1 = 272 then (if (m.1 4 0 9) = 0 then some (-1) else some 2) else (if a1 = 273 then (if (m.1 4 0 9) = 0 then some (-1) else some 0) else some (-1)))))))))
-- X5_mark
def fn_X5_mark (a0 : Nat) (a1 : Int32) (a2 : Int32) (m : am_m) : Option (am_m) :=
  (if (m.1 5 a0 2) ≤ 0 then some m else (if a1 < 0 then some m else (if (6 : Int32) ≤ a1 then some m else (if (Int32.ofNat (m.2.2.2.2.2.2.1 28 a0)) ≤ ((((m.1 5 a0 2) - (1 : Int32)) * (6 : Int32)) + a1) then some m else am_ck ((((m.1 5 a0 2) - (1 : Int32)) * (6 : Int32)) + a1) (m.2.2.2.2.2.2.1 28 a0) (some (am_si m 28 a0 ((((m.1 5 a0 2) - (1 : Int32)) * (6 : Int32)) + a1).toNatClampNeg a2))))))
-- X4_readTimes
def fn_X4_readTimes  (m : am_m) : Option (Int32 × am_m) :=
  (fn_X4_goTo ((m.1 4 0 5) + (1 : Int32)) m).bind fun r1 => (if (r1.1 4 0 6) ≠ (256 : Int32) then (fn_X4_failed  r1).bind fun r4 => am_gd (r4.1 = 0 ∨ r4.1 = 1) (some (r4.1, r4.2)) else (if (r1.1 4 0 7) < (1 : Int32) then (fn_X4_failed  r1).bind fun r8 => am_gd (r8.1 = 0 ∨ r8.1 = 1) (some (r8.1, r8.2)) else (if (r1.1 4 0 7) ≤ (20 : Int32) then (fn_X5_mark 0 1 (r1.1 4 0 7) r1).bind fun r12 => (fn_X4_goTo ((r12.1 4 0 5) + (1 : Int32)) r12).bind fun r14 => some (1, r14) else (fn_X4_failed  r1).bind fun r16 => am_gd (r16.1 = 0 ∨ r16.1 = 1) (some (r16.1, r16.2)))))
-- X5_put
def fn_X5_put (a0 : Nat) (a1 : Int32) (a2 : Int32) (m : am_m) : Option (am_m) :=
  (if (Int32.ofNat (m.2.2.2.2.2.2.1 29 a0)) ≤ (m.1 5 a0 3) then some m else am_ck (m.1 5 a0 3) (m.2.2.2.2.2.2.1 29 a0) (some (am_si (am_si m 29 a0 (m.1 5 a0 3).toNatClampNeg ((a2 <<< ((9 : Int32) &&& 31)) ||| a1)) 5 a0 3 ((m.1 5 a0 3) + (1 : Int32)))))
-- X4_readLawWord
def fn_X4_readLawWord  (m : am_m) : Option (Int32 × am_m) :=
  (if (m.1 4 0 6) < (274 : Int32) then (fn_X4_failed  m).bind fun r2 => am_gd (r2.1 = 0 ∨ r2.1 = 1) (some (r2.1, r2.2)) else (if (m.1 4 0 6) ≤ (281 : Int32) then (fn_X5_put 0 258 ((m.1 4 0 6) - (274 : Int32)) m).bind fun r6 => (fn_X4_goTo ((r6.1 4 0 5) + (1 : Int32)) r6).bind fun r8 => some (1, r8) else (fn_X4_failed  m).bind fun r10 => am_gd (r10.1 = 0 ∨ r10.1 = 1) (some (r10.1, r10.2))))
-- X4_readOrderWord
def fn_X4_readOrderWord  (m : am_m) : Option (Int32 × am_m) :=
  (if (m.1 4 0 6) = (278 : Int32) then (fn_X4_goTo ((m.1 4 0 5) + (1 : Int32)) m).bind fun r2 => (if (r2.1 4 0 6) ≠ (256 : Int32) then (fn_X4_failed  r2).bind fun r5 => am_gd (r5.1 = 0 ∨ r5.1 = 1) (some (r5.1, r5.2)) else (if (r2.1 4 0 7) < (7 : Int32) then (fn_X5_put 0 258 ((if (m.1 4 0 6) ≠ (286 : Int32) then (5 : Int32) else (12 : Int32)) + (r2.1 4 0 7)) r2).bind fun r10 => (fn_X4_goTo ((r10.1 4 0 5) + (1 : Int32)) (am_si r10 5 0 4 ((r10.1 5 0 4) ||| (if (m.1 4 0 6) ≠ (286 : Int32) then (0 : Int32) else ((1 : Int32) <<< ((r10.1 4 0 7) &&& 31)))))).bind fun r13 => some (1, r13) else (fn_X4_failed  r2).bind fun r15 => am_gd (r15.1 = 0 ∨ r15.1 = 1) (some (r15.1, r15.2)))) else (if (m.1 4 0 6) ≠ (286 : Int32) then (if (m.1 4 0 6) ≠ (280 : Int32) then (if (m.1 4 0 6) < (282 : Int32) then (fn_X4_failed  m).bind fun r21 => am_gd (r21.1 = 0 ∨ r21.1 = 1) (some (r21.1, r21.2)) else (if (285 : Int32) < (m.1 4 0 6) then (fn_X4_failed  m).bind fun r25 => am_gd (r25.1 = 0 ∨ r25.1 = 1) (some (r25.1, r25.2)) else (fn_X5_put 0 258 (((1 : Int32) + (m.1 4 0 6)) - (282 : Int32)) m).bind fun r28 => (fn_X4_goTo ((r28.1 4 0 5) + (1 : Int32)) r28).bind fun r30 => some (1, r30))) else (fn_X5_put 0 258 0 m).bind fun r32 => (fn_X4_goTo ((r32.1 4 0 5) + (1 : Int32)) r32).bind fun r34 => some (1, r34)) else (fn_X4_goTo ((m.1 4 0 5) + (1 : Int32)) m).bind fun r36 => (if (r36.1 4 0 6) ≠ (256 : Int32) then (fn_X4_failed  r36).bind fun r39 => am_gd (r39.1 = 0 ∨ r39.1 = 1) (some (r39.1, r39.2)) else (if (r36.1 4 0 7) < (7 : Int32) then (fn_X5_put 0 258 ((if (m.1 4 0 6) ≠ (286 : Int32) then (5 : Int32) else (12 : Int32)) + (r36.1 4 0 7)) r36).bind fun r44 => (fn_X4_goTo ((r44.1 4 0 5) + (1 : Int32)) (am_si r44 5 0 4 ((r44.1 5 0 4) ||| (if (m.1 4 0 6) ≠ (286 : Int32) then (0 : Int32) else ((1 : Int32) <<< ((r44.1 4 0 7) &&& 31)))))).bind fun r47 => some (1, r47) else (fn_X4_failed  r36).bind fun r49 => am_gd (r49.1 = 0 ∨ r49.1 = 1) (some (r49.1, r49.2))))))
-- X4_readPart
def fn_X4_readPart (rc : am_rc) (a1 : Int32) (m : am_m) : Option (Int32 × am_m) :=
  (if (m.1 4 0 6) ≠ (91 : Int32) then (if (m.1 4 0 8) < (50 : Int32) then (if (m.1 4 0 6) = (256 : Int32) then (if (m.1 4 0 7) ≤ (1000 : Int32) then (fn_X5_put 0 256 (m.1 4 0 7) (am_si m 4 0 8 ((m.1 4 0 8) + (1 : Int32)))).bind fun r5 => (fn_X4_goTo ((r5.1 4 0 5) + (1 : Int32)) r5).bind fun r7 => some (1, r7) else (fn_X4_failed  (am_si m 4 0 8 ((m.1 4 0 8) + (1 : Int32)))).bind fun r9 => am_gd (r9.1 = 0 ∨ r9.1 = 1) (some (r9.1, r9.2))) else (if (m.1 4 0 9) = 0 then (fn_X4_readLawWord  (am_si m 4 0 8 ((m.1 4 0 8) + (1 : Int32)))).bind fun r13 => am_gd (r13.1 = 0 ∨ r13.1 = 1) (some (r13.1, r13.2)) else (fn_X4_readOrderWord  (am_si m 4 0 8 ((m.1 4 0 8) + (1 : Int32)))).bind fun r16 => am_gd (r16.1 = 0 ∨ r16.1 = 1) (some (r16.1, r16.2)))) else (fn_X4_failed  m).bind fun r19 => am_gd (r19.1 = 0 ∨ r19.1 = 1) (some (r19.1, r19.2))) else (if a1 < (8 : Int32) then (fn_X4_goTo ((m.1 4 0 5) + (1 : Int32)) m).bind fun r23 => (rc 4 (a1 + (1 : Int32)) r23).bind fun r25 => (if r25.1 = 0 then some (0, r25.2) else (fn_X4_took 93 r25.2).bind fun r28 => (if r28.1 = 0 then some (0, r28.2) else some (1, r28.2))) else (fn_X4_failed  m).bind fun r31 => am_gd (r31.1 = 0 ∨ r31.1 = 1) (some (r31.1, r31.2))))
-- X4_readTerm
def lp_X4_readTerm_12 (rc : am_rc) : Nat → Int32 → Int32 → am_m → Option (Sum (am_m) (Int32 × am_m))
  | 0, _, _, _ => none
  | n + 1, x1, x2, m =>
  (if (401 : Int32) ≤ x2 then some (.inl m) else (if (m.1 4 0 6) = (42 : Int32) then (fn_X4_goTo ((m.1 4 0 5) + (1 : Int32)) m).bind fun r6 => (rc 6 x1 r6).bind fun r8 => (if r8.1 ≠ 0 then (fn_X5_put 0 (m.1 4 0 6) 0 r8.2).bind fun r11 => lp_X4_readTerm_12 rc n x1 (x2 + 1) r11 else some (.inr (0, r8.2))) else (if (m.1 4 0 6) = (47 : Int32) then (fn_X4_goTo ((m.1 4 0 5) + (1 : Int32)) m).bind fun r14 => (rc 6 x1 r14).bind fun r16 => (if r16.1 ≠ 0 then (fn_X5_put 0 (m.1 4 0 6) 0 r16.2).bind fun r19 => lp_X4_readTerm_12 rc n x1 (x2 + 1) r19 else some (.inr (0, r16.2))) else (if (m.1 4 0 6) ≠ (37 : Int32) then some (.inl m) else (fn_X4_goTo ((m.1 4 0 5) + (1 : Int32)) m).bind fun r22 => (rc 6 x1 r22).bind fun r24 => (if r24.1 ≠ 0 then (fn_X5_put 0 (m.1 4 0 6) 0 r24.2).bind fun r27 => lp_X4_readTerm_12 rc n x1 (x2 + 1) r27 else some (.inr (0, r24.2)))))))
def fn_X4_readTerm (rc : am_rc) (a1 : Int32) (m : am_m) : Option (Int32 × am_m) :=
  (rc 6 a1 m).bind fun r1 => (if r1.1 ≠ 0 then (lp_X4_readTerm_12 rc 1000000 a1 0 r1.2).bind fun w32 => (match w32 with
    | .inl q29 => some (1, q29)
    | .inr rr31 => some rr31) else some (0, r1.2))
-- X4_readSum
def lp_X4_readSum_12 (rc : am_rc) : Nat → Int32 → Int32 → am_m → Option (Sum (am_m) (Int32 × am_m))
  | 0, _, _, _ => none
  | n + 1, x1, x2, m =>
  (if (401 : Int32) ≤ x2 then some (.inl m) else (if (m.1 4 0 6) = (43 : Int32) then (fn_X4_goTo ((m.1 4 0 5) + (1 : Int32)) m).bind fun r6 => (rc 5 x1 r6).bind fun r8 => (if r8.1 ≠ 0 then (fn_X5_put 0 (m.1 4 0 6) 0 r8.2).bind fun r11 => lp_X4_readSum_12 rc n x1 (x2 + 1) r11 else some (.inr (0, r8.2))) else (if (m.1 4 0 6) ≠ (45 : Int32) then some (.inl m) else (fn_X4_goTo ((m.1 4 0 5) + (1 : Int32)) m).bind fun r14 => (rc 5 x1 r14).bind fun r16 => (if r16.1 ≠ 0 then (fn_X5_put 0 (m.1 4 0 6) 0 r16.2).bind fun r19 => lp_X4_readSum_12 rc n x1 (x2 + 1) r19 else some (.inr (0, r16.2))))))
def fn_X4_readSum (rc : am_rc) (a1 : Int32) (m : am_m) : Option (Int32 × am_m) :=
  (rc 5 a1 m).bind fun r1 => (if r1.1 ≠ 0 then (lp_X4_readSum_12 rc 1000000 a1 0 r1.2).bind fun w24 => (match w24 with
    | .inl q21 => some (1, q21)
    | .inr rr23 => some rr23) else some (0, r1.2))
-- X4_readCompared
def fn_X4_readCompared (rc : am_rc) (a1 : Int32) (m : am_m) : Option (Int32 × am_m) :=
  (rc 4 a1 m).bind fun r1 => (if r1.1 ≠ 0 then (if (r1.2.1 4 0 6) = (60 : Int32) then (fn_X4_goTo ((r1.2.1 4 0 5) + (1 : Int32)) r1.2).bind fun r5 => (rc 4 a1 r5).bind fun r7 => (if r7.1 ≠ 0 then (fn_X5_put 0 (r1.2.1 4 0 6) 0 r7.2).bind fun r10 => some (1, r10) else some (0, r7.2)) else (if (r1.2.1 4 0 6) = (62 : Int32) then (fn_X4_goTo ((r1.2.1 4 0 5) + (1 : Int32)) r1.2).bind fun r13 => (rc 4 a1 r13).bind fun r15 => (if r15.1 ≠ 0 then (fn_X5_put 0 (r1.2.1 4 0 6) 0 r15.2).bind fun r18 => some (1, r18) else some (0, r15.2)) else (if (r1.2.1 4 0 6) = (61 : Int32) then (fn_X4_goTo ((r1.2.1 4 0 5) + (1 : Int32)) r1.2).bind fun r21 => (rc 4 a1 r21).bind fun r23 => (if r23.1 ≠ 0 then (fn_X5_put 0 (r1.2.1 4 0 6) 0 r23.2).bind fun r26 => some (1, r26) else some (0, r23.2)) else (fn_X4_failed  r1.2).bind fun r28 => am_gd (r28.1 = 0 ∨ r28.1 = 1) (some (r28.1, r28.2))))) else some (0, r1.2))
-- X4_readPlain
def lp_X4_readPlain_4 (rc : am_rc) : Nat → Int32 → Int32 → Int32 → am_m → Option (Int32 × am_m)
  | 0, _, _, _, _ => none
  | n + 1, x1, x2, x3, m =>
  (if (401 : Int32) ≤ x3 then some (x2, m) else (if (m.1 4 0 6) ≠ (261 : Int32) then some (x2, m) else (fn_X4_goTo ((m.1 4 0 5) + (1 : Int32)) m).bind fun r4 => lp_X4_readPlain_4 rc n x1 (if x2 ≠ 0 then (0 : Int32) else (1 : Int32)) (x3 + 1) r4))
def fn_X4_readPlain (rc : am_rc) (a1 : Int32) (m : am_m) : Option (Int32 × am_m) :=
  (lp_X4_readPlain_4 rc 1000000 a1 0 0 m).bind fun q6 => (if (q6.2.1 4 0 6) ≠ (40 : Int32) then (rc 3 a1 q6.2).bind fun r9 => (if r9.1 ≠ 0 then (if q6.1 = 0 then some (1, r9.2) else (fn_X5_put 0 261 0 r9.2).bind fun r13 => some (1, r13)) else some (0, r9.2)) else (if a1 < (8 : Int32) then (fn_X4_goTo ((q6.2.1 4 0 5) + (1 : Int32)) q6.2).bind fun r16 => (rc 0 (a1 + (1 : Int32)) r16).bind fun r18 => (if r18.1 = 0 then some (0, r18.2) else (fn_X4_took 41 r18.2).bind fun r21 => (if r21.1 ≠ 0 then (if q6.1 = 0 then some (1, r21.2) else (fn_X5_put 0 261 0 r21.2).bind fun r25 => some (1, r25)) else some (0, r21.2))) else (fn_X4_failed  q6.2).bind fun r27 => am_gd (r27.1 = 0 ∨ r27.1 = 1) (some (r27.1, r27.2))))
-- X5_skipToHere
def fn_X5_skipToHere (a0 : Nat) (a1 : Int32) (a2 : Int32) (m : am_m) : Option (am_m) :=
  (if a1 < 0 then some m else (if (m.1 5 a0 3) ≤ a1 then some m else am_ck a1 (m.2.2.2.2.2.2.1 29 a0) (some (am_si m 29 a0 a1.toNatClampNeg (((m.1 5 a0 3) <<< ((9 : Int32) &&& 31)) ||| a2)))))
-- X4_readBoth
def lp_X4_readBoth_12 (rc : am_rc) : Nat → Int32 → Int32 → am_m → Option (Sum (am_m) (Int32 × am_m))
  | 0, _, _, _ => none
  | n + 1, x1, x2, m =>
  (if (401 : Int32) ≤ x2 then some (.inl m) else (if (m.1 4 0 6) ≠ (260 : Int32) then some (.inl m) else (fn_X5_put 0 260 0 m).bind fun r6 => (fn_X4_goTo ((r6.1 4 0 5) + (1 : Int32)) r6).bind fun r8 => (rc 2 x1 r8).bind fun r10 => (if r10.1 ≠ 0 then (fn_X5_skipToHere 0 (m.1 5 0 3) 260 r10.2).bind fun r13 => lp_X4_readBoth_12 rc n x1 (x2 + 1) r13 else some (.inr (0, r10.2)))))
def fn_X4_readBoth (rc : am_rc) (a1 : Int32) (m : am_m) : Option (Int32 × am_m) :=
  (rc 2 a1 m).bind fun r1 => (if r1.1 ≠ 0 then (lp_X4_readBoth_12 rc 1000000 a1 0 r1.2).bind fun w18 => (match w18 with
    | .inl q15 => some (1, q15)
    | .inr rr17 => some rr17) else some (0, r1.2))
-- X4_readTest
def lp_X4_readTest_12 (rc : am_rc) : Nat → Int32 → Int32 → am_m → Option (Sum (am_m) (Int32 × am_m))
  | 0, _, _, _ => none
  | n + 1, x1, x2, m =>
  (if (401 : Int32) ≤ x2 then some (.inl m) else (if (m.1 4 0 6) ≠ (259 : Int32) then some (.inl m) else (fn_X5_put 0 259 0 m).bind fun r6 => (fn_X4_goTo ((r6.1 4 0 5) + (1 : Int32)) r6).bind fun r8 => (rc 1 x1 r8).bind fun r10 => (if r10.1 ≠ 0 then (fn_X5_skipToHere 0 (m.1 5 0 3) 259 r10.2).bind fun r13 => lp_X4_readTest_12 rc n x1 (x2 + 1) r13 else some (.inr (0, r10.2)))))
def fn_X4_readTest (rc : am_rc) (a1 : Int32) (m : am_m) : Option (Int32 × am_m) :=
  (rc 1 a1 m).bind fun r1 => (if r1.1 ≠ 0 then (lp_X4_readTest_12 rc 1000000 a1 0 r1.2).bind fun w18 => (match w18 with
    | .inl q15 => some (1, q15)
    | .inr rr17 => some rr17) else some (0, r1.2))
def am_rd : Nat → Nat → Int32 → am_m → Option (Int32 × am_m)
  | 0 => fun _ _ _ => none
  | n + 1 => fun w a m => match w with
    | 0 => fn_X4_readTest (am_rd n) a m
    | 1 => fn_X4_readBoth (am_rd n) a m
    | 2 => fn_X4_readPlain (am_rd n) a m
    | 3 => fn_X4_readCompared (am_rd n) a m
    | 4 => fn_X4_readSum (am_rd n) a m
    | 5 => fn_X4_readTerm (am_rd n) a m
    | 6 => fn_X4_readPart (am_rd n) a m
    | _ => none
-- X5_open
def lp_X5_open_23 : Nat → Nat → Int32 → Int32 → Int32 → am_m → Option (am_m)
  | 0, _, _, _, _, _ => none
  | n + 1, x0, x1, x2, x3, m =>
  (if (6 : Int32) ≤ x3 then some m else am_ck (x2 + x3) (m.2.2.2.2.2.2.1 28 x0) (lp_X5_open_23 n x0 x1 x2 (x3 + 1) (am_si m 28 x0 (x2 + x3).toNatClampNeg (-1))))
def fn_X5_open (a0 : Nat) (a1 : Int32) (m : am_m) : Option (am_m) :=
  (if (((m.1 5 a0 2) * (6 : Int32)) + (6 : Int32)) ≤ (Int32.ofNat (m.2.2.2.2.2.2.1 28 a0)) then (lp_X5_open_23 1000000 a0 a1 ((m.1 5 a0 2) * (6 : Int32)) 0 m).bind fun q4 => am_ck (((m.1 5 a0 2) * (6 : Int32)) + (0 : Int32)) (q4.2.2.2.2.2.2.1 28 a0) (am_ck (((m.1 5 a0 2) * (6 : Int32)) + (1 : Int32)) (q4.2.2.2.2.2.2.1 28 a0) (some (am_si (am_si (am_si q4 28 a0 (((m.1 5 a0 2) * (6 : Int32)) + (0 : Int32)).toNatClampNeg a1) 28 a0 (((m.1 5 a0 2) * (6 : Int32)) + (1 : Int32)).toNatClampNeg 1) 5 a0 2 ((q4.1 5 a0 2) + (1 : Int32))))) else some m)
-- X4_readClause
def lp_X4_readClause_42 : Nat → Int32 → Int32 → am_m → Option (Sum (am_m) (Int32 × am_m))
  | 0, _, _, _ => none
  | n + 1, x1, x2, m =>
  (if x1 ≤ x2 then some (.inl m) else (if x2 ≤ 0 then (fn_X5_mark 0 ((3 : Int32) + x2) (m.1 5 0 3) m).bind fun r10 => (am_rd 40 4 0 r10).bind fun r12 => (if r12.1 ≠ 0 then (fn_X5_put 0 257 0 r12.2).bind fun r15 => lp_X4_readClause_42 n x1 (x2 + 1) r15 else some (.inr (0, r12.2))) else (fn_X4_took (if x2 ≠ (1 : Int32) then (265 : Int32) else (264 : Int32)) m).bind fun r18 => (if r18.1 ≠ 0 then (fn_X5_mark 0 ((3 : Int32) + x2) (r18.2.1 5 0 3) r18.2).bind fun r21 => (am_rd 40 4 0 r21).bind fun r23 => (if r23.1 ≠ 0 then (fn_X5_put 0 257 0 r23.2).bind fun r26 => lp_X4_readClause_42 n x1 (x2 + 1) r26 else some (.inr (0, r23.2))) else some (.inr (0, r18.2)))))
def fn_X4_readClause  (m : am_m) : Option (Int32 × am_m) :=
  (fn_X4_sumsOf (m.1 4 0 6) m).bind fun r1 => (if r1 ≠ (-1 : Int32) then (fn_X5_open 0 (m.1 4 0 6) m).bind fun r4 => (fn_X4_goTo ((r4.1 4 0 5) + (1 : Int32)) r4).bind fun r6 => (lp_X4_readClause_42 1000000 r1 0 r6).bind fun w66 => (match w66 with
    | .inl q28 => (if (q28.1 4 0 6) ≠ (263 : Int32) then (if (q28.1 4 0 6) ≠ (262 : Int32) then some (1, q28) else (fn_X4_goTo ((q28.1 4 0 5) + (1 : Int32)) q28).bind fun r32 => (fn_X5_mark 0 2 (r32.1 5 0 3) r32).bind fun r34 => (am_rd 40 0 0 r34).bind fun r36 => (if r36.1 ≠ 0 then (fn_X5_put 0 257 0 r36.2).bind fun r39 => some (1, r39) else some (0, r36.2))) else (if (q28.1 4 0 9) = 0 then (if (q28.1 4 0 6) ≠ (262 : Int32) then some (1, q28) else (fn_X4_goTo ((q28.1 4 0 5) + (1 : Int32)) q28).bind fun r43 => (fn_X5_mark 0 2 (r43.1 5 0 3) r43).bind fun r45 => (am_rd 40 0 0 r45).bind fun r47 => (if r47.1 ≠ 0 then (fn_X5_put 0 257 0 r47.2).bind fun r50 => some (1, r50) else some (0, r47.2))) else (fn_X4_readTimes  q28).bind fun r52 => (if r52.1 ≠ 0 then (if (r52.2.1 4 0 6) ≠ (262 : Int32) then some (1, r52.2) else (fn_X4_goTo ((r52.2.1 4 0 5) + (1 : Int32)) r52.2).bind fun r56 => (fn_X5_mark 0 2 (r56.1 5 0 3) r56).bind fun r58 => (am_rd 40 0 0 r58).bind fun r60 => (if r60.1 ≠ 0 then (fn_X5_put 0 257 0 r60.2).bind fun r63 => some (1, r63) else some (0, r60.2))) else some (0, r52.2))))
    | .inr rr65 => some rr65) else (fn_X4_failed  m).bind fun r67 => am_gd (r67.1 = 0 ∨ r67.1 = 1) (some (r67.1, r67.2)))
-- X5_clear
def fn_X5_clear (a0 : Nat) (m : am_m) : Option (am_m) :=
  some (am_si (am_si (am_si m 5 a0 2 0) 5 a0 3 0) 5 a0 4 0)
-- X4_readWhole
def lp_X4_readWhole_39 : Nat → Int32 → am_m → Option (Sum (am_m) (Int32 × am_m))
  | 0, _, _ => none
  | n + 1, x3, m =>
  (if (12 : Int32) ≤ x3 then some (.inl m) else (fn_X4_readClause  m).bind fun r9 => (if r9.1 ≠ 0 then (if (r9.2.1 4 0 6) ≠ (257 : Int32) then (fn_X4_took 59 r9.2).bind fun r13 => (if r13.1 ≠ 0 then lp_X4_readWhole_39 n (x3 + 1) r13.2 else some (.inr (0, r13.2))) else some (.inr (1, r9.2))) else some (.inr (0, r9.2))))
def fn_X4_readWhole (a2 : Int32) (m : am_m) : Option (Int32 × am_m) :=
  (fn_X4_split  m).bind fun r1 => (fn_X5_clear 0 (am_si r1 7 0 1 0)).bind fun r3 => am_gd (a2 = 0 ∨ a2 = 1) ((fn_X4_goTo 0 (am_si (am_si (am_si r3 4 0 8 0) 4 0 9 a2) 4 0 10 (-1))).bind fun r6 => (lp_X4_readWhole_39 1000000 0 r6).bind fun w22 => (match w22 with
    | .inl q16 => (fn_X4_failed  q16).bind fun r18 => am_gd (r18.1 = 0 ∨ r18.1 = 1) (some (r18.1, r18.2))
    | .inr rr21 => some rr21))
-- X6_lookAt
def lp_X6_lookAt_15 : Nat → Int32 → am_m → Option (am_m)
  | 0, _, _ => none
  | n + 1, x2, m =>
  (if (m.1 6 0 0) ≤ x2 then some m else am_ck x2 7 (lp_X6_lookAt_15 n (x2 + 1) (am_si m 30 0 x2.toNatClampNeg 0)))
def lp_X6_lookAt_50 : Nat → Int32 → Int32 → am_m → Option (am_m)
  | 0, _, _, _ => none
  | n + 1, x2, x3, m =>
  (if (m.1 6 0 0) ≤ x3 then some m else (fn_X1_maySit x2 x3 m).bind fun r11 => (if r11.1 = 0 then some r11.2 else am_ck x2 7 (am_ck x2 7 (am_ck x3 7 (am_ck x3 7 (some (am_si (am_si r11.2 30 0 x2.toNatClampNeg ((r11.2.1 30 0 x2.toNatClampNeg) ||| ((1 : Int32) <<< (x3 &&& 31)))) 30 0 x3.toNatClampNeg (((am_si r11.2 30 0 x2.toNatClampNeg ((r11.2.1 30 0 x2.toNatClampNeg) ||| ((1 : Int32) <<< (x3 &&& 31)))).1 30 0 x3.toNatClampNeg) ||| ((1 : Int32) <<< (x2 &&& 31))))))))).bind fun q18 => lp_X6_lookAt_50 n x2 (x3 + 1) q18)
def lp_X6_lookAt_38 : Nat → Int32 → am_m → Option (am_m)
  | 0, _, _ => none
  | n + 1, x2, m =>
  (if (m.1 6 0 0) ≤ x2 then some m else (lp_X6_lookAt_50 1000000 x2 (x2 + (1 : Int32)) m).bind fun q20 => lp_X6_lookAt_38 n (x2 + 1) q20)
def fn_X6_lookAt  (m : am_m) : Option (am_m) :=
  (fn_X1_folks  m).bind fun r1 => (fn_J9_min_7cf53 7 r1 m).bind fun r3 => (lp_X6_lookAt_15 1000000 0 (am_si m 6 0 0 r3)).bind fun q7 => (lp_X6_lookAt_38 1000000 0 q7).bind fun q22 => some q22
-- X6_lookAtBars
def lp_X6_lookAtBars_2 : Nat → Int32 → am_m → Option (am_m)
  | 0, _, _ => none
  | n + 1, x2, m =>
  (if (m.1 6 0 0) ≤ x2 then some m else am_ck x2 7 (lp_X6_lookAtBars_2 n (x2 + 1) (am_si m 31 0 x2.toNatClampNeg 0)))
def lp_X6_lookAtBars_37 : Nat → Int32 → Int32 → am_m → Option (am_m)
  | 0, _, _, _ => none
  | n + 1, x2, x3, m =>
  (if (m.1 6 0 0) ≤ x3 then some m else (fn_X1_isBarred x2 x3 m).bind fun r7 => (if r7.1 ≠ 0 then am_ck x2 7 (am_ck x2 7 (am_ck x3 7 (am_ck x3 7 (some (am_si (am_si r7.2 31 0 x2.toNatClampNeg ((r7.2.1 31 0 x2.toNatClampNeg) ||| ((1 : Int32) <<< (x3 &&& 31)))) 31 0 x3.toNatClampNeg (((am_si r7.2 31 0 x2.toNatClampNeg ((r7.2.1 31 0 x2.toNatClampNeg) ||| ((1 : Int32) <<< (x3 &&& 31)))).1 31 0 x3.toNatClampNeg) ||| ((1 : Int32) <<< (x2 &&& 31)))))))) else (fn_X1_isBarred x3 x2 r7.2).bind fun r14 => (if r14.1 = 0 then some r14.2 else am_ck x2 7 (am_ck x2 7 (am_ck x3 7 (am_ck x3 7 (some (am_si (am_si r14.2 31 0 x2.toNatClampNeg ((r14.2.1 31 0 x2.toNatClampNeg) ||| ((1 : Int32) <<< (x3 &&& 31)))) 31 0 x3.toNatClampNeg (((am_si r14.2 31 0 x2.toNatClampNeg ((r14.2.1 31 0 x2.toNatClampNeg) ||| ((1 : Int32) <<< (x3 &&& 31)))).1 31 0 x3.toNatClampNeg) ||| ((1 : Int32) <<< (x2 &&& 31)))))))))).bind fun q21 => lp_X6_lookAtBars_37 n x2 (x3 + 1) q21)
def lp_X6_lookAtBars_25 : Nat → Int32 → am_m → Option (am_m)
  | 0, _, _ => none
  | n + 1, x2, m =>
  (if (m.1 6 0 0) ≤ x2 then some m else (lp_X6_lookAtBars_37 1000000 x2 (x2 + (1 : Int32)) m).bind fun q23 => lp_X6_lookAtBars_25 n (x2 + 1) q23)
def fn_X6_lookAtBars  (m : am_m) : Option (am_m) :=
  (lp_X6_lookAtBars_2 1000000 0 m).bind fun q3 => (lp_X6_lookAtBars_25 1000000 0 q3).bind fun q25 => some q25
-- X6_everybody
def fn_X6_everybody  (m : am_m) : Option (Int32) :=
  some (((1 : Int32) <<< ((m.1 6 0 0) &&& 31)) - (1 : Int32))
-- X6_isTable
def lp_X6_isTable_2 : Nat → Int32 → Int32 → am_m → Option (Sum (Unit) (Int32))
  | 0, _, _, _ => none
  | n + 1, x1, x2, m =>
  (if (m.1 6 0 0) ≤ x2 then some (.inl ()) else (if ((x1 >>> (x2 &&& 31)) &&& (1 : Int32)) ≠ (1 : Int32) then lp_X6_isTable_2 n x1 (x2 + 1) m else am_ck x2 7 ((if ((x1 &&& (((1 : Int32) <<< (x2 &&& 31)) ^^^ (-1 : Int32))) &&& ((m.1 30 0 x2.toNatClampNeg) ^^^ (-1 : Int32))) = 0 then lp_X6_isTable_2 n x1 (x2 + 1) m else some (.inr 0)))))
def fn_X6_isTable (a1 : Int32) (m : am_m) : Option (Int32) :=
  (lp_X6_isTable_2 1000000 a1 0 m).bind fun w11 => (match w11 with
    | .inl q5 => (fn_J6_bitCount_0f7a4 a1 m).bind fun r7 => (if r7 < (2 : Int32) then some 0 else some 1)
    | .inr rr10 => some rr10)
-- X6_largestTable
def lp_X6_largestTable_4 : Nat → Int32 → Int32 → am_m → Option (Int32)
  | 0, _, _, _ => none
  | n + 1, x1, x2, m =>
  (fn_X6_everybody  m).bind fun r1 => (if r1 < x2 then some x1 else (fn_J6_bitCount_0f7a4 x2 m).bind fun r4 => (fn_J6_bitCount_0f7a4 x1 m).bind fun r6 => (if r4 ≤ r6 then some x1 else (fn_X6_isTable x2 m).bind fun r9 => (if r9 = 0 then some x1 else some x2)).bind fun q12 => lp_X6_largestTable_4 n q12 (x2 + 1) m)
def fn_X6_largestTable  (m : am_m) : Option (Int32) :=
  (lp_X6_largestTable_4 1000000 0 1 m).bind fun q14 => some q14
-- X6_findParts
def lp_X6_findParts_31 : Nat → Int32 → Int32 → Int32 → am_m → Option (am_m)
  | 0, _, _, _, _ => none
  | n + 1, x1, x2, x3, m =>
  (if x3 ≤ 0 then some m else am_ck x1 128 ((if (m.1 90 0 x1.toNatClampNeg) ≠ 0 then some m else (if (x3 &&& x2) = 0 then some (0 : Int32) else am_ck (x1 &&& (x3 ^^^ (-1 : Int32))) 128 ((if (m.1 90 0 (x1 &&& (x3 ^^^ (-1 : Int32))).toNatClampNeg) = 0 then some (0 : Int32) else (fn_X6_isTable x3 m).bind fun r14 => (if r14 = 0 then some (0 : Int32) else some (1 : Int32))))).bind fun q17 => am_gd (q17 = 0 ∨ q17 = 1) (am_ck x1 128 (lp_X6_findParts_31 n x1 x2 ((x3 - (1 : Int32)) &&& x1) (am_si m 90 0 x1.toNatClampNeg q17))))))
def lp_X6_findParts_9 : Nat → Int32 → am_m → Option (am_m)
  | 0, _, _ => none
  | n + 1, x1, m =>
  (fn_X6_everybody  m).bind fun r3 => (if r3 < x1 then some m else am_ck x1 128 ((lp_X6_findParts_31 1000000 x1 (x1 &&& (-x1)) x1 (am_si m 90 0 x1.toNatClampNeg 0)).bind fun q21 => lp_X6_findParts_9 n (x1 + 1) q21))
def fn_X6_findParts  (m : am_m) : Option (am_m) :=
  am_ck 0 128 ((lp_X6_findParts_9 1000000 1 (am_si m 90 0 (0 : Int32).toNatClampNeg 1)).bind fun q23 => some q23)
-- X6_fewestOut
def lp_X6_fewestOut_11 : Nat → Int32 → Int32 → am_m → Option (Int32)
  | 0, _, _, _ => none
  | n + 1, x1, x2, m =>
  (fn_X6_everybody  m).bind fun r5 => (if r5 < x2 then some x1 else (fn_X6_everybody  m).bind fun r8 => (fn_J6_bitCount_0f7a4 x2 m).bind fun r10 => (fn_J6_bitCount_0f7a4 x1 m).bind fun r12 => (if r12 ≤ r10 then some x1 else am_ck (r8 &&& (x2 ^^^ (-1 : Int32))) 128 ((if (m.1 90 0 (r8 &&& (x2 ^^^ (-1 : Int32))).toNatClampNeg) = 0 then some x1 else some x2))).bind fun q17 => lp_X6_fewestOut_11 n q17 (x2 + 1) m)
def fn_X6_fewestOut  (m : am_m) : Option (Int32 × am_m) :=
  (fn_X6_findParts  m).bind fun r1 => (fn_X6_everybody  r1).bind fun r3 => (lp_X6_fewestOut_11 1000000 r3 0 r1).bind fun q19 => some (q19, r1)
-- X6_addTable
def lp_X6_addTable_3 : Nat → Int32 → Int32 → am_m → Option (am_m)
  | 0, _, _, _ => none
  | n + 1, x1, x2, m =>
  (if x2 < 0 then some m else (if (127 : Int32) < (x2 ||| x1) then some m else am_ck x2 128 ((if (m.1 34 0 x2.toNatClampNeg) = (-1 : Int32) then some m else am_ck x2 128 (am_ck (x2 ||| x1) 128 ((if (m.1 34 0 (x2 ||| x1).toNatClampNeg) ≠ (-1 : Int32) then am_ck (x2 ||| x1) 128 ((fn_J9_min_7cf53 (m.1 34 0 (x2 ||| x1).toNatClampNeg) ((m.1 34 0 x2.toNatClampNeg) + (1 : Int32)) m).bind fun r9 => some r9) else some ((m.1 34 0 x2.toNatClampNeg) + (1 : Int32))).bind fun q11 => am_ck (x2 ||| x1) 128 (some (am_si m 34 0 (x2 ||| x1).toNatClampNeg q11))))))).bind fun q14 => lp_X6_addTable_3 n x1 (x2 - 1) q14)
def fn_X6_addTable (a1 : Int32) (m : am_m) : Option (am_m) :=
  (lp_X6_addTable_3 1000000 a1 127 m).bind fun q16 => some q16
-- X6_fewestFeeding
def lp_X6_fewestFeeding_2 : Nat → Int32 → Int32 → am_m → Option (am_m)
  | 0, _, _, _ => none
  | n + 1, x1, x2, m =>
  (if (127 : Int32) < x2 then some m else am_ck x2 128 (lp_X6_fewestFeeding_2 n x1 (x2 + 1) (am_si m 34 0 x2.toNatClampNeg (-1))))
def lp_X6_fewestFeeding_30 : Nat → Int32 → Int32 → am_m → Option (am_m)
  | 0, _, _, _ => none
  | n + 1, x1, x2, m =>
  (fn_X6_everybody  m).bind fun r5 => (if r5 < x2 then some m else (fn_X6_isTable x2 m).bind fun r8 => (if r8 = 0 then some m else (fn_X6_addTable (x2 &&& x1) m).bind fun r11 => some r11).bind fun q13 => lp_X6_fewestFeeding_30 n x1 (x2 + 1) q13)
def fn_X6_fewestFeeding (a1 : Int32) (m : am_m) : Option (Int32 × am_m) :=
  (lp_X6_fewestFeeding_2 1000000 a1 0 m).bind fun q3 => (lp_X6_fewestFeeding_30 1000000 a1 1 (am_si q3 34 0 0 0)).bind fun q15 => (if a1 < 0 then some ((-1), q15) else (if (127 : Int32) < a1 then some ((-1), q15) else am_ck a1 128 (some ((q15.1 34 0 a1.toNatClampNeg), q15))))
-- X6_isStepAhead
def lp_X6_isStepAhead_2 : Nat → Int32 → Int32 → Int32 → am_m → Option (Sum (Unit) (Int32))
  | 0, _, _, _, _ => none
  | n + 1, x1, x2, x3, m =>
  (if (m.1 6 0 0) ≤ x3 then some (.inl ()) else am_ck x3 7 ((if (m.1 32 0 x3.toNatClampNeg) ≠ x2 then lp_X6_isStepAhead_2 n x1 x2 (x3 + 1) m else am_ck x1 7 ((if (((m.1 30 0 x1.toNatClampNeg) >>> (x3 &&& 31)) &&& (1 : Int32)) ≠ (1 : Int32) then lp_X6_isStepAhead_2 n x1 x2 (x3 + 1) m else some (.inr 1))))))
def fn_X6_isStepAhead (a1 : Int32) (a2 : Int32) (m : am_m) : Option (Int32) :=
  (lp_X6_isStepAhead_2 1000000 a1 a2 0 m).bind fun w9 => (match w9 with
    | .inl q6 => some 0
    | .inr rr8 => some rr8)
-- X6_stepsTo
def lp_X6_stepsTo_20 : Nat → Int32 → Int32 → Int32 → am_m → Option (am_m)
  | 0, _, _, _, _ => none
  | n + 1, x1, x2, x3, m =>
  (if (m.1 6 0 0) ≤ x3 then some m else am_ck x3 7 (lp_X6_stepsTo_20 n x1 x2 (x3 + 1) (am_si m 32 0 x3.toNatClampNeg (-1))))
def lp_X6_stepsTo_61 : Nat → Int32 → Int32 → Int32 → am_m → Option (am_m)
  | 0, _, _, _, _ => none
  | n + 1, x1, x3, x4, m =>
  (if (m.1 6 0 0) ≤ x4 then some m else am_ck x4 7 ((if (m.1 32 0 x4.toNatClampNeg) ≠ (-1 : Int32) then some m else (fn_X6_isStepAhead x4 x3 m).bind fun r16 => (if r16 = 0 then some m else am_ck x4 7 (some (am_si m 32 0 x4.toNatClampNeg (x3 + (1 : Int32)))))).bind fun q20 => lp_X6_stepsTo_61 n x1 x3 (x4 + 1) q20))
def lp_X6_stepsTo_50 : Nat → Int32 → Int32 → am_m → Option (am_m)
  | 0, _, _, _ => none
  | n + 1, x1, x3, m =>
  (if (m.1 6 0 0) ≤ x3 then some m else (lp_X6_stepsTo_61 1000000 x1 x3 0 m).bind fun q22 => lp_X6_stepsTo_50 n x1 (x3 + 1) q22)
def fn_X6_stepsTo (a1 : Int32) (a2 : Int32) (m : am_m) : Option (Int32 × am_m) :=
  (fn_X6_isThere a1 m).bind fun r1 => (if r1 = 0 then some ((-1), m) else (fn_X6_isThere a2 m).bind fun r4 => (if r4 ≠ 0 then (lp_X6_stepsTo_20 1000000 a1 a2 0 m).bind fun q9 => am_ck a2 7 ((lp_X6_stepsTo_50 1000000 a1 0 (am_si q9 32 0 a2.toNatClampNeg 0)).bind fun q24 => am_ck a1 7 (some ((q24.1 32 0 a1.toNatClampNeg), q24))) else some ((-1), m)))
-- X6_nearer
def lp_X6_nearer_2 : Nat → Int32 → Int32 → am_m → Option (Sum (Unit) (Int32))
  | 0, _, _, _ => none
  | n + 1, x1, x2, m =>
  (if (m.1 6 0 0) ≤ x2 then some (.inl ()) else am_ck x1 7 ((if (((m.1 30 0 x1.toNatClampNeg) >>> (x2 &&& 31)) &&& (1 : Int32)) ≠ (1 : Int32) then lp_X6_nearer_2 n x1 (x2 + 1) m else am_ck x2 7 (am_ck x1 7 ((if (m.1 32 0 x2.toNatClampNeg) ≠ ((m.1 32 0 x1.toNatClampNeg) - (1 : Int32)) then lp_X6_nearer_2 n x1 (x2 + 1) m else some (.inr x2)))))))
def fn_X6_nearer (a1 : Int32) (m : am_m) : Option (Int32) :=
  (lp_X6_nearer_2 1000000 a1 0 m).bind fun w10 => (match w10 with
    | .inl q7 => some (-1)
    | .inr rr9 => some rr9)
-- X6_stepOf
def lp_X6_stepOf_6 : Nat → Int32 → Int32 → Int32 → Int32 → am_m → Option (Int32)
  | 0, _, _, _, _, _ => none
  | n + 1, x2, x3, x4, x5, m =>
  (if x3 < x5 then some x4 else (fn_X6_isThere x4 m).bind fun r2 => (if r2 = 0 then some (-1 : Int32) else (if x4 = x2 then some (-1 : Int32) else (fn_X6_nearer x4 m).bind fun r6 => some r6)).bind fun q8 => lp_X6_stepOf_6 n x2 x3 q8 (x5 + 1) m)
def fn_X6_stepOf (a1 : Int32) (a2 : Int32) (a3 : Int32) (m : am_m) : Option (Int32) :=
  (lp_X6_stepOf_6 1000000 a2 a3 a1 0 m).bind fun q10 => some q10
-- X6_circleOf
def lp_X6_circleOf_20 : Nat → Int32 → Int32 → Int32 → Int32 → Int32 → am_m → Option (Int32)
  | 0, _, _, _, _, _, _ => none
  | n + 1, x2, x3, x4, x5, x6, m =>
  (if (m.1 6 0 0) ≤ x6 then some x4 else (if ((x4 >>> (x6 &&& 31)) &&& (1 : Int32)) ≠ (1 : Int32) then some x4 else am_ck x6 7 ((if x6 ≠ x2 then some (m.1 30 0 x6.toNatClampNeg) else (if x3 < 0 then some (m.1 30 0 x6.toNatClampNeg) else some ((m.1 30 0 x6.toNatClampNeg) &&& (((1 : Int32) <<< (x3 &&& 31)) ^^^ (-1 : Int32))))).bind fun q7 => (if x6 ≠ x3 then some q7 else (if x2 < 0 then some q7 else some (q7 &&& (((1 : Int32) <<< (x2 &&& 31)) ^^^ (-1 : Int32))))).bind fun q10 => some (x4 ||| q10))).bind fun q13 => lp_X6_circleOf_20 n x2 x3 q13 x5 (x6 + 1) m)
def lp_X6_circleOf_8 : Nat → Int32 → Int32 → Int32 → Int32 → am_m → Option (Int32)
  | 0, _, _, _, _, _ => none
  | n + 1, x2, x3, x4, x5, m =>
  (if (m.1 6 0 0) ≤ x5 then some x4 else (lp_X6_circleOf_20 1000000 x2 x3 x4 x5 0 m).bind fun q15 => lp_X6_circleOf_8 n x2 x3 q15 (x5 + 1) m)
def fn_X6_circleOf (a1 : Int32) (a2 : Int32) (a3 : Int32) (m : am_m) : Option (Int32) :=
  (lp_X6_circleOf_8 1000000 a2 a3 ((1 : Int32) <<< (a1 &&& 31)) 0 m).bind fun q17 => some q17
-- X6_circlesWithout
def lp_X6_circlesWithout_11 : Nat → Int32 → Int32 → Int32 → Int32 → Int32 → am_m → Option (Int32)
  | 0, _, _, _, _, _, _ => none
  | n + 1, x1, x2, x3, x4, x5, m =>
  (if (m.1 6 0 0) ≤ x5 then some x4 else (if ((x3 >>> (x5 &&& 31)) &&& (1 : Int32)) ≠ (1 : Int32) then some (x3, x4) else (fn_X6_circleOf x5 x1 x2 m).bind fun r5 => some ((x3 &&& (r5 ^^^ (-1 : Int32))), (x4 + 1))).bind fun q7 => lp_X6_circlesWithout_11 n x1 x2 q7.1 q7.2 (x5 + 1) m)
def fn_X6_circlesWithout (a1 : Int32) (a2 : Int32) (m : am_m) : Option (Int32) :=
  (fn_X6_everybody  m).bind fun r1 => (lp_X6_circlesWithout_11 1000000 a1 a2 r1 0 0 m).bind fun q9 => some q9
-- X6_addTwo
def fn_X6_addTwo (a1 : Int32) (a2 : Int32) (m : am_m) : Option (am_m) :=
  (if (21 : Int32) ≤ (m.1 6 0 7) then some m else am_ck (m.1 6 0 7) 21 (some (am_si (am_si m 33 0 (m.1 6 0 7).toNatClampNeg (((10 : Int32) * a1) + a2)) 6 0 7 ((m.1 6 0 7) + (1 : Int32)))))
-- X6_findBridges
def lp_X6_findBridges_26 : Nat → Int32 → Int32 → Int32 → am_m → Option (am_m)
  | 0, _, _, _, _ => none
  | n + 1, x1, x2, x3, m =>
  (if (m.1 6 0 0) ≤ x3 then some m else am_ck x2 7 ((if (((m.1 30 0 x2.toNatClampNeg) >>> (x3 &&& 31)) &&& (1 : Int32)) ≠ (1 : Int32) then some m else (fn_X6_circlesWithout x2 x3 m).bind fun r7 => (if r7 ≤ x1 then some m else (fn_X6_addTwo x2 x3 m).bind fun r10 => some r10)).bind fun q12 => lp_X6_findBridges_26 n x1 x2 (x3 + 1) q12))
def lp_X6_findBridges_14 : Nat → Int32 → Int32 → am_m → Option (am_m)
  | 0, _, _, _ => none
  | n + 1, x1, x2, m =>
  (if (m.1 6 0 0) ≤ x2 then some m else (lp_X6_findBridges_26 1000000 x1 x2 (x2 + (1 : Int32)) m).bind fun q14 => lp_X6_findBridges_14 n x1 (x2 + 1) q14)
def fn_X6_findBridges  (m : am_m) : Option (am_m) :=
  (fn_X6_circlesWithout (-1) (-1) (am_si m 6 0 7 0)).bind fun r1 => (lp_X6_findBridges_14 1000000 r1 0 (am_si m 6 0 7 0)).bind fun q16 => some q16
-- X6_wereSeen
def lp_X6_wereSeen_2 : Nat → Nat → Int32 → Int32 → am_m → Option (Sum (Unit) (Int32))
  | 0, _, _, _, _ => none
  | n + 1, x0, x1, x2, m =>
  (if (m.1 8 x0 1) ≤ x2 then some (.inl ()) else am_ck x2 6 ((if ((m.1 40 x0 x2.toNatClampNeg) &&& x1) ≠ x1 then lp_X6_wereSeen_2 n x0 x1 (x2 + 1) m else some (.inr 1))))
def fn_X6_wereSeen (a1 : Nat) (a2 : Int32) (m : am_m) : Option (Int32) :=
  (lp_X6_wereSeen_2 1000000 a1 a2 0 m).bind fun w7 => (match w7 with
    | .inl q4 => some 0
    | .inr rr6 => some rr6)
-- X6_findDoubted
def lp_X6_findDoubted_19 : Nat → Nat → Int32 → Int32 → am_m → Option (am_m)
  | 0, _, _, _, _ => none
  | n + 1, x1, x2, x3, m =>
  (if (m.1 6 0 0) ≤ x3 then some m else am_ck x2 7 ((if (((m.1 30 0 x2.toNatClampNeg) >>> (x3 &&& 31)) &&& (1 : Int32)) ≠ 0 then some m else (fn_X6_wereSeen x1 (((1 : Int32) <<< (x2 &&& 31)) ||| ((1 : Int32) <<< (x3 &&& 31))) m).bind fun r5 => (if r5 = 0 then some m else (fn_X6_addTwo x2 x3 m).bind fun r8 => some r8)).bind fun q10 => lp_X6_findDoubted_19 n x1 x2 (x3 + 1) q10))
def lp_X6_findDoubted_7 : Nat → Nat → Int32 → am_m → Option (am_m)
  | 0, _, _, _ => none
  | n + 1, x1, x2, m =>
  (if (m.1 6 0 0) ≤ x2 then some m else (lp_X6_findDoubted_19 1000000 x1 x2 (x2 + (1 : Int32)) m).bind fun q12 => lp_X6_findDoubted_7 n x1 (x2 + 1) q12)
def fn_X6_findDoubted (a1 : Nat) (m : am_m) : Option (am_m) :=
  (lp_X6_findDoubted_7 1000000 a1 0 (am_si m 6 0 7 0)).bind fun q14 => some q14
-- X6_twoOf
def fn_X6_twoOf (a1 : Int32) (m : am_m) : Option (Int32) :=
  (if a1 ≠ (-1 : Int32) then (if a1 < 0 then some (-1) else (if (m.1 6 0 7) ≤ a1 then some (-1) else am_ck a1 21 (some (m.1 33 0 a1.toNatClampNeg)))) else some (m.1 6 0 7))
-- X6_fittingFor
def lp_X6_fittingFor_4 : Nat → Int32 → Int32 → Int32 → am_m → Option (Int32)
  | 0, _, _, _, _ => none
  | n + 1, x1, x2, x3, m =>
  (if (m.1 6 0 0) ≤ x3 then some x2 else am_ck x3 7 (lp_X6_fittingFor_4 n x1 (if (x1 &&& ((m.1 30 0 x3.toNatClampNeg) ^^^ (-1 : Int32))) ≠ 0 then x2 else (x2 ||| ((1 : Int32) <<< (x3 &&& 31)))) (x3 + 1) m))
def fn_X6_fittingFor (a1 : Int32) (m : am_m) : Option (Int32) :=
  (lp_X6_fittingFor_4 1000000 a1 0 0 m).bind fun q4 => some q4
-- X6_companionsAmong
def fn_X6_companionsAmong (a1 : Int32) (a2 : Int32) (m : am_m) : Option (Int32) :=
  (fn_X6_mayOf a1 m).bind fun r1 => (fn_J6_bitCount_0f7a4 (r1 &&& a2) m).bind fun r3 => some r3
-- X6_nearestHalf
def lp_X6_nearestHalf_8 : Nat → Int32 → Int32 → Int32 → Int32 → am_m → Option (Int32)
  | 0, _, _, _, _, _ => none
  | n + 1, x1, x2, x3, x4, m =>
  (if (m.1 6 0 0) ≤ x4 then some x2 else (if x1 = 0 then some x2 else (fn_X6_companionsAmong x4 x1 m).bind fun r3 => (fn_J6_bitCount_0f7a4 x1 m).bind fun r5 => (fn_J9_abs_0f7a4 (((2 : Int32) * r3) - r5) m).bind fun r7 => lp_X6_nearestHalf_8 n x1 (if x3 ≤ r7 then x2 else x4) (if x3 ≤ r7 then x3 else r7) (x4 + 1) m))
def fn_X6_nearestHalf (a1 : Int32) (m : am_m) : Option (Int32) :=
  (lp_X6_nearestHalf_8 1000000 a1 (-1) 8 0 m).bind fun q10 => some q10
-- X7_take
def lp_X7_take_3 : Nat → Int32 → Int32 → am_m → Option (am_m)
  | 0, _, _, _ => none
  | n + 1, x1, x2, m =>
  (if x2 < 0 then some m else (if (400 : Int32) ≤ (m.1 7 0 1) then some m else am_ck (m.1 7 0 1) 400 (some (am_si (am_si m 35 0 (m.1 7 0 1).toNatClampNeg ((x1 >>> (x2 &&& 31)) &&& (255 : Int32))) 7 0 1 ((m.1 7 0 1) + (1 : Int32))))).bind fun q4 => lp_X7_take_3 n x1 (x2 - 8) q4)
def fn_X7_take (a1 : Int32) (m : am_m) : Option (am_m) :=
  (lp_X7_take_3 1000000 a1 24 m).bind fun q6 => some q6
-- X8_become
def lp_X8_become_108 : Nat → Nat → Nat → Int32 → am_m → Option (am_m)
  | 0, _, _, _, _ => none
  | n + 1, x0, x1, x2, m =>
  (if (6 : Int32) ≤ x2 then some m else am_ck x2 6 (am_ck x2 6 (lp_X8_become_108 n x0 x1 (x2 + 1) (am_ss m x0 x2.toNatClampNeg (m.2.2.2.2.1 x1 x2.toNatClampNeg)))))
def fn_X8_become (a0 : Nat) (a1 : Nat) (m : am_m) : Option (am_m) :=
  am_gd (¬ ((0 : Int32) < 0 ∨ (0 : Int32) < 0 ∨ (7 : Int32) < 0 ∨ 7 < (0 : Int32).toNatClampNeg + (7 : Int32).toNatClampNeg ∨ 7 < (0 : Int32).toNatClampNeg + (7 : Int32).toNatClampNeg)) (am_gd (¬ ((0 : Int32) < 0 ∨ (0 : Int32) < 0 ∨ (49 : Int32) < 0 ∨ 49 < (0 : Int32).toNatClampNeg + (49 : Int32).toNatClampNeg ∨ 49 < (0 : Int32).toNatClampNeg + (49 : Int32).toNatClampNeg)) (am_gd (¬ ((0 : Int32) < 0 ∨ (0 : Int32) < 0 ∨ (49 : Int32) < 0 ∨ 49 < (0 : Int32).toNatClampNeg + (49 : Int32).toNatClampNeg ∨ 49 < (0 : Int32).toNatClampNeg + (49 : Int32).toNatClampNeg)) (am_gd (¬ ((0 : Int32) < 0 ∨ (0 : Int32) < 0 ∨ (3 : Int32) < 0 ∨ 3 < (0 : Int32).toNatClampNeg + (3 : Int32).toNatClampNeg ∨ 3 < (0 : Int32).toNatClampNeg + (3 : Int32).toNatClampNeg)) (am_gd (¬ ((0 : Int32) < 0 ∨ (0 : Int32) < 0 ∨ (6 : Int32) < 0 ∨ 6 < (0 : Int32).toNatClampNeg + (6 : Int32).toNatClampNeg ∨ 6 < (0 : Int32).toNatClampNeg + (6 : Int32).toNatClampNeg)) ((lp_X8_become_108 1000000 a0 a1 0 (am_sc (am_sc (am_sc (am_sc (am_sc (am_si (am_si (am_si (am_si m 8 a0 0 (m.1 8 a1 0)) 8 a0 1 ((am_si m 8 a0 0 (m.1 8 a1 0)).1 8 a1 1)) 8 a0 2 ((am_si (am_si m 8 a0 0 (m.1 8 a1 0)) 8 a0 1 ((am_si m 8 a0 0 (m.1 8 a1 0)).1 8 a1 1)).1 8 a1 2)) 8 a0 3 ((am_si (am_si (am_si m 8 a0 0 (m.1 8 a1 0)) 8 a0 1 ((am_si m 8 a0 0 (m.1 8 a1 0)).1 8 a1 1)) 8 a0 2 ((am_si (am_si m 8 a0 0 (m.1 8 a1 0)) 8 a0 1 ((am_si m 8 a0 0 (m.1 8 a1 0)).1 8 a1 1)).1 8 a1 2)).1 8 a1 3)) 36 a1 36 a0 (0 : Int32).toNatClampNeg (0 : Int32).toNatClampNeg (7 : Int32).toNatClampNeg) 37 a1 37 a0 (0 : Int32).toNatClampNeg (0 : Int32).toNatClampNeg (49 : Int32).toNatClampNeg) 38 a1 38 a0 (0 : Int32).toNatClampNeg (0 : Int32).toNatClampNeg (49 : Int32).toNatClampNeg) 39 a1 39 a0 (0 : Int32).toNatClampNeg (0 : Int32).toNatClampNeg (3 : Int32).toNatClampNeg) 40 a1 40 a0 (0 : Int32).toNatClampNeg (0 : Int32).toNatClampNeg (6 : Int32).toNatClampNeg)).bind fun q9 => some q9)))))
-- X8_has
def fn_X8_has (a0 : Nat) (a1 : Int32) (m : am_m) : Option (Int32) :=
  (if a1 < 0 then some 0 else (if (m.1 8 a0 0) ≤ a1 then some 0 else some 1))
-- X8_hasSet
def fn_X8_hasSet (a0 : Nat) (a1 : Int32) (m : am_m) : Option (Int32) :=
  (if a1 < 0 then some 0 else (if ((1 : Int32) <<< ((m.1 8 a0 0) &&& 31)) ≤ a1 then some 0 else some 1))
-- X8_hasLaw
def fn_X8_hasLaw (a0 : Nat) (a1 : Int32) (m : am_m) : Option (Int32) :=
  (if a1 < (-1 : Int32) then some 0 else (if (m.1 8 a0 2) ≤ a1 then some 0 else some 1))
-- X8_lawOf
def fn_X8_lawOf (a0 : Nat) (a1 : Int32) (m : am_m) : Option (Option Nat) :=
  (if a1 < 0 then some none else (if (m.1 8 a0 2) ≤ a1 then some none else am_ck a1 6 (some (m.2.2.2.2.1 a0 a1.toNatClampNeg))))
-- X8_fedOf
def fn_X8_fedOf (a0 : Nat) (a1 : Int32) (m : am_m) : Option (Int32) :=
  (fn_X8_has a0 a1 m).bind fun r1 => (if r1 = 0 then some (-1) else am_ck a1 7 (some (m.1 36 a0 a1.toNatClampNeg)))
-- X8_harmsBy
def lp_X8_harmsBy_4 : Nat → Nat → Int32 → Int32 → Int32 → am_m → Option (Int32)
  | 0, _, _, _, _, _ => none
  | n + 1, x0, x1, x2, x3, m =>
  (if (m.1 8 x0 0) ≤ x3 then some x2 else (fn_X8_weightOf x0 x1 x3 m).bind fun r2 => lp_X8_harmsBy_4 n x0 x1 (x2 + (if r2 ≤ 0 then (0 : Int32) else (1 : Int32))) (x3 + 1) m)
def fn_X8_harmsBy (a0 : Nat) (a1 : Int32) (m : am_m) : Option (Int32) :=
  (lp_X8_harmsBy_4 1000000 a0 a1 0 0 m).bind fun q5 => some q5
-- X8_harmsTo
def lp_X8_harmsTo_4 : Nat → Nat → Int32 → Int32 → Int32 → am_m → Option (Int32)
  | 0, _, _, _, _, _ => none
  | n + 1, x0, x1, x2, x3, m =>
  (if (m.1 8 x0 0) ≤ x3 then some x2 else (fn_X8_weightOf x0 x3 x1 m).bind fun r2 => lp_X8_harmsTo_4 n x0 x1 (x2 + (if r2 ≤ 0 then (0 : Int32) else (1 : Int32))) (x3 + 1) m)
def fn_X8_harmsTo (a0 : Nat) (a1 : Int32) (m : am_m) : Option (Int32) :=
  (lp_X8_harmsTo_4 1000000 a0 a1 0 0 m).bind fun q5 => some q5
-- X8_harmCount
def lp_X8_harmCount_4 : Nat → Nat → Int32 → Int32 → am_m → Option (Int32)
  | 0, _, _, _, _ => none
  | n + 1, x0, x1, x2, m =>
  (if (m.1 8 x0 0) ≤ x2 then some x1 else (fn_X8_harmsBy x0 x2 m).bind fun r2 => lp_X8_harmCount_4 n x0 (x1 + r2) (x2 + 1) m)
def fn_X8_harmCount (a0 : Nat) (m : am_m) : Option (Int32) :=
  (lp_X8_harmCount_4 1000000 a0 0 0 m).bind fun q4 => some q4
-- X8_fedBelow
def lp_X8_fedBelow_4 : Nat → Nat → Int32 → Int32 → Int32 → am_m → Option (Int32)
  | 0, _, _, _, _, _ => none
  | n + 1, x0, x1, x2, x3, m =>
  (if (m.1 8 x0 0) ≤ x3 then some x2 else am_ck x3 7 (lp_X8_fedBelow_4 n x0 x1 (if x1 ≤ (m.1 36 x0 x3.toNatClampNeg) then x2 else (x2 ||| ((1 : Int32) <<< (x3 &&& 31)))) (x3 + 1) m))
def fn_X8_fedBelow (a0 : Nat) (a1 : Int32) (m : am_m) : Option (Int32) :=
  (lp_X8_fedBelow_4 1000000 a0 a1 0 0 m).bind fun q4 => some q4
-- X8_starving
def fn_X8_starving (a0 : Nat) (m : am_m) : Option (Int32) :=
  (fn_X8_fedBelow a0 1 m).bind fun r1 => (fn_J6_bitCount_0f7a4 r1 m).bind fun r3 => some r3
-- X9_told
def fn_X9_told (a1 : Int32) (m : am_m) : Option (Int32 × am_m) :=
  (fn_J9_min_7cf53 a1 0 m).bind fun r1 => (if 0 ≤ a1 then some (a1, am_si m 9 0 17 r1) else (if a1 ≤ (-7 : Int32) then some (a1, am_si m 9 0 17 r1) else am_ck (-a1) 7 (am_ck (-a1) 7 (some (a1, am_si (am_si m 9 0 17 r1) 42 0 (-a1).toNatClampNeg ((m.1 42 0 (-a1).toNatClampNeg) + (1 : Int32)))))))
-- X9_folk
def fn_X9_folk (a1 : Int32) (m : am_m) : Option (Int32 × am_m) :=
  (if a1 < 0 then (fn_X9_told (-1) m).bind fun r2 => some (r2.1, r2.2) else (if a1 ≤ (9 : Int32) then (if (m.1 8 0 0) < (7 : Int32) then am_ck (m.1 8 0 0) 7 ((fn_X3_clear 0 (am_si (am_si m 36 0 (m.1 8 0 0).toNatClampNeg a1) 8 0 0 ((m.1 8 0 0) + (1 : Int32)))).bind fun r7 => (fn_X9_told (m.1 8 0 0) r7).bind fun r9 => some (r9.1, r9.2)) else (fn_X9_told (-5) m).bind fun r11 => some (r11.1, r11.2)) else (fn_X9_told (-1) m).bind fun r13 => some (r13.1, r13.2)))
-- X9_askLive
def fn_X9_askLive  (m : am_m) : Option (am_m) :=
  (fn_X8_lawOf 0 (m.1 8 0 3) m).bind fun r1 => (fn_X1_look 0 r1 m).bind fun r3 => some r3
-- X9_of
def fn_X9_of (a1 : Int32) (a2 : Int32) (m : am_m) : Option (Int32 × am_m) :=
  (fn_X8_has 0 a1 m).bind fun r1 => (if r1 ≠ 0 then (fn_X9_askLive  m).bind fun r4 => (if a2 = 0 then (fn_X8_fedOf 0 a1 r4).bind fun r7 => some (r7, r4) else (if a2 = 1 then (fn_X1_companions a1 r4).bind fun r10 => some (r10.1, r10.2) else (if a2 = 2 then (fn_X8_fedOf 0 a1 r4).bind fun r13 => (fn_X1_hungerOf a1 r13 (r4.1 39 0 0) r4).bind fun r15 => some (r15.1, r15.2) else (if a2 = 3 then (fn_X8_harmsBy 0 a1 r4).bind fun r18 => some (r18, r4) else (if a2 = 4 then (fn_X8_harmsTo 0 a1 r4).bind fun r21 => some (r21, r4) else some ((-1), r4)))))) else some ((-1), m))
-- X9_asks
def fn_X9_asks (a1 : Int32) (a2 : Int32) (a3 : Int32) (m : am_m) : Option (Int32 × am_m) :=
  (fn_X8_hasTwo 0 a1 a2 m).bind fun r1 => (if r1 ≠ 0 then (fn_X9_askLive  m).bind fun r4 => (if a3 = 0 then (fn_X8_weightOf 0 a1 a2 r4).bind fun r7 => some (r7, r4) else (if a3 = 1 then (fn_X8_weightOf 0 a1 a2 r4).bind fun r10 => (if r10 ≤ 0 then some ((-1), r4) else (fn_X8_sinceOf 0 a1 a2 r4).bind fun r13 => some (r13, r4)) else (if a3 = 2 then (fn_X1_countsOf a1 a2 r4).bind fun r16 => some (r16.1, r16.2) else (if a3 = 3 then (fn_X1_isBarred a1 a2 r4).bind fun r19 => (if r19.1 = 0 then some (0, r19.2) else some (1, r19.2)) else (if a3 = 4 then (fn_X1_maySit a1 a2 r4).bind fun r23 => (if r23.1 = 0 then some (0, r23.2) else some (1, r23.2)) else some ((-1), r4)))))) else some ((-1), m))
-- X9_mostOfTerm
def fn_X9_mostOfTerm (a1 : Int32) (m : am_m) : Option (Int32) :=
  (if a1 = 0 then some 999 else (if a1 = 1 then some 10 else some 9))
-- X9_terms
def fn_X9_terms (a1 : Int32) (a2 : Int32) (m : am_m) : Option (Int32 × am_m) :=
  (if a1 < 0 then (fn_X9_told (-1) m).bind fun r2 => some (r2.1, r2.2) else (if (3 : Int32) ≤ a1 then (fn_X9_told (-1) m).bind fun r5 => some (r5.1, r5.2) else (if a2 < 0 then (fn_X9_told (-1) m).bind fun r8 => some (r8.1, r8.2) else (fn_X9_mostOfTerm a1 m).bind fun r10 => (if a2 ≤ r10 then am_ck a1 3 (am_ck a1 3 ((fn_X3_clear 0 (am_si m 39 0 a1.toNatClampNeg a2)).bind fun r15 => (fn_X9_told (m.1 39 0 a1.toNatClampNeg) r15).bind fun r17 => some (r17.1, r17.2))) else (fn_X9_told (-1) m).bind fun r19 => some (r19.1, r19.2)))))
-- X9_feed
def fn_X9_feed (a1 : Int32) (a2 : Int32) (a3 : Int32) (a4 : Int32) (a5 : Int32) (m : am_m) : Option (Int32 × am_m) :=
  (if (m.1 7 0 1) ≤ (380 : Int32) then (fn_X7_take a1 m).bind fun r2 => (fn_X7_take a2 r2).bind fun r4 => (fn_X7_take a3 r4).bind fun r6 => (fn_X7_take a4 r6).bind fun r8 => (fn_X7_take a5 r8).bind fun r10 => some ((r10.1 7 0 1), r10) else some ((-1), m))
-- X9_end
def fn_X9_end (a1 : Int32) (m : am_m) : Option (Int32 × am_m) :=
  (if a1 < 0 then some ((-1), m) else (if a1 ≤ (m.1 7 0 1) then some (a1, am_si m 7 0 1 a1) else some ((-1), m)))
-- X9_rowHarm
def fn_X9_rowHarm (a1 : Int32) (m : am_m) : Option (Int32 × am_m) :=
  (if a1 ≤ ((m.1 7 0 1) - (3 : Int32)) then (fn_X7_byteAt a1 m).bind fun r2 => (fn_X7_byteAt (a1 + (1 : Int32)) m).bind fun r4 => (fn_X7_byteAt (a1 + (2 : Int32)) m).bind fun r6 => (fn_X8_hasTwo 0 r2 r4 m).bind fun r8 => (if r8 = 0 then some (0, m) else (if r6 < (1 : Int32) then some (0, m) else (if r6 ≤ (9 : Int32) then (fn_X8_setHarm 0 r2 r4 r6 (m.1 39 0 0) m).bind fun r13 => some (1, r13) else some (0, m)))) else some (0, m))
-- X9_row
def lp_X9_row_23 : Nat → Int32 → Int32 → Int32 → am_m → Option (Int32 × Int32 × am_m)
  | 0, _, _, _, _ => none
  | n + 1, x1, x2, x3, m =>
  (if (m.1 7 0 1) ≤ x3 then some (x1, x2, m) else (fn_X9_rowHarm x3 m).bind fun r3 => lp_X9_row_23 n (if r3.1 = 0 then x1 else (x1 + 1)) (if r3.1 = 0 then (x2 + 1) else x2) (x3 + 3) r3.2)
def fn_X9_row  (m : am_m) : Option (Int32 × am_m) :=
  (if (m.1 7 0 1) ≠ 0 then (lp_X9_row_23 1000000 0 0 0 m).bind fun q6 => (fn_X3_clear 0 (am_si (am_si q6.2.2 9 0 15 q6.2.1) 7 0 1 0)).bind fun r8 => (fn_X9_told q6.1 r8).bind fun r10 => some (r10.1, r10.2) else (fn_X9_told (-6) m).bind fun r12 => some (r12.1, r12.2))
-- X9_crumbs
def fn_X9_crumbs  (m : am_m) : Option (Int32) :=
  some (m.1 9 0 15)
-- X9_doHarm
def fn_X9_doHarm (a1 : Int32) (a2 : Int32) (a3 : Int32) (m : am_m) : Option (Int32 × am_m) :=
  (if a3 < (1 : Int32) then some ((-1), m) else (if (9 : Int32) < a3 then some ((-1), m) else (if a1 ≠ a2 then (fn_X8_hasTwo 0 a1 a2 m).bind fun r4 => (if r4 ≠ 0 then (fn_X8_weightOf 0 a1 a2 m).bind fun r7 => (if r7 ≠ a3 then (fn_X3_keep 0 0 a1 a2 0 m).bind fun r10 => (fn_X8_setHarm 0 a1 a2 a3 (r10.1 39 0 0) r10).bind fun r12 => some (r7, r12) else some ((-3), m)) else some ((-2), m)) else some ((-1), m))))
-- X9_doFeast
def fn_X9_doFeast (a1 : Int32) (m : am_m) : Option (Int32 × am_m) :=
  (if a1 < 0 then some ((-1), m) else (if a1 ≤ (127 : Int32) then (fn_X8_hasSet 0 a1 m).bind fun r3 => (if r3 ≠ 0 then (fn_X1_isTable a1 m).bind fun r6 => (if r6.1 ≠ 0 then (fn_X3_keep 0 1 0 0 0 r6.2).bind fun r9 => (fn_X1_feedTable a1 r9).bind fun r11 => (fn_J6_bitCount_0f7a4 a1 r11).bind fun r13 => some (r13, r11) else some ((-3), r6.2)) else some ((-2), m)) else some ((-1), m)))
-- X9_doPardon
def fn_X9_doPardon (a1 : Int32) (a2 : Int32) (m : am_m) : Option (Int32 × am_m) :=
  (if a1 ≠ a2 then (fn_X8_hasTwo 0 a1 a2 m).bind fun r2 => (if r2 ≠ 0 then (fn_X8_weightOf 0 a1 a2 m).bind fun r5 => (if r5 ≠ 0 then (fn_X3_keep 0 2 a1 a2 0 m).bind fun r8 => (fn_X8_setHarm 0 a1 a2 0 0 r8).bind fun r10 => some (r5, r10) else some ((-3), m)) else some ((-2), m)) else some ((-1), m))
-- X9_doPass
def fn_X9_doPass  (m : am_m) : Option (Int32 × am_m) :=
  (if (m.1 39 0 0) < (999 : Int32) then (fn_X3_keep 0 3 0 0 0 m).bind fun r2 => (fn_X1_passDay  r2).bind fun r4 => (fn_X8_starving 0 r4).bind fun r6 => some (r6, r4) else some ((-3), m))
-- X9_fillOrderWords
def lp_X9_fillOrderWords_43 : Nat → Int32 → Int32 → am_m → Option (am_m)
  | 0, _, _, _ => none
  | n + 1, x1, x2, m =>
  (if (7 : Int32) ≤ x2 then some m else (fn_X8_fedOf 0 x2 m).bind fun r6 => am_ck ((5 : Int32) + x2) 19 ((fn_X8_has 0 x2 (am_si m 41 0 ((5 : Int32) + x2).toNatClampNeg r6)).bind fun r9 => am_ck ((12 : Int32) + x2) 19 (lp_X9_fillOrderWords_43 n x1 (x2 + 1) (am_si (am_si m 41 0 ((5 : Int32) + x2).toNatClampNeg r6) 41 0 ((12 : Int32) + x2).toNatClampNeg (if r9 = 0 then (-1 : Int32) else (0 : Int32))))))
def lp_X9_fillOrderWords_108 : Nat → Int32 → Int32 → Int32 → am_m → Option (am_m)
  | 0, _, _, _, _ => none
  | n + 1, x1, x2, x3, m =>
  (if (m.1 8 0 0) ≤ x3 then some m else (if (((x1 >>> (x2 &&& 31)) &&& (1 : Int32)) ||| ((x1 >>> (x3 &&& 31)) &&& (1 : Int32))) ≠ (1 : Int32) then some m else (fn_X1_maySit x2 x3 m).bind fun r18 => (if r18.1 = 0 then some r18.2 else am_ck ((12 : Int32) + x2) 19 (am_ck ((12 : Int32) + x2) 19 (am_ck ((12 : Int32) + x3) 19 (am_ck ((12 : Int32) + x3) 19 (some (am_si (am_si r18.2 41 0 ((12 : Int32) + x2).toNatClampNeg ((r18.2.1 41 0 ((12 : Int32) + x2).toNatClampNeg) ||| ((1 : Int32) <<< (x3 &&& 31)))) 41 0 ((12 : Int32) + x3).toNatClampNeg (((am_si r18.2 41 0 ((12 : Int32) + x2).toNatClampNeg ((r18.2.1 41 0 ((12 : Int32) + x2).toNatClampNeg) ||| ((1 : Int32) <<< (x3 &&& 31)))).1 41 0 ((12 : Int32) + x3).toNatClampNeg) ||| ((1 : Int32) <<< (x2 &&& 31)))))))))).bind fun q25 => lp_X9_fillOrderWords_108 n x1 x2 (x3 + 1) q25)
def lp_X9_fillOrderWords_98 : Nat → Int32 → Int32 → am_m → Option (am_m)
  | 0, _, _, _ => none
  | n + 1, x1, x2, m =>
  (if (7 : Int32) ≤ x2 then some m else (lp_X9_fillOrderWords_108 1000000 x1 x2 (x2 + (1 : Int32)) m).bind fun q27 => lp_X9_fillOrderWords_98 n x1 (x2 + 1) q27)
def fn_X9_fillOrderWords (a1 : Int32) (m : am_m) : Option (am_m) :=
  (fn_X8_harmCount 0 (am_si m 41 0 0 (m.1 39 0 0))).bind fun r1 => (fn_X8_starving 0 (am_si (am_si m 41 0 0 (m.1 39 0 0)) 41 0 3 r1)).bind fun r3 => (lp_X9_fillOrderWords_43 1000000 a1 0 (am_si (am_si (am_si m 41 0 0 (m.1 39 0 0)) 41 0 3 r1) 41 0 4 r3)).bind fun q13 => (lp_X9_fillOrderWords_98 1000000 a1 0 q13).bind fun q29 => some q29
-- X9_ranClause
def lp_X9_ranClause_10 : Nat → Nat → Int32 → Int32 → Int32 → am_m → Option (Sum (am_m) (Int32 × am_m))
  | 0, _, _, _, _, _ => none
  | n + 1, x1, x2, x3, x4, m =>
  (if x3 ≤ x4 then some (.inl m) else (fn_X5_headOf x1 x2 2 m).bind fun r4 => (fn_X1_tell_o x1 r4 m).bind fun r6 => (if r6.1 ≠ (1 : Int32) then lp_X9_ranClause_10 n x1 x2 x3 (x4 + 1) r6.2 else (fn_X5_headOf x1 x2 3 r6.2).bind fun r9 => (fn_X1_tell_o x1 r9 r6.2).bind fun r11 => (fn_X5_headOf x1 x2 4 r11.2).bind fun r13 => (fn_X1_tell_o x1 r13 r11.2).bind fun r15 => (fn_X5_headOf x1 x2 5 r15.2).bind fun r17 => (fn_X1_tell_o x1 r17 r15.2).bind fun r19 => (if r11.1 = (2000000000 : Int32) then some (.inr (0, r19.2)) else (if r15.1 = (2000000000 : Int32) then some (.inr (0, r19.2)) else (if r19.1 ≠ (2000000000 : Int32) then (fn_X5_headOf x1 x2 0 r19.2).bind fun r24 => (if r24 = 270 then (fn_X9_doHarm r11.1 r15.1 r19.1 r19.2).bind fun r27 => (if 0 ≤ r27.1 then (fn_X9_fillOrderWords (r27.2.1 5 x1 4) (am_si r27.2 41 0 1 ((r27.2.1 41 0 1) + (1 : Int32)))).bind fun r30 => lp_X9_ranClause_10 n x1 x2 x3 (x4 + 1) r30 else some (.inr (0, r27.2))) else (if r24 = 271 then (fn_X9_doFeast r11.1 r19.2).bind fun r33 => (if 0 ≤ r33.1 then (fn_X9_fillOrderWords (r33.2.1 5 x1 4) (am_si (am_si r33.2 41 0 2 r33.1) 41 0 1 ((r33.2.1 41 0 1) + (1 : Int32)))).bind fun r36 => lp_X9_ranClause_10 n x1 x2 x3 (x4 + 1) r36 else some (.inr (0, am_si r33.2 41 0 2 r33.1))) else (if r24 = 272 then (fn_X9_doPardon r11.1 r15.1 r19.2).bind fun r39 => (if 0 ≤ r39.1 then (fn_X9_fillOrderWords (r39.2.1 5 x1 4) (am_si r39.2 41 0 1 ((r39.2.1 41 0 1) + (1 : Int32)))).bind fun r42 => lp_X9_ranClause_10 n x1 x2 x3 (x4 + 1) r42 else some (.inr (0, r39.2))) else (fn_X9_doPass  r19.2).bind fun r44 => (if 0 ≤ r44.1 then (fn_X9_fillOrderWords (r44.2.1 5 x1 4) (am_si r44.2 41 0 1 ((r44.2.1 41 0 1) + (1 : Int32)))).bind fun r47 => lp_X9_ranClause_10 n x1 x2 x3 (x4 + 1) r47 else some (.inr (0, r44.2)))))) else some (.inr (0, r19.2)))))))
def fn_X9_ranClause (a1 : Nat) (a2 : Int32) (m : am_m) : Option (Int32 × am_m) :=
  (fn_X5_headOf a1 a2 1 m).bind fun r1 => (lp_X9_ranClause_10 1000000 a1 a2 r1 0 m).bind fun w52 => (match w52 with
    | .inl q49 => some (1, q49)
    | .inr rr51 => some rr51)
-- X9_orders
def lp_X9_orders_83 : Nat → Int32 → am_m → Option (Sum (am_m) (Int32 × am_m))
  | 0, _, _ => none
  | n + 1, x1, m =>
  (if (m.1 5 0 2) ≤ x1 then some (.inl m) else (fn_X9_ranClause 0 x1 m).bind fun r13 => (if r13.1 ≠ 0 then lp_X9_orders_83 n (x1 + 1) r13.2 else (fn_X8_become 0 1 r13.2).bind fun r16 => (fn_X3_become 0 1 r16).bind fun r18 => (fn_X9_told (-3) (am_si r18 9 0 16 x1)).bind fun r20 => some (.inr (r20.1, r20.2))))
def fn_X9_orders  (m : am_m) : Option (Int32 × am_m) :=
  (fn_X4_readWhole 1 (am_si m 9 0 16 (-1))).bind fun r1 => (if r1.1 ≠ 0 then (fn_X8_become 1 0 r1.2).bind fun r4 => (fn_X3_become 1 0 r4).bind fun r6 => (fn_X9_askLive  r6).bind fun r8 => (fn_X9_fillOrderWords (r8.1 5 0 4) (am_si (am_si r8 41 0 1 0) 41 0 2 (-1))).bind fun r10 => (lp_X9_orders_83 1000000 0 r10).bind fun w27 => (match w27 with
    | .inl q22 => (fn_X9_told (q22.1 41 0 1) q22).bind fun r24 => some (r24.1, r24.2)
    | .inr rr26 => some rr26) else (fn_X9_told (-6) r1.2).bind fun r28 => some (r28.1, r28.2))
-- X9_fault
def fn_X9_fault  (m : am_m) : Option (Int32) :=
  some (m.1 4 0 10)
-- X9_stopped
def fn_X9_stopped  (m : am_m) : Option (Int32) :=
  some (m.1 9 0 16)
-- X9_force
def fn_X9_force (a1 : Int32) (m : am_m) : Option (Int32 × am_m) :=
  (fn_X8_hasLaw 0 a1 m).bind fun r1 => (if r1 ≠ 0 then (fn_X9_told 0 (am_si m 8 0 3 a1)).bind fun r4 => some ((m.1 8 0 3), r4.2) else (fn_X9_told (-2) m).bind fun r6 => some (r6.1, r6.2))
-- X9_harm
def fn_X9_harm (a1 : Int32) (a2 : Int32) (a3 : Int32) (m : am_m) : Option (Int32 × am_m) :=
  (fn_X9_doHarm a1 a2 a3 m).bind fun r1 => (fn_X9_told r1.1 r1.2).bind fun r3 => some (r3.1, r3.2)
-- X9_feast
def fn_X9_feast (a1 : Int32) (m : am_m) : Option (Int32 × am_m) :=
  (fn_X9_askLive  m).bind fun r1 => (fn_X9_doFeast a1 r1).bind fun r3 => (fn_X9_told r3.1 r3.2).bind fun r5 => some (r5.1, r5.2)
-- X9_pardon
def fn_X9_pardon (a1 : Int32) (a2 : Int32) (m : am_m) : Option (Int32 × am_m) :=
  (fn_X9_doPardon a1 a2 m).bind fun r1 => (fn_X9_told r1.1 r1.2).bind fun r3 => some (r3.1, r3.2)
-- X9_pass
def fn_X9_pass  (m : am_m) : Option (Int32 × am_m) :=
  (fn_X9_askLive  m).bind fun r1 => (fn_X9_doPass  r1).bind fun r3 => (fn_X9_told r3.1 r3.2).bind fun r5 => some (r5.1, r5.2)
-- X9_undo
def fn_X9_undo  (m : am_m) : Option (Int32 × am_m) :=
  (fn_X3_undoLatest 0 0 m).bind fun r1 => (fn_X9_told r1.1 r1.2).bind fun r3 => some (r3.1, r3.2)
-- X9_lookLive
def fn_X9_lookLive  (m : am_m) : Option (am_m) :=
  (fn_X9_askLive  m).bind fun r1 => (fn_X6_lookAt  r1).bind fun r3 => some r3
-- X9_sizeOrSet
def fn_X9_sizeOrSet (a1 : Int32) (a2 : Int32) (m : am_m) : Option (Int32) :=
  (if a2 = 0 then (fn_J6_bitCount_0f7a4 a1 m).bind fun r2 => some r2 else (if a2 = 1 then some a1 else some (-1)))
-- X9_largest
def fn_X9_largest (a1 : Int32) (m : am_m) : Option (Int32 × am_m) :=
  (fn_X9_lookLive  m).bind fun r1 => (fn_X6_largestTable  r1).bind fun r3 => (if r3 ≠ 0 then (fn_X9_sizeOrSet r3 a1 r1).bind fun r6 => some (r6, r1) else some ((-1), r1))
-- X9_tables
def fn_X9_tables (a1 : Int32) (m : am_m) : Option (Int32 × am_m) :=
  (fn_X9_lookLive  m).bind fun r1 => (fn_X2_intoTables  r1).bind fun r3 => (fn_X2_answer a1 r3).bind fun r5 => some (r5, r3)
-- X9_newHarms
def fn_X9_newHarms (a1 : Int32) (m : am_m) : Option (Int32 × am_m) :=
  (fn_X9_lookLive  m).bind fun r1 => (fn_X6_lookAtBars  r1).bind fun r3 => (fn_X2_intoSets  r3).bind fun r5 => (fn_X2_answer a1 r5).bind fun r7 => some (r7, r5)
-- X9_leftOut
def fn_X9_leftOut (a1 : Int32) (m : am_m) : Option (Int32 × am_m) :=
  (fn_X9_lookLive  m).bind fun r1 => (fn_X6_fewestOut  r1).bind fun r3 => (fn_X9_sizeOrSet r3.1 a1 r3.2).bind fun r5 => some (r5, r3.2)
-- X9_mostHurt
def lp_X9_mostHurt_8 : Nat → Int32 → Int32 → Int32 → Int32 → Int32 → am_m → Option (Int32 × am_m)
  | 0, _, _, _, _, _, _ => none
  | n + 1, x1, x2, x3, x4, x5, m =>
  (if (7 : Int32) ≤ x5 then some (x3, m) else (if ((x1 >>> (x5 &&& 31)) &&& (1 : Int32)) ≠ (1 : Int32) then some (x3, x4, m) else (fn_X1_sufferedBy x5 x2 m).bind fun r3 => (if r3.1 ≤ x4 then some (x3, x4, r3.2) else some (x5, r3.1, r3.2))).bind fun q6 => lp_X9_mostHurt_8 n x1 x2 q6.1 q6.2.1 (x5 + 1) q6.2.2)
def fn_X9_mostHurt (a1 : Int32) (a2 : Int32) (m : am_m) : Option (Int32 × am_m) :=
  (lp_X9_mostHurt_8 1000000 a1 a2 (-1) (-1) 0 m).bind fun q8 => some (q8.1, q8.2)
-- X9_seat
def lp_X9_seat_34 : Nat → Int32 → Int32 → Int32 → Int32 → am_m → Option (Int32 × am_m)
  | 0, _, _, _, _, _ => none
  | n + 1, x1, x2, x3, x4, m =>
  (if x2 ≤ x4 then some (x3, m) else (fn_X9_mostHurt x3 x1 m).bind fun r11 => lp_X9_seat_34 n x1 x2 (x3 &&& (((1 : Int32) <<< (r11.1 &&& 31)) ^^^ (-1 : Int32))) (x4 + 1) r11.2)
def fn_X9_seat (a1 : Int32) (a2 : Int32) (m : am_m) : Option (Int32 × am_m) :=
  (fn_X8_hasSet 0 a1 m).bind fun r1 => (if r1 = 0 then some ((-1), m) else (if a2 < 0 then some ((-1), m) else (fn_J6_bitCount_0f7a4 a1 m).bind fun r5 => (if a2 < r5 then (fn_X9_askLive  m).bind fun r8 => (lp_X9_seat_34 1000000 a1 a2 a1 0 r8).bind fun q13 => (fn_X9_mostHurt q13.1 a1 q13.2).bind fun r15 => some (r15.1, r15.2) else some ((-1), m))))
-- X9_chain
def fn_X9_chain (a1 : Int32) (a2 : Int32) (a3 : Int32) (m : am_m) : Option (Int32 × am_m) :=
  (fn_X8_has 0 a1 m).bind fun r1 => (if r1 = 0 then some ((-1), m) else (fn_X8_has 0 a2 m).bind fun r4 => (if r4 = 0 then some ((-1), m) else (if (-1 : Int32) ≤ a3 then (fn_X9_lookLive  m).bind fun r8 => (fn_X6_stepsTo a1 a2 r8).bind fun r10 => (if a3 = (-1 : Int32) then some (r10.1, r10.2) else (if r10.1 ≠ (-1 : Int32) then (if r10.1 ≤ a3 then some ((-1), r10.2) else (fn_X6_stepOf a1 a2 a3 r10.2).bind fun r15 => some (r15, r10.2)) else some (r10.1, r10.2))) else some ((-1), m))))
-- X9_circles
def fn_X9_circles  (m : am_m) : Option (Int32 × am_m) :=
  (fn_X9_lookLive  m).bind fun r1 => (fn_X6_circlesWithout (-1) (-1) r1).bind fun r3 => some (r3, r1)
-- X9_bridges
def fn_X9_bridges (a1 : Int32) (m : am_m) : Option (Int32 × am_m) :=
  (fn_X9_lookLive  m).bind fun r1 => (fn_X6_findBridges  r1).bind fun r3 => (fn_X6_twoOf a1 r3).bind fun r5 => some (r5, r3)
-- X9_sat
def fn_X9_sat (a1 : Int32) (m : am_m) : Option (Int32 × am_m) :=
  (if a1 < 0 then (fn_X9_told (-1) m).bind fun r2 => some (r2.1, r2.2) else (if (127 : Int32) < a1 then (fn_X9_told (-1) m).bind fun r5 => some (r5.1, r5.2) else (fn_J6_bitCount_0f7a4 a1 m).bind fun r7 => (if (2 : Int32) ≤ r7 then (fn_X8_hasSet 0 a1 m).bind fun r10 => (if r10 ≠ 0 then (if (m.1 8 0 1) < (6 : Int32) then am_ck (m.1 8 0 1) 6 ((fn_X9_told ((m.1 8 0 1) + (1 : Int32)) (am_si (am_si m 40 0 (m.1 8 0 1).toNatClampNeg a1) 8 0 1 ((m.1 8 0 1) + (1 : Int32)))).bind fun r15 => some (r15.1, r15.2)) else (fn_X9_told (-5) m).bind fun r17 => some (r17.1, r17.2)) else (fn_X9_told (-2) m).bind fun r19 => some (r19.1, r19.2)) else (fn_X9_told (-1) m).bind fun r21 => some (r21.1, r21.2))))
-- X9_forget
def fn_X9_forget  (m : am_m) : Option (Int32 × am_m) :=
  some ((m.1 8 0 1), am_si m 8 0 1 0)
-- X9_doubted
def fn_X9_doubted (a1 : Int32) (m : am_m) : Option (Int32 × am_m) :=
  (fn_X9_lookLive  m).bind fun r1 => (fn_X6_findDoubted 0 r1).bind fun r3 => (fn_X6_twoOf a1 r3).bind fun r5 => some (r5, r3)
-- X9_fitting
def fn_X9_fitting (a1 : Int32) (m : am_m) : Option (Int32 × am_m) :=
  (fn_X8_hasSet 0 a1 m).bind fun r1 => (if r1 ≠ 0 then (fn_X9_lookLive  m).bind fun r4 => (fn_X6_fittingFor a1 r4).bind fun r6 => some (r6, r4) else some ((-1), m))
-- X9_ask
def fn_X9_ask (a1 : Int32) (a2 : Int32) (m : am_m) : Option (Int32 × am_m) :=
  (fn_X8_hasSet 0 a1 m).bind fun r1 => (if r1 ≠ 0 then (fn_X9_lookLive  m).bind fun r4 => (fn_X6_fittingFor a1 r4).bind fun r6 => (fn_X6_nearestHalf r6 r4).bind fun r8 => (if r8 ≠ (-1 : Int32) then (if a2 = 0 then some (r8, r4) else (if a2 = 1 then (fn_X6_companionsAmong r8 r6 r4).bind fun r13 => some (r13, r4) else some ((-1), r4))) else some ((-1), r4)) else some ((-1), m))
-- X9_lasts
def lp_X9_lasts_28 : Nat → Int32 → Int32 → Int32 → am_m → Option (Sum (am_m) (Int32 × am_m))
  | 0, _, _, _, _ => none
  | n + 1, x1, x2, x3, m =>
  (if (100 : Int32) < x3 then some (.inl m) else (if x2 ≠ 0 then (fn_X1_hungerOf x1 x2 ((m.1 39 0 0) + x3) m).bind fun r10 => (fn_J9_max_7cf53 0 (x2 - r10.1) r10.2).bind fun r12 => lp_X9_lasts_28 n x1 r12 (x3 + 1) r10.2 else some (.inr (x3, m))))
def fn_X9_lasts (a1 : Int32) (m : am_m) : Option (Int32 × am_m) :=
  (fn_X8_has 0 a1 m).bind fun r1 => (if r1 ≠ 0 then (fn_X9_askLive  m).bind fun r4 => (fn_X8_fedOf 0 a1 r4).bind fun r6 => (lp_X9_lasts_28 1000000 a1 r6 0 r4).bind fun w17 => (match w17 with
    | .inl q14 => some ((-1), q14)
    | .inr rr16 => some rr16) else some ((-1), m))
-- X9_fedBy
def fn_X9_fedBy (a1 : Int32) (m : am_m) : Option (Int32 × am_m) :=
  (if a1 < 0 then some ((-1), m) else (if a1 ≤ (10 : Int32) then (fn_X9_lookLive  m).bind fun r3 => (fn_X8_fedBelow 0 a1 r3).bind fun r5 => (fn_X6_fewestFeeding r5 r3).bind fun r7 => some (r7.1, r7.2) else some ((-1), m)))
-- X9_seatGuest
def lp_X9_seatGuest_3 : Nat → Int32 → Int32 → am_m → Option (am_m)
  | 0, _, _, _ => none
  | n + 1, x1, x2, m =>
  (if x2 < 0 then some m else am_ck x2 20 ((if x2 ≤ 0 then some (0 : Int64) else am_ck (x2 - (1 : Int32)) 20 (some (((m.2.1 81 0 (x2 - (1 : Int32)).toNatClampNeg) * x1.toInt64) / (10 : Int64)))).bind fun q5 => am_ck x2 20 (lp_X9_seatGuest_3 n x1 (x2 - 1) (am_sg m 81 0 x2.toNatClampNeg ((((m.2.1 81 0 x2.toNatClampNeg) * (((10 : Int32) - x1).toInt64)) / (10 : Int64)) + q5)))))
def fn_X9_seatGuest (a1 : Int32) (m : am_m) : Option (am_m) :=
  (lp_X9_seatGuest_3 1000000 a1 19 m).bind fun q8 => some q8
-- X9_few
def lp_X9_few_27 : Nat → Int32 → Int32 → Int32 → am_m → Option (am_m)
  | 0, _, _, _, _ => none
  | n + 1, x1, x2, x3, m =>
  (if (20 : Int32) ≤ x3 then some m else am_ck x3 20 (lp_X9_few_27 n x1 x2 (x3 + 1) (am_sg m 81 0 x3.toNatClampNeg 0)))
def lp_X9_few_57 : Nat → Int32 → Int32 → Int32 → am_m → Option (am_m)
  | 0, _, _, _, _ => none
  | n + 1, x1, x2, x3, m =>
  (if x2 ≤ x3 then some m else (fn_X9_seatGuest (m.1 39 0 1) m).bind fun r10 => lp_X9_few_57 n x1 x2 (x3 + 1) r10)
def lp_X9_few_86 : Nat → Int32 → Int64 → Int32 → am_m → Option (Int64)
  | 0, _, _, _, _ => none
  | n + 1, x1, x3, x5, m =>
  (if x1 ≤ x5 then some x3 else am_ck x5 20 (lp_X9_few_86 n x1 (x3 + (m.2.1 81 0 x5.toNatClampNeg)) (x5 + 1) m))
def fn_X9_few (a1 : Int32) (a2 : Int32) (m : am_m) : Option (Int64 × am_m) :=
  (if a1 < (1 : Int32) then some ((-1), m) else (if (20 : Int32) < a1 then some ((-1), m) else (if a2 < 0 then some ((-1), m) else (if a2 ≤ (99 : Int32) then (lp_X9_few_27 1000000 a1 a2 0 m).bind fun q7 => (lp_X9_few_57 1000000 a1 a2 0 (am_sg q7 81 0 0 1000000000000)).bind fun q12 => (lp_X9_few_86 1000000 a1 0 0 q12).bind fun q16 => some (q16, q12) else some ((-1), m)))))
-- X9_compare
def fn_X9_compare (a1 : Int32) (m : am_m) : Option (Int32 × am_m) :=
  (fn_X8_hasLaw 0 a1 m).bind fun r1 => (if r1 ≠ 0 then (fn_X8_lawOf 0 a1 m).bind fun r4 => (fn_X1_look 0 r4 m).bind fun r6 => (fn_X6_lookAt  r6).bind fun r8 => (fn_X6_largestTable  r8).bind fun r10 => (fn_J6_bitCount_0f7a4 r10 r8).bind fun r12 => some (r12, r8) else some ((-1), m))
-- X9_seasonDeed
def fn_X9_seasonDeed (a1 : Int32) (a2 : Int32) (a3 : Int32) (a4 : Int32) (m : am_m) : Option (am_m) :=
  (fn_X8_weightOf 2 a2 a3 m).bind fun r1 => (if a1 ≠ (3 : Int32) then (if a1 ≠ (2 : Int32) then (if r1 = a4 then some m else (fn_X8_setHarm 2 a2 a3 a4 (m.1 39 2 0) m).bind fun r6 => some r6) else (fn_X1_isTable (((1 : Int32) <<< (a2 &&& 31)) ||| ((1 : Int32) <<< (a3 &&& 31))) m).bind fun r8 => (if r8.1 = 0 then some r8.2 else (fn_X1_feedTable (((1 : Int32) <<< (a2 &&& 31)) ||| ((1 : Int32) <<< (a3 &&& 31))) r8.2).bind fun r11 => some r11).bind fun q13 => some q13) else (fn_X8_setHarm 2 a2 a3 0 0 m).bind fun r15 => some r15)
-- X9_oneSeason
def fn_X9_oneSeason  (m : am_m) : Option (am_m) :=
  (fn_X0_next (m.1 8 2 0) m).bind fun r1 => (fn_X0_next (r1.2.1 8 2 0) r1.2).bind fun r3 => (fn_X0_next 9 r3.2).bind fun r5 => (fn_X0_next 4 r5.2).bind fun r7 => (if r1.1 = r3.1 then some r7.2 else (fn_X9_seasonDeed r7.1 r1.1 r3.1 (r5.1 + (1 : Int32)) r7.2).bind fun r10 => some r10).bind fun q12 => (fn_X1_passDay  q12).bind fun r13 => some r13
-- X9_seasons
def lp_X9_seasons_91 : Nat → Int32 → Int32 → am_m → Option (am_m)
  | 0, _, _, _ => none
  | n + 1, x2, x3, m =>
  (if x2 ≤ x3 then some m else (if (999 : Int32) ≤ (m.1 39 2 0) then some m else (fn_X9_oneSeason  m).bind fun r22 => lp_X9_seasons_91 n x2 (x3 + 1) r22))
def fn_X9_seasons (a1 : Int32) (a2 : Int32) (m : am_m) : Option (Int32 × am_m) :=
  (if a1 < 0 then (fn_X9_told (-1) m).bind fun r2 => some (r2.1, r2.2) else (if (1000000 : Int32) < a1 then (fn_X9_told (-1) m).bind fun r5 => some (r5.1, r5.2) else (if a2 < (1 : Int32) then (fn_X9_told (-1) m).bind fun r8 => some (r8.1, r8.2) else (if a2 ≤ (60 : Int32) then (if (m.1 8 0 0) ≠ 0 then (fn_X8_become 2 0 m).bind fun r12 => (fn_X8_lawOf 2 (r12.1 8 2 3) r12).bind fun r14 => (fn_X1_look 2 r14 r12).bind fun r16 => (fn_X0_begin a1 r16).bind fun r18 => (lp_X9_seasons_91 1000000 a2 0 r18).bind fun q24 => (fn_X8_starving 2 q24).bind fun r26 => (fn_X9_told r26 q24).bind fun r28 => some (r28.1, r28.2) else (fn_X9_told (-3) m).bind fun r30 => some (r30.1, r30.2)) else (fn_X9_told (-1) m).bind fun r32 => some (r32.1, r32.2)))))
-- X9_drawn
def fn_X9_drawn (a1 : Int32) (a2 : Int32) (m : am_m) : Option (Int32) :=
  (fn_X8_has 2 a1 m).bind fun r1 => (if r1 ≠ 0 then (if a2 ≠ (-1 : Int32) then (fn_X8_hasTwo 2 a1 a2 m).bind fun r5 => (if r5 = 0 then some (-1) else (fn_X8_weightOf 2 a1 a2 m).bind fun r8 => some r8) else (fn_X8_fedOf 2 a1 m).bind fun r10 => some r10) else some (-1))
-- X9_back
def fn_X9_back (a1 : Int32) (m : am_m) : Option (Int32 × am_m) :=
  (if a1 < 0 then (fn_X9_told (-1) m).bind fun r2 => some (r2.1, r2.2) else (if a1 < (2 : Int32) then am_ck a1 2 ((match (m.2.2.2.2.2.1 0 a1.toNatClampNeg) with
    | none => (fn_X9_told (-2) m).bind fun r8 => some (r8.1, r8.2)
    | some u6 => (fn_X8_become 0 u6 m).bind fun r10 => (fn_X3_clear 0 r10).bind fun r12 => (fn_X9_told 0 r12).bind fun r14 => some (r14.1, r14.2))) else (fn_X9_told (-1) m).bind fun r16 => some (r16.1, r16.2)))
-- X9_count
def fn_X9_count (a1 : Int32) (m : am_m) : Option (Int32) :=
  (if a1 = 0 then some (m.1 8 0 0) else (if a1 = 1 then (fn_X8_harmCount 0 m).bind fun r3 => some r3 else (if a1 = 2 then (fn_X8_starving 0 m).bind fun r6 => some r6 else (if a1 = 3 then some (m.1 8 0 1) else (if a1 = 4 then some (m.1 8 0 2) else (if a1 = 5 then some (m.1 3 0 1) else (if a1 = 6 then some (m.1 7 0 1) else (if a1 = 7 then am_ck (a1 - (6 : Int32)) 7 (some (m.1 42 0 (a1 - (6 : Int32)).toNatClampNeg)) else (if a1 = 8 then am_ck (a1 - (6 : Int32)) 7 (some (m.1 42 0 (a1 - (6 : Int32)).toNatClampNeg)) else (if a1 = 9 then am_ck (a1 - (6 : Int32)) 7 (some (m.1 42 0 (a1 - (6 : Int32)).toNatClampNeg)) else (if a1 = 10 then am_ck (a1 - (5 : Int32)) 7 (some (m.1 42 0 (a1 - (5 : Int32)).toNatClampNeg)) else (if a1 = 11 then am_ck (a1 - (5 : Int32)) 7 (some (m.1 42 0 (a1 - (5 : Int32)).toNatClampNeg)) else (if a1 = 12 then some (m.1 8 0 3) else (if a1 = 13 then am_ck (a1 - (13 : Int32)) 3 (some (m.1 39 0 (a1 - (13 : Int32)).toNatClampNeg)) else (if a1 = 14 then am_ck (a1 - (13 : Int32)) 3 (some (m.1 39 0 (a1 - (13 : Int32)).toNatClampNeg)) else (if a1 = 15 then am_ck (a1 - (13 : Int32)) 3 (some (m.1 39 0 (a1 - (13 : Int32)).toNatClampNeg)) else some (-1)))))))))))))))))
-- X9_status
def fn_X9_status  (m : am_m) : Option (Int32) :=
  some (m.1 9 0 17)
