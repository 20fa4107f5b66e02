/-! the start: both are made; by program (wip/whole/gen/start.py) -/
def lens0 : Nat → Nat → Nat := fun c _ => if c = 28 then 72 else if c = 29 then 448 else 0
def C00 : Nat → Nat := fun c => if c = 19 then 1 else 0
def I00 : Nat → Nat → Nat → Int32 := fun _ _ _ => 0
def G00 : Nat → Nat → Nat → Int64 := fun _ _ _ => 0
def e00 (C : Nat → Nat) : am_e := (fun _ => some 3, fun _ => none, fun _ _ => none, fun _ _ => none, lens0, C)
def m00 : am_m := (I00, G00, e00 C00)
def m09 : am_m := (ci_X9_init (am_u2 I00 9 0 (fun _ => 0)) 0, cg_X9_init (am_u2 G00 9 0 (fun _ => 0)) 0, e00 (cc_X9_init (am_u1 C00 9 1) 0))
def mS : am_m := (ci_X10_init (am_u2 m09.1 10 0 (fun _ => 0)) 0, cg_X10_init (am_u2 m09.2.1 10 0 (fun _ => 0)) 0, e00 (cc_X10_init (am_u1 m09.2.2.2.2.2.2.2 10 1) 0))
theorem e00_R (C C' : Nat → Nat) : am_R0 (e00 C) = am_R0 (e00 C') := rfl
theorem e00_N (C C' : Nat → Nat) : am_N0 (e00 C) = am_N0 (e00 C') := rfl
theorem e00_9 (C : Nat → Nat) : cp_X9_init (fun _ => none) 0 = am_R0 (e00 C) 9 0 := by
  funext k
  rcases k with _ | _ | _ | _ | _ | _ | _ | _ | _ | _ | _ | _ | _ | _ | _ | k <;> rfl
theorem e00_10 (C : Nat → Nat) : cp_X10_init (fun _ => none) 0 = am_R0 (e00 C) 10 0 := by
  funext k
  rcases k with _ | _ | _ | _ | _ | _ | _ | _ | _ | _ | _ | _ | _ | _ | _ | _ | _ | _ | _ | _ | _ | _ | _ | _ | _ | _ | _ | _ | _ | _ | _ | _ | _ | _ | _ | _ | _ | _ | _ | _ | _ | _ | _ | _ | _ | _ | _ | _ | _ | _ | _ | _ | _ | _ | _ | _ | _ | _ | _ | _ | _ | k <;> rfl
theorem r0_8 (C : Nat → Nat) (n : Nat) : am_R0 (e00 C) 8 n = cp_X8_init (fun _ => none) n := (am_R0_8 _ _).symm
theorem r0_5 (C : Nat → Nat) (n : Nat) : am_R0 (e00 C) 5 n = cp_X5_init (fun _ => none) n := (am_R0_5 _ _).symm
theorem r0_3 (C : Nat → Nat) (n : Nat) : am_R0 (e00 C) 3 n = cp_X3_init (fun _ => none) n := by
  funext k
  rcases k with _ | k <;> rfl
theorem r0_7 (C : Nat → Nat) (n : Nat) : am_R0 (e00 C) 7 n = cp_X7_init (fun _ => none) n := by
  funext k
  rcases k with _ | k <;> rfl
theorem r0_0 (C : Nat → Nat) (n : Nat) : am_R0 (e00 C) 0 n = cp_X0_init (fun _ => none) n := rfl
theorem r0_4 (C : Nat → Nat) (n : Nat) (hn : n = 0) : am_R0 (e00 C) 4 n = cp_X4_init (fun _ => none) n := by
  subst hn
  funext k
  rcases k with _ | _ | _ | _ | k <;> rfl
theorem r0_1 (C : Nat → Nat) (n : Nat) : am_R0 (e00 C) 1 n = cp_X1_init (fun _ => none) n := by
  funext k
  rcases k with _ | _ | _ | _ | k <;> rfl
theorem r0_6 (C : Nat → Nat) (n : Nat) : am_R0 (e00 C) 6 n = cp_X6_init (fun _ => none) n := by
  funext k
  rcases k with _ | _ | _ | _ | _ | _ | _ | k <;> rfl
theorem r0_2 (C : Nat → Nat) (n : Nat) : am_R0 (e00 C) 2 n = cp_X2_init (fun _ => none) n := by
  funext k
  rcases k with _ | _ | _ | _ | _ | _ | k <;> rfl
def k09 : Nat := (1 + ((1 + (1 + (1 + (1 + (1 + (1 + 0)))))) + (1 + ((1 + (1 + (1 + (1 + (1 + (1 + 0)))))) + (1 + ((1 + (1 + (1 + (1 + (1 + (1 + 0)))))) + (1 + (1 + ((1 + 0) + (1 + ((1 + 0) + (1 + ((1 + 0) + (1 + ((1 + (1 + (1 + (1 + ((1 + (1 + 0)) + 0))))) + (1 + ((1 + ((1 + (1 + (1 + (1 + (1 + (1 + 0)))))) + (1 + (1 + 0)))) + (1 + ((1 + (1 + (1 + (1 + (1 + (1 + 0)))))) + (1 + ((1 + (1 + (1 + 0))) + (1 + ((0) + (1 + (1 + (1 + 0))))))))))))))))))))))))))
def s09 : Nat := (10 + ((7 + (49 + (49 + (3 + (6 + (6 + 0)))))) + (10 + ((7 + (49 + (49 + (3 + (6 + (6 + 0)))))) + (10 + ((7 + (49 + (49 + (3 + (6 + (6 + 0)))))) + (2 + (2 + ((208 + 0) + (2 + ((208 + 0) + (2 + ((400 + 0) + (11 + ((401 + (401 + (401 + (5 + ((((if (0 : Int32) < 12 then 12 else 0) * (6 : Int32)).toNatClampNeg + ((if (0 : Int32) < 448 then (448 : Int32) else 0).toNatClampNeg + 0)) + 0))))) + (4 + ((10 + ((7 + (49 + (49 + (3 + (6 + (6 + 0)))))) + (8 + (51 + 0)))) + (8 + ((7 + (7 + (7 + (21 + (128 + (128 + 0)))))) + (6 + ((7 + (7 + (7 + 0))) + (1 + ((0) + (19 + (20 + (7 + 0))))))))))))))))))))))))))
def k10 : Nat := (1 + (1 + (1 + (1 + (1 + (1 + (1 + (1 + (1 + (1 + (1 + (1 + (1 + (1 + (1 + (1 + (1 + (1 + (1 + (1 + (1 + (1 + (1 + (1 + (1 + (1 + (1 + (1 + (1 + (1 + (1 + (1 + (1 + (1 + 0))))))))))))))))))))))))))))))))))
def s10 : Nat := (7 + (5518 + (11036 + (2 + (1944 + (16 + (1728 + (16 + (400 + (96 + (400 + (400 + (400 + (400 + (8 + (7 + (4 + (13 + (13 + (400 + (49 + (49 + (7 + (8 + (7 + (128 + (128 + (7 + (128 + (21 + (4 + (120 + (7 + (108 + 0))))))))))))))))))))))))))))))))))
theorem ks_le : k09 ≤ 100 ∧ s09 ≤ 4000 ∧ k10 ≤ 100 ∧ s10 ≤ 40000 := by decide +kernel
set_option maxRecDepth 100000 in
theorem st9 (d : Nat) (hd : 4 ≤ d) : am_Ex am_cod d 112 [.inr (.inr (some (9, 0)))] (am_u2 I00 9 0 (fun _ => 0), am_u2 G00 9 0 (fun _ => 0), am_u2 (am_R0 (e00 C00)) 9 0 (fun _ => none), am_N0 (e00 C00), am_u1 C00 9 1) none (am_mk m09) k09 s09 := by
  have h := ex_X9_init d hd (am_R0 (e00 C00)) (am_N0 (e00 C00)) (am_u2 I00 9 0 (fun _ => 0)) (am_u2 G00 9 0 (fun _ => 0)) (am_u1 C00 9 1) 0 (fun _ => none) rfl rfl rfl rfl rfl rfl rfl rfl rfl rfl rfl rfl rfl rfl rfl rfl rfl rfl rfl rfl rfl rfl rfl rfl rfl rfl rfl rfl rfl rfl rfl rfl rfl rfl rfl rfl rfl rfl rfl rfl rfl rfl rfl rfl rfl rfl rfl rfl rfl rfl (r0_8 _ 0) rfl rfl rfl rfl rfl rfl rfl rfl rfl rfl rfl rfl rfl (r0_8 _ 1) rfl rfl rfl rfl rfl rfl rfl rfl rfl rfl rfl rfl rfl (r0_8 _ 2) rfl rfl rfl rfl rfl (r0_3 _ 0) rfl rfl rfl (r0_3 _ 1) rfl rfl rfl (r0_7 _ 0) rfl rfl rfl rfl rfl rfl rfl rfl rfl rfl (r0_5 _ 0) (by decide +kernel) (by decide +kernel) (r0_4 _ 0 rfl) rfl rfl rfl rfl rfl rfl rfl rfl rfl rfl rfl rfl rfl rfl (r0_8 _ 3) rfl rfl rfl rfl (r0_1 _ 0) rfl rfl rfl rfl rfl rfl rfl rfl rfl rfl rfl rfl rfl (r0_6 _ 0) rfl rfl rfl rfl rfl rfl rfl (r0_2 _ 0) rfl (r0_0 _ 0) rfl rfl rfl rfl rfl rfl
  rw [am_u2_id (e00_9 C00)] at h
  exact h
set_option maxRecDepth 100000 in
theorem st10 (d : Nat) (hd : 1 ≤ d) : am_Ex am_cod d 170 [.inr (.inr (some (10, 0)))] (am_u2 m09.1 10 0 (fun _ => 0), am_u2 m09.2.1 10 0 (fun _ => 0), am_u2 (am_R0 (e00 C00)) 10 0 (fun _ => none), am_N0 (e00 C00), am_u1 m09.2.2.2.2.2.2.2 10 1) none (am_mk mS) k10 s10 := by
  have h := ex_X10_init d hd (am_R0 (e00 C00)) (am_N0 (e00 C00)) (am_u2 m09.1 10 0 (fun _ => 0)) (am_u2 m09.2.1 10 0 (fun _ => 0)) (am_u1 m09.2.2.2.2.2.2.2 10 1) 0 (fun _ => none) (by decide +kernel) (by decide +kernel) (by decide +kernel) (by decide +kernel) (by decide +kernel) (by decide +kernel) (by decide +kernel) (by decide +kernel) (by decide +kernel) (by decide +kernel) (by decide +kernel) (by decide +kernel) (by decide +kernel) (by decide +kernel) (by decide +kernel) (by decide +kernel) (by decide +kernel) (by decide +kernel) (by decide +kernel) (by decide +kernel) (by decide +kernel) (by decide +kernel) (by decide +kernel) (by decide +kernel) (by decide +kernel) (by decide +kernel) (by decide +kernel) (by decide +kernel) (by decide +kernel) (by decide +kernel) (by decide +kernel) (by decide +kernel) (by decide +kernel) (by decide +kernel) rfl rfl rfl rfl rfl rfl rfl rfl rfl rfl rfl rfl rfl rfl rfl rfl rfl rfl rfl rfl rfl rfl rfl rfl rfl rfl rfl rfl rfl rfl rfl rfl rfl rfl rfl rfl rfl rfl rfl rfl rfl rfl rfl rfl rfl rfl rfl rfl rfl rfl rfl rfl rfl rfl rfl rfl rfl rfl rfl rfl rfl rfl rfl rfl rfl rfl rfl rfl
  rw [am_u2_id (e00_10 C00)] at h
  exact h
