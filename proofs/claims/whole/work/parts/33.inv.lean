/-! what holds between the calls: the class's cells against the reference's -/
/-- a cell of the reference's code (a LAW's; ORDERS'), as the abstract machine has it -/
def rc_ix (x y : Nat) : Nat := if x < 6 then x - 1 else if x = 6 then 5 + y else 12 + y
def rc_dec (ord : Bool) (x y : Nat) : Nat × Nat :=
  if x = 0 then (0, y)
  else if x < 20 then (1, if ord then rc_ix x y else x - 1)
  else if x < 28 then (x - 18, 0)
  else if x = 28 then (10, 0)
  else if x = 29 then (11, y)
  else (12, y)
def rc_ok (ord : Bool) (x y : Nat) : Prop := x ≤ 30 ∧ y ≤ 1000 ∧ (x < 20 → if ord then x ≤ 7 ∧ (6 ≤ x → y ≤ 6) else x ≤ 8)
/-- a cell of the class's code: what is done (t), with what (w) -/
def cc_dec (t w : Nat) : Nat × Nat :=
  if t = 256 then (0, w) else if t = 258 then (1, w)
  else if t = 43 then (2, 0) else if t = 45 then (3, 0) else if t = 42 then (4, 0) else if t = 47 then (5, 0) else if t = 37 then (6, 0) else if t = 60 then (7, 0) else if t = 62 then (8, 0) else if t = 61 then (9, 0)
  else if t = 261 then (10, 0) else if t = 260 then (11, w) else if t = 259 then (12, w) else (13, 0)
/-- a TEST tells 0 or 1 -/
def dn_01 (f : dn) : Prop := ∀ env v, f env = some v → v = 0 ∨ v = 1
/-- over words that aren't far a SUM isn't -/
def dn_bd (f : dn) : Prop := ∀ env v, (∀ i, -1000000 ≤ env i ∧ env i ≤ 1000000) → f env = some v → -1000000000 ≤ v ∧ v ≤ 1000000000
/-- a CLAUSE: its head (0 counts, 1 feeds, 2 hungers, 3 bars), its TEST, its SUM -/
abbrev cl_T : Type := Nat × Option dn × Option dn
def rl_code (ord : Bool) (op arg : Nat → Int32) (c : ab_C) (a b : Nat) : Prop := ∀ k, a ≤ k → k < b → ∃ x y, op k = nI x ∧ arg k = nI y ∧ rc_ok ord x y ∧ c k = rc_dec ord x y
def rl_ok (ord : Bool) (op arg : Nat → Int32) (a b : Int32) (o : Option dn) : Prop := match o with
  | some f => ∃ x y h c, a = nI x ∧ b = nI y ∧ y ≤ 400 ∧ h ≤ 50 ∧ rl_code ord op arg c x y ∧ ab_seg c x y f h
  | none => a = b
def cl_code (code : Nat → Int32) (W : Nat) (c : ab_C) (a b : Nat) : Prop := ∀ k, a ≤ k → k < b → ∃ t w, code k = nI (512 * w + t) ∧ t < 512 ∧ w ≤ 1000 ∧ c k = cc_dec t w ∧ (c k).1 < 13 ∧ (t = 258 → w < W)
def cl_ok (code : Nat → Int32) (W len : Nat) (a : Int32) (o : Option dn) : Prop := match o with
  | some f => ∃ x y h c, a = nI x ∧ y < len ∧ len ≤ 448 ∧ h ≤ 50 ∧ cl_code code W c x y ∧ code y = nI 257 ∧ ab_seg c x y f h
  | none => a = -1
/-- a LAW as it lies in the reference's row -/
def iv_LR (r : Nat → Int32) (n : Nat) (cs : Nat → cl_T) : Prop := r 1 = nI n ∧ ∀ i, i < n → r (2 + 8 * i) = nI (cs i).1 ∧ rl_ok false (fun k => r (98 + 2 * k)) (fun k => r (98 + 2 * k + 1)) (r (2 + 8 * i + 3)) (r (2 + 8 * i + 4)) (cs i).2.2 ∧ rl_ok false (fun k => r (98 + 2 * k)) (fun k => r (98 + 2 * k + 1)) (r (2 + 8 * i + 5)) (r (2 + 8 * i + 6)) (cs i).2.1
/-- a LAW as the class has it -/
def iv_LC (o heads code : Nat → Int32) (nh nc : Nat) (n : Nat) (cs : Nat → cl_T) : Prop := o 2 = nI n ∧ o 3 = nI nc ∧ nh = 6 * n ∧ nc ≤ 448 ∧ ∀ i, i < n → heads (6 * i) = nI (266 + (cs i).1) ∧ cl_ok code 8 nc (heads (6 * i + 2)) (cs i).2.1 ∧ cl_ok code 8 nc (heads (6 * i + 3)) (cs i).2.2
def iv_cs (n : Nat) (cs : Nat → cl_T) : Prop := n ≤ 12 ∧ ∀ i, i < n → (cs i).1 ≤ 3 ∧ ((cs i).1 = 3 ↔ (cs i).2.2 = none) ∧ (∀ f, (cs i).2.1 = some f → dn_01 f) ∧ ∀ f, (cs i).2.2 = some f → dn_bd f
def iv_L (m : am_m) (s : Nat) (r : Nat → Int32) : Prop := ∃ n cs, iv_cs n cs ∧ iv_LR r n cs ∧ iv_LC (m.1 5 s) (m.1 28 s) (m.1 29 s) (m.2.2.2.2.2.2.1 28 s) (m.2.2.2.2.2.2.1 29 s) n cs
/-- a row of the reference: what may lie in it (the DAY, and when a HARM was done: D at most) -/
def iv_W (D : Nat) (r : Nat → Int32) : Prop :=
  (∀ k, k < 118 → k ≠ 3 → r k = nI (nv (r k))) ∧ nv (r 0) ≤ 7 ∧ nv (r 1) ≤ 6 ∧ nv (r 2) ≤ 6 ∧ (r 3 = -1 ∨ (r 3 = nI (nv (r 3)) ∧ nv (r 3) < nv (r 2))) ∧ nv (r 4) ≤ D ∧ nv (r 5) ≤ 10 ∧ nv (r 6) ≤ 9 ∧ (∀ k, k < 7 → nv (r (7 + k)) ≤ 9) ∧
  (∀ p q, p < 7 → q < 7 → nv (r (14 + (7 * p + q))) ≤ 9 ∧ (0 < nv (r (14 + (7 * p + q))) → p < nv (r 0) ∧ q < nv (r 0) ∧ p ≠ q)) ∧ (∀ k, k < 49 → nv (r (63 + k)) ≤ D) ∧ ∀ k, k < 6 → nv (r (112 + k)) < 128
/-- an upland of the class holds what that row holds -/
def iv_V (o fed weight since term seen : Nat → Int32) (r : Nat → Int32) : Prop :=
  o 0 = r 0 ∧ o 1 = r 1 ∧ o 2 = r 2 ∧ o 3 = r 3 ∧ (∀ k, k < 3 → term k = r (4 + k)) ∧ (∀ k, k < 7 → fed k = r (7 + k)) ∧ (∀ k, k < 49 → weight k = r (14 + k)) ∧ (∀ k, k < 49 → 0 < nv (r (14 + k)) → since k = r (63 + k)) ∧ ∀ k, k < 6 → seen k = r (112 + k)
def iv_U (m : am_m) (u : Nat) (r : Nat → Int32) : Prop := iv_V (m.1 8 u) (m.1 36 u) (m.1 37 u) (m.1 38 u) (m.1 39 u) (m.1 40 u) r
/-- and its LAWS -/
def iv_K (m : am_m) (u : Nat) (r : Nat → Int32) : Prop := ∀ k, k < nv (r 2) → ∃ s, 1 ≤ s ∧ s < m.2.2.2.2.2.2.2 5 ∧ m.2.2.2.2.1 u k = some s ∧ iv_L m s (fun j => r (118 + 900 * k + j))
/-- what a deed left behind: a before it, b behind it (as a snapshot has them), d as the class keeps it -/
def iv_step (n : Nat) (a b d : Nat → Int32) : Prop := a 1 = b 1 ∧ a 2 = b 2 ∧ d 5 = a 0 ∧ (∀ k, k < 7 → d (6 + k) = a (3 + k)) ∧
  ∀ p q, p < 7 → q < 7 → if d 1 = nI p ∧ d 2 = nI q ∧ p < n ∧ q < n ∧ p ≠ q then d 3 = a (10 + (7 * p + q)) ∧ (0 < nv (a (10 + (7 * p + q))) → d 4 = a (59 + (7 * p + q))) else a (10 + (7 * p + q)) = b (10 + (7 * p + q)) ∧ (0 < nv (a (10 + (7 * p + q))) → a (59 + (7 * p + q)) = b (59 + (7 * p + q)))
/-- the row with a snapshot put into it -/
def iv_put (r s : Nat → Int32) : Nat → Int32 := fun k => if 4 ≤ k ∧ k < 112 then s (k - 4) else r k
def iv_H (kept : Int32) (deeds : Nat → Int32) (nU : Int32) (undos sorts r : Nat → Int32) : Prop := kept = nU ∧ ∃ K, K ≤ 16 ∧ nU = nI K ∧ ∀ j, j < K → sorts j = deeds (13 * j) ∧ (∃ z, z ≤ 3 ∧ sorts j = nI z) ∧ iv_W 999 (iv_put r (fun i => undos (108 * j + i))) ∧ iv_step (nv (r 0)) (fun i => undos (108 * j + i)) (if j + 1 = K then fun i => r (4 + i) else fun i => undos (108 * (j + 1) + i)) (fun i => deeds (13 * j + i))
def iv_img (m : am_m) (j : Nat) : Nat → Int32 := fun k => m.1 45 0 (5518 * j + k)
def iv_G (m : am_m) : Prop := (∀ j, j < 2 → (m.1 91 0 j = 0 ∧ m.2.2.2.2.2.1 0 j = none) ∨ (m.1 91 0 j = 1 ∧ ∃ u, 3 ≤ u ∧ u < m.2.2.2.2.2.2.2 8 ∧ m.2.2.2.2.2.1 0 j = some u ∧ iv_W 999 (iv_img m j) ∧ iv_U m u (iv_img m j) ∧ iv_K m u (iv_img m j))) ∧ ∀ u, m.2.2.2.2.2.1 0 0 = some u → m.2.2.2.2.2.1 0 1 = some u → False
def iv_D (dn : Int32) (drawn : Nat → Int32) (o : Int32) (fed weight : Nat → Int32) : Prop := (dn = -1 ∧ o = 0) ∨ ∃ n, n ≤ 7 ∧ dn = nI n ∧ o = nI n ∧ (∀ k, k < 7 → fed k = drawn (3 + k)) ∧ ∀ k, k < 49 → weight k = drawn (10 + k)
def iv_T (len : Int32) (bytes : Nat → Int32) (taped : Int32) (tape : Nat → Int32) : Prop := len = taped ∧ ∃ n, n ≤ 400 ∧ taped = nI n ∧ ∀ k, k < n → bytes k = tape k ∧ ∃ b, b < 256 ∧ tape k = nI b
def iv_X (m : am_m) : Prop := m.1 9 0 15 = m.1 10 0 11 ∧ m.1 9 0 16 = m.1 10 0 57 ∧ m.1 4 0 10 = m.1 10 0 18 ∧ m.1 10 0 20 = 0
/-- status, and what was refused -/
def iv_S (m : am_m) : Prop := m.1 9 0 17 = m.1 10 0 1 ∧ ∀ k, 1 ≤ k → k < 7 → m.1 42 0 k = m.1 43 0 k
def iv_A (e : am_e) : Prop := (∀ c n, c < 18 → e.2.2.2.2.1 c n = 0) ∧ e.2.2.2.2.1 28 0 = 72 ∧ e.2.2.2.2.1 29 0 = 448 ∧ 1 ≤ e.2.2.2.2.2 5 ∧ e.2.2.2.2.2 28 = e.2.2.2.2.2 5 ∧ e.2.2.2.2.2 29 = e.2.2.2.2.2 5 ∧ 3 ≤ e.2.2.2.2.2 8 ∧ (∀ c, 36 ≤ c → c ≤ 40 → e.2.2.2.2.2 c = e.2.2.2.2.2 8) ∧ e.2.2.2.2.2 100 = e.2.2.2.2.2 8 ∧ ∀ n, e.2.2.2.2.2 8 ≤ n → e.2.2.1 n = fun _ => none
def iv_C (G : Nat → Nat → Nat → Int64) : Prop := (∀ k, k < 8 → G 82 0 k = [146610, 16392370, 777297172, 1253, 6308, 632645, 4153, 441828].getD k 0) ∧ (∀ k, k < 7 → G 83 0 k = [4153, 146885, 404362868, 8440243, 674363024839, 6308, 52].getD k 0) ∧ (∀ k, k < 4 → G 84 0 k = [117095059, 6460563, 9309492819, 67155].getD k 0) ∧ ∀ k, k < 4 → G 89 0 k = [263757, 6456948, 538513902, 525939].getD k 0
def Inv0 (m : am_m) : Prop := iv_W 999 (m.1 44 0) ∧ iv_U m 0 (m.1 44 0) ∧ iv_K m 0 (m.1 44 0) ∧ iv_H (m.1 3 0 1) (m.1 24 0) (m.1 10 0 8) (m.1 46 0) (m.1 47 0) (m.1 44 0) ∧ iv_G m ∧ iv_D (m.1 10 0 61) (m.1 63 0) (m.1 8 2 0) (m.1 36 2) (m.1 37 2) ∧ iv_T (m.1 7 0 1) (m.1 35 0) (m.1 10 0 13) (m.1 50 0) ∧ iv_X m ∧ iv_A m.2.2 ∧ iv_C m.2.1
def Inv (m : am_m) : Prop := Inv0 m ∧ iv_S m
