/-! tables, newHarms -/
section TN
variable {m : am_m} {M A B : Nat → Nat → Bool} {n : Nat} {md : Bool}
theorem cbegin_ok (hn : n ≤ 7) (hcM : ∀ a b, M a b = M b a) (hcA : ∀ a b, A a b = A b a) (hB : B = if md then (fun a b => !M a b) else A) (hc : clsR n (rowOf n M) m) (hbar : md = false → ∀ a, a < n → m.1 31 0 a = nI (rowOf n A a)) (hmd : m.1 2 0 0 = bv md) (tr : Nat → Nat) : ∃ m', fn_X2_begin m = some m' ∧ cB n (pdf (wrt md M B n) n 0 0 tr none) m' ∧ m'.1 2 0 1 = nI n := by
  have hx : cX md n M A (am_si (am_si m 2 0 1 (m.1 6 0 0)) 2 0 2 (-1)) := ⟨hc.of rfl rfl, hbar, hmd, hc.1⟩
  obtain ⟨m', e1, e2, e3, e4, e5⟩ := clev (B := B) hn hcM hcA hB n 0 tr 0 none (am_si (am_si m 2 0 1 (m.1 6 0 0)) 2 0 2 (-1)) 10 (by omega) (by omega) hx (fun i hi => absurd hi (Nat.not_lt_zero _)) (fun b hb => absurd hb (Nat.not_lt_zero _)) (fun t ht => absurd ht (Nat.not_lt_zero _)) (fun i hi => absurd hi (Nat.not_lt_zero _)) rfl rfl
  refine ⟨m', ?_, e4, ?_⟩
  · unfold fn_X2_begin
    have e1 : am_pl 10 0 0 0 (am_si (am_si m 2 0 1 (m.1 6 0 0)) 2 0 2 (-1)) = some m' := e1
    rw [e1, bd_s]
  · rw [e5.fld 2 0 1 rfl]; exact hc.1
/-- what is answered of the best -/
def paA (n : Nat) (b : pB) (a : Int32) : Int32 := match b with
  | none => -1
  | some q => if a < 0 then -1 else if a ≤ nI n then (if a = 0 then nI q.1 else nI (q.2 (nv a - 1))) else -1
theorem canswer_ok {b : pB} {a : Int32} (hn : n ≤ 7) (h : cB n b m) (h2 : m.1 2 0 1 = nI n) : fn_X2_answer a m = some (paA n b a) := by
  unfold fn_X2_answer
  cases b with
  | none =>
    have h : m.1 2 0 2 = -1 := h
    rw [if_pos h]
    rfl
  | some q =>
    obtain ⟨b1, b2, b3⟩ := h
    rw [b1, if_neg (nI_m1 (by omega)), h2]
    unfold paA
    by_cases a0 : a < 0
    · rw [if_pos a0]; show _ = some (if a < 0 then _ else _); rw [if_pos a0]
    · rw [if_neg a0]
      show _ = some (if a < 0 then _ else _)
      rw [if_neg a0]
      by_cases a1 : a ≤ nI n
      · rw [if_pos a1, if_pos a1]
        by_cases a2 : a = 0
        · rw [if_neg (fun z => z a2), if_pos a2]
        · obtain ⟨x, hx, rfl⟩ := nI_of a0
          have x0 : x ≠ 0 := fun z => a2 (by rw [z]; rfl)
          have xn : x ≤ n := (nI_leI hx (by omega)).mp a1
          rw [if_pos a2, if_neg a2, show (1 : Int32) = nI 1 from rfl, pk_sub (by omega), ck_in (by omega) (by decide), nI_clamp (by omega), b3 (x - 1) (by omega), nv_nI hx]
      · rw [if_neg a1, if_neg a1]
theorem ranswer_ok {b : pB} {a : Int32} (hn : n ≤ 7) (h : rB n b m) (ha : 0 ≤ a ∧ a ≤ nI n) : (if (m.1 10 0 46) ≠ (100000000 : Int32) then (if a ≠ 0 then am_ck (a - (1 : Int32)) 7 (some ((m.1 58 0 (a - (1 : Int32)).toNatClampNeg), m)) else some ((m.1 10 0 46), m)) else some ((-1), m)) = some (paA n b a, m) := by
  cases b with
  | none =>
    have h : m.1 10 0 46 = 100000000 := h
    rw [if_neg (fun z => z h)]
    rfl
  | some q =>
    obtain ⟨b1, b2, b3⟩ := h
    rw [b1, if_pos (show nI q.1 ≠ (100000000 : Int32) from nI_ne (b := 100000000) (by omega) (by decide) (by omega))]
    unfold paA
    have a0 := an_nn ha.1
    show _ = some ((if a < 0 then _ else _), m)
    rw [if_neg a0, if_pos ha.2]
    by_cases a2 : a = 0
    · rw [if_neg (fun z => z a2), if_pos a2]
    · obtain ⟨x, hx, rfl⟩ := nI_of a0
      have x0 : x ≠ 0 := fun z => a2 (by rw [z]; rfl)
      have xn : x ≤ n := (nI_leI hx (by omega)).mp ha.2
      rw [if_pos a2, if_neg a2, show (1 : Int32) = nI 1 from rfl, pk_sub (by omega), ck_in (by omega) (by decide), nI_clamp (by omega), b3 (x - 1) (by omega), nv_nI hx]
theorem paA_no {b : pB} {a : Int32} (h : ¬ (0 ≤ a ∧ a ≤ nI n)) : paA n b a = -1 := by
  cases b with
  | none => rfl
  | some q =>
    unfold paA
    show (if a < 0 then _ else _) = _
    by_cases a0 : a < 0
    · rw [if_pos a0]
    · rw [if_neg a0, if_neg (fun z => h ⟨fa_of_nlt a0, z⟩)]
end TN
theorem op_tables {m : am_m} (h : Inv m) (a : Int32) : op_ok m (fun m => fn_X9_tables a m) (fun m => fn_X10_tables a m) := by
  obtain ⟨n, R, lw, m1, en, eR, gd, e44, e8, e1, c1, j1, f1, ref⟩ := both_ok h
  have hn := gd.1
  subst eR
  generalize hM : mtx (m.1 44 0) lw = M at *
  generalize hA : atx (m.1 44 0) lw = A at *
  have hcM : ∀ a b, M a b = M b a := by rw [← hM]; exact mtx_comm _ _
  have hcA : ∀ a b, A a b = A b a := by rw [← hA]; exact atx_comm _ _
  obtain ⟨m2, e2, b2, f2⟩ := cbegin_ok (md := true) (B := fun a b => !M a b) (m := am_si m1 2 0 0 1) hn hcM hcA rfl (c1.of rfl rfl) (fun z => by cases z) rfl (fun _ => 0)
  have hlook := fun (r : Int32) => op_look (f := fun m => fn_X9_tables a m) (g := fun m => fn_X10_tables a m) h (fun t => kp_X9_tables a m t) (fun m1 t => kp_X10_tables a m1 t) rfl rfl rfl r
  have hin : ∀ m1' : am_m, m1'.1 44 = m.1 44 → fn_X10_in a.toInt64 0 ((m1'.1 44 0 0).toInt64) (am_si m1' 10 0 0 0) = some (if 0 ≤ a ∧ a ≤ nI n then 1 else 0) := fun m1' e => by
    rw [e, e44, show (0 : Int64) = (0 : Int32).toInt64 from rfl, in_32]
  refine hlook (paA n (pdf (wrt true M (fun a b => !M a b) n) n 0 0 (fun _ => 0) none) a) ⟨m2, ?_⟩ (fun m1' i1 f1' => ?_)
  · show fn_X9_tables a m = _
    unfold fn_X9_tables fn_X2_intoTables
    rw [e1, bd_s, e2, bd_s, bd_s, canswer_ok hn b2 f2, bd_s]
  · show ∃ m2, fn_X10_tables a m1' = _
    unfold fn_X10_tables
    rw [hin m1' f1', bd_s]
    by_cases ha : 0 ≤ a ∧ a ≤ nI n
    · obtain ⟨m3, e3, r3, l3, f3⟩ := ref m1' i1 f1'
      obtain ⟨m4, e4, b4⟩ := rfind_ok (md := true) (B := fun a b => !M a b) hn hcM rfl l3 r3.1 (fun _ => 0)
      have e4 : fn_X10_findParts 1 m3 = some m4 := e4
      rw [if_pos ha, if_pos (by decide), e3, bd_s, e4, bd_s, ranswer_ok hn b4 ha]
      exact ⟨_, rfl⟩
    · rw [if_neg ha, if_neg (by decide), paA_no ha]
      exact ⟨_, rfl⟩
theorem op_newHarms {m : am_m} (h : Inv m) (a : Int32) : op_ok m (fun m => fn_X9_newHarms a m) (fun m => fn_X10_newHarms a m) := by
  obtain ⟨n, R, lw, m1, en, eR, gd, e44, e8, e1, c1, j1, f1, ref⟩ := both_ok h
  have hn := gd.1
  subst eR
  obtain ⟨mb, eb, zb⟩ := lookAtBars_ok j1 (by decide) (by rw [← en]; exact c1.1)
  have kb := kp_X6_lookAtBars _ _ eb
  rw [← en] at zb
  generalize hM : mtx (m.1 44 0) lw = M at *
  generalize hA : atx (m.1 44 0) lw = A at *
  have hcM : ∀ a b, M a b = M b a := by rw [← hM]; exact mtx_comm _ _
  have hcA : ∀ a b, A a b = A b a := by rw [← hA]; exact atx_comm _ _
  obtain ⟨m2, e2, b2, f2⟩ := cbegin_ok (md := false) (B := A) (m := am_si mb 2 0 0 0) hn hcM hcA rfl (c1.of (by show mb.1 6 0 0 = _; rw [kb.fld 6 0 0 rfl]) (by show mb.1 30 = _; rw [kb.row 30 rfl])) (fun _ a ha => zb a ha) rfl (fun _ => 0)
  have hlook := fun (r : Int32) => op_look (f := fun m => fn_X9_newHarms a m) (g := fun m => fn_X10_newHarms a m) h (fun t => kp_X9_newHarms a m t) (fun m1 t => kp_X10_newHarms a m1 t) rfl rfl rfl r
  have hin : ∀ m1' : am_m, m1'.1 44 = m.1 44 → fn_X10_in a.toInt64 0 ((m1'.1 44 0 0).toInt64) (am_si m1' 10 0 0 0) = some (if 0 ≤ a ∧ a ≤ nI n then 1 else 0) := fun m1' e => by
    rw [e, e44, show (0 : Int64) = (0 : Int32).toInt64 from rfl, in_32]
  refine hlook (paA n (pdf (wrt false M A n) n 0 0 (fun _ => 0) none) a) ⟨m2, ?_⟩ (fun m1' i1 f1' => ?_)
  · show fn_X9_newHarms a m = _
    unfold fn_X9_newHarms fn_X2_intoSets
    rw [e1, bd_s, eb, bd_s, e2, bd_s, bd_s, canswer_ok hn b2 f2, bd_s]
  · show ∃ m2, fn_X10_newHarms a m1' = _
    unfold fn_X10_newHarms
    rw [hin m1' f1', bd_s]
    by_cases ha : 0 ≤ a ∧ a ≤ nI n
    · obtain ⟨m3, e3, r3, l3, f3⟩ := ref m1' i1 f1'
      obtain ⟨m4, e4, b4⟩ := rfind_ok (md := false) (B := A) hn hcM rfl l3 r3.1 (fun _ => 0)
      have e4 : fn_X10_findParts 0 m3 = some m4 := e4
      rw [if_pos ha, if_pos (by decide), e3, bd_s, e4, bd_s, ranswer_ok hn b4 ha]
      exact ⟨_, rfl⟩
    · rw [if_neg ha, if_neg (by decide), paA_no ha]
      exact ⟨_, rfl⟩
