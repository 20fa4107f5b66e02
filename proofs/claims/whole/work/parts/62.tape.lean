/-! the tape: feed, end, row -/
theorem am_si_same {m : am_m} {c n k : Nat} {v : Int32} (h : m.1 c n k = v) : am_si m c n k v = m := by
  have : am_u3 m.1 c n k v = m.1 := by
    funext c' n' k'
    by_cases e : c' = c ∧ n' = n ∧ k' = k
    · obtain ⟨rfl, rfl, rfl⟩ := e
      unfold am_u3
      rw [if_pos rfl, if_pos rfl, if_pos rfl, h]
    · exact am_u3_nq e
  unfold am_si
  rw [this]
abbrev lvT : List (Nat × Nat) := (9, 17) :: (10, 1) :: (42, 0) :: (43, 0) :: (7, 1) :: (35, 0) :: (10, 13) :: (50, 0) :: (9, 15) :: (10, 11) :: lv0
def hT (m : am_m) : Prop := iv_T (m.1 7 0 1) (m.1 35 0) (m.1 10 0 13) (m.1 50 0)
section TP
variable {m m' : am_m}
theorem Inv0.tp {WI : List (Nat × Nat)} (h : Inv0 m) (k : am_kp WI sc_L 1 m m') (hk : am_sub WI lvT = true) (hU : ∀ u, u ≠ 0 → sm_U m m' u) (hw : iv_W 999 (m'.1 44 0)) (hu : iv_U m' 0 (m'.1 44 0)) (h2 : m'.1 44 0 2 = m.1 44 0 2) (h118 : ∀ j, 118 ≤ j → m'.1 44 0 j = m.1 44 0 j) (hh : hH m') (ht : hT m') (hc : m'.1 9 0 15 = m'.1 10 0 11) : Inv0 m' := by
  have k : am_kp lvT sc_L 1 m m' := k.mono (by rw [hk]; rfl)
  obtain ⟨h1, h2', h3, h4, h5, h6, h7, h8, h9, h10⟩ := h
  have he : m'.2.2.2.2 = m.2.2.2.2 := k.2.2
  have hS : sm_S m m' := sm_S.of5 (k.obj 5 rfl) (k.row 28 rfl) (k.row 29 rfl)
  refine ⟨hw, hu, h3.of h2 h118 hS (by rw [he]) (by rw [he]), hh, h5.of (by rw [k.row 45 rfl]) (by rw [k.row 91 rfl]) (fun u hu => hU u (by omega)) hS he, ?_, ht, ?_, h9.of he, ?_⟩
  · have e2 := hU 2 (by decide)
    rw [k.fld 10 0 61 rfl, k.row 63 rfl, e2.1, e2.2.1, e2.2.2.1]; exact h6
  · refine ⟨hc, ?_⟩
    rw [k.fld 9 0 16 rfl, k.fld 10 0 57 rfl, k.fld 4 0 10 rfl, k.fld 10 0 18 rfl, k.fld 10 0 20 rfl]
    exact h8.2
  · exact h10.of (k.rowL 82 rfl) (k.rowL 83 rfl) (k.rowL 84 rfl) (k.rowL 89 rfl)
/-- a call that changes the tape alone -/
theorem Inv.tape {WI : List (Nat × Nat)} (h : Inv m) (k : am_kp WI [] 0 m m') (hk : am_sub WI [(7, 1), (35, 0), (10, 0), (10, 13), (50, 0)] = true) (ht : hT m') : Inv m' := by
  have k : am_kp [(7, 1), (35, 0), (10, 0), (10, 13), (50, 0)] [] 0 m m' := k.mono (by rw [hk]; rfl)
  have e44 : m'.1 44 = m.1 44 := k.row 44 rfl
  have hU : ∀ u, sm_U m m' u := sm_U.kp k rfl
  refine ⟨Inv0.tp (WI := [(7, 1), (35, 0), (10, 0), (10, 13), (50, 0)]) h.1 (am_kp.mono k rfl) rfl (fun u _ => hU u) (by rw [e44]; exact h.w) (by rw [e44]; exact h.u.of (hU 0)) (by rw [e44]) (fun j _ => by rw [e44]) ?_ ht ?_, h.2.kp k rfl⟩
  · have := h.1.2.2.2.1
    unfold hH
    rw [e44, k.fld 3 0 1 rfl, k.row 24 rfl, k.fld 10 0 8 rfl, k.row 46 rfl, k.row 47 rfl]
    exact this
  · rw [k.fld 9 0 15 rfl, k.fld 10 0 11 rfl]
    exact h.1.2.2.2.2.2.2.2.1.1
theorem Inv.T (h : Inv m) : ∃ n, n ≤ 400 ∧ m.1 7 0 1 = nI n ∧ m.1 10 0 13 = nI n ∧ ∀ k, k < n → m.1 35 0 k = m.1 50 0 k ∧ ∃ b, b < 256 ∧ m.1 50 0 k = nI b := by
  obtain ⟨h1, n, h2, h3, h4⟩ := h.1.2.2.2.2.2.2.1
  exact ⟨n, h2, h1.trans h3, h3, h4⟩
/-- a byte of a number -/
def bt4 (a : Int32) (j : Nat) : Int32 := (a >>> (nI (24 - 8 * j) &&& 31)) &&& 255
theorem bt4_b (a : Int32) (j : Nat) : ∃ b, b < 256 ∧ bt4 a j = nI b := pk_andE _ 8 (by decide)
theorem take_lp (a : Int32) (N : Nat) : ∀ (j n : Nat) (m : am_m), j ≤ 4 → n + j ≤ 400 → m.1 7 0 1 = nI n → ∃ m', lp_X7_take_3 (N + j + 1) a (nI (8 * j) - 8) m = some m' ∧ m'.1 7 0 1 = nI (n + j) ∧ ∀ k, m'.1 35 0 k = if n ≤ k ∧ k < n + j then bt4 a (k - n + (4 - j)) else m.1 35 0 k
  | 0, n, m, _, _, h7 => by
    refine ⟨m, ?_, h7, fun k => (if_neg (by omega)).symm⟩
    rw [lp_X7_take_3.eq_2, if_pos (by decide)]
  | j + 1, n, m, hj, hn, h7 => by
    obtain ⟨m', e1, e2, e3⟩ := take_lp a N j (n + 1) (am_si (am_si m 35 0 n (bt4 a (3 - j))) 7 0 1 (nI (n + 1))) (by omega) (by omega) rfl
    refine ⟨m', ?_, by rw [e2, show n + 1 + j = n + (j + 1) by omega], fun k => ?_⟩
    · rw [lp_X7_take_3.eq_2, show (8 : Int32) = nI 8 from rfl, pk_sub (by omega), if_neg (nI_pos (by omega)), h7, if_neg (show ¬ (400 : Int32) ≤ nI n from nI_ge (b := 400) (by omega) (by decide)), ck_in (by omega) (by decide), nI_clamp (by omega), bd_s, nI_1, show 8 * (j + 1) - 8 = 8 * j by omega]
      rw [show N + (j + 1) = N + j + 1 by omega, ← e1]
      unfold bt4
      rw [show 24 - 8 * (3 - j) = 8 * j by omega]
      rfl
    · rw [e3]
      by_cases c1 : n + 1 ≤ k ∧ k < n + 1 + j
      · rw [if_pos c1, if_pos (by omega)]
        congr 1
        omega
      · rw [if_neg c1]
        show (am_si m 35 0 n (bt4 a (3 - j))).1 35 0 k = _
        rw [rd_j]
        by_cases c2 : k = n
        · rw [if_pos c2, if_pos (by omega), c2]
          congr 1
          omega
        · rw [if_neg c2, if_neg (by omega)]
theorem take_ok {n : Nat} (a : Int32) (h7 : m.1 7 0 1 = nI n) (hn : n + 4 ≤ 400) : ∃ m', fn_X7_take a m = some m' ∧ m'.1 7 0 1 = nI (n + 4) ∧ ∀ k, m'.1 35 0 k = if n ≤ k ∧ k < n + 4 then bt4 a (k - n) else m.1 35 0 k := by
  obtain ⟨m', e1, e2, e3⟩ := take_lp a 999995 4 n m (by decide) hn h7
  refine ⟨m', ?_, e2, fun k => by rw [e3]; rfl⟩
  unfold fn_X7_take
  have e1 : lp_X7_take_3 1000000 a 24 m = some m' := e1
  rw [e1, bd_s]
theorem four_lp (a : Int32) (N : Nat) : ∀ (j n : Nat) (m : am_m), j ≤ 4 → n + j ≤ 400 → m.1 10 0 13 = nI n → ∃ m', lp_X10_four_3 (N + j + 1) a (nI (8 * j) - 8) m = some m' ∧ m'.1 10 0 13 = nI (n + j) ∧ ∀ k, m'.1 50 0 k = if n ≤ k ∧ k < n + j then bt4 a (k - n + (4 - j)) else m.1 50 0 k
  | 0, n, m, _, _, h7 => by
    refine ⟨m, ?_, h7, fun k => (if_neg (by omega)).symm⟩
    rw [lp_X10_four_3.eq_2, if_pos (by decide)]
  | j + 1, n, m, hj, hn, h7 => by
    obtain ⟨m', e1, e2, e3⟩ := four_lp a N j (n + 1) (am_si (am_si m 50 0 n (bt4 a (3 - j))) 10 0 13 (nI (n + 1))) (by omega) (by omega) rfl
    refine ⟨m', ?_, by rw [e2, show n + 1 + j = n + (j + 1) by omega], fun k => ?_⟩
    · rw [lp_X10_four_3.eq_2, show (8 : Int32) = nI 8 from rfl, pk_sub (by omega), if_neg (nI_pos (by omega)), h7, ck_in (by omega) (by decide), nI_clamp (by omega), nI_1, show 8 * (j + 1) - 8 = 8 * j by omega]
      rw [show N + (j + 1) = N + j + 1 by omega, ← e1]
      unfold bt4
      rw [show 24 - 8 * (3 - j) = 8 * j by omega]
      rfl
    · rw [e3]
      by_cases c1 : n + 1 ≤ k ∧ k < n + 1 + j
      · rw [if_pos c1, if_pos (by omega)]
        congr 1
        omega
      · rw [if_neg c1]
        show (am_si m 50 0 n (bt4 a (3 - j))).1 50 0 k = _
        rw [rd_j]
        by_cases c2 : k = n
        · rw [if_pos c2, if_pos (by omega), c2]
          congr 1
          omega
        · rw [if_neg c2, if_neg (by omega)]
theorem four_ok {n : Nat} (a : Int32) (h7 : m.1 10 0 13 = nI n) (hn : n + 4 ≤ 400) : ∃ m', fn_X10_four a m = some m' ∧ m'.1 10 0 13 = nI (n + 4) ∧ ∀ k, m'.1 50 0 k = if n ≤ k ∧ k < n + 4 then bt4 a (k - n) else m.1 50 0 k := by
  obtain ⟨m', e1, e2, e3⟩ := four_lp a 999995 4 n m (by decide) hn h7
  refine ⟨m', ?_, e2, fun k => by rw [e3]; rfl⟩
  unfold fn_X10_four
  have e1 : lp_X10_four_3 1000000 a 24 m = some m' := e1
  rw [e1, bd_s]
theorem tp_step {n : Nat} {a : Int32} {A B A' B' : Nat → Int32} (h : ∀ k, k < n → A k = B k ∧ ∃ b, b < 256 ∧ B k = nI b) (hA : ∀ k, A' k = if n ≤ k ∧ k < n + 4 then bt4 a (k - n) else A k) (hB : ∀ k, B' k = if n ≤ k ∧ k < n + 4 then bt4 a (k - n) else B k) : ∀ k, k < n + 4 → A' k = B' k ∧ ∃ b, b < 256 ∧ B' k = nI b := by
  intro k hk
  rw [hA, hB]
  by_cases c : n ≤ k ∧ k < n + 4
  · rw [if_pos c, if_pos c]
    exact ⟨rfl, bt4_b _ _⟩
  · rw [if_neg c, if_neg c]
    exact h k (by omega)
theorem op_feed (h : Inv m) (a b c d e : Int32) : op_ok m (fun m => fn_X9_feed a b c d e m) (fun m => fn_X10_feed a b c d e m) := by
  obtain ⟨n, hn, e7, e13, hb⟩ := h.T
  by_cases hr : n ≤ 380
  · obtain ⟨m1, a1, a2, a3⟩ := take_ok a e7 (by omega)
    obtain ⟨m2, b1, b2, b3⟩ := take_ok b a2 (by omega)
    obtain ⟨m3, c1, c2, c3⟩ := take_ok c b2 (by omega)
    obtain ⟨m4, d1, d2, d3⟩ := take_ok d c2 (by omega)
    obtain ⟨m5, f1, f2, f3⟩ := take_ok e d2 (by omega)
    have kc : am_kp [(7, 1), (35, 0)] [] 0 m m5 := (kp_X7_take _ _ _ a1).tr ((kp_X7_take _ _ _ b1).tr ((kp_X7_take _ _ _ c1).tr ((kp_X7_take _ _ _ d1).tr (kp_X7_take _ _ _ f1))))
    have g13 : (am_si m5 10 0 0 0).1 10 0 13 = nI n := by
      show m5.1 10 0 13 = _
      rw [kc.fld 10 0 13 rfl]; exact e13
    obtain ⟨n1, p1, p2, p3⟩ := four_ok a g13 (by omega)
    obtain ⟨n2, q1, q2, q3⟩ := four_ok b p2 (by omega)
    obtain ⟨n3, r1, r2, r3⟩ := four_ok c q2 (by omega)
    obtain ⟨n4, s1, s2, s3⟩ := four_ok d r2 (by omega)
    obtain ⟨n5, t1, t2, t3⟩ := four_ok e s2 (by omega)
    have kr : am_kp [(10, 13), (50, 0)] [] 0 (am_si m5 10 0 0 0) n5 := (kp_X10_four _ _ _ p1).tr ((kp_X10_four _ _ _ q1).tr ((kp_X10_four _ _ _ r1).tr ((kp_X10_four _ _ _ s1).tr (kp_X10_four _ _ _ t1))))
    have kall : am_kp [(7, 1), (35, 0), (10, 0), (10, 13), (50, 0)] [] 0 m n5 := (am_kp.mono kc rfl).tr ((am_kp.si am_kp.rf rfl).tr (am_kp.mono kr rfl))
    refine ⟨nI (n + 20), m5, n5, ?_, ?_, h.tape kall rfl ?_⟩
    · show fn_X9_feed a b c d e m = _
      unfold fn_X9_feed
      rw [e7, if_pos (show nI n ≤ (380 : Int32) from nI_le (b := 380) hr (by decide)), a1, bd_s, b1, bd_s, c1, bd_s, d1, bd_s, f1, bd_s, f2]
    · show fn_X10_feed a b c d e m5 = _
      unfold fn_X10_feed
      rw [show m5.1 10 0 13 = nI n from g13, show (20 : Int32) = nI 20 from rfl, nI_add, if_pos (show nI (n + 20) ≤ (400 : Int32) from nI_le (b := 400) (by omega) (by decide)), p1, bd_s, q1, bd_s, r1, bd_s, s1, bd_s, t1, bd_s, t2]
    · have e35 : n5.1 35 = m5.1 35 := kr.row 35 rfl
      have e71 : n5.1 7 0 1 = m5.1 7 0 1 := kr.fld 7 0 1 rfl
      have p3 : ∀ k, n1.1 50 0 k = if n ≤ k ∧ k < n + 4 then bt4 a (k - n) else m.1 50 0 k := fun k => by
        rw [p3 k, show (am_si m5 10 0 0 0).1 50 = m.1 50 from kc.row 50 rfl]
      refine ⟨by rw [e71, f2, t2], n + 4 + 4 + 4 + 4 + 4, by omega, t2, ?_⟩
      rw [e35]
      exact tp_step (tp_step (tp_step (tp_step (tp_step hb a3 p3) b3 q3) c3 r3) d3 s3) f3 t3
  · refine ⟨-1, m, am_si m 10 0 0 0, ?_, ?_, h.look (WI := [(10, 0)]) (WL := []) (E := 0) (am_kp.si am_kp.rf rfl) rfl rfl⟩
    · show fn_X9_feed a b c d e m = _
      unfold fn_X9_feed
      rw [e7, if_neg (show ¬ nI n ≤ (380 : Int32) from nI_ge (a := 380) (by omega) (by omega))]
    · show fn_X10_feed a b c d e m = _
      unfold fn_X10_feed
      rw [e13, show (20 : Int32) = nI 20 from rfl, nI_add, if_neg (show ¬ nI (n + 20) ≤ (400 : Int32) from nI_ge (a := 400) (by omega) (by omega))]
theorem op_end (h : Inv m) (a : Int32) : op_ok m (fun m => fn_X9_end a m) (fun m => fn_X10_end a m) := by
  obtain ⟨n, hn, e7, e13, hb⟩ := h.T
  by_cases h1 : a < 0
  · refine ⟨-1, m, am_si m 10 0 0 0, ?_, ?_, h.look (WI := [(10, 0)]) (WL := []) (E := 0) (am_kp.si am_kp.rf rfl) rfl rfl⟩
    · show fn_X9_end a m = _
      unfold fn_X9_end
      rw [if_pos h1]
    · show fn_X10_end a m = _
      unfold fn_X10_end
      rw [if_pos h1]
  · by_cases h2 : a ≤ nI n
    · obtain ⟨x, hx, rfl⟩ := nI_of h1
      have hxn : x ≤ n := (nI_leI hx (by omega)).mp h2
      refine ⟨nI x, am_si m 7 0 1 (nI x), am_si (am_si (am_si m 7 0 1 (nI x)) 10 0 0 0) 10 0 13 (nI x), ?_, ?_, h.tape (WI := [(7, 1), (35, 0), (10, 0), (10, 13), (50, 0)]) (am_kp.si (am_kp.si (am_kp.si am_kp.rf rfl) rfl) rfl) rfl ⟨rfl, x, by omega, rfl, fun k hk => hb k (by omega)⟩⟩
      · show fn_X9_end (nI x) m = _
        unfold fn_X9_end
        rw [if_neg h1, e7, if_pos h2]
      · show fn_X10_end (nI x) (am_si m 7 0 1 (nI x)) = _
        unfold fn_X10_end
        rw [if_neg h1, show (am_si m 7 0 1 (nI x)).1 10 0 13 = nI n from e13, if_pos h2]
    · refine ⟨-1, m, am_si m 10 0 0 0, ?_, ?_, h.look (WI := [(10, 0)]) (WL := []) (E := 0) (am_kp.si am_kp.rf rfl) rfl rfl⟩
      · show fn_X9_end a m = _
        unfold fn_X9_end
        rw [if_neg h1, e7, if_neg h2]
      · show fn_X10_end a m = _
        unfold fn_X10_end
        rw [if_neg h1, e13, if_neg h2]
end TP
