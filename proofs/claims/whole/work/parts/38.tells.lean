/-! what a LAW tells, by the reference and by the class -/
def cl_so (q : cl_T) (env : Nat → Int64) : Bool := match q.2.1 with
  | none => true
  | some t => decide (t env = some 1)
def cl_val (q : cl_T) (env : Nat → Int64) : Option Int64 := if cl_so q env then (match q.2.2 with
  | none => some 1
  | some f => f env) else none
/-- what the last of n CLAUSES tells that has that head and holds -/
def cl_last (cs : Nat → cl_T) (h : Nat) (env : Nat → Int64) : Nat → Option Int64
  | 0 => none
  | n + 1 => if (cs n).1 = h then (match cl_val (cs n) env with
    | some v => some v
    | none => cl_last cs h env n) else cl_last cs h env n
def ev8 (a0 a1 a2 a3 a4 a5 a6 a7 : Int32) : Nat → Int64 := fun i => ([a0, a1, a2, a3, a4, a5, a6, a7].getD i 0).toInt64
section RT
variable {m : am_m} {env : Nat → Int64} {L c : Nat} {q : cl_T} {r : Nat → Int32}
theorem row_ck {α : Type} {k : Nat} {o : Option α} (hk : k < 5518) : am_ck (nI k) 5518 o = o := ck_in hk (by decide)
/-- isSo: whether a CLAUSE holds, and what its SUM is -/
theorem isSo_ok (hL : L ≤ 4618) (hc : c < 12) (h34 : m.1 10 0 34 = nI L) (h20 : m.1 10 0 20 = 0) (hset : ∀ x, 1 ≤ x → x ≤ 8 → m.2.1 85 0 x = env (x - 1)) (hq3 : q.1 ≤ 3) (hq : q.1 = 3 ↔ q.2.2 = none) (h01 : ∀ f, q.2.1 = some f → dn_01 f)
    (hhead : m.1 44 0 (L + 2 + 8 * c) = nI q.1) (hsum : rl_ok false (fun k => m.1 44 0 (L + 98 + 2 * k)) (fun k => m.1 44 0 (L + 98 + 2 * k + 1)) (m.1 44 0 (L + 2 + 8 * c + 3)) (m.1 44 0 (L + 2 + 8 * c + 4)) q.2.2) (htest : rl_ok false (fun k => m.1 44 0 (L + 98 + 2 * k)) (fun k => m.1 44 0 (L + 98 + 2 * k + 1)) (m.1 44 0 (L + 2 + 8 * c + 5)) (m.1 44 0 (L + 2 + 8 * c + 6)) q.2.1) :
    ∃ m', fn_X10_isSo (nI (L + 2 + 8 * c)) m = some (if (cl_val q env).isSome then 1 else 0, m') ∧ am_kp [(10, 38)] [(10, 39), (10, 40), (87, 0)] 0 m m' ∧ (∀ v, cl_val q env = some v → q.1 ≠ 3 → m'.2.1 10 0 40 = v) := by
  have cx : ∀ m1 : am_m, am_kp [(10, 38)] [(10, 39), (10, 40), (87, 0)] 0 m m1 → rk_cx false m1 (fun k => m.1 44 0 (L + 98 + 2 * k)) (fun k => m.1 44 0 (L + 98 + 2 * k + 1)) env := fun m1 k => by
    have e44 : m1.1 44 = m.1 44 := k.row 44 rfl
    have e85 : m1.2.1 85 = m.2.1 85 := k.rowL 85 rfl
    refine ⟨by rw [k.fld 10 0 20 rfl]; exact h20, L, hL, by rw [k.fld 10 0 34 rfl]; exact h34, fun k hk => by rw [e44]; exact ⟨rfl, rfl⟩, ?_⟩
    rw [e85]
    exact hset
  -- the SUM, from any memory that is alike
  have sumrun : ∀ m1 : am_m, am_kp [(10, 38)] [(10, 39), (10, 40), (87, 0)] 0 m m1 → ∃ m', (am_ck (nI (L + 2 + 8 * c)) 5518 ((if (m1.1 44 0 (nI (L + 2 + 8 * c)).toNatClampNeg) = (3 : Int32) then some ((1 : Int32), m1) else am_ck (nI (L + 2 + 8 * c) + (3 : Int32)) 5518 (am_ck (nI (L + 2 + 8 * c) + (4 : Int32)) 5518 ((fn_X10_reckonAll (m1.1 44 0 (nI (L + 2 + 8 * c) + (3 : Int32)).toNatClampNeg) (m1.1 44 0 (nI (L + 2 + 8 * c) + (4 : Int32)).toNatClampNeg) m1).bind fun r8 => (if (r8.1 10 0 38) ≠ 0 then some ((0 : Int32), am_sg r8 10 0 40 (r8.2.1 10 0 39)) else some ((1 : Int32), am_sg r8 10 0 40 (r8.2.1 10 0 39)))))))) = some (if (match q.2.2 with
        | none => some (1 : Int64)
        | some f => f env).isSome then 1 else 0, m') ∧ am_kp [(10, 38)] [(10, 39), (10, 40), (87, 0)] 0 m m' ∧ (∀ v, (match q.2.2 with
        | none => some (1 : Int64)
        | some f => f env) = some v → q.1 ≠ 3 → m'.2.1 10 0 40 = v) := by
    intro m1 k1
    have e44 : m1.1 44 = m.1 44 := k1.row 44 rfl
    rw [row_ck (by omega), nI_clamp (by omega), e44, hhead]
    by_cases h3 : q.1 = 3
    · have hn := hq.mp h3
      rw [if_pos (show nI q.1 = (3 : Int32) by rw [h3]; rfl), hn]
      exact ⟨m1, rfl, k1, fun v _ z => absurd h3 z⟩
    · have hnn : ¬ q.2.2 = none := fun z => h3 (hq.mpr z)
      rw [if_neg (show ¬ nI q.1 = (3 : Int32) from fun z => h3 ((nI_eq (a := q.1) (b := 3) (by omega) (by decide)).mp z))]
      cases hs : q.2.2 with
      | none => exact absurd hs hnn
      | some f =>
        rw [hs] at hsum
        obtain ⟨x, y, h, cd, hx, hy, hy4, hh, hcode, hseg⟩ := hsum
        rw [show nI (L + 2 + 8 * c) + (3 : Int32) = nI (L + 2 + 8 * c + 3) from nI_add _ 3, show nI (L + 2 + 8 * c) + (4 : Int32) = nI (L + 2 + 8 * c + 4) from nI_add _ 4, row_ck (by omega), row_ck (by omega), nI_clamp (by omega), nI_clamp (by omega), hx, hy]
        obtain ⟨m2, e1, e2, e3⟩ := reckonAll_ok (cx m1 k1) hy4 hh hcode hseg
        rw [e1, bd_s]
        have k2 : am_kp [(10, 38)] [(10, 39), (10, 40), (87, 0)] 0 m (am_sg m2 10 0 40 (m2.2.1 10 0 39)) := am_kp.sg (k1.tr (am_kp.mono e2 rfl)) rfl
        cases hf : f env with
        | none =>
          rw [hf] at e3
          have e3 : m2.1 10 0 38 = 1 := e3
          rw [if_pos (by rw [e3]; decide)]
          refine ⟨_, ?_, k2, fun v hv => ?_⟩
          · show _ = some (if (f env).isSome then _ else _, _)
            rw [hf]
            rfl
          · have hv : f env = some v := hv
            rw [hf] at hv; cases hv
        | some v =>
          rw [hf] at e3
          have e3 : m2.1 10 0 38 = 0 ∧ m2.2.1 10 0 39 = v := e3
          rw [if_neg (fun z => z e3.1)]
          refine ⟨_, ?_, k2, fun w hw _ => ?_⟩
          · show _ = some (if (f env).isSome then _ else _, _)
            rw [hf]
            rfl
          · have hw : f env = some w := hw
            rw [hf] at hw
            cases hw
            rw [rd_sg, if_pos ⟨rfl, rfl, rfl⟩, e3.2]
  unfold fn_X10_isSo
  rw [show nI (L + 2 + 8 * c) + (5 : Int32) = nI (L + 2 + 8 * c + 5) from nI_add _ 5, show nI (L + 2 + 8 * c) + (6 : Int32) = nI (L + 2 + 8 * c + 6) from nI_add _ 6, row_ck (by omega), row_ck (by omega), nI_clamp (by omega), nI_clamp (by omega)]
  unfold cl_val cl_so
  cases ht : q.2.1 with
  | none =>
    rw [ht] at htest
    have htest : m.1 44 0 (L + 2 + 8 * c + 5) = m.1 44 0 (L + 2 + 8 * c + 6) := htest
    rw [if_pos (by rw [htest]; exact (fa_le _ _).mpr (Int.le_refl _))]
    exact sumrun m am_kp.rf
  | some f =>
    rw [ht] at htest
    obtain ⟨x, y, h, cd, hx, hy, hy4, hh, hcode, hseg⟩ := htest
    have hxy := hseg.1
    rw [hx, hy, if_neg (nI_ge hxy (by omega)), row_ck (by omega), row_ck (by omega)]
    obtain ⟨m2, e1, e2, e3⟩ := reckonAll_ok (cx m am_kp.rf) hy4 hh hcode hseg
    rw [e1, bd_s]
    have k2 : am_kp [(10, 38)] [(10, 39), (10, 40), (87, 0)] 0 m m2 := am_kp.mono e2 rfl
    show ∃ m', _ = some (if (if decide (f env = some 1) = true then _ else none).isSome = true then 1 else 0, m') ∧ _ ∧ ∀ v, (if decide (f env = some 1) = true then _ else none) = some v → _
    cases hf : f env with
    | none =>
      rw [hf] at e3
      have e3 : m2.1 10 0 38 = 1 := e3
      rw [if_pos (by rw [e3]; decide)]
      exact ⟨m2, rfl, k2, fun v hv => by cases hv⟩
    | some v =>
      rw [hf] at e3
      have e3 : m2.1 10 0 38 = 0 ∧ m2.2.1 10 0 39 = v := e3
      rw [if_neg (fun z => z e3.1), e3.2]
      rcases h01 f ht env v hf with rfl | rfl
      · rw [if_neg (fun z => z ((lg_cmp_eq _ _).mpr rfl))]
        exact ⟨m2, rfl, k2, fun v hv => by cases hv⟩
      · rw [if_pos (by decide)]
        exact sumrun m2 k2
end RT
section RT2
variable {m : am_m} {env : Nat → Int64} {L n h : Nat} {cs : Nat → cl_T}
theorem iv_LR_at (hLR : iv_LR (fun j => m.1 44 0 (L + j)) n cs) {i : Nat} (hi : i < n) : m.1 44 0 (L + 2 + 8 * i) = nI (cs i).1 ∧ rl_ok false (fun k => m.1 44 0 (L + 98 + 2 * k)) (fun k => m.1 44 0 (L + 98 + 2 * k + 1)) (m.1 44 0 (L + 2 + 8 * i + 3)) (m.1 44 0 (L + 2 + 8 * i + 4)) (cs i).2.2 ∧ rl_ok false (fun k => m.1 44 0 (L + 98 + 2 * k)) (fun k => m.1 44 0 (L + 98 + 2 * k + 1)) (m.1 44 0 (L + 2 + 8 * i + 5)) (m.1 44 0 (L + 2 + 8 * i + 6)) (cs i).2.1 := by
  obtain ⟨h1, h2, h3⟩ := hLR.2 i hi
  have e : ∀ j, L + (2 + 8 * i) + j = L + 2 + 8 * i + j := fun j => by omega
  have e1 : (fun k => m.1 44 0 (L + (98 + 2 * k))) = (fun k => m.1 44 0 (L + 98 + 2 * k)) := funext fun k => by rw [show L + (98 + 2 * k) = L + 98 + 2 * k by omega]
  have e2 : (fun k => m.1 44 0 (L + (98 + 2 * k + 1))) = (fun k => m.1 44 0 (L + 98 + 2 * k + 1)) := funext fun k => by rw [show L + (98 + 2 * k + 1) = L + 98 + 2 * k + 1 by omega]
  have h1 : m.1 44 0 (L + (2 + 8 * i)) = nI (cs i).1 := h1
  have h2 : rl_ok false (fun k => m.1 44 0 (L + (98 + 2 * k))) (fun k => m.1 44 0 (L + (98 + 2 * k + 1))) (m.1 44 0 (L + (2 + 8 * i + 3))) (m.1 44 0 (L + (2 + 8 * i + 4))) (cs i).2.2 := h2
  have h3 : rl_ok false (fun k => m.1 44 0 (L + (98 + 2 * k))) (fun k => m.1 44 0 (L + (98 + 2 * k + 1))) (m.1 44 0 (L + (2 + 8 * i + 5))) (m.1 44 0 (L + (2 + 8 * i + 6))) (cs i).2.1 := h3
  rw [e1, e2, show L + (2 + 8 * i + 3) = L + 2 + 8 * i + 3 by omega, show L + (2 + 8 * i + 4) = L + 2 + 8 * i + 4 by omega] at h2
  rw [e1, e2, show L + (2 + 8 * i + 5) = L + 2 + 8 * i + 5 by omega, show L + (2 + 8 * i + 6) = L + 2 + 8 * i + 6 by omega] at h3
  rw [show L + (2 + 8 * i) = L + 2 + 8 * i by omega] at h1
  exact ⟨h1, h2, h3⟩
theorem iv_LR_of {m' : am_m} (hLR : iv_LR (fun j => m.1 44 0 (L + j)) n cs) (e : m'.1 44 = m.1 44) : iv_LR (fun j => m'.1 44 0 (L + j)) n cs := by
  rw [e]
  exact hLR
/-- the loop over the CLAUSES: i of them are behind -/
theorem tells_lp (hL : L ≤ 4618) (hcs : iv_cs n cs) (hh : h ≤ 3) : ∀ (d i : Nat) {m : am_m} (told w : Int64) (N : Nat), i + d = n → d < N → iv_LR (fun j => m.1 44 0 (L + j)) n cs → m.1 10 0 34 = nI L → m.1 10 0 20 = 0 → (∀ x, 1 ≤ x → x ≤ 8 → m.2.1 85 0 x = env (x - 1)) → told = (cl_last cs h env i).getD w → ∃ m', lp_X10_tells_180 N (nI h) told (nI i) m = some ((cl_last cs h env n).getD w, m') ∧ am_kp [(10, 38)] [(10, 39), (10, 40), (87, 0)] 0 m m'
  | 0, i, m, told, w, N + 1, hid, hN, hLR, h34, h20, hset, ht => by
    have hn12 := hcs.1
    have e1 : m.1 44 0 (L + 1) = nI n := hLR.1
    have : i = n := by omega
    subst this
    show ∃ m', am_ck ((m.1 10 0 34) + (1 : Int32)) 5518 ((if (m.1 44 0 ((m.1 10 0 34) + (1 : Int32)).toNatClampNeg) ≤ nI i then some (told, m) else _)) = _ ∧ _
    rw [h34, nI_1, row_ck (by omega), nI_clamp (by omega), e1, if_pos (nI_le (Nat.le_refl i) (by omega)), ht]
    exact ⟨m, rfl, am_kp.rf⟩
  | d + 1, i, m, told, w, N + 1, hid, hN, hLR, h34, h20, hset, ht => by
    have hn12 := hcs.1
    have e1 : m.1 44 0 (L + 1) = nI n := hLR.1
    have hi : i < n := by omega
    obtain ⟨g1, g2, g3⟩ := iv_LR_at hLR hi
    obtain ⟨c1, c2, c3, c4⟩ := hcs.2 i hi
    have go : ∀ (m1 : am_m) (told1 : Int64), am_kp [(10, 38)] [(10, 39), (10, 40), (87, 0)] 0 m m1 → told1 = (cl_last cs h env (i + 1)).getD w → ∃ m', lp_X10_tells_180 N (nI h) told1 (nI i + 1) m1 = some ((cl_last cs h env n).getD w, m') ∧ am_kp [(10, 38)] [(10, 39), (10, 40), (87, 0)] 0 m m' := by
      intro m1 told1 k1 ht1
      rw [nI_1]
      have e85 : m1.2.1 85 = m.2.1 85 := k1.rowL 85 rfl
      obtain ⟨m2, f1, f2⟩ := tells_lp hL hcs hh d (i + 1) told1 w N (by omega) (by omega) (iv_LR_of hLR (k1.row 44 rfl)) (by rw [k1.fld 10 0 34 rfl]; exact h34) (by rw [k1.fld 10 0 20 rfl]; exact h20) (by rw [e85]; exact hset) ht1
      exact ⟨m2, f1, k1.tr f2⟩
    show ∃ m', am_ck ((m.1 10 0 34) + (1 : Int32)) 5518 ((if (m.1 44 0 ((m.1 10 0 34) + (1 : Int32)).toNatClampNeg) ≤ nI i then some (told, m) else am_ck (((m.1 10 0 34) + (2 : Int32)) + ((8 : Int32) * nI i)) 5518 ((if (m.1 44 0 (((m.1 10 0 34) + (2 : Int32)) + ((8 : Int32) * nI i)).toNatClampNeg) ≠ nI h then some (told, m) else (fn_X10_isSo (((m.1 10 0 34) + (2 : Int32)) + ((8 : Int32) * nI i)) m).bind fun r17 => (if r17.1 = 0 then some (told, r17.2) else some ((if nI h ≠ (3 : Int32) then (r17.2.2.1 10 0 40) else (1 : Int64)), r17.2))).bind fun q21 => lp_X10_tells_180 N (nI h) q21.1 (nI i + 1) q21.2))) = _ ∧ _
    have ek : ((m.1 10 0 34) + (2 : Int32)) + ((8 : Int32) * nI i) = nI (L + 2 + 8 * i) := by
      rw [h34, show (2 : Int32) = nI 2 from rfl, show (8 : Int32) = nI 8 from rfl, pk_mul, nI_add, nI_add]
    rw [ek, h34, nI_1, row_ck (by omega), nI_clamp (by omega), e1, if_neg (nI_ge hi (by omega)), row_ck (by omega), nI_clamp (by omega), g1]
    have hiff : nI (cs i).1 ≠ nI h ↔ ¬ (cs i).1 = h := not_congr (nI_eq (by omega) (by omega))
    by_cases hk : (cs i).1 = h
    · rw [if_neg (fun z => hiff.mp z hk)]
      obtain ⟨m1, e2, k1, e3⟩ := isSo_ok (env := env) hL (show i < 12 by omega) h34 h20 hset c1 c2 c3 g1 g2 g3
      rw [e2, bd_s]
      cases hv : cl_val (cs i) env with
      | none =>
        show ∃ m', ((if (if (none : Option Int64).isSome then (1 : Int32) else 0) = 0 then some (told, m1) else _).bind _) = _ ∧ _
        rw [if_pos (show (if (none : Option Int64).isSome = true then (1 : Int32) else 0) = 0 from rfl), bd_s]
        refine go m1 told k1 ?_
        rw [ht]
        show _ = (if (cs i).1 = h then (match cl_val (cs i) env with
          | some v => some v
          | none => cl_last cs h env i) else cl_last cs h env i).getD w
        rw [if_pos hk, hv]
      | some v =>
        show ∃ m', ((if (if (some v : Option Int64).isSome then (1 : Int32) else 0) = 0 then some (told, m1) else _).bind _) = _ ∧ _
        rw [if_neg (show ¬ (if (some v : Option Int64).isSome = true then (1 : Int32) else 0) = 0 from (show ¬ (1 : Int32) = 0 by decide)), bd_s]
        refine go m1 _ k1 ?_
        show _ = (if (cs i).1 = h then (match cl_val (cs i) env with
          | some v => some v
          | none => cl_last cs h env i) else cl_last cs h env i).getD w
        rw [if_pos hk, hv]
        by_cases h3 : h = 3
        · show (if nI h ≠ (3 : Int32) then (m1.2.1 10 0 40) else (1 : Int64)) = v
          rw [if_neg (show ¬ nI h ≠ (3 : Int32) by rw [h3]; decide)]
          have hsn := c2.mp (hk.trans h3)
          unfold cl_val at hv
          rw [hsn] at hv
          by_cases hso : cl_so (cs i) env = true
          · rw [if_pos hso] at hv
            cases hv
            rfl
          · rw [if_neg hso] at hv
            cases hv
        · show (if nI h ≠ (3 : Int32) then (m1.2.1 10 0 40) else (1 : Int64)) = v
          rw [if_pos (show nI h ≠ (3 : Int32) from fun z => h3 ((nI_eq (a := h) (b := 3) (by omega) (by decide)).mp z))]
          exact e3 v hv (by rw [hk]; exact h3)
    · rw [if_pos (hiff.mpr hk), bd_s]
      refine go m told am_kp.rf ?_
      rw [ht]
      show _ = (if (cs i).1 = h then _ else cl_last cs h env i).getD w
      rw [if_neg hk]
end RT2
