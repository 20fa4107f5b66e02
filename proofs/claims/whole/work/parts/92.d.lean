/-! the reference's loop follows the pure reader -/
def lev (w : Nat) : Nat := if w = 0 ∨ w = 7 then 1 else if w = 1 ∨ w = 8 then 2 else if w = 2 then 3 else if w = 3 then 4 else if w = 4 ∨ w = 9 then 5 else if w = 5 ∨ w = 10 then 6 else 7
def tout (w : Nat) : Int32 := if tst w then 2 else 3
/-- the turn in which it is begun -/
def rin (w : Nat) (t : Int32) (k : Nat) : Prop := (w ≤ 2 → t = 0) ∧ (w = 3 → t = 0 ∧ k ≠ 261 ∧ k ≠ 40) ∧ (4 ≤ w ∧ w ≤ 6 → t = 1 ∨ (t = 0 ∧ k ≠ 261 ∧ k ≠ 40)) ∧ (w = 7 ∨ w = 8 → t = 2) ∧ (9 ≤ w → t = 3)
def rres (T : Nat → Nat) (L : Nat) (ord : Bool) (a1 : Int32) (M : am_m) (t : Int32) (w : Nat) (P c : rcd) (s0 b0 dep p : Nat) (r : Nat ⊕ pst) : Prop := match r with
  | .inr st => p ≤ st.1 ∧ ∃ M' P' s1 c' b' k, k ≤ 2 * (st.1 - p) ∧ (∀ N, lp_X10_readExpression_20 (N + k) a1 t M = lp_X10_readExpression_20 N a1 (tout w) M') ∧ rmm T L ord M' P' s1 c' b' st.1 st.2.1 dep ∧ rnv P' s1 b' st.1 ∧ (∀ i, i < s0 → P' i = P i) ∧ (∀ j, j < b0 → c' j = c j) ∧ rv ord P' (lev w) s0 b0 s1 c' b' st.2.2.2.1 st.2.2.2.2
  | .inl q => ∃ M' k, k ≤ 2 * (L - p) + 2 ∧ (∀ N, lp_X10_readExpression_20 (N + k) a1 t M = some M') ∧ rbad M' q
section RZ
variable {T : Nat → Nat} {L p : Nat} {M M' : am_m} {P : rcd} {c : rcd} {s b l lv dep s0 b0 w : Nat} {ord : Bool} {f : dn} {h : Nat} {a1 : Int32} {t' : Int32}
theorem lpe0 (h19 : M.1 10 0 19 = 0) (e : fn_X10_readPlain M = some (t', M')) (N : Nat) : lp_X10_readExpression_20 (N + 1) a1 0 M = lp_X10_readExpression_20 N a1 t' M' := by
  rw [lp_X10_readExpression_20, if_neg (fun z => z h19), if_neg (by decide), if_neg (show ¬ (0 : Int32) ≠ 0 from fun z => z rfl), e, bd_s, bd_s]
theorem lpe1 (h19 : M.1 10 0 19 = 0) (e : fn_X10_readPart M = some (t', M')) (N : Nat) : lp_X10_readExpression_20 (N + 1) a1 1 M = lp_X10_readExpression_20 N a1 t' M' := by
  rw [lp_X10_readExpression_20, if_neg (fun z => z h19), if_neg (by decide), if_pos (show (1 : Int32) ≠ 0 by decide), if_neg (show ¬ (1 : Int32) ≠ 1 from fun z => z rfl), e, bd_s, bd_s]
theorem lpe2 (h19 : M.1 10 0 19 = 0) (e : fn_X10_behindTest M = some (t', M')) (N : Nat) : lp_X10_readExpression_20 (N + 1) a1 2 M = lp_X10_readExpression_20 N a1 t' M' := by
  rw [lp_X10_readExpression_20, if_neg (fun z => z h19), if_neg (by decide), if_pos (show (2 : Int32) ≠ 0 by decide), if_pos (show (2 : Int32) ≠ 1 by decide), if_pos (show (2 : Int32) ≠ 3 by decide), e, bd_s, bd_s]
theorem lpe3 (h19 : M.1 10 0 19 = 0) (e : fn_X10_behindSum a1 M = some (t', M')) (N : Nat) : lp_X10_readExpression_20 (N + 1) a1 3 M = lp_X10_readExpression_20 N a1 t' M' := by
  rw [lp_X10_readExpression_20, if_neg (fun z => z h19), if_neg (by decide), if_pos (show (3 : Int32) ≠ 0 by decide), if_pos (show (3 : Int32) ≠ 1 by decide), if_neg (show ¬ (3 : Int32) ≠ 3 from fun z => z rfl), e, bd_s, bd_s]
theorem lpbad {q : Nat} (h : rbad M q) (t : Int32) (N : Nat) : lp_X10_readExpression_20 (N + 1) a1 t M = some M := by
  rw [lp_X10_readExpression_20, if_pos (by rw [h.1]; decide)]
theorem lpe01 {t : Int32} (hm : rmm T L ord M P s c b p lv dep) (ht : t = 1 ∨ (t = 0 ∧ lx_kd T L p ≠ 261 ∧ lx_kd T L p ≠ 40)) (e : fn_X10_readPart M = some (t', M')) (N : Nat) : lp_X10_readExpression_20 (N + 1) a1 t M = lp_X10_readExpression_20 N a1 t' M' := by
  rcases ht with rfl | ⟨rfl, hk⟩
  · exact lpe1 hm.2.2.2.2.1 e N
  · exact lpe0 hm.2.2.2.2.1 (pl_part hm hk e) N
/-- some steps ahead of it -/
theorem rres.pre {M1 : am_m} {t t1 : Int32} {p1 k1 : Nat} {P1 c1 : rcd} {r : Nat ⊕ pst} (hp : p ≤ p1) (hp1 : p1 ≤ L) (hk : k1 ≤ 2 * (p1 - p)) (hst : ∀ N, lp_X10_readExpression_20 (N + k1) a1 t M = lp_X10_readExpression_20 N a1 t1 M1) (hP : ∀ i, i < s0 → P1 i = P i) (hc : ∀ j, j < b0 → c1 j = c j) (hr : rres T L ord a1 M1 t1 w P1 c1 s0 b0 dep p1 r) : rres T L ord a1 M t w P c s0 b0 dep p r := by
  cases r with
  | inl q =>
    obtain ⟨M', k, h1, h2, h3⟩ := hr
    exact ⟨M', k + k1, by omega, fun N => by rw [← Nat.add_assoc, hst]; exact h2 N, h3⟩
  | inr st =>
    obtain ⟨h0, M', P', s1, c', b', k, h1, h2, h3, h4, h5, h6, h7⟩ := hr
    exact ⟨by omega, M', P', s1, c', b', k + k1, by omega, fun N => by rw [← Nat.add_assoc, hst]; exact h2 N, h3, h4, fun i hi => by rw [h5 i hi, hP i hi], fun j hj => by rw [h6 j hj, hc j hj], h7⟩
theorem rres.bad {M1 : am_m} {t t1 : Int32} {q : Nat} (hst : ∀ N, lp_X10_readExpression_20 (N + 1) a1 t M = lp_X10_readExpression_20 N a1 t1 M1) (hb : rbad M1 q) : rres T L ord a1 M t w P c s0 b0 dep p (.inl q) := ⟨M1, 2, by omega, fun N => by rw [show N + 2 = (N + 1) + 1 from rfl, hst]; exact lpbad hb _ N, hb⟩
/-- a failure within -/
theorem rres.fail {M1 : am_m} {t t1 : Int32} {p1 k1 w1 dep1 s1 b1 : Nat} {P1 c1 : rcd} {q : Nat} (hp : p ≤ p1) (hp1 : p1 ≤ L) (hk : k1 ≤ 2 * (p1 - p)) (hst : ∀ N, lp_X10_readExpression_20 (N + k1) a1 t M = lp_X10_readExpression_20 N a1 t1 M1) (hr : rres T L ord a1 M1 t1 w1 P1 c1 s1 b1 dep1 p1 (.inl q)) : rres T L ord a1 M t w P c s0 b0 dep p (.inl q) := by
  obtain ⟨M', k, h1, h2, h3⟩ := hr
  exact ⟨M', k + k1, by omega, fun N => by rw [← Nat.add_assoc, hst]; exact h2 N, h3⟩
theorem lev_hi {o : Nat} (hs : s0 ≤ s) (hv : rvl P s b) (hr : rv ord P l s0 b0 s c b f h) (hl : 5 ≤ l) : ∀ i, s0 ≤ i → i < s → 20 ≤ (P i).1 ∧ (P i).1 ≤ 24 := by
  intro i h1 h2
  obtain ⟨c2, b2, e1, -⟩ := hr.out
  have := stl_ge s c b (by rw [e1]) i h1 h2
  have v := hv i h2
  exact ⟨v.1, (bnd_op v.1).1 (by omega)⟩
theorem rv.inn (hv : rvl P s b) (hr : rv ord P l s0 b0 s c b f h) (hl : 1 ≤ l) : inn P s = inn P s0 := by
  obtain ⟨c2, b2, e1, -⟩ := hr.out
  refine inn_up hr.1 (fun i h1 h2 => ?_)
  have := stl_ge s c b (by rw [e1]) i h1 h2
  exact (bnd_op (hv i h2).1).2 (by omega)
theorem rv.isc (hv : rvl P s b) (hr : rv ord P l s0 b0 s c b f h) (hl : 5 ≤ l) : isc P s = isc P s0 := by
  obtain ⟨c2, b2, e1, -⟩ := hr.out
  refine isc_up hr.1 (fun i h1 h2 => ?_)
  have := stl_ge s c b (by rw [e1]) i h1 h2
  have v := hv i h2
  exact ⟨v.1, (bnd_op v.1).1 (by omega)⟩
end RZ
