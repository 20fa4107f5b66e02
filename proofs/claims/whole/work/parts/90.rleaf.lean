/-! the reference reads a PART -/
def fw (ow : Nat → Nat) (k : Nat) : Nat → Int32
  | 0 => -1
  | i + 1 => if k = 259 + ow i then nI (i + 1) else fw ow k i
def ow7 (i : Nat) : Nat := [21, 23, 24, 25, 26, 19, 27].getD i 0
section RL
variable {T : Nat → Nat} {L p : Nat} {M M' : am_m} {P : rcd} {c : rcd} {s b l lv dep : Nat} {ord : Bool}
theorem fw_no {ow : Nat → Nat} {k : Nat} : ∀ n, (∀ i, i < n → k ≠ 259 + ow i) → fw ow k n = -1
  | 0, _ => rfl
  | n + 1, h => by rw [fw, if_neg (h n (by omega))]; exact fw_no n (fun i hi => h i (by omega))
theorem fw8 : ∀ j, j < 8 → fw (fun i => 15 + i) (274 + j) 8 = nI (j + 1) := by decide +kernel
theorem fw7 : ∀ j, j < 7 → fw ow7 (259 + ow7 j) 7 = nI (j + 1) := by decide +kernel
theorem any_nI (x : Int32) : ∃ y, x = nI y := ⟨x.toBitVec.toNat, by
  apply Int32.toBitVec_inj.mp
  show x.toBitVec = BitVec.ofNat 32 x.toBitVec.toNat
  rw [BitVec.ofNat_toNat, BitVec.setWidth_eq]⟩
theorem tab8 : ∀ k, k < 8 → ([146610, 16392370, 777297172, 1253, 6308, 632645, 4153, 441828] : List Int64).getD k 0 = lN (lx_cd (lx_W (15 + k)).reverse) := by decide +kernel
theorem tab7 : ∀ k, k < 7 → ([4153, 146885, 404362868, 8440243, 674363024839, 6308, 52] : List Int64).getD k 0 = lN (lx_cd (lx_W (ow7 k)).reverse) := by decide +kernel
theorem ow7_lt : ∀ k, k < 7 → ow7 k < 28 := by decide
theorem partAt_ok (h : rlx T L M p) (hC : iv_C M.2.1) : fn_X10_partAt M = some (fw (fun i => 15 + i) (lx_kd T L p) 8) := by
  unfold fn_X10_partAt
  have key : ∃ a' : Int32, lp_X10_partAt_4 1000000 (-1) 0 M = some a' ∧ a' = fw (fun i => 15 + i) (lx_kd T L p) 8 := by
    refine lp_up0 (fun N x a => lp_X10_partAt_4 N a x M) (fun i a => a = fw (fun i => 15 + i) (lx_kd T L p) i) _ 8 (by decide) (fun N a hh => ⟨a, ?_, hh⟩) (fun N i a hi hh => Or.inl ⟨fw (fun i => 15 + i) (lx_kd T L p) (i + 1), ?_, rfl⟩) (-1) rfl
    · show lp_X10_partAt_4 (N + 1) a (nI 8) M = _
      rw [lp_X10_partAt_4.eq_2, if_pos (by decide)]
    · show lp_X10_partAt_4 (N + 1) a (nI i) M = lp_X10_partAt_4 N _ (nI (i + 1)) M
      rw [lp_X10_partAt_4.eq_2, if_neg (show ¬ (8 : Int32) ≤ nI i from nI_ge (b := 8) hi (by decide)), ck_in hi (by decide), nI_clamp (by omega), hC.1 i hi, tab8 i hi, rword_ok h (by omega), bd_s, nI_1, hh, fw]
      by_cases q : lx_kd T L p = 259 + (15 + i)
      · rw [if_pos q, if_neg (show ¬ (1 : Int32) = 0 by decide), if_pos q]
      · rw [if_neg q, if_pos rfl, if_neg q]
  obtain ⟨a', e1, e2⟩ := key
  rw [e1, bd_s, e2]
theorem orderPartAt_ok (h : rlx T L M p) (hC : iv_C M.2.1) : fn_X10_orderPartAt M = some (fw ow7 (lx_kd T L p) 7) := by
  unfold fn_X10_orderPartAt
  have key : ∃ a' : Int32, lp_X10_orderPartAt_4 1000000 (-1) 0 M = some a' ∧ a' = fw ow7 (lx_kd T L p) 7 := by
    refine lp_up0 (fun N x a => lp_X10_orderPartAt_4 N a x M) (fun i a => a = fw ow7 (lx_kd T L p) i) _ 7 (by decide) (fun N a hh => ⟨a, ?_, hh⟩) (fun N i a hi hh => Or.inl ⟨fw ow7 (lx_kd T L p) (i + 1), ?_, rfl⟩) (-1) rfl
    · show lp_X10_orderPartAt_4 (N + 1) a (nI 7) M = _
      rw [lp_X10_orderPartAt_4.eq_2, if_pos (by decide)]
    · show lp_X10_orderPartAt_4 (N + 1) a (nI i) M = lp_X10_orderPartAt_4 N _ (nI (i + 1)) M
      rw [lp_X10_orderPartAt_4.eq_2, if_neg (show ¬ (7 : Int32) ≤ nI i from nI_ge (b := 7) hi (by decide)), ck_in hi (by decide), nI_clamp (by omega), hC.2.1 i hi, tab7 i hi, rword_ok h (ow7_lt i hi), bd_s, nI_1, hh, fw]
      by_cases q : lx_kd T L p = 259 + ow7 i
      · rw [if_pos q, if_neg (show ¬ (1 : Int32) = 0 by decide), if_pos q]
      · rw [if_neg q, if_pos rfl, if_neg q]
  obtain ⟨a', e1, e2⟩ := key
  rw [e1, bd_s, e2]
/-- a bracket is opened -/
theorem open1 {o : Nat} (h : rmm T L ord M P s c b p lv dep) (hd : dep < 8) (hs : s < 400) : ∃ M', fn_X10_openBracket (nI o) M = some M' ∧ rmm T L ord M' (rcu P s (o, 0)) (s + 1) c b (lx_nx T L p) lv (dep + 1) := by
  unfold fn_X10_openBracket
  rw [h.2.2.2.1, if_neg (show ¬ (8 : Int32) ≤ nI dep from nI_ge (b := 8) hd (by decide))]
  obtain ⟨M1, e1, e2⟩ := must1 (x := 1) (by decide) h
  have k : am_kp [(10, 30)] [] 0 M1 (am_si M1 10 0 30 (nI (dep + 1))) := am_kp.si am_kp.rf rfl
  obtain ⟨r1, r2, r3, r4, r5⟩ := e2.2.2
  have e3 : rmm T L ord (am_si M1 10 0 30 (nI (dep + 1))) P s c b (lx_nx T L p) lv (dep + 1) := ⟨e2.1.kp k rfl, e2.2.1.kp k rfl, r1, rfl, r3, r4, r5⟩
  obtain ⟨M2, f1, f2⟩ := push_ok (o := o) (a := 0) e3 hs
  rw [e1, bd_s, if_neg (show ¬ M1.1 10 0 19 ≠ 0 from fun z => z r3), r2, nI_1, show fn_X10_push (nI o) 0 _ = some M2 from f1, bd_s]
  exact ⟨M2, rfl, f2⟩
theorem open0 {o : Nat} (h : rmm T L ord M P s c b p lv dep) (hd : 8 ≤ dep) (hd8 : dep ≤ 8) (hv : rvl P s b) (hs : s ≤ 400) (hb : b + pend P s ≤ 400) : ∃ M', fn_X10_openBracket (nI o) M = some M' ∧ rbad M' p := by
  unfold fn_X10_openBracket
  rw [h.2.2.2.1, if_pos (show (8 : Int32) ≤ nI dep from nI_le (a := 8) hd (by omega))]
  obtain ⟨M1, e1, e2⟩ := must0 h hv hs hb
  rw [e1, bd_s, if_pos (show M1.1 10 0 19 ≠ 0 by rw [e2.1]; decide)]
  exact ⟨M1, rfl, e2⟩
/-- one number or word more -/
theorem leaf1 {o a : Nat} (h : rmm T L ord M P s c b p lv dep) (hlv : lv < 50) (hb : b < 400) : ∃ M', fn_X10_leaf 1 (nI o) (nI a) M = some M' ∧ rmm T L ord M' P s (rcu c b (o, a)) (b + 1) (lx_nx T L p) (lv + 1) dep := by
  unfold fn_X10_leaf
  rw [if_neg (show ¬ (1 : Int32) = 0 by decide), h.2.2.1, if_neg (show ¬ (50 : Int32) ≤ nI lv from nI_ge (b := 50) hlv (by decide)), bd_s]
  obtain ⟨M1, e1, e2⟩ := must1 (x := 1) (by decide) h
  obtain ⟨M2, f1, f2⟩ := emit1_ok (o := o) (a := a) e2 hb
  obtain ⟨r1, r2, r3, r4, r5⟩ := f2.2.2
  have k : am_kp [(10, 26)] [] 0 M2 (am_si M2 10 0 26 (nI (lv + 1))) := am_kp.si am_kp.rf rfl
  rw [e1, bd_s, if_neg (show ¬ M1.1 10 0 19 ≠ 0 from fun z => z e2.2.2.2.2.1), f1, bd_s, r1, nI_1]
  exact ⟨_, rfl, f2.1.kp k rfl, f2.2.1.kp k rfl, rfl, r2, r3, r4, r5⟩
theorem leaf0 {x y z : Int32} (h : rmm T L ord M P s c b p lv dep) (hx : x = 0 ∨ 50 ≤ lv) (hlv : lv ≤ 50) (hv : rvl P s b) (hs : s ≤ 400) (hb : b + pend P s ≤ 400) : ∃ M', fn_X10_leaf x y z M = some M' ∧ rbad M' p := by
  unfold fn_X10_leaf
  have st : (if x = 0 then some (0 : Int32) else (if (50 : Int32) ≤ (M.1 10 0 26) then some (0 : Int32) else some (1 : Int32))) = some 0 := by
    by_cases q : x = 0
    · rw [if_pos q]
    · rw [if_neg q, h.2.2.1, if_pos (show (50 : Int32) ≤ nI lv from nI_le (a := 50) (hx.resolve_left q) (by omega))]
  obtain ⟨M1, e1, e2⟩ := must0 h hv hs hb
  rw [st, bd_s, e1, bd_s, if_pos (show M1.1 10 0 19 ≠ 0 by rw [e2.1]; decide)]
  exact ⟨M1, rfl, e2⟩
end RL
