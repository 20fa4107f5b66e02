/-! the reference's heads of CLAUSES -/
section RH
variable {T : Nat → Nat} {L p : Nat} {M : am_m}
def hdx (b k : Nat) : Nat → Int32
  | 0 => -1
  | i + 1 => if k = b + i then nI i else hdx b k i
theorem hdx_4 (b k : Nat) : hdx b k 4 = if b ≤ k ∧ k < b + 4 then nI (k - b) else -1 := by
  show (if k = b + 3 then nI 3 else if k = b + 2 then nI 2 else if k = b + 1 then nI 1 else if k = b + 0 then nI 0 else -1) = _
  by_cases c3 : k = b + 3
  · rw [if_pos c3, if_pos (by omega), show k - b = 3 by omega]
  rw [if_neg c3]
  by_cases c2 : k = b + 2
  · rw [if_pos c2, if_pos (by omega), show k - b = 2 by omega]
  rw [if_neg c2]
  by_cases c1 : k = b + 1
  · rw [if_pos c1, if_pos (by omega), show k - b = 1 by omega]
  rw [if_neg c1]
  by_cases c0 : k = b + 0
  · rw [if_pos c0, if_pos (by omega), show k - b = 0 by omega]
  · rw [if_neg c0, if_neg (by omega)]
theorem tabL : ∀ k, k < 4 → ([117095059, 6460563, 9309492819, 67155] : List Int64).getD k 0 = lN (lx_cd (lx_W (7 + k)).reverse) := by decide +kernel
theorem tabO : ∀ k, k < 4 → ([263757, 6456948, 538513902, 525939] : List Int64).getD k 0 = lN (lx_cd (lx_W (11 + k)).reverse) := by decide +kernel
theorem lawHead_ok (h : rlx T L M p) (hC : iv_C M.2.1) : lp_X10_readLaw_4 1000000 (-1) 0 M = some (if 266 ≤ lx_kd T L p ∧ lx_kd T L p < 266 + 4 then nI (lx_kd T L p - 266) else -1) := by
  have key : ∃ a' : Int32, lp_X10_readLaw_4 1000000 (-1) 0 M = some a' ∧ a' = hdx 266 (lx_kd T L p) 4 := by
    refine lp_up0 (fun N x a => lp_X10_readLaw_4 N a x M) (fun i a => a = hdx 266 (lx_kd T L p) i) (fun a' => a' = hdx 266 (lx_kd T L p) 4) 4 (by decide) (fun N a hh => ⟨a, ?_, hh⟩) (fun N i a hi hh => Or.inl ⟨hdx 266 (lx_kd T L p) (i + 1), ?_, rfl⟩) (-1) rfl
    · show lp_X10_readLaw_4 (N + 1) a (nI 4) M = _
      rw [lp_X10_readLaw_4.eq_2, if_pos (by decide)]
    · show lp_X10_readLaw_4 (N + 1) a (nI i) M = lp_X10_readLaw_4 N _ (nI (i + 1)) M
      rw [lp_X10_readLaw_4.eq_2, if_neg (show ¬ (4 : Int32) ≤ nI i from nI_ge (b := 4) hi (by decide)), ck_in hi (by decide), nI_clamp (by omega), hC.2.2.1 i hi, tabL i hi, rword_ok h (by omega), bd_s, nI_1, hh, hdx, show 259 + (7 + i) = 266 + i by omega]
      by_cases q : lx_kd T L p = 266 + i
      · rw [if_pos q, if_neg (show ¬ (1 : Int32) = 0 by decide), if_pos q]
      · rw [if_neg q, if_pos rfl, if_neg q]
  obtain ⟨a', e1, e2⟩ := key
  rw [e1, e2, hdx_4]
theorem orderHead_ok (h : rlx T L M p) (hC : iv_C M.2.1) : lp_X10_readOrder_4 1000000 (-1) 0 M = some (if 270 ≤ lx_kd T L p ∧ lx_kd T L p < 270 + 4 then nI (lx_kd T L p - 270) else -1) := by
  have key : ∃ a' : Int32, lp_X10_readOrder_4 1000000 (-1) 0 M = some a' ∧ a' = hdx 270 (lx_kd T L p) 4 := by
    refine lp_up0 (fun N x a => lp_X10_readOrder_4 N a x M) (fun i a => a = hdx 270 (lx_kd T L p) i) (fun a' => a' = hdx 270 (lx_kd T L p) 4) 4 (by decide) (fun N a hh => ⟨a, ?_, hh⟩) (fun N i a hi hh => Or.inl ⟨hdx 270 (lx_kd T L p) (i + 1), ?_, rfl⟩) (-1) rfl
    · show lp_X10_readOrder_4 (N + 1) a (nI 4) M = _
      rw [lp_X10_readOrder_4.eq_2, if_pos (by decide)]
    · show lp_X10_readOrder_4 (N + 1) a (nI i) M = lp_X10_readOrder_4 N _ (nI (i + 1)) M
      rw [lp_X10_readOrder_4.eq_2, if_neg (show ¬ (4 : Int32) ≤ nI i from nI_ge (b := 4) hi (by decide)), ck_in hi (by decide), nI_clamp (by omega), hC.2.2.2 i hi, tabO i hi, rword_ok h (by omega), bd_s, nI_1, hh, hdx, show 259 + (11 + i) = 270 + i by omega]
      by_cases q : lx_kd T L p = 270 + i
      · rw [if_pos q, if_neg (show ¬ (1 : Int32) = 0 by decide), if_pos q]
      · rw [if_neg q, if_pos rfl, if_neg q]
  obtain ⟨a', e1, e2⟩ := key
  rw [e1, e2, hdx_4]
end RH
