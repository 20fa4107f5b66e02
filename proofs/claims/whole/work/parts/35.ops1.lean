/-! small methods, and the calls that need no LAW -/
def fk (n : Nat) (a : Int32) : Prop := 0 ≤ a ∧ a < nI n
theorem fk_of {n : Nat} {a : Int32} (hn : n ≤ 7) (h : fk n a) : ∃ p, p < n ∧ a = nI p := by
  obtain ⟨p, hp, rfl⟩ := nI_of (an_nn h.1)
  exact ⟨p, (nI_ltI hp (by omega)).mp h.2, rfl⟩
theorem fk_in {n p : Nat} (hn : n ≤ 7) (h : p < n) : fk n (nI p) := ⟨nI_pos' (by omega), nI_lt h (by omega)⟩
theorem fk_iff {n p : Nat} (hn : n ≤ 7) (hp : p < 2 ^ 31) : fk n (nI p) ↔ p < n := ⟨fun h => (nI_ltI hp (by omega)).mp h.2, fk_in hn⟩
theorem in_32 (x lo hi : Int32) (m : am_m) : fn_X10_in x.toInt64 lo.toInt64 hi.toInt64 m = some (if lo ≤ x ∧ x ≤ hi then 1 else 0) := by
  unfold fn_X10_in
  rw [if_iff ((lg_cmp_lt _ _).trans (fa_wide_lt x lo)), if_iff ((lg_cmp_gt _ _).trans (fa_wide_lt hi x))]
  by_cases h1 : x < lo
  · rw [if_pos h1, if_neg (fun q => (fa_of_lt h1).2.1 q.1)]
  · by_cases h2 : hi < x
    · rw [if_neg h1, if_pos h2, if_neg (fun q => (fa_of_lt h2).2.1 q.2)]
    · rw [if_neg h1, if_neg h2, if_pos ⟨fa_of_nlt h1, fa_of_nlt h2⟩]
theorem fk_pred : ∀ n, n ≤ 7 → (nI n).toInt64 - 1 = (nI n - 1).toInt64 := by
  have h : ∀ n, n < 8 → (nI n).toInt64 - 1 = (nI n - 1).toInt64 := by decide +kernel
  exact fun n hn => h n (by omega)
theorem le_pred {n : Nat} (hn : n ≤ 7) (x : Int32) : x ≤ nI n - 1 ↔ x < nI n := by
  rw [fa_le, fa_lt, fb_subI, nI_toInt (by omega)]
  · show x.toInt ≤ (n : Int) - 1 ↔ _
    omega
  · rw [nI_toInt (by omega)]
    show -2147483648 ≤ (n : Int) - 1
    omega
  · rw [nI_toInt (by omega)]
    show (n : Int) - 1 < 2147483648
    omega
section SM
variable {m : am_m} {n u : Nat} {a b : Int32}
theorem isFolk_ok (hn : n ≤ 7) (h0 : m.1 44 0 0 = nI n) : fn_X10_isFolk a m = some (if 0 ≤ a ∧ a < nI n then 1 else 0) := by
  unfold fn_X10_isFolk
  rw [h0, fk_pred n hn, show (0 : Int64) = (0 : Int32).toInt64 from rfl, in_32, bd_s]
  have hi : (0 ≤ a ∧ a ≤ nI n - 1) ↔ (0 ≤ a ∧ a < nI n) := by rw [le_pred hn]
  by_cases h : 0 ≤ a ∧ a < nI n
  · rw [if_pos (hi.mpr h), if_pos h, gd_t (Or.inr rfl)]
  · rw [if_neg (fun q => h (hi.mp q)), if_neg h, gd_t (Or.inl rfl)]
theorem has_ok (h0 : m.1 8 u 0 = nI n) : fn_X8_has u a m = some (if 0 ≤ a ∧ a < nI n then 1 else 0) := by
  unfold fn_X8_has
  rw [h0]
  by_cases h1 : a < 0
  · rw [if_pos h1, if_neg (fun q => (fa_of_lt h1).2.1 q.1)]
  · by_cases h2 : nI n ≤ a
    · rw [if_neg h1, if_pos h2, if_neg (fun q => (fa_of_lt q.2).2.1 h2)]
    · rw [if_neg h1, if_neg h2, if_pos ⟨fa_of_nlt h1, fa_of_nle h2⟩]
theorem hasTwo_ok (h0 : m.1 8 u 0 = nI n) : fn_X8_hasTwo u a b m = some (if (0 ≤ a ∧ a < nI n) ∧ (0 ≤ b ∧ b < nI n) ∧ a ≠ b then 1 else 0) := by
  unfold fn_X8_hasTwo
  rw [h0]
  by_cases h1 : a < 0
  · rw [if_pos h1, if_neg (fun q => (fa_of_lt h1).2.1 q.1.1)]
  · by_cases h2 : nI n ≤ a
    · rw [if_neg h1, if_pos h2, if_neg (fun q => (fa_of_lt q.1.2).2.1 h2)]
    · by_cases h3 : b < 0
      · rw [if_neg h1, if_neg h2, if_pos h3, if_neg (fun q => (fa_of_lt h3).2.1 q.2.1.1)]
      · by_cases h4 : nI n ≤ b
        · rw [if_neg h1, if_neg h2, if_neg h3, if_pos h4, if_neg (fun q => (fa_of_lt q.2.1.2).2.1 h4)]
        · by_cases h5 : a = b
          · rw [if_neg h1, if_neg h2, if_neg h3, if_neg h4, if_pos h5, if_neg (fun q => q.2.2 h5)]
          · rw [if_neg h1, if_neg h2, if_neg h3, if_neg h4, if_neg h5, if_pos ⟨⟨fa_of_nlt h1, fa_of_nle h2⟩, ⟨fa_of_nlt h3, fa_of_nle h4⟩, h5⟩]
end SM
/-- what a call does: both answer alike, and all holds behind them -/
def op_ok {α : Type} (m : am_m) (f : am_m → Option (α × am_m)) (g : am_m → Option (α × am_m)) : Prop := ∃ r m1 m2, f m = some (r, m1) ∧ g m1 = some (r, m2) ∧ Inv m2
section OPS
variable {m : am_m}
theorem Inv.w (h : Inv m) : iv_W 999 (m.1 44 0) := h.1.1
theorem Inv.u (h : Inv m) : iv_U m 0 (m.1 44 0) := h.1.2.1
/-- the number of FOLK -/
theorem Inv.n (h : Inv m) : ∃ n, n ≤ 7 ∧ m.1 44 0 0 = nI n ∧ m.1 8 0 0 = nI n ∧ nv (m.1 44 0 0) = n := by
  have e := h.w.1 0 (by decide) (by decide)
  exact ⟨nv (m.1 44 0 0), h.w.2.1, e, h.u.1.trans e, rfl⟩
/-- a refusal of both -/
theorem op_refuse {f g : am_m → Option (Int32 × am_m)} (h : Inv m) (k : Nat) (h1 : 1 ≤ k) (h2 : k < 7) (hf : f m = (fn_X9_told (-(nI k)) m).bind fun r => some (r.1, r.2)) (hg : g (st_9 (-(nI k)) m) = (fn_X10_tell (-(nI k)) (am_si (st_9 (-(nI k)) m) 10 0 0 0)).bind fun r => some (r.1, r.2)) : op_ok m f g := by
  refine ⟨-(nI k), st_9 (-(nI k)) m, st_10 (-(nI k)) (am_si (st_9 (-(nI k)) m) 10 0 0 0), ?_, ?_, h.refuse⟩
  · rw [hf, td_ok (an_no k h1 h2), bd_s]
  · rw [hg, tl_ok (an_no k h1 h2), bd_s]
theorem op_crumbs (h : Inv m) : op_ok m (fun m => (fn_X9_crumbs m).map (fun r => (r, m))) (fun m => (fn_X10_crumbs m)) := by
  refine ⟨m.1 9 0 15, m, am_si m 10 0 0 0, rfl, ?_, h.look (WI := [(10, 0)]) (WL := []) (E := 0) (am_kp.si am_kp.rf rfl) rfl rfl⟩
  have e : m.1 9 0 15 = m.1 10 0 11 := h.1.2.2.2.2.2.2.2.1.1
  rw [e]
  rfl
theorem op_fault (h : Inv m) : op_ok m (fun m => (fn_X9_fault m).map (fun r => (r, m))) (fun m => (fn_X10_fault m)) := by
  refine ⟨m.1 4 0 10, m, am_si m 10 0 0 0, rfl, ?_, h.look (WI := [(10, 0)]) (WL := []) (E := 0) (am_kp.si am_kp.rf rfl) rfl rfl⟩
  have e : m.1 4 0 10 = m.1 10 0 18 := h.1.2.2.2.2.2.2.2.1.2.2.1
  rw [e]
  rfl
theorem op_stopped (h : Inv m) : op_ok m (fun m => (fn_X9_stopped m).map (fun r => (r, m))) (fun m => (fn_X10_stopped m)) := by
  refine ⟨m.1 9 0 16, m, am_si m 10 0 0 0, rfl, ?_, h.look (WI := [(10, 0)]) (WL := []) (E := 0) (am_kp.si am_kp.rf rfl) rfl rfl⟩
  have e : m.1 9 0 16 = m.1 10 0 57 := h.1.2.2.2.2.2.2.2.1.2.1
  rw [e]
  rfl
theorem op_status (h : Inv m) : op_ok m (fun m => (fn_X9_status m).map (fun r => (r, m))) (fun m => (fn_X10_status m)) := by
  refine ⟨m.1 9 0 17, m, am_si m 10 0 0 0, rfl, ?_, h.look (WI := [(10, 0)]) (WL := []) (E := 0) (am_kp.si am_kp.rf rfl) rfl rfl⟩
  have e : m.1 9 0 17 = m.1 10 0 1 := h.2.1
  rw [e]
  rfl
end OPS
