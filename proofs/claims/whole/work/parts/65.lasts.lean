/-! how long one lasts -/
def psN (r : Nat → Int32) (lw : lw_T) : Nat → Nat → Int32
  | 0 => r
  | d + 1 => passS (psN r lw d) lw
theorem rf_law.of {r r' : Nat → Int32} {lw : lw_T} (h : rf_law r lw) (h3 : r' 3 = r 3) (hk : ∀ k, 118 ≤ k → r' k = r k) : rf_law r' lw := by
  cases lw with
  | none => exact h3.trans h
  | some q =>
    obtain ⟨j, h1, h2, h4, h5⟩ := h
    refine ⟨j, h1, h3.trans h2, h4, ?_⟩
    rw [show (fun i => r' (118 + 900 * j + i)) = (fun i => r (118 + 900 * j + i)) from funext (fun i => hk _ (by omega))]
    exact h5
section LS
variable {m : am_m} {r : Nat → Int32} {lw : lw_T} {p : Nat}
theorem psN_out (h7 : nv (r 0) ≤ 7) {k : Nat} (hk : 14 ≤ k ∨ (k < 7 ∧ k ≠ 4)) : ∀ d, psN r lw d k = r k
  | 0 => rfl
  | d + 1 => by
    show passS (psN r lw d) lw k = _
    rw [passS_14 (by rw [psN_out h7 (by omega) d]; exact h7) hk]
    exact psN_out h7 hk d
theorem psN_4 (hW : iv_W 999 r) : ∀ d, d ≤ 1000 → psN r lw d 4 = nI (nv (r 4) + d)
  | 0, _ => hW.k (by decide) (by decide)
  | d + 1, hd => by
    have d4 := hW.2.2.2.2.2.1
    show passS (psN r lw d) lw 4 = _
    unfold passS dayS
    rw [if_pos rfl, fedI_out (by omega), psN_4 hW d (by omega), nv_nI (by omega)]
    rfl
theorem psN_W (hW : iv_W 999 r) : ∀ d, d ≤ 1000 → iv_W (999 + d) (psN r lw d)
  | 0, _ => hW
  | d + 1, hd => by
    have ih := psN_W hW d (by omega)
    exact passS_W ih (by omega) (by have := ih.2.2.2.2.2.1; omega) (by omega)
theorem psN_s (h7 : nv (r 0) ≤ 7) (hp : p < nv (r 0)) (d : Nat) : psN r lw (d + 1) (7 + p) = nI (pasF (psN r lw d) lw p) := by
  show passS (psN r lw d) lw (7 + p) = _
  unfold passS dayS
  rw [if_neg (by omega)]
  unfold fedI
  rw [if_pos (by rw [psN_out h7 (by omega)]; omega), Nat.add_sub_cancel_left]
/-- what is answered -/
def lsV (r : Nat → Int32) (lw : lw_T) (p : Nat) (v : Int32) : Prop := (v = -1 ∧ ∀ d, d < 101 → nv (psN r lw d (7 + p)) ≠ 0) ∨ ∃ d, d < 101 ∧ v = nI d ∧ nv (psN r lw d (7 + p)) = 0 ∧ ∀ e, e < d → nv (psN r lw e (7 + p)) ≠ 0
theorem lsV_one {v w : Int32} (h : lsV r lw p v) (g : lsV r lw p w) : v = w := by
  rcases h with ⟨h1, h2⟩ | ⟨d, h1, h2, h3, h4⟩
  · rcases g with ⟨g1, g2⟩ | ⟨e, g1, g2, g3, g4⟩
    · rw [h1, g1]
    · exact absurd g3 (h2 e g1)
  · rcases g with ⟨g1, g2⟩ | ⟨e, g1, g2, g3, g4⟩
    · exact absurd h3 (g2 d h1)
    · have : d = e := by
        rcases Nat.lt_trichotomy d e with z | z | z
        · exact absurd h3 (g4 d z)
        · exact z
        · exact absurd g3 (h4 e z)
      rw [h2, g2, this]
theorem clasts_ok (h : jdx 999 0 r lw m) (hp : p < nv (r 0)) : ∃ b, lp_X9_lasts_28 1000000 (nI p) (r (7 + p)) 0 m = some b ∧ ((∃ m', b = .inl m' ∧ lsV r lw p (-1)) ∨ ∃ v m', b = .inr (v, m') ∧ lsV r lw p v) := by
  have hW := h.2.2.1
  have h7 := hW.n7
  have d4 := hW.2.2.2.2.2.1
  refine lp_up0 (fun N x (a : Int32 × am_m) => lp_X9_lasts_28 N (nI p) a.1 x a.2) (fun d a => a.1 = psN r lw d (7 + p) ∧ jdx 999 0 r lw a.2 ∧ ∀ e, e < d → nv (psN r lw e (7 + p)) ≠ 0) _ 101 (by decide) (fun N a hh => ⟨.inl a.2, ?_, Or.inl ⟨a.2, rfl, Or.inl ⟨rfl, hh.2.2⟩⟩⟩) (fun N d a hd hh => ?_) (r (7 + p), m) ⟨rfl, h, fun e he => absurd he (Nat.not_lt_zero _)⟩
  · show lp_X9_lasts_28 (N + 1) (nI p) a.1 (nI 101) a.2 = _
    rw [lp_X9_lasts_28.eq_2, if_pos (by decide)]
  · obtain ⟨a1, j1, c1⟩ := hh
    have Wd := psN_W (lw := lw) hW d (by omega)
    have ef := Wd.k (k := 7 + p) (by omega) (by omega)
    have h9 := Wd.2.2.2.2.2.2.2.2.1 p (by omega)
    show (∃ a' : Int32 × am_m, lp_X9_lasts_28 (N + 1) (nI p) a.1 (nI d) a.2 = lp_X9_lasts_28 N (nI p) a'.1 (nI (d + 1)) a'.2 ∧ _) ∨ ∃ b, lp_X9_lasts_28 (N + 1) (nI p) a.1 (nI d) a.2 = some b ∧ _
    rw [lp_X9_lasts_28.eq_2, if_neg (show ¬ (100 : Int32) < nI d from nI_nlt (a := 100) (by omega) (by decide)), a1]
    by_cases hz : nv (psN r lw d (7 + p)) = 0
    · rw [if_neg (fun q => q (by rw [ef, hz]; rfl))]
      exact Or.inr ⟨_, rfl, Or.inr ⟨nI d, a.2, rfl, Or.inr ⟨d, hd, rfl, hz, c1⟩⟩⟩
    · rw [if_pos (by rw [ef]; exact nI_ne0 (by omega) (nv_lt _))]
      have e4 : a.2.1 39 0 0 + nI d = psN r lw d 4 := by
        rw [j1.2.1.2.2.2.2.1 0 (by decide), psN_4 hW d (by omega)]
        show r 4 + nI d = _
        rw [hW.k (k := 4) (by decide) (by decide), nI_add, nv_nI (nv_lt _)]
      obtain ⟨m2, e2, k2⟩ := hungerOf_ok (fed := psN r lw d (7 + p)) (day := psN r lw d 4) j1 (show p < 7 by omega) (fed_rng Wd (by omega)) (day_rng Wd (by omega))
      have es : sp_hun r lw p (psN r lw d (7 + p)) (psN r lw d 4) = sp_hun (psN r lw d) lw p (psN r lw d (7 + p)) (psN r lw d 4) := by
        unfold sp_hun
        rw [psN_out (k := 6) h7 (by omega)]
      obtain ⟨x, hx, ex⟩ := sp_hun_nat (r := psN r lw d) (lw := lw) (p := p) (fed := psN r lw d (7 + p)) (day := psN r lw d 4)
      have epas : nI (nv (psN r lw d (7 + p)) - x) = nI (pasF (psN r lw d) lw p) := by unfold pasF; rw [ex, nv_nI (by omega)]
      refine Or.inl ⟨(psN r lw (d + 1) (7 + p), m2), ?_, rfl, j1.kp k2 rfl, fun e he => ?_⟩
      · rw [e4, e2, bd_s, es, ex, psN_s h7 hp]
        unfold fn_J9_max_7cf53
        dsimp only
        have := mx_sub (nv (psN r lw d (7 + p))) (by omega) x (by omega)
        rw [← ef] at this
        by_cases hc : (0 : Int32) < psN r lw d (7 + p) - nI x
        · rw [if_pos hc] at this ⊢
          rw [bd_s, this, epas, nI_1]
        · rw [if_neg hc] at this ⊢
          rw [bd_s, this, epas, nI_1]
      · by_cases z : e = d
        · rw [z]; exact hz
        · exact c1 e (by omega)
theorem rlasts_ok (hx : rfx 999 lw m) (hr : m.1 44 0 = r) (hp : p < nv (r 0)) : ∃ t, lp_X10_lasts_23 1000000 (nI p) 0 m = some t ∧ ((if t.1 ≤ (100 : Int32) then lsV r lw p t.1 else lsV r lw p (-1)) ∧ (∀ k, (k < 4 ∨ 112 ≤ k) → t.2.1 44 0 k = r k) ∧ am_kp [(10, 34), (10, 38), (44, 0), (56, 0)] [(10, 39), (10, 40), (85, 0), (87, 0)] 0 m t.2) := by
  have hW : iv_W 999 r := by rw [← hr]; exact hx.1
  have h7 := hW.n7
  refine lp_up0 (fun N x (a : am_m) => lp_X10_lasts_23 N (nI p) x a) (fun d a => rfx (999 + d) lw a ∧ a.1 44 0 = psN r lw d ∧ am_kp [(10, 34), (10, 38), (44, 0), (56, 0)] [(10, 39), (10, 40), (85, 0), (87, 0)] 0 m a ∧ ∀ e, e < d → nv (psN r lw e (7 + p)) ≠ 0) _ 101 (by decide) (fun N a hh => ?_) (fun N d a hd hh => ?_) m ⟨hx, hr, am_kp.rf, fun e he => absurd he (Nat.not_lt_zero _)⟩
  · refine ⟨(nI 101, a), ?_, ?_, fun k hk => ?_, hh.2.2.1⟩
    · show lp_X10_lasts_23 (N + 1) (nI p) (nI 101) a = _
      rw [lp_X10_lasts_23.eq_2, if_pos (by decide)]
    · rw [if_neg (show ¬ nI 101 ≤ (100 : Int32) by decide)]
      exact Or.inl ⟨rfl, hh.2.2.2⟩
    · rw [hh.2.1]; exact psN_out h7 (by omega) _
  · obtain ⟨x1, r1, k1, c1⟩ := hh
    have Wd := psN_W (lw := lw) hW d (by omega)
    have ef := Wd.k (k := 7 + p) (by omega) (by omega)
    show (∃ a', lp_X10_lasts_23 (N + 1) (nI p) (nI d) a = lp_X10_lasts_23 N (nI p) (nI (d + 1)) a' ∧ _) ∨ ∃ b, lp_X10_lasts_23 (N + 1) (nI p) (nI d) a = some b ∧ _
    rw [lp_X10_lasts_23.eq_2, if_neg (show ¬ (100 : Int32) < nI d from nI_nlt (a := 100) (by omega) (by decide)), show (7 : Int32) = nI 7 from rfl, nI_add, ck_in (by omega) (by decide), nI_clamp (by omega), r1, ef]
    by_cases hz : nv (psN r lw d (7 + p)) = 0
    · rw [if_pos (by rw [hz]; decide)]
      refine Or.inr ⟨_, rfl, ?_, fun k hk => ?_, k1⟩
      · rw [if_pos (show nI d ≤ (100 : Int32) from nI_le (b := 100) (by omega) (by decide))]
        exact Or.inr ⟨d, hd, rfl, hz, c1⟩
      · rw [r1]; exact psN_out h7 (by omega) _
    · rw [if_neg (nI_nle (by omega) (nv_lt _))]
      obtain ⟨m2, e2, r2⟩ := rpass_ok x1
      have k2 := kp_X10_passIt _ _ e2
      rw [r1] at r2
      refine Or.inl ⟨m2, by rw [e2, bd_s, nI_1], ⟨?_, ?_, ?_⟩, r2, k1.tr k2, fun e he => ?_⟩
      · rw [r2]; exact psN_W hW (d + 1) (by omega)
      · rw [r2]
        have := x1.2.1
        rw [r1] at this
        refine this.of ?_ (fun k hk => ?_)
        · exact passS_14 (by rw [psN_out h7 (by omega)]; exact h7) (by omega)
        · exact passS_14 (by rw [psN_out h7 (by omega)]; exact h7) (by omega)
      · rw [k2.fld 10 0 20 rfl]; exact x1.2.2
      · by_cases z : e = d
        · rw [z]; exact hz
        · exact c1 e (by omega)
/-- a call behind which the row is as it was, and what can be undone too -/
theorem Inv.back {m' : am_m} {WI WL : List (Nat × Nat)} (h : Inv m) (k : am_kp WI WL 0 m m') (hk : (am_sub WI [(10, 0), (10, 34), (10, 38), (44, 0), (46, 0), (56, 0)] && am_sub WL sc_L) = true) (e44 : m'.1 44 0 = m.1 44 0) (e46 : ∀ x, x < 1728 → m'.1 46 0 x = m.1 46 0 x) : Inv m' := by
  rw [Bool.and_eq_true] at hk
  have k : am_kp [(10, 0), (10, 34), (10, 38), (44, 0), (46, 0), (56, 0)] sc_L 0 m m' := k.mono (by rw [hk.1, hk.2]; rfl)
  have hU : ∀ u, sm_U m m' u := sm_U.kp k rfl
  refine ⟨Inv0.lv (WI := [(10, 0), (10, 34), (10, 38), (44, 0), (46, 0), (56, 0)]) h.1 (am_kp.mono k rfl) rfl (fun u _ => hU u) (by rw [e44]; exact h.w) (by rw [e44]; exact h.u.of (hU 0)) (by rw [e44]) (fun j _ => by rw [e44]) ?_, h.2.kp k rfl⟩
  have h4 := h.1.2.2.2.1
  obtain ⟨h1, K, h2, h3, h5⟩ := h4
  have h4 : iv_H (m.1 3 0 1) (m.1 24 0) (nI K) (m.1 46 0) (m.1 47 0) (m.1 44 0) := by rw [← h3]; exact ⟨h1, K, h2, h3, h5⟩
  unfold hH
  rw [e44, k.fld 3 0 1 rfl, k.row 24 rfl, k.fld 10 0 8 rfl, k.row 47 rfl, h3]
  exact h4.cong h2 (fun x hx => e46 x (by omega)) (fun _ _ => rfl) (fun _ _ => rfl)
theorem op_lasts (h : Inv m) (a : Int32) : op_ok m (fun m => fn_X9_lasts a m) (fun m => fn_X10_lasts a m) := by
  obtain ⟨n, hn, e44, e8, en⟩ := h.n
  have hW := h.w
  by_cases ha : 0 ≤ a ∧ a < nI n
  · obtain ⟨p, hp, rfl⟩ := fk_of hn ha
    obtain ⟨lw, m0, e0, j0, f0, k0, l0⟩ := askLive_ok h
    have ef : m0.1 36 0 p = m.1 44 0 (7 + p) := j0.2.1.2.2.2.2.2.1 p (by omega)
    have fo : fn_X8_fedOf 0 (nI p) m0 = some (m.1 44 0 (7 + p)) := by
      unfold fn_X8_fedOf
      rw [has_ok (n := n) (by rw [f0]; exact e8), if_pos ha, bd_s, if_neg (by decide), ck_in (by omega) (by decide), nI_clamp (by omega), ef]
    obtain ⟨b, eb, hb⟩ := clasts_ok (p := p) j0 (by rw [en]; exact hp)
    have cls : ∃ v m1, fn_X9_lasts (nI p) m = some (v, m1) ∧ lsV (m.1 44 0) lw p v := by
      unfold fn_X9_lasts
      rw [has_ok e8, if_pos ha, bd_s, if_pos (by decide), e0, bd_s, fo, bd_s, eb, bd_s]
      rcases hb with ⟨m', rfl, hv⟩ | ⟨v, m', rfl, hv⟩
      · exact ⟨-1, m', rfl, hv⟩
      · exact ⟨v, m', rfl, hv⟩
    obtain ⟨v, m1, c1, c2⟩ := cls
    have k1 := kp_X9_lasts _ _ _ c1
    have i1 : Inv m1 := h.look k1 rfl rfl
    have e1 : m1.1 44 = m.1 44 := k1.row 44 rfl
    let mS : am_m := am_si m1 10 0 0 0
    obtain ⟨m2, a2, b2⟩ := keepAll_ok (m := mS) (K := 16) (by decide)
    have k2 := kp_X10_keepAll _ _ _ a2
    have a2 : fn_X10_keepAll 16 mS = some m2 := a2
    have r2 : m2.1 44 0 = m.1 44 0 := by rw [k2.row 44 rfl]; show m1.1 44 0 = _; rw [e1]
    have x2 : rfx 999 lw m2 := ⟨by rw [r2]; exact hW, by rw [r2]; exact l0 _ rfl (fun _ _ => rfl), by rw [k2.fld 10 0 20 rfl]; exact i1.1.2.2.2.2.2.2.2.1.2.2.2⟩
    obtain ⟨t, a3, b3, c3, k3⟩ := rlasts_ok (p := p) x2 r2 (by rw [en]; exact hp)
    obtain ⟨m4, a4, b4⟩ := putBack_ok (m := t.2) (K := 16) (by decide)
    have k4 := kp_X10_putBack _ _ _ a4
    have a4 : fn_X10_putBack 16 t.2 = some m4 := a4
    have hf : fn_X10_isFolk (nI p) mS = some 1 := by
      rw [isFolk_ok (n := n) hn (by show m1.1 44 0 0 = _; rw [e1]; exact e44), if_pos ha]
    have kall : am_kp [(10, 0), (10, 34), (10, 38), (44, 0), (46, 0), (56, 0)] [(10, 39), (10, 40), (85, 0), (87, 0)] 0 m1 m4 := (am_kp.si am_kp.rf rfl : am_kp [(10, 0), (10, 34), (10, 38), (44, 0), (46, 0), (56, 0)] [(10, 39), (10, 40), (85, 0), (87, 0)] 0 m1 mS).tr ((am_kp.mono k2 rfl).tr ((am_kp.mono k3 rfl).tr (am_kp.mono k4 rfl)))
    have f46 : ∀ x, t.2.1 46 0 x = if 108 * 16 ≤ x ∧ x < 108 * 16 + 108 then m.1 44 0 (4 + (x - 108 * 16)) else m1.1 46 0 x := fun x => by
      rw [k3.row 46 rfl, b2]
      show (if _ then m1.1 44 0 _ else m1.1 46 0 x) = _
      rw [e1]
    have r4 : m4.1 44 0 = m1.1 44 0 := by
      rw [e1]
      funext x
      rw [b4]
      by_cases hx : 4 ≤ x ∧ x < 112
      · rw [if_pos hx, f46, if_pos (by omega), show 4 + (108 * 16 + (x - 4) - 108 * 16) = x by omega]
      · rw [if_neg hx]; exact c3 x (by omega)
    have i4 : Inv m4 := i1.back kall rfl r4 (fun x hx => by rw [k4.row 46 rfl, f46, if_neg (by omega)])
    refine ⟨v, m1, m4, c1, ?_, i4⟩
    show fn_X10_lasts (nI p) m1 = _
    unfold fn_X10_lasts
    rw [hf, bd_s, if_pos (by decide), a2, bd_s, a3, bd_s, a4, bd_s]
    by_cases ht : t.1 ≤ (100 : Int32)
    · rw [if_pos ht] at b3 ⊢
      rw [lsV_one b3 c2]
    · rw [if_neg ht] at b3 ⊢
      rw [lsV_one b3 c2]
  · refine ⟨-1, m, am_si m 10 0 0 0, ?_, ?_, h.look (WI := [(10, 0)]) (WL := []) (E := 0) (am_kp.si am_kp.rf rfl) rfl rfl⟩
    · show fn_X9_lasts a m = _
      unfold fn_X9_lasts
      rw [has_ok e8, if_neg ha, bd_s, if_neg (by decide)]
    · show fn_X10_lasts a m = _
      unfold fn_X10_lasts
      rw [isFolk_ok (m := am_si m 10 0 0 0) (n := n) hn e44, if_neg ha, bd_s, if_neg (by decide)]
end LS
