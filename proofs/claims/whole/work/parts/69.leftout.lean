/-! whom to leave out: which sets can be parted into TABLES -/
/-- a set can be parted into k TABLES at most -/
def cpP (T : Nat → Bool) : Nat → Nat → Prop
  | 0, s => s = 0
  | k + 1, s => s = 0 ∨ ∃ t, (1 ≤ t ∧ t < 128) ∧ sd t s = 0 ∧ T t = true ∧ cpP T k (sd s t)
def CP (T : Nat → Bool) (s : Nat) : Prop := ∃ k, cpP T k s
/-- the lowest one of a set -/
def lowB (s j : Nat) : Prop := s.testBit j = true ∧ ∀ i, i < j → s.testBit i = false
section CPS
variable {T : Nat → Bool} {s t u : Nat}
theorem CP_iff : CP T s ↔ s = 0 ∨ ∃ t, (1 ≤ t ∧ t < 128) ∧ sd t s = 0 ∧ T t = true ∧ CP T (sd s t) := by
  constructor
  · rintro ⟨k, hk⟩
    cases k with
    | zero => exact Or.inl hk
    | succ k =>
      rcases hk with h | ⟨t, h1, h2, h3, h4⟩
      · exact Or.inl h
      · exact Or.inr ⟨t, h1, h2, h3, k, h4⟩
  · rintro (h | ⟨t, h1, h2, h3, k, h4⟩)
    · exact ⟨0, h⟩
    · exact ⟨k + 1, Or.inr ⟨t, h1, h2, h3, h4⟩⟩
theorem sub_bits (ht : t < 128) : sd t s = 0 ↔ ∀ k, t.testBit k = true → s.testBit k = true := sd_0 (by omega)
theorem sub_le (ht : t < 128) (h : sd t s = 0) : t ≤ s := by
  have e : t &&& s = t := Nat.eq_of_testBit_eq (fun k => by
    rw [Nat.testBit_and]
    cases hk : t.testBit k with
    | false => rfl
    | true => rw [(sub_bits ht).mp h k hk]; rfl)
  rw [← e]
  exact Nat.and_le_right
theorem sd_ne (ht : t < 128) (hs : s < 128) (h1 : 1 ≤ t) (h : sd t s = 0) : sd s t < s := by
  have h2 := sd_le s t
  by_cases e : sd s t = s
  · exfalso
    have z : t = 0 := Nat.eq_of_testBit_eq (fun k => by
      rw [Nat.zero_testBit]
      cases hk : t.testBit k with
      | false => rfl
      | true =>
        have h3 := (sub_bits ht).mp h k hk
        have h4 := sd_bit (b := t) (show s < 4294967296 by omega) k
        rw [e, h3, hk] at h4
        cases h4)
    omega
  · omega
theorem low_all : ∀ s, s < 128 → 1 ≤ s → ∃ j, j < 7 ∧ (nI s &&& (-(nI s)) = nI (2 ^ j) ∧ s.testBit j = true ∧ ∀ i, i < j → s.testBit i = false) := by decide +kernel
/-- the lowest one's TABLE can come first -/
theorem CP_low {j : Nat} : ∀ (N s : Nat), s < N → s < 128 → lowB s j → CP T s → ∃ t, t < 128 ∧ sd t s = 0 ∧ t.testBit j = true ∧ T t = true ∧ CP T (sd s t)
  | 0, _, h, _, _, _ => absurd h (Nat.not_lt_zero _)
  | N + 1, s, hN, hs, hl, h => by
    rcases CP_iff.mp h with h | ⟨t, h1, h2, h3, h4⟩
    · rw [h] at hl
      have := hl.1
      rw [Nat.zero_testBit] at this
      cases this
    · cases hj : t.testBit j with
      | true => exact ⟨t, h1.2, h2, hj, h3, h4⟩
      | false =>
        have hlt := sd_ne h1.2 hs h1.1 h2
        have bS : ∀ k, (sd s t).testBit k = (s.testBit k && !t.testBit k) := sd_bit (by omega)
        have hl2 : lowB (sd s t) j := ⟨by rw [bS, hl.1, hj]; rfl, fun i hi => by rw [bS, hl.2 i hi]; rfl⟩
        obtain ⟨v, v1, v2, v3, v4, v5⟩ := CP_low N (sd s t) (by omega) (by omega) hl2 h4
        have vs : ∀ k, v.testBit k = true → s.testBit k = true ∧ t.testBit k = false := fun k hk => by
          have := (sub_bits v1).mp v2 k hk
          rw [bS, Bool.and_eq_true] at this
          refine ⟨this.1, ?_⟩
          cases hz : t.testBit k with
          | false => rfl
          | true => rw [hz] at this; exact absurd this.2 (by decide)
        have bV : ∀ k, (sd s v).testBit k = (s.testBit k && !v.testBit k) := sd_bit (by omega)
        refine ⟨v, v1, (sub_bits v1).mpr (fun k hk => (vs k hk).1), v3, v4, CP_iff.mpr (Or.inr ⟨t, h1, (sub_bits h1.2).mpr (fun k hk => ?_), h3, ?_⟩)⟩
        · rw [bV, (sub_bits h1.2).mp h2 k hk]
          cases hz : v.testBit k with
          | false => rfl
          | true => rw [(vs k hz).2] at hk; cases hk
        · have e : sd (sd s v) t = sd (sd s t) v := by
            have l1 := sd_le s v
            have l2 := sd_le s t
            refine Nat.eq_of_testBit_eq (fun k => ?_)
            rw [sd_bit (by omega), sd_bit (by omega), sd_bit (by omega), sd_bit (by omega)]
            cases s.testBit k <;> cases v.testBit k <;> cases t.testBit k <;> rfl
          rw [e]; exact v5
theorem CP_low_iff {j : Nat} (hs : s < 128) (hl : lowB s j) : CP T s ↔ ∃ t, t < 128 ∧ sd t s = 0 ∧ t.testBit j = true ∧ T t = true ∧ CP T (sd s t) := by
  constructor
  · exact CP_low (s + 1) s (Nat.lt_succ_self _) hs hl
  · rintro ⟨t, h1, h2, h3, h4, h5⟩
    refine CP_iff.mpr (Or.inr ⟨t, ⟨?_, h1⟩, h2, h4, h5⟩)
    by_cases c : t = 0
    · rw [c, Nat.zero_testBit] at h3; cases h3
    · omega
/-- the next lower part of a set -/
theorem nxt_sub : ∀ (N s t u : Nat), s < N → sd t s = 0 → sd u s = 0 → s < 128 → t < 128 → u < t → u ≤ (t - 1) &&& s
  | 0, _, _, _, h, _, _, _, _, _ => absurd h (Nat.not_lt_zero _)
  | N + 1, s, t, u, hN, ht, hu, hs, ht8, hut => by
    have bt := (sub_bits ht8).mp ht
    have bu := (sub_bits (show u < 128 by omega)).mp hu
    have e0 : ∀ x : Nat, x % 2 = if x.testBit 0 then 1 else 0 := fun x => by
      rw [Nat.testBit_zero]
      by_cases h : x % 2 = 1
      · rw [decide_eq_true h, if_pos rfl, h]
      · rw [decide_eq_false h, if_neg (by decide)]; omega
    by_cases hs0 : s = 0
    · have : t ≤ s := sub_le ht8 ht
      omega
    have d2 : ∀ x y : Nat, (x &&& y) / 2 = x / 2 &&& y / 2 := fun x y => by
      refine Nat.eq_of_testBit_eq (fun k => ?_)
      rw [Nat.testBit_div_two, Nat.testBit_and, Nat.testBit_and, Nat.testBit_div_two, Nat.testBit_div_two]
    have m2 : ∀ x y : Nat, (x &&& y) % 2 = (x % 2) * (y % 2) := fun x y => by
      rw [e0, e0, e0, Nat.testBit_and]
      cases x.testBit 0 <;> cases y.testBit 0 <;> rfl
    have hT : sd (t / 2) (s / 2) = 0 := (sub_bits (by omega)).mpr (fun k hk => by
      rw [Nat.testBit_div_two] at hk ⊢; exact bt _ hk)
    have hU : sd (u / 2) (s / 2) = 0 := (sub_bits (by omega)).mpr (fun k hk => by
      rw [Nat.testBit_div_two] at hk ⊢; exact bu _ hk)
    have mt : t % 2 ≤ s % 2 := by
      rw [e0, e0]
      cases h : t.testBit 0 with
      | false => rw [if_neg (by decide)]; omega
      | true => rw [bt 0 h]; exact Nat.le_refl _
    have mu : u % 2 ≤ s % 2 := by
      rw [e0, e0]
      cases h : u.testBit 0 with
      | false => rw [if_neg (by decide)]; omega
      | true => rw [bu 0 h]; exact Nat.le_refl _
    have ed := d2 (t - 1) s
    have em := m2 (t - 1) s
    by_cases ho : t % 2 = 1
    · have e1 : (t - 1) / 2 = t / 2 := by omega
      have e2 : t / 2 &&& s / 2 = t / 2 := Nat.eq_of_testBit_eq (fun k => by
        rw [Nat.testBit_and]
        cases hk : (t / 2).testBit k with
        | false => rfl
        | true => rw [(sub_bits (show t / 2 < 128 by omega)).mp hT k hk]; rfl)
      rw [e1, e2] at ed
      omega
    · have e1 : (t - 1) / 2 = t / 2 - 1 := by omega
      have e3 : (t - 1) % 2 = 1 := by omega
      have ih := nxt_sub N (s / 2) (t / 2) (u / 2) (by omega) hT hU (by omega) (by omega) (by omega)
      rw [e1] at ed
      rw [e3, Nat.one_mul] at em
      omega
end CPS
section CFP
variable {m : am_m} {R : Nat → Nat} {n s : Nat}
def ptC (T : Nat → Bool) (m : am_m) (c i : Nat) : Prop := ∀ s, s < i → ∃ b, m.1 c 0 s = bv b ∧ (b = true ↔ CP T s)
theorem clsR.si {c k : Nat} {v : Int32} (h : clsR n R m) (hc : c ≠ 6 ∧ c ≠ 30) : clsR n R (am_si m c 0 k v) := h.of (by show am_u3 m.1 c 0 k v 6 0 0 = _; rw [am_u3_nq (fun z => hc.1 z.1.symm)]) (by
  funext a b
  show am_u3 m.1 c 0 k v 30 a b = _
  rw [am_u3_nq (fun z => hc.2 z.1.symm)])
theorem and_sub (t s : Nat) : nI t &&& nI s = nI (t &&& s) := fa_and t s
theorem cfp_in {j : Nat} (h : clsR n R m) (hn : n ≤ 7) (hs1 : 1 ≤ s) (hs : s < 2 ^ n) (hl : lowB s j) (hj : j < 7) (hp : ptC (tb R n) m 90 s) (h0 : m.1 90 0 s = 0) : ∃ m', lp_X6_findParts_31 1000000 (nI s) (nI (2 ^ j)) (nI s) m = some m' ∧ (clsR n R m' ∧ ptC (tb R n) m' 90 (s + 1)) := by
  have h128 := pw_le hn
  have fin : ∀ (N t : Nat) (m1 : am_m), t < N → t < 128 → sd t s = 0 → clsR n R m1 → (∀ k, k ≠ s → m1.1 90 0 k = m.1 90 0 k) → m1.1 90 0 s = 0 → (∀ u, u < 128 → sd u s = 0 → t < u → ¬ (u.testBit j = true ∧ tb R n u = true ∧ CP (tb R n) (sd s u))) → ∀ M, N < M → ∃ m', lp_X6_findParts_31 M (nI s) (nI (2 ^ j)) (nI t) m1 = some m' ∧ clsR n R m' ∧ ptC (tb R n) m' 90 (s + 1) := by
    intro N
    induction N with
    | zero => intro t m1 h1; exact absurd h1 (Nat.not_lt_zero _)
    | succ N ih =>
      intro t m1 h1 h2 h3 c1 q1 z1 no M hM
      obtain ⟨M, rfl⟩ : ∃ M', M = M' + 1 := ⟨M - 1, by omega⟩
      have pt : ∀ b, (b = true ↔ CP (tb R n) s) → ∀ m2 : am_m, (∀ k, k ≠ s → m2.1 90 0 k = m.1 90 0 k) → m2.1 90 0 s = bv b → ptC (tb R n) m2 90 (s + 1) := fun b hb m2 q2 e2 k hk => by
        by_cases e : k = s
        · rw [e]; exact ⟨b, e2, hb⟩
        · rw [q2 k e]; exact hp k (by omega)
      rw [lp_X6_findParts_31.eq_2]
      by_cases t0 : t = 0
      · rw [t0, if_pos (show nI 0 ≤ 0 by decide)]
        refine ⟨m1, rfl, c1, pt false ⟨fun z => (by cases z), fun z => ?_⟩ m1 q1 z1⟩
        obtain ⟨u, u1, u2, u3, u4, u5⟩ := (CP_low_iff (by omega) hl).mp z
        refine absurd ⟨u3, u4, u5⟩ (no u u1 u2 ?_)
        rw [t0]
        by_cases c : u = 0
        · rw [c, Nat.zero_testBit] at u3; cases u3
        · omega
      · rw [if_neg (nI_nle (by omega) (by omega)), ck_in (by omega) (by decide), nI_clamp (by omega), z1, if_neg (show ¬ (0 : Int32) ≠ 0 by decide)]
        have tle := sub_le h2 h3
        have hlt := sd_ne h2 (by omega) (by omega) h3
        have sdI : nI s &&& (nI t ^^^ (-1 : Int32)) = nI (sd s t) := sd_I s t
        obtain ⟨b, eb, hb⟩ := hp (sd s t) hlt
        have e90 : m1.1 90 0 (sd s t) = bv b := by rw [q1 _ (by omega)]; exact eb
        have nx : (nI t - (1 : Int32)) &&& nI s = nI ((t - 1) &&& s) := by
          rw [show (1 : Int32) = nI 1 from rfl, pk_sub (by omega), fa_and]
        have ln : (t - 1) &&& s ≤ t - 1 := Nat.and_le_left
        have sn : sd ((t - 1) &&& s) s = 0 := (sub_bits (by omega)).mpr (fun k hk => by
          rw [Nat.testBit_and, Bool.and_eq_true] at hk; exact hk.2)
        -- the value that is laid
        have val : ∀ (v : Bool), (v = true ↔ (t.testBit j = true ∧ tb R n t = true ∧ CP (tb R n) (sd s t))) → ∃ m', am_gd (bv v = 0 ∨ bv v = 1) (am_ck (nI s) 128 (lp_X6_findParts_31 M (nI s) (nI (2 ^ j)) ((nI t - (1 : Int32)) &&& nI s) (am_si m1 90 0 s (bv v)))) = some m' ∧ clsR n R m' ∧ ptC (tb R n) m' 90 (s + 1) := by
          intro v hv
          rw [gd_t (bv_01 v), ck_in (by omega) (by decide), nx]
          have q2 : ∀ k, k ≠ s → (am_si m1 90 0 s (bv v)).1 90 0 k = m.1 90 0 k := fun k hk => by rw [rd_j, if_neg hk]; exact q1 k hk
          have c2 : clsR n R (am_si m1 90 0 s (bv v)) := c1.si (by decide)
          cases v with
          | false =>
            refine ih ((t - 1) &&& s) _ (by omega) (by omega) sn c2 q2 (by rw [rd_j, if_pos rfl]; rfl) (fun u u1 u2 u3 u4 => ?_) M (by omega)
            by_cases e : u = t
            · rw [e] at u4
              have := hv.mpr u4
              cases this
            · by_cases c : u < t
              · have := nxt_sub (s + 1) s t u (Nat.lt_succ_self _) h3 u2 (by omega) h2 c
                omega
              · exact no u u1 u2 (by omega) u4
          | true =>
            have hCP : CP (tb R n) s := (CP_low_iff (by omega) hl).mpr ⟨t, h2, h3, (hv.mp rfl).1, (hv.mp rfl).2.1, (hv.mp rfl).2.2⟩
            obtain ⟨M, rfl⟩ : ∃ M', M = M' + 1 := ⟨M - 1, by omega⟩
            rw [lp_X6_findParts_31.eq_2]
            have z2 : (am_si m1 90 0 s (bv true)).1 90 0 s = bv true := by rw [rd_j, if_pos rfl]
            have res := pt true ⟨fun _ => hCP, fun _ => rfl⟩ (am_si m1 90 0 s (bv true)) q2 z2
            by_cases c : nI ((t - 1) &&& s) ≤ 0
            · rw [if_pos c]; exact ⟨_, rfl, c2, res⟩
            · rw [if_neg c, ck_in (by omega) (by decide), nI_clamp (by omega), z2, if_pos (show bv true ≠ 0 by decide)]
              exact ⟨_, rfl, c2, res⟩
        by_cases hbit : t.testBit j = true
        · have nz : ¬ (nI t &&& nI (2 ^ j)) = 0 := fun z => by rw [(fa_bit (by omega)).mp z] at hbit; cases hbit
          rw [if_neg nz, sdI, ck_in (by omega) (by decide), nI_clamp (by omega), e90]
          cases b with
          | false =>
            rw [if_pos (show bv false = 0 from rfl), bd_s]
            exact val false ⟨fun z => (by cases z), fun z => hb.mpr z.2.2⟩
          | true =>
            rw [if_neg (show ¬ bv true = 0 by decide), ctable_ok c1 hn h2, bd_s]
            cases ht : tb R n t with
            | false =>
              rw [if_pos (show bv false = 0 from rfl), bd_s]
              exact val false ⟨fun z => (by cases z), fun z => by rw [ht] at z; exact z.2.1⟩
            | true =>
              rw [if_neg (show ¬ bv true = 0 by decide), bd_s]
              exact val true ⟨fun _ => ⟨hbit, ht, hb.mp rfl⟩, fun _ => rfl⟩
        · have nz : (nI t &&& nI (2 ^ j)) = 0 := (fa_bit (by omega)).mpr (by cases h : t.testBit j with
            | true => exact absurd h hbit
            | false => rfl)
          rw [if_pos nz, bd_s]
          exact val false ⟨fun z => (by cases z), fun z => absurd z.1 hbit⟩
  exact fin 128 s m (by omega) (by omega) ((sub_bits (by omega)).mpr (fun _ hk => hk)) h (fun _ _ => rfl) h0 (fun u u1 u2 u3 => absurd (sub_le u1 u2) (by omega)) 1000000 (by decide)
theorem cparts_ok (h : clsR n R m) (hn : n ≤ 7) : ∃ m', fn_X6_findParts m = some m' ∧ clsR n R m' ∧ ptC (tb R n) m' 90 (2 ^ n) := by
  have h128 := pw_le hn
  have hp := pw_pos n
  have key : ∃ m', lp_X6_findParts_9 1000000 (nI 1) (am_si m 90 0 0 1) = some m' ∧ (clsR n R m' ∧ ptC (tb R n) m' 90 (2 ^ n)) := by
    refine lp_up (fun N x a => lp_X6_findParts_9 N x a) (fun i m1 => 1 ≤ i ∧ clsR n R m1 ∧ ptC (tb R n) m1 90 i) _ (2 ^ n) (fun N m1 hh => ?_) (fun N i m1 hi hh => Or.inl ?_) (2 ^ n - 1) 1 1000000 (am_si m 90 0 0 1) (by omega) (by omega) ⟨Nat.le_refl _, h.si (by decide), fun s hs => ?_⟩
    · refine ⟨m1, ?_, hh.2⟩
      show lp_X6_findParts_9 (N + 1) (nI (2 ^ n)) m1 = _
      rw [lp_X6_findParts_9.eq_2, every_ok hh.2.1.1 hn, bd_s, if_pos (nI_lt (by omega) (by omega))]
    · obtain ⟨i1, c1, p1⟩ := hh
      obtain ⟨j, j1, j2, j3, j4⟩ := low_all i (by omega) i1
      have p2 : ptC (tb R n) (am_si m1 90 0 i 0) 90 i := fun s hs => by
        rw [rd_j, if_neg (by omega)]; exact p1 s hs
      obtain ⟨m2, e2, q2⟩ := cfp_in (m := am_si m1 90 0 i 0) (c1.si (by decide)) hn i1 hi ⟨j3, j4⟩ j1 p2 (by rw [rd_j, if_pos rfl])
      refine ⟨m2, ?_, by omega, q2⟩
      show lp_X6_findParts_9 (N + 1) (nI i) m1 = lp_X6_findParts_9 N (nI (i + 1)) m2
      rw [lp_X6_findParts_9.eq_2, every_ok c1.1 hn, bd_s, if_neg (nI_nlt (by omega) (by omega)), ck_in (by omega) (by decide), nI_clamp (by omega), j2, e2, bd_s, nI_1]
    · have e : s = 0 := by omega
      rw [e]
      exact ⟨true, rfl, fun _ => ⟨0, rfl⟩, fun _ => rfl⟩
  obtain ⟨m', e1, e2⟩ := key
  refine ⟨m', ?_, e2⟩
  unfold fn_X6_findParts
  have e1 : lp_X6_findParts_9 1000000 1 (am_si m 90 0 0 1) = some m' := e1
  show am_ck (nI 0) 128 ((lp_X6_findParts_9 1000000 1 (am_si m 90 0 0 1)).bind fun q23 => some q23) = _
  rw [ck_in (by decide) (by decide), e1, bd_s]
/-- the first of the least that can be left out -/
def lfO (G : Nat → Bool) : Nat → Option Nat
  | 0 => none
  | i + 1 => if G i then (match lfO G i with
    | none => some i
    | some w => if pc i < pc w then some i else some w) else lfO G i
theorem lfO_lt {G : Nat → Bool} : ∀ i w, lfO G i = some w → w < i
  | 0, _, h => by cases h
  | i + 1, w, h => by
    rw [lfO] at h
    cases hG : G i with
    | false => rw [hG, if_neg (by decide)] at h; have := lfO_lt i w h; omega
    | true =>
      rw [hG, if_pos rfl] at h
      cases hm : lfO G i with
      | none => rw [hm] at h; cases h; omega
      | some v =>
        rw [hm] at h
        have h : (if pc i < pc v then some i else some v) = some w := h
        by_cases c : pc i < pc v
        · rw [if_pos c] at h; cases h; omega
        · rw [if_neg c] at h; cases h; have := lfO_lt i _ hm; omega
def lfD (G : Nat → Bool) (n i : Nat) : Nat := (lfO G i).getD (2 ^ n - 1)
theorem lfD_lt {G : Nat → Bool} {i : Nat} (hi : i ≤ 2 ^ n) : lfD G n i < 2 ^ n := by
  have hp := pw_pos n
  unfold lfD
  cases h : lfO G i with
  | none => show 2 ^ n - 1 < _; omega
  | some w => have := lfO_lt i w h; show w < _; omega
theorem cout_ok {G : Nat → Bool} (h : clsR n R m) (hn : n ≤ 7) (hG : ∀ i, i < 2 ^ n → m.1 90 0 (sd (2 ^ n - 1) i) = bv (G i)) : lp_X6_fewestOut_11 1000000 (nI (2 ^ n - 1)) 0 m = some (nI (lfD G n (2 ^ n))) := by
  have h128 := pw_le hn
  have hp := pw_pos n
  refine lp_eq (fun N x a => lp_X6_fewestOut_11 N a x m) (fun i => nI (lfD G n i)) _ (2 ^ n) (by omega) (fun N => ?_) (fun N i hi => ?_) 0 (by omega)
  · show lp_X6_fewestOut_11 (N + 1) _ (nI (2 ^ n)) m = _
    rw [lp_X6_fewestOut_11.eq_2, every_ok h.1 hn, bd_s, if_pos (nI_lt (by omega) (by omega))]
  · show lp_X6_fewestOut_11 (N + 1) (nI (lfD G n i)) (nI i) m = lp_X6_fewestOut_11 N (nI (lfD G n (i + 1))) (nI (i + 1)) m
    have l1 := lfD_lt (n := n) (G := G) (i := i) (by omega)
    have p1 := pc_le i
    have p2 := pc_le (lfD G n i)
    have sl := sd_le (2 ^ n - 1) i
    rw [lp_X6_fewestOut_11.eq_2, every_ok h.1 hn, bd_s, if_neg (nI_nlt (by omega) (by omega)), bd_s, bc_ok (by omega), bd_s, bc_ok (by omega), bd_s, nI_1, sd_I, nI_clamp (by omega), hG i hi, ck_in (by omega) (by decide)]
    have st : lfD G n (i + 1) = if pc i < pc (lfD G n i) ∧ G i = true then i else lfD G n i := by
      unfold lfD
      rw [lfO]
      cases hg : G i with
      | false => rw [if_neg (by decide), if_neg (fun z => by cases z.2)]
      | true =>
        rw [if_pos rfl]
        cases hm : lfO G i with
        | none =>
          show i = if pc i < pc (2 ^ n - 1) ∧ true = true then i else 2 ^ n - 1
          by_cases e : i = 2 ^ n - 1
          · rw [if_neg (fun z => by rw [e] at z; exact absurd z.1 (Nat.lt_irrefl _))]; exact e
          · have gr : pc i < pc (2 ^ n - 1) := pc_grow (by omega) (fun k hk => by
              rw [Nat.testBit_two_pow_sub_one]
              exact decide_eq_true (bit_lt hi hk)) (Ne.symm e)
            rw [if_pos ⟨gr, rfl⟩]
        | some w =>
          show (if pc i < pc w then some i else some w).getD _ = if pc i < pc w ∧ true = true then i else w
          by_cases c : pc i < pc w
          · rw [if_pos c, if_pos ⟨c, rfl⟩]; rfl
          · rw [if_neg c, if_neg (fun z => c z.1)]; rfl
    rw [st]
    by_cases c : pc i < pc (lfD G n i)
    · rw [if_neg (nI_ge c (by omega))]
      cases hg : G i with
      | false => rw [if_pos (show bv false = 0 from rfl), bd_s, if_neg (fun z => by cases z.2)]
      | true => rw [if_neg (show ¬ bv true = 0 by decide), bd_s, if_pos ⟨c, rfl⟩]
    · rw [if_pos (nI_le (by omega) (by omega)), bd_s, if_neg (fun z => c z.1)]
end CFP
section RLP
variable {m : am_m} {R : Nat → Nat} {n s : Nat}
def refK (n : Nat) (R : Nat → Nat) (m : am_m) : Prop := refR n R m
theorem refR.si {c k : Nat} {v : Int32} (h : refR n R m) (hc : c ≠ 44 ∧ c ≠ 92) : refR n R (am_si m c 0 k v) := by
  have e44 : (am_si m c 0 k v).1 44 = m.1 44 := by
    funext a b
    show am_u3 m.1 c 0 k v 44 a b = _
    rw [am_u3_nq (fun z => hc.1 z.1.symm)]
  have e92 : (am_si m c 0 k v).1 92 = m.1 92 := by
    funext a b
    show am_u3 m.1 c 0 k v 92 a b = _
    rw [am_u3_nq (fun z => hc.2 z.1.symm)]
  have lp : ∀ (N : Nat) (x1 x2 x3 : Int32), lp_X10_sitsWith_4 N x1 x2 x3 (am_si m c 0 k v) = lp_X10_sitsWith_4 N x1 x2 x3 m := by
    intro N
    induction N with
    | zero => intro x1 x2 x3; rfl
    | succ N ih =>
      intro x1 x2 x3
      rw [lp_X10_sitsWith_4.eq_2, lp_X10_sitsWith_4.eq_2, e44, e92, ih]
  refine ⟨by rw [e44]; exact h.1, fun p hp => ?_⟩
  rw [← h.2 p hp]
  unfold fn_X10_sitsWith
  rw [lp]
theorem rlp_in (h : refR n R m) (hn : n ≤ 7) (hs1 : 1 ≤ s) (hs : s < 2 ^ n) (hp : ptC (tb R n) m 94 s) (ht : ∀ t, t ≤ s → m.1 95 0 t = bv (tb R n t)) (h0 : m.1 94 0 s = 0) : ∃ m', lp_X10_layParts_38 1000000 (nI s) 1 m = some m' ∧ (refR n R m' ∧ ptC (tb R n) m' 94 (s + 1) ∧ m'.1 95 = m.1 95) := by
  have h128 := pw_le hn
  refine lp_up (fun N x a => lp_X10_layParts_38 N (nI s) x a) (fun i m1 => 1 ≤ i ∧ refR n R m1 ∧ m1.1 95 = m.1 95 ∧ (∀ k, k ≠ s → m1.1 94 0 k = m.1 94 0 k) ∧ ∃ b, m1.1 94 0 s = bv b ∧ (b = true ↔ ∃ t, t < i ∧ (1 ≤ t ∧ t < 128) ∧ sd t s = 0 ∧ tb R n t = true ∧ CP (tb R n) (sd s t))) _ (s + 1) (fun N m1 hh => ?_) (fun N i m1 hi hh => Or.inl ?_) s 1 1000000 m (by omega) (by omega) ⟨Nat.le_refl _, h, rfl, fun _ _ => rfl, false, h0, fun z => (by cases z), fun ⟨t, z1, z2, _⟩ => by omega⟩
  · obtain ⟨i1, c1, e95, q1, b, eb, hb⟩ := hh
    refine ⟨m1, ?_, c1, fun k hk => ?_, e95⟩
    · show lp_X10_layParts_38 (N + 1) (nI s) (nI (s + 1)) m1 = _
      rw [lp_X10_layParts_38.eq_2, if_pos (nI_lt (by omega) (by omega))]
    · by_cases e : k = s
      · rw [e]
        refine ⟨b, eb, hb.trans ?_⟩
        rw [CP_iff]
        constructor
        · rintro ⟨t, _, t1, t2, t3, t4⟩; exact Or.inr ⟨t, t1, t2, t3, t4⟩
        · rintro (z | ⟨t, t1, t2, t3, t4⟩)
          · omega
          · exact ⟨t, by have := sub_le t1.2 t2; omega, t1, t2, t3, t4⟩
      · rw [q1 k e]; exact hp k (by omega)
  · obtain ⟨i1, c1, e95, q1, b, eb, hb⟩ := hh
    have sdI : nI s &&& (nI i ^^^ (-1 : Int32)) = nI (sd s i) := sd_I s i
    have sdI2 : nI i &&& (nI s ^^^ (-1 : Int32)) = nI (sd i s) := sd_I i s
    have l1 := sd_le s i
    have l2 := sd_le i s
    show ∃ a', lp_X10_layParts_38 (N + 1) (nI s) (nI i) m1 = lp_X10_layParts_38 N (nI s) (nI (i + 1)) a' ∧ _
    rw [lp_X10_layParts_38.eq_2, if_neg (nI_nlt (by omega) (by omega)), ck_in (by omega) (by decide), nI_clamp (by omega), eb]
    have fin : ∀ v : Bool, (v = true ↔ ∃ t, t < i + 1 ∧ (1 ≤ t ∧ t < 128) ∧ sd t s = 0 ∧ tb R n t = true ∧ CP (tb R n) (sd s t)) → ∃ a', am_gd (bv v = 0 ∨ bv v = 1) (am_ck (nI s) 128 (lp_X10_layParts_38 N (nI s) (nI i + 1) (am_si m1 94 0 s (bv v)))) = lp_X10_layParts_38 N (nI s) (nI (i + 1)) a' ∧ (1 ≤ i + 1 ∧ refR n R a' ∧ a'.1 95 = m.1 95 ∧ (∀ k, k ≠ s → a'.1 94 0 k = m.1 94 0 k) ∧ ∃ b, a'.1 94 0 s = bv b ∧ (b = true ↔ ∃ t, t < i + 1 ∧ (1 ≤ t ∧ t < 128) ∧ sd t s = 0 ∧ tb R n t = true ∧ CP (tb R n) (sd s t))) := fun v hv => by
      rw [gd_t (bv_01 v), ck_in (by omega) (by decide), nI_1]
      exact ⟨_, rfl, by omega, c1.si (by decide), e95, fun k hk => by rw [rd_j, if_neg hk]; exact q1 k hk, v, by rw [rd_j, if_pos rfl], hv⟩
    cases b with
    | true =>
      rw [if_pos (show bv true ≠ 0 by decide), bd_s]
      obtain ⟨t, t0, t1⟩ := hb.mp rfl
      exact fin true ⟨fun _ => ⟨t, by omega, t1⟩, fun _ => rfl⟩
    | false =>
      rw [if_neg (show ¬ bv false ≠ 0 by decide), sdI, sdI2]
      have nob : ∀ t, t < i → ¬ ((1 ≤ t ∧ t < 128) ∧ sd t s = 0 ∧ tb R n t = true ∧ CP (tb R n) (sd s t)) := fun t h1 h2 => by
        have := hb.mpr ⟨t, h1, h2⟩
        cases this
      have only : ∀ v : Bool, (v = true ↔ sd i s = 0 ∧ tb R n i = true ∧ CP (tb R n) (sd s i)) → (v = true ↔ ∃ t, t < i + 1 ∧ (1 ≤ t ∧ t < 128) ∧ sd t s = 0 ∧ tb R n t = true ∧ CP (tb R n) (sd s t)) := fun v hv => by
        rw [hv]
        constructor
        · intro z; exact ⟨i, by omega, ⟨by omega, by omega⟩, z⟩
        · rintro ⟨t, t0, t1⟩
          by_cases e : t = i
          · rw [e] at t1; exact t1.2
          · exact absurd t1 (nob t (by omega))
      by_cases c : sd i s = 0
      · have hlt := sd_ne (show i < 128 by omega) (by omega) i1 c
        obtain ⟨b2, eb2, hb2⟩ := hp (sd s i) hlt
        have e94 : m1.1 94 0 (sd s i) = bv b2 := by rw [q1 _ (by omega)]; exact eb2
        have et : m1.1 95 0 i = bv (tb R n i) := by rw [e95]; exact ht i (by omega)
        rw [c, if_neg (show ¬ nI 0 ≠ 0 by decide), ck_in (show i < 128 by omega) (by decide), nI_clamp (show i < 2 ^ 31 by omega), et, ck_in (by omega) (by decide), nI_clamp (by omega), e94]
        cases hti : tb R n i with
        | false =>
          rw [if_pos (show bv false = 0 from rfl), bd_s]
          exact fin false (only false ⟨fun z => (by cases z), fun z => by rw [hti] at z; exact z.2.1⟩)
        | true =>
          rw [if_neg (show ¬ bv true = 0 by decide)]
          cases b2 with
          | false =>
            rw [if_pos (show bv false = 0 from rfl), bd_s]
            exact fin false (only false ⟨fun z => (by cases z), fun z => hb2.mpr z.2.2⟩)
          | true =>
            rw [if_neg (show ¬ bv true = 0 by decide), bd_s]
            exact fin true (only true ⟨fun _ => ⟨c, hti, hb2.mp rfl⟩, fun _ => rfl⟩)
      · rw [if_pos (show nI (sd i s) ≠ 0 from nI_ne0 (by omega) (by omega)), bd_s]
        exact fin false (only false ⟨fun z => (by cases z), fun z => absurd z.1 c⟩)
theorem rparts_ok (h : refR n R m) (hn : n ≤ 7) : ∃ m', fn_X10_layParts m = some m' ∧ refR n R m' ∧ ptC (tb R n) m' 94 (2 ^ n) := by
  have h128 := pw_le hn
  have hp := pw_pos n
  have key : ∃ m', lp_X10_layParts_2 1000000 0 m = some m' ∧ (refR n R m' ∧ ptC (tb R n) m' 94 (2 ^ n)) := by
    refine lp_up0 (fun N x a => lp_X10_layParts_2 N x a) (fun i m1 => refR n R m1 ∧ ptC (tb R n) m1 94 i ∧ ∀ t, t < i → m1.1 95 0 t = bv (tb R n t)) _ (2 ^ n) (by omega) (fun N m1 hh => ?_) (fun N i m1 hi hh => Or.inl ?_) m ⟨h, fun s hs => absurd hs (Nat.not_lt_zero _), fun t ht => absurd ht (Nat.not_lt_zero _)⟩
    · refine ⟨m1, ?_, hh.1, hh.2.1⟩
      show lp_X10_layParts_2 (N + 1) (nI (2 ^ n)) m1 = _
      rw [lp_X10_layParts_2.eq_2, all_ok hh.1.1 hn, bd_s, if_pos (nI_lt (by omega) (by omega))]
    · obtain ⟨c1, p1, t1⟩ := hh
      show ∃ a', lp_X10_layParts_2 (N + 1) (nI i) m1 = lp_X10_layParts_2 N (nI (i + 1)) a' ∧ _
      rw [lp_X10_layParts_2.eq_2, all_ok c1.1 hn, bd_s, if_neg (nI_nlt (by omega) (by omega)), rtable_ok c1 hn (by omega), bd_s, gd_t (bv_01 _), ck_in (by omega) (by decide), nI_clamp (by omega), ck_in (by omega) (by decide), nI_1]
      by_cases e : i = 0
      · subst e
        rw [if_neg (show ¬ nI 0 ≠ 0 by decide), gd_t (Or.inr rfl)]
        have st : lp_X10_layParts_38 1000000 (nI 0) 1 (am_si (am_si m1 95 0 0 (bv (tb R n 0))) 94 0 0 1) = some (am_si (am_si m1 95 0 0 (bv (tb R n 0))) 94 0 0 1) := by
          show lp_X10_layParts_38 (999999 + 1) (nI 0) 1 _ = _
          rw [lp_X10_layParts_38.eq_2, if_pos (by decide)]
        rw [st, bd_s]
        refine ⟨_, rfl, (c1.si (by decide)).si (by decide), fun k hk => ?_, fun t ht => ?_⟩
        · have : k = 0 := by omega
          rw [this, rd_j, if_pos rfl]
          exact ⟨true, rfl, fun _ => ⟨0, rfl⟩, fun _ => rfl⟩
        · have : t = 0 := by omega
          rw [this]
          show (am_si m1 95 0 0 (bv (tb R n 0))).1 95 0 0 = _
          rw [rd_j, if_pos rfl]
      · rw [if_pos (show nI i ≠ 0 from nI_ne0 (by omega) (by omega)), gd_t (Or.inl rfl)]
        obtain ⟨m2, e2, c2, p2, f2⟩ := rlp_in (m := am_si (am_si m1 95 0 i (bv (tb R n i))) 94 0 i 0) (s := i) ((c1.si (by decide)).si (by decide)) hn (by omega) hi (fun k hk => by
          rw [rd_j, if_neg (by omega)]
          exact p1 k hk) (fun t ht => by
          show (am_si m1 95 0 i (bv (tb R n i))).1 95 0 t = _
          rw [rd_j]
          by_cases z : t = i
          · rw [if_pos z, z]
          · rw [if_neg z]; exact t1 t (by omega)) (by rw [rd_j, if_pos rfl])
        rw [e2, bd_s]
        refine ⟨m2, rfl, c2, p2, fun t ht => ?_⟩
        rw [f2]
        show (am_si m1 95 0 i (bv (tb R n i))).1 95 0 t = _
        rw [rd_j]
        by_cases z : t = i
        · rw [if_pos z, z]
        · rw [if_neg z]; exact t1 t (by omega)
  obtain ⟨m', e1, e2⟩ := key
  refine ⟨m', ?_, e2⟩
  unfold fn_X10_layParts
  rw [e1, bd_s]
def lfP : Option Nat → Int32 × Int32
  | none => (100000000, 0)
  | some w => (nI (pc w), nI w)
theorem rout_ok {G : Nat → Bool} {a : Int32} (h : refR n R m) (hn : n ≤ 7) (hG : ∀ i, i < 2 ^ n → m.1 94 0 (sd (2 ^ n - 1) i) = bv (G i)) : lp_X10_leftOut_34 1000000 a 100000000 0 0 m = some (lfP (lfO G (2 ^ n))) := by
  have h128 := pw_le hn
  have hp := pw_pos n
  refine lp_eq (fun N x (b : Int32 × Int32) => lp_X10_leftOut_34 N a b.1 b.2 x m) (fun i => lfP (lfO G i)) _ (2 ^ n) (by omega) (fun N => ?_) (fun N i hi => ?_) 0 (by omega)
  · show lp_X10_leftOut_34 (N + 1) a _ _ (nI (2 ^ n)) m = _
    rw [lp_X10_leftOut_34.eq_2, all_ok h.1 hn, bd_s, if_pos (nI_lt (by omega) (by omega))]
  · show lp_X10_leftOut_34 (N + 1) a (lfP (lfO G i)).1 (lfP (lfO G i)).2 (nI i) m = lp_X10_leftOut_34 N a (lfP (lfO G (i + 1))).1 (lfP (lfO G (i + 1))).2 (nI (i + 1)) m
    have p1 := pc_le i
    have sl := sd_le (2 ^ n - 1) i
    rw [lp_X10_leftOut_34.eq_2, all_ok h.1 hn, bd_s, if_neg (nI_nlt (by omega) (by omega)), ones_ok (by omega), bd_s, nI_1, bd_s, sd_I, nI_clamp (by omega), hG i hi, ck_in (by omega) (by decide), bd_s]
    cases hm : lfO G i with
    | none =>
      rw [if_neg (show ¬ (lfP none).1 ≤ nI (pc i) from nI_ge (b := 100000000) (by omega) (by decide))]
      cases hg : G i with
      | false =>
        rw [if_pos (show bv false = 0 from rfl), bd_s, lfO, hg, if_neg (by decide), hm]
      | true =>
        rw [if_neg (show ¬ bv true = 0 by decide), bd_s, lfO, hg, if_pos rfl, hm]
        rfl
    | some w =>
      have wl := lfO_lt i w hm
      have p2 := pc_le w
      by_cases c : pc i < pc w
      · rw [if_neg (show ¬ (lfP (some w)).1 ≤ nI (pc i) from nI_ge c (by omega))]
        cases hg : G i with
        | false => rw [if_pos (show bv false = 0 from rfl), bd_s, lfO, hg, if_neg (by decide), hm]
        | true =>
          have e : lfO G (i + 1) = some i := by
            rw [lfO, hg, if_pos rfl, hm]
            exact if_pos c
          rw [if_neg (show ¬ bv true = 0 by decide), bd_s, e]
          rfl
      · have e : lfO G (i + 1) = some w := by
          rw [lfO]
          cases hg : G i with
          | false => rw [if_neg (by decide), hm]
          | true =>
            rw [if_pos rfl, hm]
            exact if_neg c
        rw [if_pos (show (lfP (some w)).1 ≤ nI (pc i) from nI_le (by omega) (by omega)), bd_s, e]
end RLP
theorem op_leftOut {m : am_m} (h : Inv m) (a : Int32) : op_ok m (fun m => fn_X9_leftOut a m) (fun m => fn_X10_leftOut a m) := by
  obtain ⟨n, R, lw, m1, en, eR, gd, e44, e8, e1, c1, j1, f1, ref⟩ := both_ok h
  have hn := gd.1
  have h128 := pw_le hn
  have hp := pw_pos n
  obtain ⟨m2, e2, c2, p2⟩ := cparts_ok c1 hn
  have hlook := fun (r : Int32) => op_look (f := fun m => fn_X9_leftOut a m) (g := fun m => fn_X10_leftOut a m) h (fun t => kp_X9_leftOut a m t) (fun m1 t => kp_X10_leftOut a m1 t) rfl rfl rfl r
  -- which can be parted
  have hG : ∃ G : Nat → Bool, ∀ i, G i = true ↔ CP (tb R n) i := ⟨fun i => @decide (CP (tb R n) i) (Classical.propDecidable _), fun i => @decide_eq_true_iff _ (Classical.propDecidable _)⟩
  obtain ⟨G0, hG0⟩ := hG
  have bb : ∀ (b : Bool) (s : Nat), (b = true ↔ CP (tb R n) s) → b = G0 s := fun b s hb => by
    have := hb.trans (hG0 s).symm
    cases b <;> cases hz : G0 s <;> rw [hz] at this
    · exact absurd (this.mpr rfl) (by decide)
    · exact absurd (this.mp rfl) (by decide)
  have cell : ∀ (m3 : am_m) (c : Nat), ptC (tb R n) m3 c (2 ^ n) → ∀ i, i < 2 ^ n → m3.1 c 0 (sd (2 ^ n - 1) i) = bv ((fun i => G0 (sd (2 ^ n - 1) i)) i) := fun m3 c pt i hi => by
    have sl := sd_le (2 ^ n - 1) i
    obtain ⟨b, eb, hb⟩ := pt (sd (2 ^ n - 1) i) (by omega)
    rw [eb, bb b _ hb]
  generalize hGd : (fun i => G0 (sd (2 ^ n - 1) i)) = G at cell
  have co := cout_ok c2 hn (cell m2 90 p2)
  have ll := lfD_lt (n := n) (G := G) (i := 2 ^ n) (Nat.le_refl _)
  have some1 : ∃ w, lfO G (2 ^ n) = some w := by
    have g1 : G (2 ^ n - 1) = true := by
      rw [← hGd]
      have : sd (2 ^ n - 1) (2 ^ n - 1) = 0 := (sub_bits (by omega)).mpr (fun _ hk => hk)
      dsimp only
      rw [this]
      exact (hG0 0).mpr ⟨0, rfl⟩
    obtain ⟨k, hk⟩ : ∃ k, 2 ^ n = k + 1 := ⟨2 ^ n - 1, by omega⟩
    rw [hk] at g1 ⊢
    rw [Nat.add_sub_cancel] at g1
    rw [lfO, g1, if_pos rfl]
    cases lfO G k with
    | none => exact ⟨k, rfl⟩
    | some v =>
      by_cases c : pc k < pc v
      · exact ⟨k, if_pos c⟩
      · exact ⟨v, if_neg c⟩
  obtain ⟨w, hw⟩ := some1
  have wl := lfO_lt _ _ hw
  have eD : lfD G n (2 ^ n) = w := by unfold lfD; rw [hw]; rfl
  rw [eD] at co
  have cls : fn_X9_leftOut a m = some (if a = 0 then nI (pc w) else if a = 1 then nI w else -1, m2) := by
    unfold fn_X9_leftOut fn_X6_fewestOut
    rw [e1, bd_s, e2, bd_s, every_ok c2.1 hn, bd_s, co, bd_s, bd_s, sizeOrSet_ok (by omega), bd_s]
  have rf : ∀ m1', Inv m1' → m1'.1 44 = m.1 44 → ∃ m3, fn_X10_leftOut a m1' = some (if a = 0 then nI (pc w) else if a = 1 then nI w else -1, m3) := by
    intro m1' i1 f1'
    obtain ⟨m3, e3, r3, l3, f3⟩ := ref m1' i1 f1'
    obtain ⟨m4, e4, r4, p4⟩ := rparts_ok r3 hn
    have ro := rout_ok (a := a) r4 hn (cell m4 94 p4)
    rw [hw] at ro
    unfold fn_X10_leftOut
    rw [in01, bd_s]
    by_cases a01 : a = 0 ∨ a = 1
    · rw [if_pos a01, if_pos (by decide), e3, bd_s, e4, bd_s, ro, bd_s]
      by_cases a0 : a = 0
      · rw [if_neg (fun z => z a0), if_pos a0]; exact ⟨m4, rfl⟩
      · rw [if_pos a0, if_neg a0, if_pos (a01.resolve_left a0)]; exact ⟨m4, rfl⟩
    · rw [if_neg a01, if_neg (by decide), if_neg (fun z => a01 (Or.inl z)), if_neg (fun z => a01 (Or.inr z))]
      exact ⟨_, rfl⟩
  exact hlook _ ⟨m2, cls⟩ rf
