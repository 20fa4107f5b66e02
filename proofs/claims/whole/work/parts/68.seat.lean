/-! seats by injury -/
theorem fb_ct_grow {p q : Nat → Bool} {n i : Nat} (h : ∀ k, k < n → p k = true → q k = true) (hi : i < n) (hp : p i = false) (hq : q i = true) : fb_ct p n + 1 ≤ fb_ct q n := by
  have h1 := fb_ct_upd p true hi
  rw [hp, if_neg (by decide), if_pos rfl, Nat.add_zero] at h1
  rw [← h1]
  refine fb_ct_sub (fun k hk hz => ?_)
  by_cases e : k = i
  · rw [e]; exact hq
  · rw [if_neg e] at hz; exact h k hk hz
/-- one sits ahead of another one -/
def bef (S : Nat → Nat) (o p : Nat) : Bool := decide (S p < S o) || (decide (S o = S p) && decide (o < p))
def rnk (S : Nat → Nat) (s p : Nat) : Nat := fb_ct (fun o => s.testBit o && bef S o p) 7
/-- the first of those who suffered most -/
def mhA (S : Nat → Nat) (left : Nat) : Nat → Option Nat
  | 0 => none
  | i + 1 => if left.testBit i then (match mhA S left i with
    | none => some i
    | some w => if S i ≤ S w then some w else some i) else mhA S left i
section MH
variable {S : Nat → Nat} {s left k : Nat}
theorem bef_iff {o p : Nat} : bef S o p = true ↔ S p < S o ∨ (S o = S p ∧ o < p) := by
  unfold bef
  rw [Bool.or_eq_true, Bool.and_eq_true, decide_eq_true_iff, decide_eq_true_iff, decide_eq_true_iff]
theorem rnk_lt {a b : Nat} (ha : s.testBit a = true) (h7 : a < 7) (h : bef S a b = true) : rnk S s a < rnk S s b := by
  refine fb_ct_grow (i := a) (fun o _ ho => ?_) h7 ?_ ?_
  · rw [Bool.and_eq_true] at ho ⊢
    refine ⟨ho.1, ?_⟩
    have h1 := bef_iff.mp ho.2
    have h2 := bef_iff.mp h
    exact bef_iff.mpr (by omega)
  · rw [ha, Bool.true_and]
    cases hb : bef S a a with
    | false => rfl
    | true => have := bef_iff.mp hb; omega
  · rw [ha, h]; rfl
theorem bef_tri (S : Nat → Nat) (a b : Nat) : a = b ∨ bef S a b = true ∨ bef S b a = true := by
  by_cases h : a = b
  · exact Or.inl h
  · right
    by_cases h2 : S b < S a ∨ (S a = S b ∧ a < b)
    · exact Or.inl (bef_iff.mpr h2)
    · exact Or.inr (bef_iff.mpr (by omega))
theorem rnk_one {a b : Nat} (ha : s.testBit a = true) (hb : s.testBit b = true) (h7 : a < 7) (h7' : b < 7) (h : rnk S s a = rnk S s b) : a = b := by
  rcases bef_tri S a b with z | z | z
  · exact z
  · have := rnk_lt (s := s) ha h7 z; omega
  · have := rnk_lt (s := s) hb h7' z; omega
theorem mhA_no : ∀ i, mhA S left i = none → ∀ o, o < i → left.testBit o = false
  | 0, _, o, h => absurd h (Nat.not_lt_zero _)
  | i + 1, h, o, ho => by
    rw [mhA] at h
    cases hb : left.testBit i with
    | true =>
      rw [hb, if_pos rfl] at h
      split at h
      · cases h
      · split at h <;> cases h
    | false =>
      rw [hb, if_neg (by decide)] at h
      by_cases e : o = i
      · rw [e]; exact hb
      · exact mhA_no i h o (by omega)
theorem mhA_ok : ∀ i w, mhA S left i = some w → w < i ∧ left.testBit w = true ∧ ∀ o, o < i → left.testBit o = true → bef S o w = false
  | 0, w, h => by cases h
  | i + 1, w, h => by
    rw [mhA] at h
    cases hb : left.testBit i with
    | false =>
      rw [hb, if_neg (by decide)] at h
      obtain ⟨h1, h2, h3⟩ := mhA_ok i w h
      refine ⟨by omega, h2, fun o ho hz => ?_⟩
      by_cases e : o = i
      · rw [e, hb] at hz; cases hz
      · exact h3 o (by omega) hz
    | true =>
      rw [hb, if_pos rfl] at h
      cases hm : mhA S left i with
      | none =>
        rw [hm] at h
        cases h
        refine ⟨by omega, hb, fun o ho hz => ?_⟩
        by_cases e : o = i
        · rw [e]
          cases hc : bef S i i with
          | false => rfl
          | true => have := bef_iff.mp hc; omega
        · rw [mhA_no i hm o (by omega)] at hz; cases hz
      | some v =>
        rw [hm] at h
        obtain ⟨h1, h2, h3⟩ := mhA_ok i v hm
        have h : (if S i ≤ S v then some v else some i) = some w := h
        by_cases c : S i ≤ S v
        · rw [if_pos c] at h
          cases h
          refine ⟨by omega, h2, fun o ho hz => ?_⟩
          by_cases e : o = i
          · rw [e]
            cases hc : bef S i w with
            | false => rfl
            | true => have := bef_iff.mp hc; omega
          · exact h3 o (by omega) hz
        · rw [if_neg c] at h
          cases h
          refine ⟨by omega, hb, fun o ho hz => ?_⟩
          cases hc : bef S o i with
          | false => rfl
          | true =>
            have h4 := bef_iff.mp hc
            by_cases e : o = i
            · rw [e] at h4; omega
            · have h5 := h3 o (by omega) hz
              have h6 : ¬ (S v < S o ∨ (S o = S v ∧ o < v)) := fun q => by rw [bef_iff.mpr q] at h5; cases h5
              omega
/-- how many have a lower place -/
def cnk (S : Nat → Nat) (s k : Nat) : Nat := fb_ct (fun o => s.testBit o && decide (rnk S s o < k)) 7
theorem rnk_cnk {w : Nat} (hw : s.testBit w = true) (h7 : w < 7) (hk : k ≤ rnk S s w) (hm : ∀ o, o < 7 → s.testBit o = true → k ≤ rnk S s o → bef S o w = false) : rnk S s w = cnk S s k := by
  unfold cnk
  show fb_ct _ 7 = _
  refine fb_ct_cong (fun o ho => ?_)
  cases hs : s.testBit o with
  | false => rfl
  | true =>
    rw [Bool.true_and, Bool.true_and]
    by_cases hr : rnk S s o < k
    · rw [decide_eq_true hr]
      rcases bef_tri S o w with z | z | z
      · rw [z] at hr; omega
      · exact z
      · have := rnk_lt (s := s) hw h7 z; omega
    · rw [decide_eq_false hr]; exact hm o ho hs (by omega)
/-- the one at place k, of those that are left -/
theorem mh_k (hl : ∀ o, left.testBit o = (s.testBit o && decide (k ≤ rnk S s o))) (hc : cnk S s k = k) (hk : k < pc s) : ∃ w, mhA S left 7 = some w ∧ w < 7 ∧ s.testBit w = true ∧ rnk S s w = k := by
  cases hm : mhA S left 7 with
  | none =>
    exfalso
    have hno := mhA_no 7 hm
    have : cnk S s k = pc s := by
      unfold cnk pc
      refine fb_ct_cong (fun o ho => ?_)
      cases hs : s.testBit o with
      | false => rfl
      | true =>
        have := hno o ho
        rw [hl, hs, Bool.true_and, decide_eq_false_iff_not] at this
        rw [Bool.true_and]
        exact decide_eq_true (by omega)
    omega
  | some w =>
    obtain ⟨h1, h2, h3⟩ := mhA_ok 7 w hm
    rw [hl, Bool.and_eq_true, decide_eq_true_iff] at h2
    refine ⟨w, rfl, h1, h2.1, ?_⟩
    rw [rnk_cnk h2.1 h1 h2.2 (fun o ho hs hr => h3 o ho (by rw [hl, hs, decide_eq_true hr]; rfl)), hc]
theorem cnk_s {w : Nat} (hc : cnk S s k = k) (h7 : w < 7) (hw : s.testBit w = true) (hr : rnk S s w = k) : cnk S s (k + 1) = k + 1 := by
  unfold cnk at hc ⊢
  have h1 := fb_ct_upd (fun o => s.testBit o && decide (rnk S s o < k)) true h7
  rw [hc, if_neg (show ¬ (s.testBit w && decide (rnk S s w < k)) = true by rw [hr, decide_eq_false (Nat.lt_irrefl _), Bool.and_false]; decide), if_pos rfl, Nat.add_zero] at h1
  refine (fb_ct_cong (fun o ho => ?_)).trans h1
  by_cases e : o = w
  · rw [if_pos e, e, hw, hr, decide_eq_true (Nat.lt_succ_self _)]; rfl
  · rw [if_neg e]
    cases hs : s.testBit o with
    | false => rfl
    | true =>
      rw [Bool.true_and, Bool.true_and]
      have hne : rnk S s o ≠ k := fun z => e (rnk_one hs hw ho h7 (by rw [z, hr]))
      by_cases hlt : rnk S s o < k
      · rw [decide_eq_true hlt, decide_eq_true (by omega)]
      · rw [decide_eq_false hlt, decide_eq_false (by omega)]
end MH
/-- how much one suffered of those of a set -/
def sfF (r : Nat → Int32) (lw : lw_T) (s p o : Nat) : Nat := if o ≠ p ∧ s.testBit o = true then nv (sp_cnt r lw o p) else 0
def sfS (r : Nat → Int32) (lw : lw_T) (s p : Nat) : Nat := fb_sm (sfF r lw s p) 7
section SF
variable {m : am_m} {r : Nat → Int32} {lw : lw_T} {D s p n : Nat}
theorem sfF_9 (hW : iv_W D r) (hp : p < 7) {o : Nat} (ho : o < 7) : sfF r lw s p o ≤ 9 := by
  unfold sfF
  by_cases h : o ≠ p ∧ s.testBit o = true
  · rw [if_pos h]
    obtain ⟨x, h1, h2⟩ := sp_cnt_nat (lw := lw) hW ho hp
    rw [h2, nv_nI (by omega)]; exact h1
  · rw [if_neg h]; omega
theorem sfS_le (hW : iv_W D r) (hp : p < 7) {i : Nat} (hi : i ≤ 7) : fb_sm (sfF r lw s p) i ≤ 63 := by
  have := fb_sm_bound (f := sfF r lw s p) (c := 9) (n := i) (fun k hk => sfF_9 hW hp (by omega))
  omega
theorem csuff_ok (h : jdx D 0 r lw m) (hD : D ≤ 100000) (hs : s < 2 ^ nv (r 0)) (hp : p < nv (r 0)) : ∃ m', fn_X1_sufferedBy (nI p) (nI s) m = some (nI (sfS r lw s p), m') ∧ jdx D 0 r lw m' := by
  obtain ⟨hn, h7⟩ := h.n
  have hW := h.2.2.1
  have h128 := pw_le h7
  have key : ∃ t, lp_X1_sufferedBy_5 1000000 (nI p) (nI s) 0 0 m = some t ∧ (t.1 = nI (sfS r lw s p) ∧ jdx D 0 r lw t.2) := by
    refine lp_up0 (fun N x (a : Int32 × am_m) => lp_X1_sufferedBy_5 N (nI p) (nI s) a.1 x a.2) (fun i a => a.1 = nI (fb_sm (sfF r lw s p) i) ∧ jdx D 0 r lw a.2) _ 7 (by decide) (fun N a hh => ⟨a, ?_, hh⟩) (fun N i a hi hh => Or.inl ?_) (0, m) ⟨rfl, h⟩
    · show lp_X1_sufferedBy_5 (N + 1) (nI p) (nI s) a.1 (nI 7) a.2 = _
      rw [lp_X1_sufferedBy_5.eq_2, if_pos (by decide)]
    · obtain ⟨a1, j1⟩ := hh
      have b1 := sfS_le (lw := lw) (s := s) hW (show p < 7 by omega) (show i ≤ 7 by omega)
      show ∃ a' : Int32 × am_m, lp_X1_sufferedBy_5 (N + 1) (nI p) (nI s) a.1 (nI i) a.2 = lp_X1_sufferedBy_5 N (nI p) (nI s) a'.1 (nI (i + 1)) a'.2 ∧ _
      rw [lp_X1_sufferedBy_5.eq_2, if_neg (show ¬ (7 : Int32) ≤ nI i from nI_ge (b := 7) hi (by decide)), a1]
      by_cases e : i = p
      · rw [if_pos (by rw [e]), bd_s, nI_1]
        refine ⟨_, rfl, ?_, j1⟩
        show nI _ = _
        rw [fb_sm_succ, show sfF r lw s p i = 0 from if_neg (fun z => z.1 e), Nat.add_zero]
      · rw [if_neg (nI_ne (by omega) (by omega) e)]
        cases hb : s.testBit i with
        | false =>
          rw [if_pos ((isN (by omega) (by omega)).mpr hb), bd_s, nI_1]
          refine ⟨_, rfl, ?_, j1⟩
          show nI _ = _
          rw [fb_sm_succ, show sfF r lw s p i = 0 from if_neg (fun z => by rw [hb] at z; exact absurd z.2 (by decide)), Nat.add_zero]
        | true =>
          obtain ⟨m2, e2, k2⟩ := countsOf_ok j1 hD (bit_lt hs hb) hp e
          rw [if_neg (fun z => by rw [(isN (by omega) (by omega)).mp z] at hb; cases hb), e2, bd_s, bd_s, nI_1]
          refine ⟨_, rfl, ?_, j1.kp k2 rfl⟩
          obtain ⟨x, h1, h2⟩ := sp_cnt_nat (lw := lw) hW hi (show p < 7 by omega)
          show nI _ + sp_cnt r lw i p = _
          rw [fb_sm_succ, show sfF r lw s p i = nv (sp_cnt r lw i p) from if_pos ⟨e, hb⟩, h2, nI_add, nv_nI (by omega)]
  obtain ⟨t, e1, e2, e3⟩ := key
  refine ⟨t.2, ?_, e3⟩
  unfold fn_X1_sufferedBy
  rw [e1, bd_s, e2]
theorem rsuff_ok (hx : rfx D lw m) (hr : m.1 44 0 = r) (hs : s < 2 ^ nv (r 0)) (hp : p < nv (r 0)) : ∃ m', fn_X10_suffered (nI p) (nI s) m = some (nI (sfS r lw s p), m') ∧ rfx D lw m' ∧ m'.1 44 0 = r := by
  have hW : iv_W D r := by rw [← hr]; exact hx.1
  have h7 := hW.n7
  have h0 := hW.r0
  have h128 := pw_le h7
  have key : ∃ t, lp_X10_suffered_5 1000000 (nI p) (nI s) 0 0 m = some t ∧ (t.1 = nI (fb_sm (sfF r lw s p) (nv (r 0))) ∧ rfx D lw t.2 ∧ t.2.1 44 0 = r) := by
    refine lp_up0 (fun N x (a : Int32 × am_m) => lp_X10_suffered_5 N (nI p) (nI s) a.1 x a.2) (fun i a => a.1 = nI (fb_sm (sfF r lw s p) i) ∧ rfx D lw a.2 ∧ a.2.1 44 0 = r) _ (nv (r 0)) (by omega) (fun N a hh => ⟨a, ?_, hh⟩) (fun N i a hi hh => Or.inl ?_) (0, m) ⟨rfl, hx, hr⟩
    · show lp_X10_suffered_5 (N + 1) (nI p) (nI s) a.1 (nI (nv (r 0))) a.2 = _
      rw [lp_X10_suffered_5.eq_2, hh.2.2, if_pos (by rw [h0, nv_nI (nv_lt _)]; exact nI_le (Nat.le_refl _) (nv_lt _))]
    · obtain ⟨a1, j1, r1⟩ := hh
      have b1 := sfS_le (lw := lw) (s := s) hW (show p < 7 by omega) (show i ≤ 7 by omega)
      show ∃ a' : Int32 × am_m, lp_X10_suffered_5 (N + 1) (nI p) (nI s) a.1 (nI i) a.2 = lp_X10_suffered_5 N (nI p) (nI s) a'.1 (nI (i + 1)) a'.2 ∧ _
      rw [lp_X10_suffered_5.eq_2, r1, if_neg (by rw [h0]; exact nI_ge hi (by omega)), a1]
      by_cases e : i = p
      · rw [if_pos (by rw [e]), bd_s, nI_1]
        refine ⟨(nI (fb_sm (sfF r lw s p) i) + 0, a.2), rfl, ?_, j1, r1⟩
        show nI _ + nI 0 = _
        rw [fb_sm_succ, show sfF r lw s p i = 0 from if_neg (fun z => z.1 e), nI_add]
      · rw [if_neg (nI_ne (by omega) (by omega) e), is_ok (by omega) (by omega), bd_s]
        cases hb : s.testBit i with
        | false =>
          rw [if_pos (show bv false = 0 from rfl), bd_s, nI_1]
          refine ⟨(nI (fb_sm (sfF r lw s p) i) + 0, a.2), rfl, ?_, j1, r1⟩
          show nI _ + nI 0 = _
          rw [fb_sm_succ, show sfF r lw s p i = 0 from if_neg (fun z => by rw [hb] at z; exact absurd z.2 (by decide)), nI_add]
        | true =>
          obtain ⟨m2, e2, k2⟩ := countsAs_ok j1 (show i < 7 by omega) (show p < 7 by omega)
          rw [if_neg (show ¬ bv true = 0 by decide), e2, bd_s, bd_s, nI_1]
          refine ⟨(nI (fb_sm (sfF r lw s p) i) + sp_cnt (a.2.1 44 0) lw i p, m2), rfl, ?_, j1.kp k2 rfl, by show m2.1 44 0 = r; rw [k2.row 44 rfl]; exact r1⟩
          obtain ⟨x, h1, h2⟩ := sp_cnt_nat (lw := lw) hW (show i < 7 by omega) (show p < 7 by omega)
          show nI _ + sp_cnt (a.2.1 44 0) lw i p = _
          rw [r1, fb_sm_succ, show sfF r lw s p i = nv (sp_cnt r lw i p) from if_pos ⟨e, hb⟩, h2, nI_add, nv_nI (by omega)]
  obtain ⟨t, e1, e2, e3, e4⟩ := key
  refine ⟨t.2, ?_, e3, e4⟩
  unfold fn_X10_suffered
  rw [e1, bd_s, e2]
  unfold sfS
  rw [fb_sm_cut (f := sfF r lw s p) h7 (fun k h1 h2 => if_neg (fun z => by rw [bit_big hs h1] at z; exact absurd z.2 (by decide)))]
/-- the most that was suffered, as the class has it on the way -/
def mhV (S : Nat → Nat) : Option Nat → Int32
  | none => -1
  | some w => nI (S w)
theorem most_ok {left : Nat} (h : jdx D 0 r lw m) (hD : D ≤ 100000) (hs : s < 2 ^ nv (r 0)) (hl : left < 2 ^ nv (r 0)) : ∃ m', fn_X9_mostHurt (nI left) (nI s) m = some (opI (mhA (sfS r lw s) left 7), m') ∧ jdx D 0 r lw m' := by
  obtain ⟨hn, h7⟩ := h.n
  have hW := h.2.2.1
  have h128 := pw_le h7
  have key : ∃ t, lp_X9_mostHurt_8 1000000 (nI left) (nI s) (-1) (-1) 0 m = some t ∧ (t.1 = opI (mhA (sfS r lw s) left 7) ∧ jdx D 0 r lw t.2) := by
    refine lp_up0 (fun N x (a : Int32 × Int32 × am_m) => lp_X9_mostHurt_8 N (nI left) (nI s) a.1 a.2.1 x a.2.2) (fun i a => a.1 = opI (mhA (sfS r lw s) left i) ∧ a.2.1 = mhV (sfS r lw s) (mhA (sfS r lw s) left i) ∧ jdx D 0 r lw a.2.2) _ 7 (by decide) (fun N a hh => ⟨(a.1, a.2.2), ?_, hh.1, hh.2.2⟩) (fun N i a hi hh => Or.inl ?_) (-1, -1, m) ⟨rfl, rfl, h⟩
    · show lp_X9_mostHurt_8 (N + 1) (nI left) (nI s) a.1 a.2.1 (nI 7) a.2.2 = _
      rw [lp_X9_mostHurt_8.eq_2, if_pos (by decide)]
    · obtain ⟨a1, a2, j1⟩ := hh
      show ∃ a' : Int32 × Int32 × am_m, lp_X9_mostHurt_8 (N + 1) (nI left) (nI s) a.1 a.2.1 (nI i) a.2.2 = lp_X9_mostHurt_8 N (nI left) (nI s) a'.1 a'.2.1 (nI (i + 1)) a'.2.2 ∧ _
      rw [lp_X9_mostHurt_8.eq_2, if_neg (show ¬ (7 : Int32) ≤ nI i from nI_ge (b := 7) hi (by decide))]
      cases hb : left.testBit i with
      | false =>
        rw [if_pos ((isN (by omega) (by omega)).mpr hb), bd_s, nI_1]
        have e : mhA (sfS r lw s) left (i + 1) = mhA (sfS r lw s) left i := by rw [mhA, hb, if_neg (by decide)]
        exact ⟨_, rfl, by rw [e]; exact a1, by rw [e]; exact a2, j1⟩
      | true =>
        obtain ⟨m2, e2, j2⟩ := csuff_ok j1 hD hs (bit_lt hl hb)
        have b1 := sfS_le (lw := lw) (s := s) hW hi (Nat.le_refl 7)
        have b1 : sfS r lw s i ≤ 63 := b1
        rw [if_neg (fun z => by rw [(isN (by omega) (by omega)).mp z] at hb; cases hb), e2, bd_s]
        cases hm : mhA (sfS r lw s) left i with
        | none =>
          rw [hm] at a1 a2
          have e : mhA (sfS r lw s) left (i + 1) = some i := by rw [mhA, hb, if_pos rfl, hm]
          rw [a2]
          rw [if_neg (show ¬ nI (sfS r lw s i) ≤ mhV (sfS r lw s) none from fun z => by
            have z : (nI (sfS r lw s i)).toInt ≤ (-1 : Int32).toInt := (fa_le _ _).mp z
            rw [nI_toInt (by omega)] at z
            have z : ((sfS r lw s i : Nat) : Int) ≤ -1 := z
            omega), bd_s, nI_1]
          exact ⟨_, rfl, by rw [e]; rfl, by rw [e]; rfl, j2⟩
        | some w =>
          rw [hm] at a1 a2
          have hw := (mhA_ok i w hm).1
          have b2 := sfS_le (lw := lw) (s := s) hW (show w < 7 by omega) (Nat.le_refl 7)
          have b2 : sfS r lw s w ≤ 63 := b2
          rw [a1, a2]
          by_cases c : sfS r lw s i ≤ sfS r lw s w
          · have e : mhA (sfS r lw s) left (i + 1) = some w := by
              rw [mhA, hb, if_pos rfl, hm]
              exact if_pos c
            rw [if_pos (show nI (sfS r lw s i) ≤ mhV (sfS r lw s) (some w) from nI_le c (by omega)), bd_s, nI_1]
            exact ⟨_, rfl, by rw [e], by rw [e], j2⟩
          · have e : mhA (sfS r lw s) left (i + 1) = some i := by
              rw [mhA, hb, if_pos rfl, hm]
              exact if_neg c
            rw [if_neg (show ¬ nI (sfS r lw s i) ≤ mhV (sfS r lw s) (some w) from nI_ge (by omega) (by omega)), bd_s, nI_1]
            exact ⟨_, rfl, by rw [e]; rfl, by rw [e]; rfl, j2⟩
  obtain ⟨t, e1, e2, e3⟩ := key
  refine ⟨t.2, ?_, e3⟩
  unfold fn_X9_mostHurt
  rw [e1, bd_s, e2]
/-- the one at place i -/
theorem cseat_ok {i : Nat} (h : jdx D 0 r lw m) (hD : D ≤ 100000) (hs : s < 2 ^ nv (r 0)) (hi : i < pc s) : ∃ w m', w < 7 ∧ s.testBit w = true ∧ rnk (sfS r lw s) s w = i ∧ ((lp_X9_seat_34 1000000 (nI s) (nI i) (nI s) 0 m).bind fun q13 => (fn_X9_mostHurt q13.1 (nI s) q13.2).bind fun r15 => some (r15.1, r15.2)) = some (nI w, m') := by
  obtain ⟨hn, h7⟩ := h.n
  have h128 := pw_le h7
  have p7 := pc_le s
  have key : ∃ t, lp_X9_seat_34 1000000 (nI s) (nI i) (nI s) 0 m = some t ∧ (∃ left, left < 2 ^ nv (r 0) ∧ t.1 = nI left ∧ (∀ o, left.testBit o = (s.testBit o && decide (i ≤ rnk (sfS r lw s) s o))) ∧ cnk (sfS r lw s) s i = i ∧ jdx D 0 r lw t.2) := by
    refine lp_up0 (fun N x (a : Int32 × am_m) => lp_X9_seat_34 N (nI s) (nI i) a.1 x a.2) (fun k a => ∃ left, left < 2 ^ nv (r 0) ∧ a.1 = nI left ∧ (∀ o, left.testBit o = (s.testBit o && decide (k ≤ rnk (sfS r lw s) s o))) ∧ cnk (sfS r lw s) s k = k ∧ jdx D 0 r lw a.2) _ i (by omega) (fun N a hh => ?_) (fun N k a hk hh => Or.inl ?_) (nI s, m) ⟨s, hs, rfl, fun o => by rw [decide_eq_true (Nat.zero_le _), Bool.and_true], ?_, h⟩
    · refine ⟨a, ?_, hh⟩
      show lp_X9_seat_34 (N + 1) (nI s) (nI i) a.1 (nI i) a.2 = _
      rw [lp_X9_seat_34.eq_2, if_pos (nI_le (Nat.le_refl _) (by omega))]
    · obtain ⟨left, l1, l2, l3, l4, j1⟩ := hh
      obtain ⟨w, w1, w2, w3, w4⟩ := mh_k l3 l4 (show k < pc s by omega)
      obtain ⟨m2, e2, j2⟩ := most_ok j1 hD hs l1
      rw [w1] at e2
      have e2 : fn_X9_mostHurt (nI left) (nI s) a.2 = some (nI w, m2) := e2
      refine ⟨(nI (sd left (2 ^ w)), m2), ?_, sd left (2 ^ w), Nat.lt_of_le_of_lt (sd_le _ _) l1, rfl, fun o => ?_, cnk_s l4 w2 w3 w4, j2⟩
      · show lp_X9_seat_34 (N + 1) (nI s) (nI i) a.1 (nI k) a.2 = lp_X9_seat_34 N (nI s) (nI i) _ (nI (k + 1)) _
        rw [lp_X9_seat_34.eq_2, if_neg (nI_ge hk (by omega)), l2, e2, bd_s, nI_1]
        show lp_X9_seat_34 N (nI s) (nI i) (nI left &&& (((1 : Int32) <<< (nI w &&& 31)) ^^^ (-1 : Int32))) _ _ = _
        rw [sh1 w (by omega), sd_I]
      · rw [sd_bit (by omega), l3]
        cases hso : s.testBit o with
        | false => rfl
        | true =>
          rw [Bool.true_and, Bool.true_and]
          by_cases e : o = w
          · rw [e, w4, Nat.testBit_two_pow_self, decide_eq_false (show ¬ k + 1 ≤ k by omega), Bool.not_true, Bool.and_false]
          · rw [Nat.testBit_two_pow_of_ne (Ne.symm e), Bool.not_false, Bool.and_true]
            have o7 : o < 7 := by have := bit_lt hs hso; omega
            have hne : rnk (sfS r lw s) s o ≠ k := fun z => e (rnk_one hso w3 o7 w2 (by rw [z, w4]))
            by_cases hle : k ≤ rnk (sfS r lw s) s o
            · rw [decide_eq_true hle, decide_eq_true (by omega)]
            · rw [decide_eq_false hle, decide_eq_false (by omega)]
    · unfold cnk
      exact fb_ct_zero.mpr (fun o _ => by rw [decide_eq_false (Nat.not_lt_zero _), Bool.and_false])
  obtain ⟨t, e1, left, l1, l2, l3, l4, j1⟩ := key
  obtain ⟨w, w1, w2, w3, w4⟩ := mh_k l3 l4 hi
  obtain ⟨m2, e2, j2⟩ := most_ok j1 hD hs l1
  rw [w1] at e2
  have e2 : fn_X9_mostHurt (nI left) (nI s) t.2 = some (nI w, m2) := e2
  refine ⟨w, m2, w2, w3, w4, ?_⟩
  rw [e1, bd_s, l2, e2, bd_s]
/-- how many sit ahead of one, as the reference counts -/
theorem rahead_ok {x2 x3 : Int32} (hx : rfx D lw m) (hr : m.1 44 0 = r) (hs : s < 2 ^ nv (r 0)) (hp : p < nv (r 0)) : ∃ t, lp_X10_seat_60 1000000 (nI s) x2 x3 (nI p) 0 0 m = some t ∧ (rfx D lw t.2 ∧ t.2.1 44 0 = r ∧ (s.testBit p = true → t.1 = nI (rnk (sfS r lw s) s p))) := by
  have hW : iv_W D r := by rw [← hr]; exact hx.1
  have h7 := hW.n7
  have h0 := hW.r0
  have h128 := pw_le h7
  have hcut : rnk (sfS r lw s) s p = fb_ct (fun o => s.testBit o && bef (sfS r lw s) o p) (nv (r 0)) := by
    unfold rnk
    exact fb_ct_cut h7 (fun k h1 h2 => by rw [bit_big hs h1]; rfl)
  rw [hcut]
  cases hb : s.testBit p with
  | false =>
    refine lp_up0 (fun N x (a : Int32 × am_m) => lp_X10_seat_60 N (nI s) x2 x3 (nI p) a.1 x a.2) (fun i a => a.2 = m) _ (nv (r 0)) (by omega) (fun N a hh => ?_) (fun N i a hi hh => Or.inr ?_) (0, m) rfl
    · refine ⟨a, ?_, by rw [hh]; exact hx, by rw [hh]; exact hr, fun z => by cases z⟩
      show lp_X10_seat_60 (N + 1) (nI s) x2 x3 (nI p) a.1 (nI (nv (r 0))) a.2 = _
      rw [lp_X10_seat_60.eq_2, hh, hr, if_pos (by rw [h0, nv_nI (nv_lt _)]; exact nI_le (Nat.le_refl _) (nv_lt _)), ← hh]
    · refine ⟨a, ?_, by rw [hh]; exact hx, by rw [hh]; exact hr, fun z => by cases z⟩
      show lp_X10_seat_60 (N + 1) (nI s) x2 x3 (nI p) a.1 (nI i) a.2 = _
      rw [lp_X10_seat_60.eq_2, hh, hr, if_neg (by rw [h0]; exact nI_ge hi (by omega)), is_ok (by omega) (by omega), bd_s, hb, if_pos (show bv false = 0 from rfl), ← hh]
  | true =>
    refine lp_up0 (fun N x (a : Int32 × am_m) => lp_X10_seat_60 N (nI s) x2 x3 (nI p) a.1 x a.2) (fun i a => rfx D lw a.2 ∧ a.2.1 44 0 = r ∧ a.1 = nI (fb_ct (fun o => s.testBit o && bef (sfS r lw s) o p) i)) _ (nv (r 0)) (by omega) (fun N a hh => ?_) (fun N i a hi hh => Or.inl ?_) (0, m) ⟨hx, hr, rfl⟩
    · refine ⟨a, ?_, hh.1, hh.2.1, fun _ => hh.2.2⟩
      show lp_X10_seat_60 (N + 1) (nI s) x2 x3 (nI p) a.1 (nI (nv (r 0))) a.2 = _
      rw [lp_X10_seat_60.eq_2, hh.2.1, if_pos (by rw [h0, nv_nI (nv_lt _)]; exact nI_le (Nat.le_refl _) (nv_lt _))]
    · obtain ⟨x1, r1, a1⟩ := hh
      obtain ⟨m2, e2, y2, r2⟩ := rsuff_ok x1 r1 hs hi
      obtain ⟨m3, e3, y3, r3⟩ := rsuff_ok y2 r2 hs hp
      have bi : sfS r lw s i ≤ 63 := sfS_le (lw := lw) (s := s) hW (show i < 7 by omega) (Nat.le_refl 7)
      have bp : sfS r lw s p ≤ 63 := sfS_le (lw := lw) (s := s) hW (show p < 7 by omega) (Nat.le_refl 7)
      have et := pk_sub_toInt (a := sfS r lw s i) (b := sfS r lw s p) (by omega) (by omega)
      have val : (if nI i = nI p then some (0 : Int32) else (fn_X10_is (nI s) (nI i) m3).bind fun r22 => (if r22 = 0 then some (0 : Int32) else (if 0 < (nI (sfS r lw s i) - nI (sfS r lw s p)) then some (1 : Int32) else (if (nI (sfS r lw s i) - nI (sfS r lw s p)) ≠ 0 then some (0 : Int32) else (if nI p ≤ nI i then some (0 : Int32) else some (1 : Int32)))))) = some (bv (s.testBit i && bef (sfS r lw s) i p)) := by
        by_cases e : i = p
        · rw [if_pos (by rw [e])]
          have : bef (sfS r lw s) i p = false := by
            cases hc : bef (sfS r lw s) i p with
            | false => rfl
            | true => have := bef_iff.mp hc; rw [e] at this; omega
          rw [this, Bool.and_false]; rfl
        · rw [if_neg (nI_ne (by omega) (by omega) e), is_ok (by omega) (by omega), bd_s]
          cases hbi : s.testBit i with
          | false => rfl
          | true =>
            rw [if_neg (show ¬ bv true = 0 by decide), Bool.true_and]
            by_cases c1 : sfS r lw s p < sfS r lw s i
            · rw [if_pos (by rw [fa_lt, et]; show (0 : Int) < _; omega), bef_iff.mpr (Or.inl c1)]; rfl
            · rw [if_neg (by rw [fa_lt, et]; show ¬ (0 : Int) < _; omega)]
              by_cases c2 : sfS r lw s i = sfS r lw s p
              · rw [if_neg (fun z => z (by rw [fa_eq, et]; show _ = (0 : Int); omega))]
                by_cases c3 : i < p
                · rw [if_neg (nI_ge c3 (by omega)), bef_iff.mpr (Or.inr ⟨c2, c3⟩)]; rfl
                · rw [if_pos (nI_le (by omega) (by omega))]
                  cases hc : bef (sfS r lw s) i p with
                  | false => rfl
                  | true => have := bef_iff.mp hc; omega
              · rw [if_pos (fun z => by rw [fa_eq, et] at z; have z : ((sfS r lw s i : Nat) : Int) - (sfS r lw s p : Nat) = 0 := z; omega)]
                cases hc : bef (sfS r lw s) i p with
                | false => rfl
                | true => have := bef_iff.mp hc; omega
      refine ⟨(nI (fb_ct (fun o => s.testBit o && bef (sfS r lw s) o p) (i + 1)), m3), ?_, y3, r3, rfl⟩
      show lp_X10_seat_60 (N + 1) (nI s) x2 x3 (nI p) a.1 (nI i) a.2 = lp_X10_seat_60 N (nI s) x2 x3 (nI p) _ (nI (i + 1)) _
      rw [lp_X10_seat_60.eq_2, r1, if_neg (by rw [h0]; exact nI_ge hi (by omega)), is_ok (by omega) (by omega), bd_s, hb, if_neg (show ¬ bv true = 0 by decide), e2, bd_s]
      dsimp only
      rw [e3, bd_s]
      dsimp only
      rw [val, bd_s, nI_1, a1, ct_step (fun o => s.testBit o && bef (sfS r lw s) o p) i]
theorem rseat_ok {i w : Nat} (hx : rfx D lw m) (hr : m.1 44 0 = r) (hs : s < 2 ^ nv (r 0)) (hw7 : w < 7) (hw : s.testBit w = true) (hk : rnk (sfS r lw s) s w = i) : ∃ m', lp_X10_seat_43 1000000 (nI s) (nI i) (-1) 0 m = some (nI w, m') := by
  have hW : iv_W D r := by rw [← hr]; exact hx.1
  have h7 := hW.n7
  have h0 := hW.r0
  have h128 := pw_le h7
  have hwn := bit_lt hs hw
  have hi7 : i ≤ 7 := by rw [← hk]; exact fb_ct_le _ 7
  have key : ∃ t, lp_X10_seat_43 1000000 (nI s) (nI i) (-1) 0 m = some t ∧ t.1 = nI w := by
    refine lp_up0 (fun N x (a : Int32 × am_m) => lp_X10_seat_43 N (nI s) (nI i) a.1 x a.2) (fun j a => rfx D lw a.2 ∧ a.2.1 44 0 = r ∧ (w < j → a.1 = nI w)) _ (nv (r 0)) (by omega) (fun N a hh => ?_) (fun N j a hj hh => Or.inl ?_) (-1, m) ⟨hx, hr, fun z => absurd z (Nat.not_lt_zero _)⟩
    · refine ⟨a, ?_, hh.2.2 hwn⟩
      show lp_X10_seat_43 (N + 1) (nI s) (nI i) a.1 (nI (nv (r 0))) a.2 = _
      rw [lp_X10_seat_43.eq_2, hh.2.1, if_pos (by rw [h0, nv_nI (nv_lt _)]; exact nI_le (Nat.le_refl _) (nv_lt _))]
    · obtain ⟨x1, r1, a1⟩ := hh
      obtain ⟨t, e2, y2, r2, q2⟩ := rahead_ok (p := j) (x2 := nI i) (x3 := a.1) x1 r1 hs hj
      show ∃ a' : Int32 × am_m, lp_X10_seat_43 (N + 1) (nI s) (nI i) a.1 (nI j) a.2 = lp_X10_seat_43 N (nI s) (nI i) a'.1 (nI (j + 1)) a'.2 ∧ _
      rw [lp_X10_seat_43.eq_2, r1, if_neg (by rw [h0]; exact nI_ge hj (by omega)), e2, bd_s, is_ok (by omega) (by omega), bd_s, nI_1]
      have ne : ∀ v : Int32, (w = j → v = nI w) → (w ≠ j → v = a.1) → rfx D lw t.2 ∧ t.2.1 44 0 = r ∧ (w < j + 1 → v = nI w) := fun v h1 h2 => ⟨y2, r2, fun z => by
        by_cases e : w = j
        · exact h1 e
        · rw [h2 e]; exact a1 (by omega)⟩
      cases hb : s.testBit j with
      | false =>
        rw [if_pos (show bv false = 0 from rfl), bd_s]
        exact ⟨(a.1, t.2), rfl, ne a.1 (fun e => by rw [e, hb] at hw; cases hw) (fun _ => rfl)⟩
      | true =>
        have rj : rnk (sfS r lw s) s j ≤ 7 := fb_ct_le _ 7
        rw [if_neg (show ¬ bv true = 0 by decide), q2 hb]
        by_cases e : rnk (sfS r lw s) s j = i
        · have ew : w = j := rnk_one hw hb hw7 (by omega) (by rw [hk, e])
          rw [if_neg (fun z => z (by rw [e])), bd_s]
          exact ⟨(nI j, t.2), rfl, ne (nI j) (fun _ => by rw [ew]) (fun z => absurd ew z)⟩
        · rw [if_pos (nI_ne (by omega) (by omega) e), bd_s]
          exact ⟨(a.1, t.2), rfl, ne a.1 (fun z => absurd (by rw [← z]; exact hk) e) (fun _ => rfl)⟩
  obtain ⟨t, e1, e2⟩ := key
  exact ⟨t.2, by rw [e1, ← e2]⟩
theorem op_seat {m : am_m} (h : Inv m) (a b : Int32) : op_ok m (fun m => fn_X9_seat a b m) (fun m => fn_X10_seat a b m) := by
  obtain ⟨n, hn, e44, e8, en⟩ := h.n
  have h128 := pw_le hn
  have hlook := fun (r : Int32) => op_look (f := fun m => fn_X9_seat a b m) (g := fun m => fn_X10_seat a b m) h (fun t => kp_X9_seat a b m t) (fun m1 t => kp_X10_seat a b m1 t) rfl rfl rfl r
  have pred8 : ∀ x, x < 8 → (nI x).toInt64 - 1 = (nI x - 1).toInt64 := by decide +kernel
  by_cases ha : 0 ≤ a ∧ a < nI (2 ^ n)
  · obtain ⟨s, hs31, rfl⟩ := nI_of (an_nn ha.1)
    have hs : s < 2 ^ n := (nI_ltI hs31 (by omega)).mp ha.2
    have p7 := pc_le s
    have hle : ∀ x : Int32, x ≤ nI (pc s) - 1 ↔ x < nI (pc s) := fun x => le_pred p7 x
    by_cases hb : 0 ≤ b ∧ b < nI (pc s)
    · obtain ⟨i, hi31, rfl⟩ := nI_of (an_nn hb.1)
      have hi : i < pc s := (nI_ltI hi31 (by omega)).mp hb.2
      obtain ⟨lw, m0, e0, j0, f0, k0, l0⟩ := askLive_ok h
      obtain ⟨w, m1, w1, w2, w3, c1⟩ := cseat_ok j0 (by decide) (by rw [en]; exact hs) hi
      refine hlook (nI w) ⟨m1, ?_⟩ (fun m1' i1 f1' => ?_)
      · show fn_X9_seat (nI s) (nI i) m = _
        unfold fn_X9_seat
        rw [hasSet_ok e8 hn, if_pos ha, bd_s, if_neg (by decide), if_neg (nI_pos (by omega)), bc_ok (by omega), bd_s, if_pos hb.2, e0, bd_s]
        exact c1
      · have g44 : (am_si m1' 10 0 0 0).1 44 0 0 = nI n := by show m1'.1 44 0 0 = _; rw [f1']; exact e44
        have x1 : rfx 999 lw (am_si m1' 10 0 0 0) := (i1.rfx (lw := lw) (by rw [f1']; exact l0 _ rfl (fun _ _ => rfl))).kp (WI := [(10, 0)]) (WL := []) (E := 0) (am_kp.si am_kp.rf rfl) rfl
        obtain ⟨m2, r2⟩ := rseat_ok (m := am_si m1' 10 0 0 0) (r := m.1 44 0) x1 (by show m1'.1 44 0 = _; rw [f1']) (by rw [en]; exact hs) w1 w2 w3
        refine ⟨m2, ?_⟩
        show fn_X10_seat (nI s) (nI i) m1' = _
        unfold fn_X10_seat
        rw [isSet_ok, if_pos ⟨ha.1, nI_le (b := 127) (by omega) (by decide)⟩, bd_s, if_neg (by decide), areThere_ok g44 hn (by omega), decide_eq_true hs, bd_s, if_neg (by decide), ones_ok (by omega), bd_s, pred8 _ (by omega), show (0 : Int64) = (0 : Int32).toInt64 from rfl, in_32, if_pos ⟨hb.1, (hle _).mpr hb.2⟩, bd_s, if_pos (by decide), r2, bd_s]
    · refine hlook (-1) ⟨m, ?_⟩ (fun m1' i1 f1' => ⟨am_si m1' 10 0 0 0, ?_⟩)
      · show fn_X9_seat (nI s) b m = _
        unfold fn_X9_seat
        rw [hasSet_ok e8 hn, if_pos ha, bd_s, if_neg (by decide)]
        by_cases b0 : b < 0
        · rw [if_pos b0]
        · rw [if_neg b0, bc_ok (by omega), bd_s, if_neg (fun z => hb ⟨fa_of_nlt b0, z⟩)]
      · have g44 : (am_si m1' 10 0 0 0).1 44 0 0 = nI n := by show m1'.1 44 0 0 = _; rw [f1']; exact e44
        show fn_X10_seat (nI s) b m1' = _
        unfold fn_X10_seat
        rw [isSet_ok, if_pos ⟨ha.1, nI_le (b := 127) (by omega) (by decide)⟩, bd_s, if_neg (by decide), areThere_ok g44 hn (by omega), decide_eq_true hs, bd_s, if_neg (by decide), ones_ok (by omega), bd_s, pred8 _ (by omega), show (0 : Int64) = (0 : Int32).toInt64 from rfl, in_32, if_neg (fun z => hb ⟨z.1, (hle _).mp z.2⟩), bd_s, if_neg (by decide)]
  · refine hlook (-1) ⟨m, ?_⟩ (fun m1' i1 f1' => ⟨am_si m1' 10 0 0 0, ?_⟩)
    · show fn_X9_seat a b m = _
      unfold fn_X9_seat
      rw [hasSet_ok e8 hn, if_neg ha, bd_s, if_pos rfl]
    · have g44 : (am_si m1' 10 0 0 0).1 44 0 0 = nI n := by show m1'.1 44 0 0 = _; rw [f1']; exact e44
      show fn_X10_seat a b m1' = _
      unfold fn_X10_seat
      rw [isSet_ok]
      by_cases h1 : 0 ≤ a ∧ a ≤ 127
      · obtain ⟨s, hs31, rfl⟩ := nI_of (an_nn h1.1)
        have hs8 : s < 128 := by have := (nI_leI (b := 127) hs31 (by decide)).mp h1.2; omega
        rw [if_pos h1, bd_s, if_neg (by decide), areThere_ok g44 hn hs8, decide_eq_false (fun z => ha ⟨h1.1, nI_lt z (by omega)⟩), bd_s, if_pos (show bv false = 0 from rfl)]
      · rw [if_neg h1, bd_s, if_pos rfl]
end SF
