/-! the fewest tables by which the hungry are fed -/
/-- k TABLES that together are K -/
def un (T : Nat → Bool) (N : Nat) : Nat → Nat → Prop
  | 0, K => K = 0
  | k + 1, K => ∃ K' t, un T N k K' ∧ t < N ∧ T t = true ∧ K = K' ||| t
/-- j of the TABLES below i, each once, that together are S of the hungry -/
def cu (T : Nat → Bool) (h : Nat) : Nat → Nat → Nat → Prop
  | 0, j, S => j = 0 ∧ S = 0
  | i + 1, j, S => cu T h i j S ∨ (T i = true ∧ ∃ j' S', j = j' + 1 ∧ cu T h i j' S' ∧ S = S' ||| (i &&& h))
section UN
variable {T : Nat → Bool} {N h : Nat}
theorem cu_un : ∀ i j S, i ≤ N → cu T h i j S → ∃ K, un T N j K ∧ K &&& h = S
  | 0, j, S, _, hc => ⟨0, by rw [hc.1]; rfl, by rw [hc.2, Nat.zero_and]⟩
  | i + 1, j, S, hi, hc => by
    rcases hc with hc | ⟨h1, j', S', h2, h3, h4⟩
    · exact cu_un i j S (by omega) hc
    · obtain ⟨K, k1, k2⟩ := cu_un i j' S' (by omega) h3
      refine ⟨K ||| i, ?_, ?_⟩
      · rw [h2]; exact ⟨K, i, k1, by omega, h1, rfl⟩
      · rw [h4, ← k2]
        refine Nat.eq_of_testBit_eq (fun k => ?_)
        rw [Nat.testBit_and, Nat.testBit_or, Nat.testBit_or, Nat.testBit_and, Nat.testBit_and]
        cases K.testBit k <;> cases i.testBit k <;> cases h.testBit k <;> rfl
theorem or_self2 (a b : Nat) : (a ||| b) ||| b = a ||| b := by rw [Nat.or_assoc, Nat.or_self]
theorem or_swap (a b c : Nat) : (a ||| b) ||| c = (a ||| c) ||| b := by rw [Nat.or_assoc, Nat.or_comm b c, ← Nat.or_assoc]
theorem cu_ins {t : Nat} (ht : T t = true) : ∀ i j S, t < i → cu T h i j S → ∃ j', j' ≤ j + 1 ∧ cu T h i j' (S ||| (t &&& h))
  | 0, _, _, h, _ => absurd h (Nat.not_lt_zero _)
  | i + 1, j, S, hi, hc => by
    by_cases e : t = i
    · rcases hc with hc | ⟨h1, j', S', h2, h3, h4⟩
      · exact ⟨j + 1, Nat.le_refl _, Or.inr ⟨by rw [← e]; exact ht, j, S, rfl, hc, by rw [e]⟩⟩
      · refine ⟨j, by omega, Or.inr ⟨h1, j', S', h2, h3, ?_⟩⟩
        rw [h4, e, or_self2]
    · rcases hc with hc | ⟨h1, j', S', h2, h3, h4⟩
      · obtain ⟨j2, q1, q2⟩ := cu_ins ht i j S (by omega) hc
        exact ⟨j2, q1, Or.inl q2⟩
      · obtain ⟨j2, q1, q2⟩ := cu_ins ht i j' S' (by omega) h3
        refine ⟨j2 + 1, by omega, Or.inr ⟨h1, j2, S' ||| (t &&& h), rfl, q2, ?_⟩⟩
        rw [h4, or_swap]
theorem cu_0 : ∀ i, cu T h i 0 0
  | 0 => ⟨rfl, rfl⟩
  | i + 1 => Or.inl (cu_0 i)
theorem un_cu : ∀ j K, un T N j K → ∃ j', j' ≤ j ∧ cu T h N j' (K &&& h)
  | 0, K, hu => ⟨0, Nat.le_refl _, by rw [show K = 0 from hu, Nat.zero_and]; exact cu_0 N⟩
  | j + 1, K, hu => by
    obtain ⟨K', t, h1, h2, h3, h4⟩ := hu
    obtain ⟨j', q1, q2⟩ := un_cu j K' h1
    obtain ⟨j2, p1, p2⟩ := cu_ins h3 N j' (K' &&& h) h2 q2
    refine ⟨j2, by omega, ?_⟩
    have : K &&& h = (K' &&& h) ||| (t &&& h) := by
      rw [h4]
      refine Nat.eq_of_testBit_eq (fun k => ?_)
      rw [Nat.testBit_and, Nat.testBit_or, Nat.testBit_or, Nat.testBit_and, Nat.testBit_and]
      cases K'.testBit k <;> cases t.testBit k <;> cases h.testBit k <;> rfl
    rw [this]; exact p2
/-- the least -/
def lst1 (P : Nat → Prop) (j : Nat) : Prop := P j ∧ ∀ i, i < j → ¬ P i
theorem lst1_ex {P : Nat → Prop} : ∀ j, P j → ∃ i, i ≤ j ∧ lst1 P i := by
  intro j
  induction j using Nat.strongRecOn with
  | ind j ih =>
    intro hj
    by_cases c : ∃ i, i < j ∧ P i
    · obtain ⟨i, h1, h2⟩ := c
      obtain ⟨k, k1, k2⟩ := ih i h1 h2
      exact ⟨k, by omega, k2⟩
    · exact ⟨j, Nat.le_refl _, hj, fun i hi hp => c ⟨i, hi, hp⟩⟩
theorem lst1_one {P : Nat → Prop} {i j : Nat} (h1 : lst1 P i) (h2 : lst1 P j) : i = j := by
  rcases Nat.lt_trichotomy i j with z | z | z
  · exact absurd h1.1 (h2.2 i z)
  · exact z
  · exact absurd h2.1 (h1.2 j z)
/-- a number that is the least, or none -/
def lstI (P : Nat → Prop) (far v : Int32) : Prop := (v = far ∧ ∀ j, ¬ P j) ∨ ∃ j, j ≤ 128 ∧ v = nI j ∧ lst1 P j
theorem cu_le : ∀ i j S, cu T h i j S → j ≤ i
  | 0, j, S, hc => by rw [hc.1]; exact Nat.le_refl _
  | i + 1, j, S, hc => by
    rcases hc with hc | ⟨_, j', S', h2, h3, _⟩
    · exact Nat.le_succ_of_le (cu_le i j S hc)
    · have := cu_le i j' S' h3; omega
end UN
section CFF
variable {m : am_m} {R : Nat → Nat} {n h : Nat} {T : Nat → Bool}
/-- the class's numbers, when the TABLES below i were looked at -/
def ffC (T : Nat → Bool) (h i : Nat) (m : am_m) : Prop := ∀ S, S < 128 → lstI (fun j => cu T h i j S) (-1) (m.1 34 0 S)
theorem or_lt {a b : Nat} (ha : a < 128) (hb : b < 128) : a ||| b < 128 := Nat.or_lt_two_pow (n := 7) ha hb
theorem add_ok {i : Nat} (hT : T i = true) (hi : i < 128) (hh : h < 128) (hf : ffC T h i m) : ∃ m', fn_X6_addTable (nI (i &&& h)) m = some m' ∧ ffC T h (i + 1) m' ∧ am_kp [(34, 0)] [] 0 m m' := by
  have fl : i &&& h < 128 := Nat.lt_of_le_of_lt Nat.and_le_right hh
  generalize ef : i &&& h = f at fl
  -- what a set's number becomes: the sets from x on were gone past
  have key : ∃ m', lp_X6_addTable_3 1000000 (nI f) (nI 128 - 1) m = some m' ∧ ((∀ S, S < 128 → lstI (fun j => cu T h i j S ∨ ∃ j' S', 0 ≤ S' ∧ S' < 128 ∧ j = j' + 1 ∧ cu T h i j' S' ∧ S = S' ||| f) (-1) (m'.1 34 0 S)) ∧ am_kp [(34, 0)] [] 0 m m') := by
    refine lp_dn (fun N x a => lp_X6_addTable_3 N (nI f) x a) (fun x m1 => x ≤ 128 ∧ (∀ S, S < 128 → lstI (fun j => cu T h i j S ∨ ∃ j' S', x ≤ S' ∧ S' < 128 ∧ j = j' + 1 ∧ cu T h i j' S' ∧ S = S' ||| f) (-1) (m1.1 34 0 S)) ∧ am_kp [(34, 0)] [] 0 m m1) _ (fun N m1 hp => ?_) (fun N x m1 hp => ?_) 128 1000000 m (by decide) ⟨Nat.le_refl _, fun S hS => ?_, am_kp.rf⟩
    · refine ⟨m1, ?_, hp.2⟩
      show lp_X6_addTable_3 (N + 1) (nI f) (-1) m1 = _
      rw [lp_X6_addTable_3.eq_2, if_pos (by decide)]
    · obtain ⟨p0, p1, p2⟩ := hp
      have ol := or_lt (show x < 128 by omega) fl
      have le : x ≤ x ||| f := Nat.left_le_or
      -- the number of x itself is still that of the TABLES ahead
      have own : lstI (fun j => cu T h i j x) (-1) (m1.1 34 0 x) := by
        have same : ∀ j, (cu T h i j x ∨ ∃ j' S', x + 1 ≤ S' ∧ S' < 128 ∧ j = j' + 1 ∧ cu T h i j' S' ∧ x = S' ||| f) ↔ cu T h i j x := fun j => by
          constructor
          · rintro (z | ⟨j', S', z1, z2, z3, z4, z5⟩)
            · exact z
            · have : S' ≤ S' ||| f := Nat.left_le_or
              omega
          · exact Or.inl
        have q := p1 x (by omega)
        rcases q with ⟨q1, q2⟩ | ⟨j, j0, q1, q2, q3⟩
        · exact Or.inl ⟨q1, fun j z => q2 j ((same j).mpr z)⟩
        · exact Or.inr ⟨j, j0, q1, (same j).mp q2, fun k hk z => q3 k hk ((same k).mpr z)⟩
      have iff : ∀ S j, ((cu T h i j S ∨ ∃ j' S', x ≤ S' ∧ S' < 128 ∧ j = j' + 1 ∧ cu T h i j' S' ∧ S = S' ||| f) ↔ ((cu T h i j S ∨ ∃ j' S', x + 1 ≤ S' ∧ S' < 128 ∧ j = j' + 1 ∧ cu T h i j' S' ∧ S = S' ||| f) ∨ (S = x ||| f ∧ ∃ j', j = j' + 1 ∧ cu T h i j' x))) := fun S j => by
        constructor
        · rintro (z | ⟨j', S', z1, z2, z3, z4, z5⟩)
          · exact Or.inl (Or.inl z)
          · by_cases e : S' = x
            · rw [e] at z4 z5; exact Or.inr ⟨z5, j', z3, z4⟩
            · exact Or.inl (Or.inr ⟨j', S', by omega, z2, z3, z4, z5⟩)
        · rintro ((z | ⟨j', S', z1, z2, z3, z4, z5⟩) | ⟨z5, j', z3, z4⟩)
          · exact Or.inl z
          · exact Or.inr ⟨j', S', by omega, z2, z3, z4, z5⟩
          · exact Or.inr ⟨j', x, Nat.le_refl _, by omega, z3, z4, z5⟩
      have other : ∀ S v, S ≠ x ||| f → lstI (fun j => cu T h i j S ∨ ∃ j' S', x + 1 ≤ S' ∧ S' < 128 ∧ j = j' + 1 ∧ cu T h i j' S' ∧ S = S' ||| f) (-1) v → lstI (fun j => cu T h i j S ∨ ∃ j' S', x ≤ S' ∧ S' < 128 ∧ j = j' + 1 ∧ cu T h i j' S' ∧ S = S' ||| f) (-1) v := fun S v hne q => by
        have same : ∀ j, (cu T h i j S ∨ ∃ j' S', x ≤ S' ∧ S' < 128 ∧ j = j' + 1 ∧ cu T h i j' S' ∧ S = S' ||| f) ↔ (cu T h i j S ∨ ∃ j' S', x + 1 ≤ S' ∧ S' < 128 ∧ j = j' + 1 ∧ cu T h i j' S' ∧ S = S' ||| f) := fun j => (iff S j).trans ⟨fun z => z.elim id (fun z => absurd z.1 hne), Or.inl⟩
        rcases q with ⟨q1, q2⟩ | ⟨j, j0, q1, q2, q3⟩
        · exact Or.inl ⟨q1, fun j z => q2 j ((same j).mp z)⟩
        · exact Or.inr ⟨j, j0, q1, (same j).mpr q2, fun k hk z => q3 k hk ((same k).mp z)⟩
      show ∃ a', lp_X6_addTable_3 (N + 1) (nI f) (nI x) m1 = lp_X6_addTable_3 N (nI f) (nI x - 1) a' ∧ _
      rw [lp_X6_addTable_3.eq_2, if_neg (nI_pos (by omega)), fa_or, if_neg (show ¬ (127 : Int32) < nI (x ||| f) from nI_nlt (a := 127) (by omega) (by decide)), ck_in (by omega) (by decide), nI_clamp (by omega), ck_in (by omega) (by decide), nI_clamp (by omega), ck_in (by omega) (by decide)]
      rcases own with ⟨o1, o2⟩ | ⟨jx, jx0, o1, o2, o3⟩
      · rw [o1, if_pos rfl, bd_s]
        refine ⟨m1, rfl, by omega, fun S hS => ?_, p2⟩
        by_cases e : S = x ||| f
        · have same : ∀ j, (cu T h i j S ∨ ∃ j' S', x ≤ S' ∧ S' < 128 ∧ j = j' + 1 ∧ cu T h i j' S' ∧ S = S' ||| f) ↔ (cu T h i j S ∨ ∃ j' S', x + 1 ≤ S' ∧ S' < 128 ∧ j = j' + 1 ∧ cu T h i j' S' ∧ S = S' ||| f) := fun j => (iff S j).trans ⟨fun z => z.elim id (fun z => by obtain ⟨_, j', _, z4⟩ := z; exact absurd z4 (o2 j')), Or.inl⟩
          rcases p1 S hS with ⟨q1, q2⟩ | ⟨j, j0, q1, q2, q3⟩
          · exact Or.inl ⟨q1, fun j z => q2 j ((same j).mp z)⟩
          · exact Or.inr ⟨j, j0, q1, (same j).mpr q2, fun k hk z => q3 k hk ((same k).mp z)⟩
        · exact other S _ e (p1 S hS)
      · rw [o1, if_neg (nI_m1 (by omega)), nI_1]
        have jl := cu_le i jx x o2
        have fin : ∀ v : Nat, v ≤ 128 → lst1 (fun j => cu T h i j (x ||| f) ∨ ∃ j' S', x ≤ S' ∧ S' < 128 ∧ j = j' + 1 ∧ cu T h i j' S' ∧ x ||| f = S' ||| f) v → ∃ a', ((some (am_si m1 34 0 (x ||| f) (nI v))).bind fun q14 => lp_X6_addTable_3 N (nI f) (nI x - 1) q14) = lp_X6_addTable_3 N (nI f) (nI x - 1) a' ∧ (x ≤ 128 ∧ (∀ S, S < 128 → lstI (fun j => cu T h i j S ∨ ∃ j' S', x ≤ S' ∧ S' < 128 ∧ j = j' + 1 ∧ cu T h i j' S' ∧ S = S' ||| f) (-1) (a'.1 34 0 S)) ∧ am_kp [(34, 0)] [] 0 m a') := fun v v0 hv => by
          refine ⟨_, rfl, by omega, fun S hS => ?_, am_kp.si p2 rfl⟩
          rw [rd_j]
          by_cases e : S = x ||| f
          · rw [if_pos e, e]; exact Or.inr ⟨v, v0, rfl, hv⟩
          · rw [if_neg e]; exact other S _ e (p1 S hS)
        have up : ∀ k, cu T h i k x → jx ≤ k := fun k hk => by
          by_cases c : jx ≤ k
          · exact c
          · exact absurd hk (o3 k (by omega))
        rcases p1 (x ||| f) ol with ⟨q1, q2⟩ | ⟨j, j0, q1, q2, q3⟩
        · rw [q1, if_neg (fun z => z rfl), bd_s, ck_in (by omega) (by decide)]
          refine fin (jx + 1) (by omega) ⟨(iff _ _).mpr (Or.inr ⟨rfl, jx, rfl, o2⟩), fun k hk z => ?_⟩
          rcases (iff _ _).mp z with z | ⟨_, k', z1, z2⟩
          · exact q2 k z
          · have := up k' z2; omega
        · rw [q1, if_pos (nI_m1 (by omega)), ck_in (by omega) (by decide)]
          unfold fn_J9_min_7cf53
          by_cases c : jx + 1 < j
          · rw [if_pos (nI_lt c (by omega)), bd_s, bd_s, ck_in (by omega) (by decide)]
            refine fin (jx + 1) (by omega) ⟨(iff _ _).mpr (Or.inr ⟨rfl, jx, rfl, o2⟩), fun k hk z => ?_⟩
            rcases (iff _ _).mp z with z | ⟨_, k', z1, z2⟩
            · exact q3 k (by omega) z
            · have := up k' z2; omega
          · rw [if_neg (nI_nlt (by omega) (by omega)), bd_s, bd_s, ck_in (by omega) (by decide)]
            refine fin j j0 ⟨(iff _ _).mpr (Or.inl q2), fun k hk z => ?_⟩
            rcases (iff _ _).mp z with z | ⟨_, k', z1, z2⟩
            · exact q3 k hk z
            · have := up k' z2; omega
    · have same : ∀ j, (cu T h i j S ∨ ∃ j' S', 128 ≤ S' ∧ S' < 128 ∧ j = j' + 1 ∧ cu T h i j' S' ∧ S = S' ||| f) ↔ cu T h i j S := fun j => ⟨fun z => z.elim id (fun ⟨_, _, z1, z2, _⟩ => by omega), Or.inl⟩
      rcases hf S hS with ⟨q1, q2⟩ | ⟨j, j0, q1, q2, q3⟩
      · exact Or.inl ⟨q1, fun j z => q2 j ((same j).mp z)⟩
      · exact Or.inr ⟨j, j0, q1, (same j).mpr q2, fun k hk z => q3 k hk ((same k).mp z)⟩
  obtain ⟨m', e1, e2, e3⟩ := key
  refine ⟨m', ?_, fun S hS => ?_, e3⟩
  · unfold fn_X6_addTable
    have e1 : lp_X6_addTable_3 1000000 (nI f) 127 m = some m' := e1
    rw [e1, bd_s]
  · have same : ∀ j, cu T h (i + 1) j S ↔ (cu T h i j S ∨ ∃ j' S', 0 ≤ S' ∧ S' < 128 ∧ j = j' + 1 ∧ cu T h i j' S' ∧ S = S' ||| f) := fun j => by
      constructor
      · rintro (z | ⟨_, j', S', z1, z2, z3⟩)
        · exact Or.inl z
        · rw [ef] at z3
          have : S' ≤ S' ||| f := Nat.left_le_or
          exact Or.inr ⟨j', S', Nat.zero_le _, by omega, z1, z2, z3⟩
      · rintro (z | ⟨j', S', _, _, z1, z2, z3⟩)
        · exact Or.inl z
        · exact Or.inr ⟨hT, j', S', z1, z2, by rw [ef]; exact z3⟩
    rcases e2 S hS with ⟨q1, q2⟩ | ⟨j, j0, q1, q2, q3⟩
    · exact Or.inl ⟨q1, fun j z => q2 j ((same j).mp z)⟩
    · exact Or.inr ⟨j, j0, q1, (same j).mpr q2, fun k hk z => q3 k hk ((same k).mp z)⟩
theorem cfeeding_ok (hc : clsR n R m) (hn : n ≤ 7) (hh : h < 128) : ∃ v m', fn_X6_fewestFeeding (nI h) m = some (v, m') ∧ lstI (fun j => cu (tb R n) h (2 ^ n) j h) (-1) v := by
  have h128 := pw_le hn
  have hp := pw_pos n
  have s1 : ∃ m1, lp_X6_fewestFeeding_2 1000000 (nI h) 0 m = some m1 ∧ ((∀ S, S < 128 → m1.1 34 0 S = -1) ∧ clsR n R m1) := by
    refine lp_up0 (fun N x a => lp_X6_fewestFeeding_2 N (nI h) x a) (fun i m1 => (∀ S, S < i → m1.1 34 0 S = -1) ∧ clsR n R m1) _ 128 (by decide) (fun N m1 hh => ⟨m1, ?_, hh⟩) (fun N i m1 hi hh => Or.inl ⟨am_si m1 34 0 i (-1), ?_, fun S hS => ?_, hh.2.si (by decide)⟩) m ⟨fun S hS => absurd hS (Nat.not_lt_zero _), hc⟩
    · show lp_X6_fewestFeeding_2 (N + 1) (nI h) (nI 128) m1 = _
      rw [lp_X6_fewestFeeding_2.eq_2, if_pos (by decide)]
    · show lp_X6_fewestFeeding_2 (N + 1) (nI h) (nI i) m1 = lp_X6_fewestFeeding_2 N (nI h) (nI (i + 1)) _
      rw [lp_X6_fewestFeeding_2.eq_2, if_neg (show ¬ (127 : Int32) < nI i from nI_nlt (a := 127) (by omega) (by decide)), ck_in (by omega) (by decide), nI_clamp (by omega), nI_1]
    · rw [rd_j]
      by_cases e : S = i
      · rw [if_pos e]
      · rw [if_neg e]; exact hh.1 S (by omega)
  obtain ⟨m1, e1, z1, c1⟩ := s1
  have s2 : ∃ m2, lp_X6_fewestFeeding_30 1000000 (nI h) (nI 1) (am_si m1 34 0 0 0) = some m2 ∧ (clsR n R m2 ∧ ffC (tb R n) h (2 ^ n) m2) := by
    refine lp_up (fun N x a => lp_X6_fewestFeeding_30 N (nI h) x a) (fun i m2 => 1 ≤ i ∧ clsR n R m2 ∧ ffC (tb R n) h i m2) _ (2 ^ n) (fun N m2 hq => ?_) (fun N i m2 hi hq => Or.inl ?_) (2 ^ n - 1) 1 1000000 (am_si m1 34 0 0 0) (by omega) (by omega) ⟨Nat.le_refl _, c1.si (by decide), fun S hS => ?_⟩
    · refine ⟨m2, ?_, hq.2⟩
      show lp_X6_fewestFeeding_30 (N + 1) (nI h) (nI (2 ^ n)) m2 = _
      rw [lp_X6_fewestFeeding_30.eq_2, every_ok hq.2.1.1 hn, bd_s, if_pos (nI_lt (by omega) (by omega))]
    · obtain ⟨i1, c2, f2⟩ := hq
      show ∃ a', lp_X6_fewestFeeding_30 (N + 1) (nI h) (nI i) m2 = lp_X6_fewestFeeding_30 N (nI h) (nI (i + 1)) a' ∧ _
      rw [lp_X6_fewestFeeding_30.eq_2, every_ok c2.1 hn, bd_s, if_neg (nI_nlt (by omega) (by omega)), ctable_ok c2 hn (by omega), bd_s, nI_1, fa_and]
      cases ht : tb R n i with
      | false =>
        rw [if_pos (show bv false = 0 from rfl), bd_s]
        refine ⟨m2, rfl, by omega, c2, fun S hS => ?_⟩
        have same : ∀ j, cu (tb R n) h (i + 1) j S ↔ cu (tb R n) h i j S := fun j => ⟨fun z => z.elim id (fun z => by rw [ht] at z; exact absurd z.1 (by decide)), Or.inl⟩
        rcases f2 S hS with ⟨q1, q2⟩ | ⟨j, j0, q1, q2, q3⟩
        · exact Or.inl ⟨q1, fun j z => q2 j ((same j).mp z)⟩
        · exact Or.inr ⟨j, j0, q1, (same j).mpr q2, fun k hk z => q3 k hk ((same k).mp z)⟩
      | true =>
        obtain ⟨m3, e3, f3, k3⟩ := add_ok ht (by omega) hh f2
        rw [if_neg (show ¬ bv true = 0 by decide), e3, bd_s, bd_s]
        exact ⟨m3, rfl, by omega, c2.of (k3.fld 6 0 0 rfl) (k3.row 30 rfl), f3⟩
    · rw [rd_j]
      have t0 : tb R n 0 = false := by
        cases hz : tb R n 0 with
        | false => rfl
        | true => have := tb_2 hz; exact absurd this (by decide)
      have same : ∀ j, cu (tb R n) h 1 j S ↔ (j = 0 ∧ S = 0) := fun j => ⟨fun z => z.elim id (fun z => by rw [t0] at z; exact absurd z.1 (by decide)), Or.inl⟩
      by_cases e : S = 0
      · rw [if_pos e]
        exact Or.inr ⟨0, by decide, rfl, (same 0).mpr ⟨rfl, e⟩, fun i hi => absurd hi (Nat.not_lt_zero _)⟩
      · rw [if_neg e, z1 S hS]
        exact Or.inl ⟨rfl, fun j z => e ((same j).mp z).2⟩
  obtain ⟨m2, e2, c2, f2⟩ := s2
  refine ⟨m2.1 34 0 h, m2, ?_, f2 h hh⟩
  unfold fn_X6_fewestFeeding
  have e2 : lp_X6_fewestFeeding_30 1000000 (nI h) 1 (am_si m1 34 0 0 0) = some m2 := e2
  rw [e1, bd_s, e2, bd_s, if_neg (nI_pos (by omega)), if_neg (show ¬ (127 : Int32) < nI h from nI_nlt (a := 127) (by omega) (by decide)), ck_in (by omega) (by decide), nI_clamp (by omega)]
end CFF
