/-! the law's loop -/
theorem am_sw_mem (x : Int32) (d : Nat) : ∀ tb : List (Int32 × Nat), am_sw x tb d = d ∨ ∃ q ∈ tb, am_sw x tb d = q.2
  | [] => Or.inl rfl
  | q :: tb => by
    by_cases h : x = q.1
    · exact Or.inr ⟨q, List.mem_cons_self, if_pos h⟩
    · rcases am_sw_mem x d tb with e | ⟨w, hw, e⟩
      · exact Or.inl ((if_neg h).trans e)
      · exact Or.inr ⟨w, List.mem_cons_of_mem _ hw, (if_neg h).trans e⟩
section LOOP
variable {xs : Nat → Int32} {Lx d : Nat}
theorem GL.len {L : List (Option am_V)} {st : List am_V} {M : am_M} {r : Option am_V} {M' : am_M} {kc ks : Nat} (h0 : am_look at_312 20 (20, L, .inr (.inr (some (19, 0))) :: st, M) = am_no) (hp : ¬ pcI.contains 20 = true) (g : GL xs Lx d (21, L, .inl (Int32.ofNat Lx) :: st, M) r M' kc ks) : GL xs Lx d (20, L, .inr (.inr (some (19, 0))) :: st, M) r M' kc ks := by
  refine GL.st (S' := (21, L, .inl (Int32.ofNat Lx) :: st, M)) ?_ g
  show am_fb (am_look at_312 20 (20, L, .inr (.inr (some (19, 0))) :: st, M)) (am_scr xs Lx 20 (20, L, .inr (.inr (some (19, 0))) :: st, M)) = _
  rw [h0]
  show am_scr xs Lx 20 _ = _
  unfold am_scr
  rw [if_neg hp, if_pos rfl]
  rfl
theorem lt_len {q : Nat} (hL : Lx ≤ 3072) (hq : 6 * q ≤ 4000) : (Int32.ofNat Lx - (6 : Int32) < nI (6 * q)) ↔ Lx < 6 * q + 6 := by
  show (nI Lx - nI 6 < nI (6 * q)) ↔ _
  rw [fa_lt, pk_sub_toInt (by omega) (by omega), nI_toInt (by omega)]
  omega
theorem lwB_ok {q : Nat} (hL : Lx ≤ 3072) (h : 6 * q + 6 ≤ Lx) : lwB Lx (nI (6 * q)) ∧ ¬ (nI (6 * q) < 0 ∨ Lx ≤ (nI (6 * q)).toNatClampNeg) := by
  have k : ∀ j, j ≤ 5 → ¬ (nI (6 * q + j) < 0 ∨ Lx ≤ (nI (6 * q + j)).toNatClampNeg) := fun j hj => by
    rw [nI_clamp (by omega)]
    rintro (z | z)
    · exact nI_pos (by omega) z
    · omega
  have e : ∀ j, nI (6 * q) + nI j = nI (6 * q + j) := fun j => nI_add _ _
  refine ⟨⟨?_, ?_, ?_, ?_, ?_⟩, k 0 (by decide)⟩
  · rw [show (1 : Int32) = nI 1 from rfl, e]; exact k 1 (by decide)
  · rw [show (2 : Int32) = nI 2 from rfl, e]; exact k 2 (by decide)
  · rw [show (3 : Int32) = nI 3 from rfl, e]; exact k 3 (by decide)
  · rw [show (4 : Int32) = nI 4 from rfl, e]; exact k 4 (by decide)
  · rw [show (5 : Int32) = nI 5 from rfl, e]; exact k 5 (by decide)
set_option maxRecDepth 100000 in
theorem law_loop (hd : 60 ≤ d) (hL : Lx ≤ 3072) : ∀ (n q : Nat) (m : am_m), Lx < 6 * (q + n) + 6 → 6 * (q + n) ≤ 4000 → Inv m → ∃ M' kc ks, kc ≤ 7 * n ∧ ks ≤ 600 * n ∧ GL xs Lx d (18, LL (nI (6 * q)), [], am_mk m) (some (.inl 1)) M' kc ks := by
  intro n
  induction n with
  | zero =>
    intro q m h1 h2 hI
    refine ⟨am_mk m, 0, 0, by omega, by omega, ?_⟩
    refine GL.n 2 (S' := (20, LL (nI (6 * q)), [.inr (.inr (some (19, 0))), .inl (nI (6 * q))], am_mk m)) rfl ?_
    refine GL.len rfl (by decide) ?_
    refine GL.n 2 (S' := (24, LL (nI (6 * q)), [.inl (Int32.ofNat Lx - (6 : Int32)), .inl (nI (6 * q))], am_mk m)) rfl ?_
    refine GL.c1 (S' := (1232, LL (nI (6 * q)), [], am_mk m)) (if_pos ((lt_len hL (by omega)).mpr (by omega))) ?_
    refine GL.n 1 (S' := (1233, LL (nI (6 * q)), [.inl 1], am_mk m)) rfl ?_
    exact GL.rt rfl
  | succ n ih =>
    intro q m h1 h2 hI
    by_cases hx : Lx < 6 * q + 6
    · refine ⟨am_mk m, 0, 0, by omega, by omega, ?_⟩
      refine GL.n 2 (S' := (20, LL (nI (6 * q)), [.inr (.inr (some (19, 0))), .inl (nI (6 * q))], am_mk m)) rfl ?_
      refine GL.len rfl (by decide) ?_
      refine GL.n 2 (S' := (24, LL (nI (6 * q)), [.inl (Int32.ofNat Lx - (6 : Int32)), .inl (nI (6 * q))], am_mk m)) rfl ?_
      refine GL.c1 (S' := (1232, LL (nI (6 * q)), [], am_mk m)) (if_pos ((lt_len hL (by omega)).mpr (by omega))) ?_
      refine GL.n 1 (S' := (1233, LL (nI (6 * q)), [.inl 1], am_mk m)) rfl ?_
      exact GL.rt rfl
    · obtain ⟨hb, hb0⟩ := lwB_ok (q := q) hL (by omega)
      have key : lwGo xs Lx d (am_sw (xs (nI (6 * q)).toNatClampNeg &&& (63 : Int32)) tbL 1226) (nI (6 * q)) m := by
        rcases am_sw_mem (xs (nI (6 * q)).toNatClampNeg &&& (63 : Int32)) 1226 tbL with e | ⟨w, hw, e⟩
        · rw [e]
          exact ⟨m, 0, 0, by decide, by decide, hI, fun r M' kc ks hk => by rw [Nat.zero_add, Nat.zero_add]; exact hk⟩
        · rw [e]
          exact lc_all hd hI hb w hw
      obtain ⟨m2, kc, ks, k7, k6, hI2, go⟩ := key
      obtain ⟨M', kc', ks', g1, g2, g3⟩ := ih (q + 1) m2 (by omega) (by omega) hI2
      refine ⟨M', kc + kc', ks + ks', by omega, by omega, ?_⟩
      have g4 := go _ _ _ _ (GL.n 2 (S := (1226, LL (nI (6 * q)), [], am_mk m2)) (S' := (18, LL (nI (6 * q) + (6 : Int32)), [], am_mk m2)) rfl (by
        rw [show nI (6 * q) + (6 : Int32) = nI (6 * (q + 1)) by rw [show (6 : Int32) = nI 6 from rfl, nI_add]; rfl]
        exact g3))
      refine GL.n 2 (S' := (20, LL (nI (6 * q)), [.inr (.inr (some (19, 0))), .inl (nI (6 * q))], am_mk m)) rfl ?_
      refine GL.len rfl (by decide) ?_
      refine GL.n 2 (S' := (24, LL (nI (6 * q)), [.inl (Int32.ofNat Lx - (6 : Int32)), .inl (nI (6 * q))], am_mk m)) rfl ?_
      refine GL.c1 (S' := (27, LL (nI (6 * q)), [], am_mk m)) (if_neg (fun z => hx ((lt_len hL (by omega)).mp z))) ?_
      refine GL.n 2 (S' := (29, LL (nI (6 * q)), [.inl (nI (6 * q)), .inr (.inr (some (19, 0)))], am_mk m)) rfl ?_
      refine GL.ld rfl rfl hb0 ?_
      show GL xs Lx d (30, LL (nI (6 * q)), [.inl (xs (nI (6 * q)).toNatClampNeg)], am_mk m) _ _ _ _
      refine GL.n 2 (S' := (33, LL (nI (6 * q)), [.inl (xs (nI (6 * q)).toNatClampNeg &&& (63 : Int32))], am_mk m)) rfl ?_
      exact GL.o (am_o_sw tbL 1226) rfl (am_sw_eq rfl) g4
end LOOP
