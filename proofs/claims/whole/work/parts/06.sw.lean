/-! switches -/
def am_tsr (pc : Nat) : Int → List Int → List (Int32 × Nat) → Bool
  | _, [], [] => true
  | lo, o :: os, q :: r => (q.1.toInt == lo) && ((pc : Int) + o == (q.2 : Int)) && am_tsr pc (lo + 1) os r
  | _, _, _ => false
theorem am_tsr_out (pc : Nat) (x : Int32) (d : Nat) : ∀ (os : List Int) (lo : Int) (tb : List (Int32 × Nat)), am_tsr pc lo os tb = true → (x.toInt < lo ∨ lo + os.length ≤ x.toInt) → am_sw x tb d = d
  | [], lo, [], _, _ => rfl
  | [], lo, q :: r, h, _ => by cases h
  | o :: os, lo, [], h, _ => by cases h
  | o :: os, lo, q :: r, h, hx => by
    simp only [am_tsr, Bool.and_eq_true, beq_iff_eq] at h
    obtain ⟨⟨h1, h2⟩, h3⟩ := h
    have hl : ((o :: os).length : Int) = os.length + 1 := by simp
    have hne : ¬ x = q.1 := fun e => by
      rw [e, h1, hl] at hx
      omega
    rw [am_sw, if_neg hne]
    exact am_tsr_out pc x d os (lo + 1) r h3 (by rw [hl] at hx; omega)
theorem am_tsr_in (pc : Nat) (x : Int32) (d : Nat) : ∀ (os : List Int) (lo : Int) (tb : List (Int32 × Nat)), am_tsr pc lo os tb = true → ¬ x.toInt < lo → x.toInt < lo + os.length → ∃ off, os[(x.toInt - lo).toNat]? = some off ∧ (pc : Int) + off = (am_sw x tb d : Int)
  | [], lo, _, _, h1, h2 => by simp at h2; omega
  | o :: os, lo, [], h, _, _ => by cases h
  | o :: os, lo, q :: r, h, h1, h2 => by
    simp only [am_tsr, Bool.and_eq_true, beq_iff_eq] at h
    obtain ⟨⟨g1, g2⟩, g3⟩ := h
    have hl : ((o :: os).length : Int) = os.length + 1 := by simp
    rw [hl] at h2
    by_cases e : x = q.1
    · refine ⟨o, ?_, ?_⟩
      · have : (x.toInt - lo).toNat = 0 := by rw [e, g1]; omega
        rw [this]; rfl
      · rw [am_sw, if_pos e]; exact g2
    · have hx : x.toInt ≠ lo := fun z => e (Int32.toInt_inj.mp (by rw [z, g1]))
      obtain ⟨off, k1, k2⟩ := am_tsr_in pc x d os (lo + 1) r g3 (by omega) (by omega)
      refine ⟨off, ?_, ?_⟩
      · have : (x.toInt - lo).toNat = (x.toInt - (lo + 1)).toNat + 1 := by omega
        rw [this, List.getElem?_cons_succ]; exact k1
      · rw [am_sw, if_neg e]; exact k2
theorem am_s_tsw {k pc : Nat} {dflt lo hi : Int} {offs : Array Int} {len d : Nat} {tb : List (Int32 × Nat)} (hd : decode (am_by k) pc = .ok (.tableswitch dflt lo hi offs, len)) (h0 : (pc : Int) + dflt = (d : Int)) (hl : hi = lo + offs.toList.length - 1) (hh : am_tsr pc lo offs.toList tb = true) : am_snd k (am_o_sw tb d) pc := by
  intro D ca p l e R s m args below meth c A Q hC L st M ad H locs ls cells slots hJ
  rcases st with _ | ⟨x | (x | x), rest⟩ <;> try trivial
  refine fun _ _ kk => ?_
  have kk := kk ad H locs ls ⟨hJ.1, hJ.2.1, am_tl hJ.2.2.1, hJ.2.2.2⟩ ⟨fun _ _ _ => rfl, fun _ => Nat.le_refl _⟩
  by_cases h1 : x.toInt < lo
  · rw [am_tsr_out pc x d _ _ _ hh (Or.inl h1)] at kk
    exact lv_tableOut hC.1 hC.2.1 hd (Or.inl h1) h0 kk
  · by_cases h2 : hi < x.toInt
    · rw [am_tsr_out pc x d _ _ _ hh (Or.inr (by omega))] at kk
      exact lv_tableOut hC.1 hC.2.1 hd (Or.inr h2) h0 kk
    · obtain ⟨off, k1, k2⟩ := am_tsr_in pc x d _ _ _ hh h1 (by omega)
      exact lv_tableIn hC.1 hC.2.1 hd h1 h2 (by rw [← Array.getElem?_toList]; exact k1) k2 kk
def am_lsr (pc : Nat) : List (Int × Int) → List (Int32 × Nat) → Bool
  | [], [] => true
  | o :: os, q :: r => (q.1.toInt == o.1) && ((pc : Int) + o.2 == (q.2 : Int)) && am_lsr pc os r
  | _, _ => false
theorem am_lsr_all (pc : Nat) (x : Int32) (d : Nat) (dflt : Int) (h0 : (pc : Int) + dflt = (d : Int)) : ∀ (os : List (Int × Int)) (tb : List (Int32 × Nat)), am_lsr pc os tb = true → (pc : Int) + Op.lookupswitch.offset os dflt x.toInt = (am_sw x tb d : Int)
  | [], [], _ => h0
  | [], q :: r, h => by cases h
  | o :: os, [], h => by cases h
  | (a, b) :: os, q :: r, h => by
    simp only [am_lsr, Bool.and_eq_true, beq_iff_eq] at h
    obtain ⟨⟨h1, h2⟩, h3⟩ := h
    by_cases e : x = q.1
    · rw [Op.lookupswitch.offset_cons, if_pos (by rw [e, h1]), am_sw, if_pos e]
      exact h2
    · rw [lv_osw e h1, am_sw, if_neg e]
      exact am_lsr_all pc x d dflt h0 os r h3
theorem am_s_lsw {k pc : Nat} {dflt : Int} {ps : Array (Int × Int)} {len d : Nat} {tb : List (Int32 × Nat)} (hd : decode (am_by k) pc = .ok (.lookupswitch dflt ps, len)) (hp : (ps.toList.zip (ps.toList.drop 1)).all (fun (a, next) => a.1 < next.1) = true) (h0 : (pc : Int) + dflt = (d : Int)) (hh : am_lsr pc ps.toList tb = true) : am_snd k (am_o_sw tb d) pc := by
  intro D ca p l e R s m args below meth c A Q hC L st M ad H locs ls cells slots hJ
  rcases st with _ | ⟨x | (x | x), rest⟩ <;> try trivial
  refine fun _ _ kk => ?_
  have kk := kk ad H locs ls ⟨hJ.1, hJ.2.1, am_tl hJ.2.2.1, hJ.2.2.2⟩ ⟨fun _ _ _ => rfl, fun _ => Nat.le_refl _⟩
  exact lv_lookup hC.1 hC.2.1 hd hp rfl (am_lsr_all pc x d dflt h0 _ _ hh) kk
