/-! the class's reader: bytes, numbers, words -/
def wof (j : Nat) : Nat := [0, 3, 7, 11, 14, 20, 23, 26, 33, 39, 47, 52, 57, 63, 70, 75, 80, 86, 93, 97, 101, 106, 110, 115, 120, 127, 133, 142, 145].getD j 0
def ctx7 (T : Nat → Nat) (L : Nat) (m : am_m) : Prop := L ≤ 400 ∧ m.1 7 0 1 = nI L ∧ ∀ k, k < L → T k < 256 ∧ m.1 35 0 k = nI (T k)
section CL
variable {T : Nat → Nat} {L p : Nat} {m m' : am_m}
theorem wof_s : ∀ j, j < 28 → wof (j + 1) = wof j + (lx_W j).length + 1 ∧ wof (j + 1) ≤ 145 := by decide +kernel
theorem wch : ∀ j, j < 28 → ∀ i, i < (lx_W j).length → am_ch (nI (wof j + i)) = nI ((lx_W j).getD i 0) ∧ am_ch (nI (wof j + i)) ≠ 32 ∧ (lx_W j).getD i 0 < 256 := by decide +kernel
theorem wsp : ∀ j, j < 28 → am_ch (nI (wof j + (lx_W j).length)) = 32 := by decide +kernel
theorem ctx7.kp {WI WL : List (Nat × Nat)} {E : Nat} (h : ctx7 T L m) (k : am_kp WI WL E m m') (hw : (am_hit WI 7 1 || am_hit WI 35 0) = false) : ctx7 T L m' := by
  rw [Bool.or_eq_false_iff] at hw
  refine ⟨h.1, by rw [k.fld 7 0 1 hw.1]; exact h.2.1, fun j hj => ⟨(h.2.2 j hj).1, ?_⟩⟩
  rw [k.row 35 (by rw [hw.2]; rfl)]; exact (h.2.2 j hj).2
theorem cbyte {q : Nat} (h : ctx7 T L m) (hq : q < L) : fn_X7_byteAt (nI q) m = some (nI (T q)) := by
  have hL := h.1
  unfold fn_X7_byteAt
  rw [if_neg (nI_pos (by omega)), h.2.1, if_neg (nI_ge (by omega) (by omega)), ck_in (by omega) (by decide), nI_clamp (by omega), (h.2.2 q hq).2]
theorem cletter_ok {t : Nat} (ht : t < 256) : fn_X4_isLetter (nI t) m = some (if isL t then 1 else 0) := small_ok (M := m) ht
theorem cdigit_ok {t : Nat} (ht : t < 256) : fn_X4_isDigit (nI t) m = some (if isD t then 1 else 0) := digit_ok (M := m) ht
theorem cnum_ok (h : ctx7 T L m) {e : Nat} (he : e ≤ L) (hp : p ≤ e) (hall : ∀ i, p ≤ i → i < e → isD (T i) = true) : fn_X4_numberOf (nI p) (nI e) m = some (nI (lx_num T p (e - p))) := by
  have hL := h.1
  unfold fn_X4_numberOf
  have key : ∀ (d i N : Nat), e - i ≤ d → d < N → p ≤ i → i ≤ e → lp_X4_numberOf_5 N (nI e) (nI (lx_num T p (i - p))) (nI i) m = some (nI (lx_num T p (e - p))) := by
    intro d
    induction d with
    | zero =>
      intro i N h1 h2 h3 h4
      obtain ⟨N, rfl⟩ : ∃ n, N = n + 1 := ⟨N - 1, by omega⟩
      have e1 : i = e := by omega
      rw [lp_X4_numberOf_5, e1, if_pos (show nI e ≤ nI e from nI_le (Nat.le_refl _) (by omega))]
    | succ d ih =>
      intro i N h1 h2 h3 h4
      obtain ⟨N, rfl⟩ : ∃ n, N = n + 1 := ⟨N - 1, by omega⟩
      by_cases e1 : i = e
      · rw [lp_X4_numberOf_5, e1, if_pos (show nI e ≤ nI e from nI_le (Nat.le_refl _) (by omega))]
      · have hb : 48 ≤ T i ∧ T i ≤ 57 := of_decide_eq_true (hall i h3 (by omega))
        have nl := num_le (T := T) (p := p) (i - p)
        rw [lp_X4_numberOf_5, if_neg (nI_ge (by omega) (by omega)), cbyte h (by omega), bd_s, show (10 : Int32) = nI 10 from rfl, show (48 : Int32) = nI 48 from rfl, pk_mul, nI_add, pk_sub (by omega), nI_1]
        have st : fn_J9_min_7cf53 1001 (nI (lx_num T p (i - p) * 10 + T i - 48)) m = some (nI (lx_num T p (i + 1 - p))) := by
          unfold fn_J9_min_7cf53
          rw [show i + 1 - p = (i - p) + 1 by omega, lx_num, show p + (i - p) = i by omega]
          by_cases c : lx_num T p (i - p) * 10 + T i - 48 < 1001
          · rw [if_pos (show nI _ < (1001 : Int32) from (nI_ltI (b := 1001) (by omega) (by decide)).mpr c), show min 1001 (lx_num T p (i - p) * 10 + (T i - 48)) = lx_num T p (i - p) * 10 + T i - 48 by omega]
          · rw [if_neg (show ¬ nI _ < (1001 : Int32) from fun z => c ((nI_ltI (b := 1001) (by omega) (by decide)).mp z)), show min 1001 (lx_num T p (i - p) * 10 + (T i - 48)) = 1001 by omega]
            rfl
        rw [st, bd_s]
        exact ih (i + 1) N (by omega) (by omega) (by omega) (by omega)
  have := key e p 1000000 (by omega) (by omega) (Nat.le_refl _) hp
  rw [Nat.sub_self] at this
  rw [show lp_X4_numberOf_5 1000000 (nI e) 0 (nI p) m = _ from this, bd_s]
theorem getD_at {l : List Nat} {k : Nat} (h : k < l.length) : l.getD k 0 = l[k] := by
  rw [List.getD_eq_getElem?_getD, List.getElem?_eq_getElem h]
  rfl
theorem tx_at {n k : Nat} (hk : k < n) : (lx_tx T p n).getD k 0 = T (p + k) := by
  unfold lx_tx
  rw [getD_at (by rw [List.length_map, List.length_range]; exact hk), List.getElem_map, List.getElem_range]
theorem tx_iff {W : List Nat} {n : Nat} (hl : W.length = n) : W = lx_tx T p n ↔ ∀ k, k < n → W.getD k 0 = T (p + k) := by
  constructor
  · intro e k hk
    rw [e, tx_at hk]
  · intro h
    refine List.ext_getElem (by rw [tx_len]; exact hl) (fun i h1 h2 => ?_)
    rw [← getD_at h1, ← getD_at h2, h i (by omega), tx_at (by omega)]
theorem csame_ok {j n : Nat} (h : ctx7 T L m) (hj : j < 28) (hn : (lx_W j).length = n) (hp : p + n ≤ L) : fn_X4_isSame (nI p) (nI (wof j)) (nI n) m = some (if lx_W j = lx_tx T p n then 1 else 0) := by
  have hL := h.1
  have hwf := wof_s j hj
  unfold fn_X4_isSame
  have step : ∀ (i N : Nat), i < n → lp_X4_isSame_3 (N + 1) (nI p) (nI (wof j)) (nI n) (nI i) m = if T (p + i) = (lx_W j).getD i 0 then lp_X4_isSame_3 N (nI p) (nI (wof j)) (nI n) (nI (i + 1)) m else some (.inr 0) := by
    intro i N hi
    obtain ⟨w1, w2, w3⟩ := wch j hj i (by omega)
    rw [lp_X4_isSame_3, if_neg (nI_ge (by omega) (by omega)), nI_add, cbyte h (by omega), bd_s, nI_add, ck_in (by omega) (by decide), w1, nI_1]
    have ht := (h.2.2 (p + i) (by omega)).1
    by_cases c : T (p + i) = (lx_W j).getD i 0
    · rw [if_pos (by rw [c]), if_pos c]
    · rw [if_neg (nI_ne (by omega) (by omega) c), if_neg c]
  have stop : ∀ N, lp_X4_isSame_3 (N + 1) (nI p) (nI (wof j)) (nI n) (nI n) m = some (.inl ()) := fun N => by
    rw [lp_X4_isSame_3, if_pos (show nI n ≤ nI n from nI_le (Nat.le_refl _) (by omega))]
  have key : ∀ (d i N : Nat), n - i ≤ d → d < N → i ≤ n → (∀ k, k < i → (lx_W j).getD k 0 = T (p + k)) → ((lp_X4_isSame_3 N (nI p) (nI (wof j)) (nI n) (nI i) m).bind fun w9 => (match w9 with
    | .inl q6 => some (1 : Int32)
    | .inr rr8 => some rr8)) = some (if lx_W j = lx_tx T p n then 1 else 0) := by
    intro d
    induction d with
    | zero =>
      intro i N h1 h2 h3 h4
      obtain ⟨N, rfl⟩ : ∃ n, N = n + 1 := ⟨N - 1, by omega⟩
      have e1 : i = n := by omega
      subst e1
      rw [stop, bd_s, if_pos ((tx_iff hn).mpr h4)]
    | succ d ih =>
      intro i N h1 h2 h3 h4
      obtain ⟨N, rfl⟩ : ∃ n, N = n + 1 := ⟨N - 1, by omega⟩
      by_cases e1 : i = n
      · subst e1
        rw [stop, bd_s, if_pos ((tx_iff hn).mpr h4)]
      · rw [step i N (by omega)]
        by_cases c : T (p + i) = (lx_W j).getD i 0
        · rw [if_pos c]
          refine ih (i + 1) N (by omega) (by omega) (by omega) (fun k hk => ?_)
          by_cases e2 : k = i
          · rw [e2]; exact c.symm
          · exact h4 k (by omega)
        · rw [if_neg c, bd_s, if_neg (fun z => c ((tx_iff hn).mp z i (by omega)).symm)]
  exact key n 0 1000000 (by omega) (by omega) (Nat.zero_le _) (fun k hk => absurd hk (Nat.not_lt_zero _))
theorem cword_ok {e : Nat} (h : ctx7 T L m) (he : e ≤ L) (hp : p ≤ e) : fn_X4_wordOf (nI p) (nI e) m = some (nI (lx_wk (lx_tx T p (e - p)))) := by
  have hL := h.1
  unfold fn_X4_wordOf
  have inner : ∀ (j : Nat), j < 28 → ∀ (d i N : Nat), i + d = (lx_W j).length → lp_X4_wordOf_10 (N + d) (nI p) (nI e) (nI (259 + j)) (nI (wof j)) (nI (wof j + i)) m = lp_X4_wordOf_10 N (nI p) (nI e) (nI (259 + j)) (nI (wof j)) (nI (wof j + (lx_W j).length)) m := by
    intro j hj d
    induction d with
    | zero => intro i N h1; rw [show i = (lx_W j).length by omega]; rfl
    | succ d ih =>
      intro i N h1
      have hwf := wof_s j hj
      rw [show N + (d + 1) = (N + d) + 1 from rfl, lp_X4_wordOf_10, if_neg (show ¬ (145 : Int32) ≤ nI (wof j + i) from nI_ge (b := 145) (by omega) (by decide)), ck_in (by omega) (by decide), if_pos (wch j hj i (by omega)).2.1, nI_1]
      exact ih (i + 1) N (by omega)
  have word : ∀ (j N : Nat), j < 28 → lp_X4_wordOf_10 (N + 1 + (lx_W j).length) (nI p) (nI e) (nI (259 + j)) (nI (wof j)) (nI (wof j)) m = if lx_W j = lx_tx T p (e - p) then some (.inr (nI (259 + j))) else lp_X4_wordOf_10 N (nI p) (nI e) (nI (259 + (j + 1))) (nI (wof (j + 1))) (nI (wof (j + 1))) m := by
    intro j N hj
    have hwf := wof_s j hj
    have i0 : lp_X4_wordOf_10 (N + 1 + (lx_W j).length) (nI p) (nI e) (nI (259 + j)) (nI (wof j)) (nI (wof j)) m = lp_X4_wordOf_10 (N + 1) (nI p) (nI e) (nI (259 + j)) (nI (wof j)) (nI (wof j + (lx_W j).length)) m := inner j hj (lx_W j).length 0 (N + 1) (by omega)
    rw [i0, lp_X4_wordOf_10, if_neg (show ¬ (145 : Int32) ≤ nI (wof j + (lx_W j).length) from nI_ge (b := 145) (by omega) (by decide)), ck_in (by omega) (by decide), wsp j hj, if_neg (show ¬ (32 : Int32) ≠ 32 from fun z => z rfl), pk_sub (by omega), pk_sub hp, Nat.add_sub_cancel_left, nI_1, nI_1, show 259 + j + 1 = 259 + (j + 1) by omega, ← hwf.1]
    by_cases c : (lx_W j).length = e - p
    · rw [if_neg (show ¬ nI (lx_W j).length ≠ nI (e - p) from fun z => z (by rw [c])), c, csame_ok h hj c (by omega), bd_s]
      by_cases c2 : lx_W j = lx_tx T p (e - p)
      · rw [if_pos c2, if_neg (show ¬ (1 : Int32) = 0 by decide), if_pos c2]
      · rw [if_neg c2, if_pos rfl, if_neg c2]
    · rw [if_pos (nI_ne (by omega) (by omega) c), if_neg (fun z => c (by rw [z, tx_len]))]
  have key : ∀ (d j N : Nat), j + d = 28 → 146 - wof j ≤ N → ((lp_X4_wordOf_10 N (nI p) (nI e) (nI (259 + j)) (nI (wof j)) (nI (wof j)) m).bind fun w11 => (match w11 with
    | .inl q8 => some (258 : Int32)
    | .inr rr10 => some rr10)) = some (if fst1 (fun j => decide (lx_W j = lx_tx T p (e - p))) d j = 28 then 258 else nI (259 + fst1 (fun j => decide (lx_W j = lx_tx T p (e - p))) d j)) := by
    intro d
    induction d with
    | zero =>
      intro j N h1 h2
      have e1 : j = 28 := by omega
      subst e1
      have : wof 28 = 145 := rfl
      obtain ⟨N, rfl⟩ : ∃ n, N = n + 1 := ⟨N - 1, by omega⟩
      rw [lp_X4_wordOf_10, if_pos (by decide), bd_s]
      show _ = some (if (28 : Nat) = 28 then _ else _)
      rw [if_pos rfl]
    | succ d ih =>
      intro j N h1 h2
      have hwf := wof_s j (by omega)
      obtain ⟨N, rfl⟩ : ∃ n, N = n + 1 + (lx_W j).length := ⟨N - 1 - (lx_W j).length, by omega⟩
      rw [word j N (by omega), fst1]
      by_cases c : lx_W j = lx_tx T p (e - p)
      · rw [if_pos c, bd_s, decide_eq_true c, if_pos rfl, if_neg (by omega)]
      · rw [if_neg c, decide_eq_false c, if_neg (show ¬ false = true by decide)]
        exact ih (j + 1) N (by omega) (by omega)
  have := key 28 0 1000000 rfl (by decide)
  refine Eq.trans this ?_
  unfold lx_wk lx_j
  by_cases c : fst1 (fun j => decide (lx_W j = lx_tx T p (e - p))) 28 0 = 28
  · rw [if_pos c, if_pos c]; rfl
  · rw [if_neg c, if_neg c]
end CL
