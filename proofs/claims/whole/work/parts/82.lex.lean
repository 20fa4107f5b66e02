/-! TOKENS: the bytes of a TEXT as a row of places; what stands at each -/
def isL (b : Nat) : Bool := decide (97 ≤ b ∧ b ≤ 122)
def isD (b : Nat) : Bool := decide (48 ≤ b ∧ b ≤ 57)
/-- where a run of such bytes ends -/
def rE (T : Nat → Nat) (L : Nat) (P : Nat → Bool) (p : Nat) : Nat := fst1 (fun q => !P (T q)) (L - p) p
def lx_en (T : Nat → Nat) (L p : Nat) : Nat := if L ≤ p then L else if isL (T p) then rE T L isL (p + 1) else if isD (T p) then rE T L isD (p + 1) else p + 1
def lx_sk (T : Nat → Nat) (L p : Nat) : Nat := rE T L (fun b => decide (b = 32)) p
/-- the place of the next TOKEN -/
def lx_nx (T : Nat → Nat) (L p : Nat) : Nat := lx_sk T L (lx_en T L p)
/-- the words of both languages -/
def lx_W (j : Nat) : List Nat := [[111, 114], [97, 110, 100], [110, 111, 116], [105, 102], [116, 105, 109, 101, 115], [116, 111], [98, 121], [99, 111, 117, 110, 116, 115], [102, 101, 101, 100, 115], [104, 117, 110, 103, 101, 114, 115], [98, 97, 114, 115], [104, 97, 114, 109], [102, 101, 97, 115, 116], [112, 97, 114, 100, 111, 110], [112, 97, 115, 115], [100, 111, 101, 114], [111, 116, 104, 101, 114], [119, 101, 105, 103, 104, 116], [97, 103, 101], [102, 101, 100], [115, 105, 122, 101], [100, 97, 121], [109, 111, 111, 100], [100, 111, 110, 101], [108, 97, 116, 101, 115, 116], [104, 97, 114, 109, 115], [115, 116, 97, 114, 118, 105, 110, 103], [97, 116]].getD j []
def lx_tx (T : Nat → Nat) (p n : Nat) : List Nat := (List.range n).map (fun i => T (p + i))
def lx_j (t : List Nat) : Nat := fst1 (fun j => decide (lx_W j = t)) 28 0
def lx_wk (t : List Nat) : Nat := if lx_j t = 28 then 258 else 259 + lx_j t
def lx_num (T : Nat → Nat) (p : Nat) : Nat → Nat
  | 0 => 0
  | k + 1 => min 1001 (lx_num T p k * 10 + (T (p + k) - 48))
def lx_kd (T : Nat → Nat) (L p : Nat) : Nat := if L ≤ p then 257 else if isL (T p) then lx_wk (lx_tx T p (lx_en T L p - p)) else if isD (T p) then 256 else T p
def lx_vl (T : Nat → Nat) (L p : Nat) : Nat := if L ≤ p then 0 else if isL (T p) then 0 else if isD (T p) then lx_num T p (lx_en T L p - p) else 0
section LX
variable {T : Nat → Nat} {L p : Nat} {P : Nat → Bool}
theorem rE_rng (h : p ≤ L) : p ≤ rE T L P p ∧ rE T L P p ≤ L := by
  have := fst1_ge (fun q => !P (T q)) (L - p) p
  unfold rE
  exact ⟨this.1, by omega⟩
theorem rE_in {q : Nat} (h1 : p ≤ q) (h2 : q < rE T L P p) : P (T q) = true := by
  have := fst1_no (fun q => !P (T q)) (L - p) p q h1 h2
  cases hp : P (T q) with
  | true => rfl
  | false => rw [hp] at this; cases this
theorem rE_at (h : p ≤ L) (h2 : rE T L P p < L) : P (T (rE T L P p)) = false := by
  have := fst1_yes (fun q => !P (T q)) (L - p) p (by unfold rE at h2; omega)
  have : (!P (T (rE T L P p))) = true := this
  cases hp : P (T (rE T L P p)) with
  | false => rfl
  | true => rw [hp] at this; cases this
/-- one step of a run -/
theorem rE_step (h : p < L) (h2 : P (T p) = true) : rE T L P p = rE T L P (p + 1) := by
  unfold rE
  obtain ⟨d, hd⟩ : ∃ d, L - p = d + 1 := ⟨L - p - 1, by omega⟩
  rw [hd, fst1, h2]
  show (if (!true) = true then p else _) = _
  rw [if_neg (by decide), show L - (p + 1) = d by omega]
theorem rE_stop (h : L ≤ p ∨ P (T p) = false) : rE T L P p = p := by
  unfold rE
  by_cases c : L ≤ p
  · rw [show L - p = 0 by omega]; rfl
  · obtain ⟨d, hd⟩ : ∃ d, L - p = d + 1 := ⟨L - p - 1, by omega⟩
    rw [hd, fst1, h.resolve_left c]
    exact if_pos rfl
theorem en_rng (h : p ≤ L) : p ≤ lx_en T L p ∧ lx_en T L p ≤ L ∧ (p < L → p < lx_en T L p) := by
  unfold lx_en
  by_cases c : L ≤ p
  · rw [if_pos c]; exact ⟨by omega, Nat.le_refl _, by omega⟩
  · rw [if_neg c]
    have a := rE_rng (T := T) (L := L) (P := isL) (p := p + 1) (by omega)
    have b := rE_rng (T := T) (L := L) (P := isD) (p := p + 1) (by omega)
    cases isL (T p) with
    | true => rw [if_pos rfl]; exact ⟨by omega, a.2, fun _ => by omega⟩
    | false =>
      rw [if_neg (by decide)]
      cases isD (T p) with
      | true => rw [if_pos rfl]; exact ⟨by omega, b.2, fun _ => by omega⟩
      | false => rw [if_neg (by decide)]; exact ⟨by omega, by omega, fun _ => by omega⟩
theorem sk_rng (h : p ≤ L) : p ≤ lx_sk T L p ∧ lx_sk T L p ≤ L := rE_rng h
theorem nx_rng (h : p ≤ L) : p ≤ lx_nx T L p ∧ lx_nx T L p ≤ L ∧ (p < L → p < lx_nx T L p) := by
  have a := en_rng (T := T) h
  have b := sk_rng (T := T) a.2.1
  unfold lx_nx
  exact ⟨by omega, b.2, fun z => by have := a.2.2 z; omega⟩
theorem sk_L : lx_sk T L L = L := rE_stop (Or.inl (Nat.le_refl _))
theorem en_L : lx_en T L L = L := if_pos (Nat.le_refl _)
theorem nx_L : lx_nx T L L = L := by unfold lx_nx; rw [en_L, sk_L]
theorem kd_L : lx_kd T L L = 257 := if_pos (Nat.le_refl _)
theorem wk_rng (t : List Nat) : 258 ≤ lx_wk t ∧ lx_wk t ≤ 286 := by
  have := fst1_ge (fun j => decide (lx_W j = t)) 28 0
  have : lx_j t ≤ 28 := by unfold lx_j; omega
  unfold lx_wk
  by_cases c : lx_j t = 28
  · rw [if_pos c]; omega
  · rw [if_neg c]; omega
theorem W_one : ∀ i, i < 28 → ∀ j, j < 28 → lx_W i = lx_W j → i = j := by decide +kernel
theorem wk_iff {t : List Nat} {j : Nat} (hj : j < 28) : lx_wk t = 259 + j ↔ lx_W j = t := by
  have g := fst1_ge (fun j => decide (lx_W j = t)) 28 0
  have g : lx_j t ≤ 28 := by unfold lx_j; omega
  constructor
  · intro h
    unfold lx_wk at h
    by_cases c : lx_j t = 28
    · rw [if_pos c] at h; omega
    · rw [if_neg c] at h
      have e : lx_j t = j := by omega
      have := fst1_yes (fun j => decide (lx_W j = t)) 28 0 (by show lx_j t < _; omega)
      have : decide (lx_W (lx_j t) = t) = true := this
      rw [e, decide_eq_true_iff] at this
      exact this
  · intro h
    have e : lx_j t = j := by
      have h1 : lx_j t ≤ j := fst1_lt (f := fun j => decide (lx_W j = t)) (decide_eq_true h) hj
      have h2 := fst1_yes (fun j => decide (lx_W j = t)) 28 0 (by show lx_j t < _; omega)
      have h2 : decide (lx_W (lx_j t) = t) = true := h2
      rw [decide_eq_true_iff] at h2
      exact W_one _ (by omega) j hj (h2.trans h.symm)
    unfold lx_wk
    rw [e, if_neg (by omega)]
theorem kd_lt (hp : p < L) (hT : T p < 256) : lx_kd T L p ≠ 257 ∧ lx_kd T L p ≤ 286 := by
  unfold lx_kd
  rw [if_neg (by omega)]
  have := wk_rng (lx_tx T p (lx_en T L p - p))
  cases isL (T p) with
  | true => rw [if_pos rfl]; exact ⟨by omega, by omega⟩
  | false =>
    rw [if_neg (by decide)]
    cases isD (T p) with
    | true => rw [if_pos rfl]; exact ⟨by decide, by decide⟩
    | false => rw [if_neg (by decide)]; exact ⟨by omega, by omega⟩
theorem num_le (k : Nat) : lx_num T p k ≤ 1001 := by
  cases k with
  | zero => exact Nat.zero_le _
  | succ k => rw [lx_num]; exact Nat.min_le_left _ _
end LX
/-- the reference's number of a word, of digits -/
def lx_ew (T : Nat → Nat) (p : Nat) : Nat → Int64
  | 0 => 0
  | k + 1 => if k < 10 then lx_ew T p k * 32 + (nI (T (p + k))).toInt64 - 96 else -1
def lx_dn (T : Nat → Nat) (p : Nat) : Nat → Nat
  | 0 => 0
  | k + 1 => if 1000000 < lx_dn T p k then lx_dn T p k else lx_dn T p k * 10 + (T (p + k) - 48)
def lx_srt (T : Nat → Nat) (L p : Nat) : Nat := if L ≤ p then 0 else if isL (T p) then 1 else if isD (T p) then 2 else 3
def lx_wth (T : Nat → Nat) (L p : Nat) : Int64 := if L ≤ p then 0 else if isL (T p) then lx_ew T p (lx_en T L p - p) else if isD (T p) then lN (lx_dn T p (lx_en T L p - p)) else (nI (T p)).toInt64
/-- a code of letters -/
def lx_cd : List Nat → Nat
  | [] => 0
  | c :: r => (c - 96) + 32 * lx_cd r
section LY
variable {T : Nat → Nat} {L p : Nat}
theorem dn_num : ∀ k, (∀ i, i < k → isD (T (p + i)) = true) → lx_num T p k = min 1001 (lx_dn T p k) ∧ lx_dn T p k ≤ 10000009
  | 0, _ => ⟨rfl, Nat.zero_le _⟩
  | k + 1, h => by
    obtain ⟨h1, h2⟩ := dn_num k (fun i hi => h i (by omega))
    have hd := h k (by omega)
    unfold isD at hd
    rw [decide_eq_true_iff] at hd
    rw [lx_num, lx_dn, h1]
    by_cases c : 1000000 < lx_dn T p k
    · rw [if_pos c]; exact ⟨by omega, h2⟩
    · rw [if_neg c]; exact ⟨by omega, by omega⟩
theorem tx_len (n : Nat) : (lx_tx T p n).length = n := by unfold lx_tx; rw [List.length_map, List.length_range]
theorem tx_succ (n : Nat) : lx_tx T p (n + 1) = lx_tx T p n ++ [T (p + n)] := by
  unfold lx_tx
  rw [List.range_succ, List.map_append]
  rfl
theorem cd_app (l : List Nat) (c : Nat) : lx_cd ((l ++ [c]).reverse) = (c - 96) + 32 * lx_cd l.reverse := by
  rw [List.reverse_append]
  rfl
theorem cd_lt : ∀ l : List Nat, (∀ c ∈ l, 97 ≤ c ∧ c ≤ 122) → lx_cd l < 32 ^ l.length
  | [], _ => by decide
  | c :: r, h => by
    have ih := cd_lt r (fun x hx => h x (List.mem_cons_of_mem _ hx))
    have hc := h c List.mem_cons_self
    show (c - 96) + 32 * lx_cd r < 32 ^ (r.length + 1)
    rw [Nat.pow_succ]
    omega
theorem cd_inj : ∀ l l' : List Nat, (∀ c ∈ l, 97 ≤ c ∧ c ≤ 122) → (∀ c ∈ l', 97 ≤ c ∧ c ≤ 122) → lx_cd l = lx_cd l' → l = l'
  | [], [], _, _, _ => rfl
  | [], c :: r, _, h', e => by
    have hc := h' c List.mem_cons_self
    have e : 0 = (c - 96) + 32 * lx_cd r := e
    omega
  | c :: r, [], h, _, e => by
    have hc := h c List.mem_cons_self
    have e : (c - 96) + 32 * lx_cd r = 0 := e
    omega
  | c :: r, c' :: r', h, h', e => by
    have hc := h c List.mem_cons_self
    have hc' := h' c' List.mem_cons_self
    have e : (c - 96) + 32 * lx_cd r = (c' - 96) + 32 * lx_cd r' := e
    have e1 : c = c' := by omega
    have e2 : lx_cd r = lx_cd r' := by omega
    rw [e1, cd_inj r r' (fun x hx => h x (List.mem_cons_of_mem _ hx)) (fun x hx => h' x (List.mem_cons_of_mem _ hx)) e2]
/-- the number of a word of at most ten letters -/
theorem ew_cd : ∀ k, k ≤ 10 → (∀ i, i < k → isL (T (p + i)) = true) → lx_ew T p k = lN (lx_cd (lx_tx T p k).reverse)
  | 0, _, _ => rfl
  | k + 1, hk, h => by
    have hl := h k (by omega)
    unfold isL at hl
    rw [decide_eq_true_iff] at hl
    rw [lx_ew, if_pos (by omega), ew_cd k (by omega) (fun i hi => h i (by omega)), tx_succ, cd_app, nI_l (by omega), show (32 : Int64) = lN 32 from rfl, show (96 : Int64) = lN 96 from rfl, lN_mul, lN_add, lN_sub (by omega)]
    congr 1
    omega
theorem ew_long (k : Nat) (hk : 10 < k) : lx_ew T p k = -1 := by
  cases k with
  | zero => omega
  | succ k => rw [lx_ew, if_neg (by omega)]
theorem tx_let (k : Nat) (h : ∀ i, i < k → isL (T (p + i)) = true) : ∀ c ∈ lx_tx T p k, 97 ≤ c ∧ c ≤ 122 := by
  intro c hc
  unfold lx_tx at hc
  obtain ⟨i, hi, rfl⟩ := List.mem_map.mp hc
  have := h i (List.mem_range.mp hi)
  unfold isL at this
  rw [decide_eq_true_iff] at this
  exact this
theorem W_let : ∀ j, j < 28 → (lx_W j).length ≤ 10 ∧ ∀ c ∈ lx_W j, 97 ≤ c ∧ c ≤ 122 := by decide +kernel
/-- the word that stands there, by its number -/
theorem ew_iff {j k : Nat} (hj : j < 28) (h : ∀ i, i < k → isL (T (p + i)) = true) : lx_ew T p k = lN (lx_cd (lx_W j).reverse) ↔ lx_W j = lx_tx T p k := by
  obtain ⟨w1, w2⟩ := W_let j hj
  have wl : lx_cd (lx_W j).reverse < 32 ^ 10 := by
    have := cd_lt (lx_W j).reverse (fun c hc => w2 c (List.mem_reverse.mp hc))
    rw [List.length_reverse] at this
    exact Nat.lt_of_lt_of_le this (Nat.pow_le_pow_right (by decide) w1)
  by_cases c : k ≤ 10
  · rw [ew_cd k c h]
    have tl : lx_cd (lx_tx T p k).reverse < 32 ^ 10 := by
      have := cd_lt (lx_tx T p k).reverse (fun c hc => tx_let k h c (List.mem_reverse.mp hc))
      rw [List.length_reverse, tx_len] at this
      exact Nat.lt_of_lt_of_le this (Nat.pow_le_pow_right (by decide) c)
    rw [fb_lN_inj (by omega) (by omega)]
    constructor
    · intro e
      have := cd_inj _ _ (fun c hc => tx_let k h c (List.mem_reverse.mp hc)) (fun c hc => w2 c (List.mem_reverse.mp hc)) e
      have := congrArg List.reverse this
      rw [List.reverse_reverse, List.reverse_reverse] at this
      exact this.symm
    · intro e; rw [e]
  · rw [ew_long k (by omega)]
    constructor
    · intro e
      exfalso
      rw [fa_eq64, pf_lI (by omega)] at e
      have e : (-1 : Int) = _ := e
      omega
    · intro e
      exfalso
      have := congrArg List.length e
      rw [tx_len] at this
      omega
end LY
