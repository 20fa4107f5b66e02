/-! what a SUM or a TEST is: a reader without a memory -/
/-- where it stands, how many numbers and words there were, whom it asks about, what is told, how many places that needs -/
abbrev pst : Type := Nat × Nat × Nat × dn × Nat
def pb (x : Option (Nat ⊕ pst)) (g : pst → Option (Nat ⊕ pst)) : Option (Nat ⊕ pst) := match x with
  | none => none
  | some (.inl q) => some (.inl q)
  | some (.inr s) => g s
def sp_wd (T : Nat → Nat) (L p lv aw x : Nat) : Nat ⊕ pst := .inr (lx_nx T L p, lv + 1, aw, (fun env => some (env x)), 1)
def sp_leaf (T : Nat → Nat) (L : Nat) (ord : Bool) (p lv aw : Nat) : Nat ⊕ pst :=
  if 50 ≤ lv then .inl p
  else if lx_kd T L p = 256 then (if lx_vl T L p ≤ 1000 then .inr (lx_nx T L p, lv + 1, aw, (fun _ => some (lN (lx_vl T L p))), 1) else .inl p)
  else if ord = false then (if 274 ≤ lx_kd T L p ∧ lx_kd T L p ≤ 281 then sp_wd T L p lv aw (lx_kd T L p - 274) else .inl p)
  else if lx_kd T L p = 278 ∨ lx_kd T L p = 286 then
    (if lx_kd T L (lx_nx T L p) = 256 ∧ lx_vl T L (lx_nx T L p) < 7 then sp_wd T L (lx_nx T L p) lv (if lx_kd T L p = 286 then aw ||| 2 ^ lx_vl T L (lx_nx T L p) else aw) ((if lx_kd T L p = 286 then 12 else 5) + lx_vl T L (lx_nx T L p)) else .inl (lx_nx T L p))
  else if lx_kd T L p = 280 then sp_wd T L p lv aw 0
  else if 282 ≤ lx_kd T L p ∧ lx_kd T L p ≤ 285 then sp_wd T L p lv aw (lx_kd T L p - 281)
  else .inl p
/-- behind a bracket -/
def sp_cl (T : Nat → Nat) (L c : Nat) (s : pst) : Option (Nat ⊕ pst) := if lx_kd T L s.1 = c then some (.inr (lx_nx T L s.1, s.2)) else some (.inl s.1)
/-- what joins two numbers: its number, the sign -/
def sp_two (o : Nat) (s s2 : pst) : pst := (s2.1, s2.2.1, s2.2.2.1, dn_two o s.2.2.2.1 s2.2.2.2.1, s.2.2.2.2 + s2.2.2.2.2)
def sp_both (c : Int64) (s s2 : pst) : pst := (s2.1, s2.2.1, s2.2.2.1, dn_both c s.2.2.2.1 s2.2.2.2.1, s.2.2.2.2 + s2.2.2.2.2)
def sp_not (s : pst) : pst := (s.1, s.2.1, s.2.2.1, dn_not s.2.2.2.1, s.2.2.2.2)
def sp_at (p : Nat) (s : pst) : pst := (p, s.2)
/-- 5 '<' 6 '>' 7 '=' 0 '+' 1 '-' 2 '*' 3 '/' 4 '%' -/
def sp_o (k : Nat) : Nat := if k = 60 then 5 else if k = 62 then 6 else if k = 61 then 7 else if k = 43 then 0 else if k = 45 then 1 else if k = 42 then 2 else if k = 47 then 3 else 4
def sp (T : Nat → Nat) (L : Nat) (ord : Bool) : Nat → Nat → Nat → pst → Option (Nat ⊕ pst)
  | 0, _, _, _ => none
  | n + 1, w, dep, s =>
    if w = 0 then pb (sp T L ord n 1 dep s) (sp T L ord n 7 dep)
    else if w = 1 then pb (sp T L ord n 2 dep s) (sp T L ord n 8 dep)
    else if w = 2 then
      (if lx_kd T L s.1 = 261 then pb (sp T L ord n 2 dep (sp_at (lx_nx T L s.1) s)) (fun s2 => some (.inr (sp_not s2)))
      else if lx_kd T L s.1 = 40 then (if dep < 8 then pb (sp T L ord n 0 (dep + 1) (sp_at (lx_nx T L s.1) s)) (sp_cl T L 41) else some (.inl s.1))
      else sp T L ord n 3 dep s)
    else if w = 3 then pb (sp T L ord n 4 dep s) (fun s1 => if lx_kd T L s1.1 = 60 ∨ lx_kd T L s1.1 = 62 ∨ lx_kd T L s1.1 = 61 then pb (sp T L ord n 4 dep (sp_at (lx_nx T L s1.1) s1)) (fun s2 => some (.inr (sp_two (sp_o (lx_kd T L s1.1)) s1 s2))) else some (.inl s1.1))
    else if w = 4 then pb (sp T L ord n 5 dep s) (sp T L ord n 9 dep)
    else if w = 5 then pb (sp T L ord n 6 dep s) (sp T L ord n 10 dep)
    else if w = 6 then (if lx_kd T L s.1 = 91 then (if dep < 8 then pb (sp T L ord n 4 (dep + 1) (sp_at (lx_nx T L s.1) s)) (sp_cl T L 93) else some (.inl s.1)) else some (sp_leaf T L ord s.1 s.2.1 s.2.2.1))
    else if w = 7 then (if lx_kd T L s.1 = 259 then pb (sp T L ord n 1 dep (sp_at (lx_nx T L s.1) s)) (fun s2 => sp T L ord n 7 dep (sp_both 1 s s2)) else some (.inr s))
    else if w = 8 then (if lx_kd T L s.1 = 260 then pb (sp T L ord n 2 dep (sp_at (lx_nx T L s.1) s)) (fun s2 => sp T L ord n 8 dep (sp_both 0 s s2)) else some (.inr s))
    else if w = 9 then (if lx_kd T L s.1 = 43 ∨ lx_kd T L s.1 = 45 then pb (sp T L ord n 5 dep (sp_at (lx_nx T L s.1) s)) (fun s2 => sp T L ord n 9 dep (sp_two (sp_o (lx_kd T L s.1)) s s2)) else some (.inr s))
    else (if lx_kd T L s.1 = 42 ∨ lx_kd T L s.1 = 47 ∨ lx_kd T L s.1 = 37 then pb (sp T L ord n 6 dep (sp_at (lx_nx T L s.1) s)) (fun s2 => sp T L ord n 10 dep (sp_two (sp_o (lx_kd T L s.1)) s s2)) else some (.inr s))
section SPM
variable {T : Nat → Nat} {L : Nat} {ord : Bool}
theorem pb_of {x : Option (Nat ⊕ pst)} {g : pst → Option (Nat ⊕ pst)} {r : Nat ⊕ pst} (h : pb x g = some r) : (∃ q, x = some (.inl q) ∧ r = .inl q) ∨ ∃ s, x = some (.inr s) ∧ g s = some r := by
  cases x with
  | none => cases h
  | some y =>
    cases y with
    | inl q => exact Or.inl ⟨q, rfl, (Option.some.inj h).symm⟩
    | inr s => exact Or.inr ⟨s, rfl, h⟩
theorem pb_mono {x x' : Option (Nat ⊕ pst)} {g g' : pst → Option (Nat ⊕ pst)} {r : Nat ⊕ pst} (h : pb x g = some r) (hx : ∀ y, x = some y → x' = some y) (hg : ∀ s, g s = some r → g' s = some r) : pb x' g' = some r := by
  rcases pb_of h with ⟨q, e, rfl⟩ | ⟨s, e, e2⟩
  · rw [hx _ e]; rfl
  · rw [hx _ e]; exact hg s e2
theorem if_mono {P : Prop} {dP : Decidable P} {a b a' b' : Option (Nat ⊕ pst)} {r : Nat ⊕ pst} (h : (if P then a else b) = some r) (ha : a = some r → a' = some r) (hb : b = some r → b' = some r) : (if P then a' else b') = some r := by
  by_cases c : P
  · rw [if_pos c] at h ⊢; exact ha h
  · rw [if_neg c] at h ⊢; exact hb h
theorem sp_mono : ∀ (n w dep : Nat) (s : pst) (r : Nat ⊕ pst), sp T L ord n w dep s = some r → sp T L ord (n + 1) w dep s = some r
  | 0, _, _, _, _, h => by cases h
  | n + 1, w, dep, s, r, h => by
    have ih := sp_mono n
    have two : ∀ (w1 d1 : Nat) (s1 : pst) (g g' : pst → Option (Nat ⊕ pst)), (∀ s2, g s2 = some r → g' s2 = some r) → pb (sp T L ord n w1 d1 s1) g = some r → pb (sp T L ord (n + 1) w1 d1 s1) g' = some r := fun w1 d1 s1 g g' hg q => pb_mono q (fun y hy => ih w1 d1 s1 y hy) hg
    rw [sp] at h ⊢
    refine if_mono h (fun h => two _ _ _ _ _ (fun s2 => ih _ _ s2 r) h) (fun h => if_mono h (fun h => two _ _ _ _ _ (fun s2 => ih _ _ s2 r) h) (fun h => if_mono h (fun h => if_mono h (fun h => two _ _ _ _ _ (fun s2 q => q) h) (fun h => if_mono h (fun h => if_mono h (fun h => two _ _ _ _ _ (fun s2 q => q) h) (fun h => h)) (fun h => ih _ _ _ _ h))) (fun h => if_mono h (fun h => two _ _ _ _ _ (fun s2 q => if_mono q (fun q => two _ _ _ _ _ (fun s2 q => q) q) (fun q => q)) h) (fun h => if_mono h (fun h => two _ _ _ _ _ (fun s2 => ih _ _ s2 r) h) (fun h => if_mono h (fun h => two _ _ _ _ _ (fun s2 => ih _ _ s2 r) h) (fun h => if_mono h (fun h => if_mono h (fun h => if_mono h (fun h => two _ _ _ _ _ (fun s2 q => q) h) (fun h => h)) (fun h => h)) (fun h => if_mono h (fun h => if_mono h (fun h => two _ _ _ _ _ (fun s2 => ih _ _ _ r) h) (fun h => h)) (fun h => if_mono h (fun h => if_mono h (fun h => two _ _ _ _ _ (fun s2 => ih _ _ _ r) h) (fun h => h)) (fun h => if_mono h (fun h => if_mono h (fun h => two _ _ _ _ _ (fun s2 => ih _ _ _ r) h) (fun h => h)) (fun h => if_mono h (fun h => two _ _ _ _ _ (fun s2 => ih _ _ _ r) h) (fun h => h)))))))))))
theorem sp_le {w dep : Nat} {s : pst} {r : Nat ⊕ pst} {n : Nat} (h : sp T L ord n w dep s = some r) : ∀ {n' : Nat}, n ≤ n' → sp T L ord n' w dep s = some r := by
  intro n' hn
  obtain ⟨d, rfl⟩ : ∃ d, n' = n + d := ⟨n' - n, by omega⟩
  clear hn
  induction d with
  | zero => exact h
  | succ d ih => exact sp_mono _ _ _ _ _ ih
end SPM
