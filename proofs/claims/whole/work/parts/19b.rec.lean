/-! what the calls within the groups of methods that call one another are taken to be -/
abbrev am_rc : Type := Nat → Int32 → am_m → Option (Int32 × am_m)
def am_kw (w : Nat) : Nat := [49, 50, 51, 52, 53, 54, 55].getD w 0
def am_rcok (rc : am_rc) (d : Nat) : Prop := ∀ w a m t, rc w a m = some t → am_Ex am_cod d (am_kw w) [.inr (.inr (some (4, 0))), .inl a] (am_mk m) (some (.inl t.1)) (am_mk t.2) 0 0
abbrev am_rp : Type := Int32 → Int32 → Int32 → am_m → Option am_m
def am_rpok (rc : am_rp) (d : Nat) : Prop := ∀ a b c m t, rc a b c m = some t → am_Ex am_cod d 25 [.inr (.inr (some (2, 0))), .inr (.inr (some (6, 0))), .inl a, .inl b, .inl c] (am_mk m) none (am_mk t) 0 0
