/-! both read a SUM, a TEST alike -/
section BR
variable {T : Nat → Nat} {L n : Nat} {ord : Bool}
theorem sp_eq {w dep K1 K2 : Nat} {st : pst} {r1 r2 : Nat ⊕ pst} (h1 : sp T L ord K1 w dep st = some r1) (h2 : sp T L ord K2 w dep st = some r2) : r1 = r2 := by
  have a := sp_le h1 (show K1 ≤ K1 + K2 by omega)
  have b := sp_le h2 (show K2 ≤ K1 + K2 by omega)
  rw [a] at b
  exact Option.some.inj b
theorem both_read {w : Nat} {a1 : Int32} {m M : am_m} {c c' : rcd} {a b : Nat} {st : pst} (hw : w = 4 ∧ a1 = 0 ∨ w = 0 ∧ a1 = 1) (hT : ∀ k, k < L → T k < 256) (hc : cmm T L n ord m c a st.1 st.2.1 st.2.2.1) (hr : rce T L ord M c' b st.1 st.2.1) (hg : pq_g L st) (ha : a ≤ st.1) : ∃ r, pq_res T L w st r ∧ cres T L n ord (am_rd 40 w 0 m) c a a st.1 r ∧ rxp T L ord M a1 c' b r := by
  obtain ⟨K, r, s1, s2⟩ := csim (n := n) (ord := ord) hT 40 w 0 (by omega) (by decide) (by omega) m c a st hc hg ha
  exact ⟨r, sp_ok K w _ _ _ (by omega) s1 ⟨hg, fun z => by omega, fun z => by omega, fun z => by omega⟩, s2, rexpr_ok hw hr hg s1⟩
/-- a stop is put down behind it -/
theorem cstop {m : am_m} {c : rcd} {a p lv aw : Nat} (hm : cmm T L n ord m c a p lv aw) (ha : a < 448) : ∃ m', fn_X5_put 0 257 0 m = some m' ∧ cmm T L n ord m' (rcu c a (257, 0)) (a + 1) p lv aw := cput (t := 257) (w := 0) (by decide) (by omega) hm ha
/-- as the LAW's code is looked at later -/
theorem csg_ok {code : Nat → Int32} {c : rcd} {a b len h : Nat} {f : dn} (hs : csg ord c a b f h) (hc : ∀ k, k < len → code k = nI (512 * (c k).2 + (c k).1)) (hb : b < len) (hl : len ≤ 448) (hst : c b = (257, 0)) (hh : h ≤ 50) : cl_ok code (if ord then 19 else 8) len (nI a) (some f) := by
  refine ⟨a, b, h, fun k => cc_dec (c k).1 (c k).2, rfl, hb, hl, hh, fun k k1 k2 => ?_, ?_, hs.2⟩
  · obtain ⟨o1, o2, o3, o4⟩ := hs.1 k k1 k2
    exact ⟨(c k).1, (c k).2, hc k (by omega), o1, o2, rfl, o3, o4⟩
  · rw [hc b hb, hst]; rfl
theorem rsg_ok {op arg : Nat → Int32} {c : rcd} {a b h : Nat} {f : dn} (hs : rsg ord c a b f h) (hc : ∀ k, k < b → op k = nI (c k).1 ∧ arg k = nI (c k).2) (hb : b ≤ 400) (hh : h ≤ 50) : rl_ok ord op arg (nI a) (nI b) (some f) := by
  refine ⟨a, b, h, fun k => rc_dec ord (c k).1 (c k).2, rfl, rfl, hb, hh, fun k k1 k2 => ?_, hs.2⟩
  exact ⟨(c k).1, (c k).2, (hc k k2).1, (hc k k2).2, hs.1 k k1 k2, rfl⟩
end BR
