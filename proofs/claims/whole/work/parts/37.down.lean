/-! the call down -/
theorem RelW.down {A B B' : aI} {S S' : Int → Int} {l w v : Int} (h : RelW A B S) (hl : 0 ≤ l ∧ l ≤ 3) (hw : 0 ≤ w ∧ w ≤ 9) (hv : v = 0 ∨ v = 1) (h32 : B' 32 = B 32)
    (h0 : 0 ≤ B' 31 0) (h1 : B' 31 0 < 1099511627776) (hb : ∀ c : Int, 0 ≤ c → c < 40 → lAnd (lShr (B' 31 0) c) 1 = if c = l * 10 + w then v else lAnd (lShr (B 31 0) c) 1) (hs : S' = sset S ((1792 + (10 * l)) + w) v) : RelW A B' S' := by
  obtain ⟨a, e, ⟨c1, c2, c3⟩, f, g, k⟩ := h
  have q : ∀ i, i ≠ ((1792 + (10 * l)) + w) → S' i = S i := fun i hi => by rw [hs, sset_n hi]
  unfold RelW
  rw [q 4 (by omega), q 5 (by omega), q 0 (by omega), h32]
  refine ⟨a, e, ⟨h0, h1, fun l2 w2 l0 l1 w0 w1 => ?_⟩, fun k k0 k1 => ?_, g, fun i i0 i1 => ?_⟩
  · rw [hb _ (by omega) (by omega)]
    by_cases hh : (1792 + (10 * l2)) + w2 = (1792 + (10 * l)) + w
    · rw [hh, hs, sset_at, if_pos (by omega)]
      exact ⟨hv, rfl⟩
    · rw [q _ hh, if_neg (by omega)]
      exact c3 l2 w2 l0 l1 w0 w1
  · rw [q (1832 + (3 * k)) (by omega), q ((1832 + (3 * k)) + 1) (by omega), q ((1832 + (3 * k)) + 2) (by omega)]
    exact f k k0 k1
  · rw [q _ (by omega)]
    exact k i i0 i1
section SM
variable {d : Nat} {b : Bool} {G : aG} {I J : aI} {Q : Option aV → aG → aI → aI → Prop}
theorem sp_turn {x v : Int} (hG : GW b G) (hx : 0 ≤ x ∧ x < 40) (hv : v = 0 ∨ v = 1) (h0 : 0 ≤ J 31 0) (h1 : J 31 0 < 1099511627776) (k : ∀ J', (∀ a, a ≠ 31 → J' a = J a) → 0 ≤ J' 31 0 → J' 31 0 < 1099511627776 → (∀ c : Int, 0 ≤ c → c < 40 → lAnd (lShr (J' 31 0) c) 1 = if c = x then v else lAnd (lShr (J 31 0) c) 1) → Q (some (vI (lAnd (lShr (J 31 0) x) 1))) G I J') : At d 90 0 [some (vR 31), some (vI x), some (vI v), none] [] G I J Q := by
  have hz : lAnd (lShr (J 31 0) x) 1 = 0 ∨ lAnd (lShr (J 31 0) x) 1 = 1 := by
    obtain ⟨u, rfl⟩ := Int.eq_ofNat_of_zero_le hx.1
    rw [bit64 (by omega)]
    split
    · exact Or.inr rfl
    · exact Or.inl rfl
  have hc := cLcm01 hz
  have hS := lset (n := 40) (x := J 31 0) (s := x) (by decide) h0 h1 hx.1 hx.2
  have hR := lclr (n := 40) (x := J 31 0) (s := x) (by decide) h0 h1 hx.1 hx.2
  repeat' first
    | intro _
    | refine b_X9_turn_0 hG ?_ ?_
    | refine b_X9_turn_17 hG ?_ ?_
    | refine b_X9_turn_13 hG ?_ ?_
    | refine b_X9_turn_35 hG ?_ ?_
    | refine b_X9_turn_24 hG ?_ ?_
  all_goals try (first | exact Or.inl rfl | exact Or.inr rfl)
  all_goals sorry
end SM
