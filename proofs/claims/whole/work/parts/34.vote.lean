/-! the call vote -/
theorem shl12 {y : Int} (h : 0 ≤ y ∧ y ≤ 12) : 1 ≤ bShl 1 y ∧ bShl 1 y ≤ 4096 := by
  have : y = 0 ∨ y = 1 ∨ y = 2 ∨ y = 3 ∨ y = 4 ∨ y = 5 ∨ y = 6 ∨ y = 7 ∨ y = 8 ∨ y = 9 ∨ y = 10 ∨ y = 11 ∨ y = 12 := by omega
  rcases this with rfl | rfl | rfl | rfl | rfl | rfl | rfl | rfl | rfl | rfl | rfl | rfl | rfl <;> decide
theorem RelM.vote {A A' : aI} {S S' : Int → Int} {c f o m : Int} (h : RelM A S) (hn : S 7 < 10) (g1 : 0 ≤ c ∧ c ≤ 12) (g2 : 0 ≤ f ∧ f ≤ 12) (g3 : -1 ≤ o ∧ o < S 7) (g4 : 0 ≤ m ∧ m ≤ 12)
    (h0 : A' 40 = sset (A 40) 0 (S 7 + 1)) (h1 : A' 41 = sset (A 41) (S 7) c) (h2 : A' 42 = sset (A 42) (S 7) f) (h3 : A' 43 = sset (A 43) (S 7) o) (h4 : A' 44 = sset (A 44) (S 7) m)
    (t0 : S' 7 = S 7 + 1) (hs : ∀ i, i ≠ 7 → (i < 2286 + 5 * S 7 ∨ 2286 + 5 * S 7 + 5 ≤ i) → S' i = S i)
    (e0 : S' (2286 + (5 * S 7)) = c) (e1 : S' ((2286 + (5 * S 7)) + 1) = f) (e2 : S' ((2286 + (5 * S 7)) + 2) = o) (e3 : S' ((2286 + (5 * S 7)) + 3) = m) (e4 : S' ((2286 + (5 * S 7)) + 4) = 0) : RelM A' S' := by
  obtain ⟨⟨a1, a2, a3⟩, p, c1, c2, c3⟩ := h
  unfold RelM
  rw [t0, h0, sset_at, sset_n (by decide)]
  refine ⟨⟨by omega, by omega, rfl⟩, fun k k0 k1 => ?_, c1, c2, fun k k0 k1 => c3 k (by omega) k1⟩
  by_cases hk : k = S 7
  · subst hk
    rw [h1, h2, h3, h4, sset_at, sset_at, sset_at, sset_at, e0, e1, e2, e3, e4]
    exact ⟨⟨rfl, rfl, rfl, rfl⟩, g1, g2, g3, g4, Or.inl rfl, c3 _ (by omega) hn⟩
  · rw [h1, h2, h3, h4, sset_n hk, sset_n hk, sset_n hk, sset_n hk, hs _ (by omega) (by omega), hs _ (by omega) (by omega), hs _ (by omega) (by omega), hs _ (by omega) (by omega), hs _ (by omega) (by omega)]
    exact p k k0 (by omega)
section SM
variable {d : Nat} {b : Bool} {G : aG} {I J : aI} {Q : Option aV → aG → aI → aI → Prop}
theorem mo_28 {x y z n : Int} (hG : GW b G) (m0 : 0 ≤ I 57 0 ∧ I 57 0 ≤ 12) (hx : 0 ≤ x ∧ x ≤ bShl 1 (I 57 0) - 1) (hy : 0 ≤ y ∧ y ≤ pop x) (hz : -1 ≤ z ∧ z < n) (hn : I 57 7 = n) (h0 : 0 ≤ n) (h1 : n < 10)
    (k : ∀ I', (∀ a, a ≠ 57 → I' a = I a) → I' 57 7 = n + 1 → (∀ i, i ≠ 7 → (i < 2286 + 5 * n ∨ 2286 + 5 * n + 5 ≤ i) → I' 57 i = I 57 i) → I' 57 (2286 + (5 * n)) = pop x → I' 57 ((2286 + (5 * n)) + 1) = y → I' 57 ((2286 + (5 * n)) + 2) = z → I' 57 ((2286 + (5 * n)) + 3) = I 57 0 → I' 57 ((2286 + (5 * n)) + 4) = 0 → Q (some (vI n)) G I' J) : At (d + 2) 232 0 [some (vR 56), some (vI x), some (vI y), some (vI z), none] [] G I J Q := by
  have hp := shl12 m0
  have hq := pop_le (x := x)
  repeat' first
    | intro _
    | refine sp_in hG ?_ ?_
    | refine sp_bitsOf hG ?_ ?_ ?_
    | refine b_X12_vote_0 hG ?_ ?_
    | refine b_X12_vote_14 hG ?_ ?_
    | refine b_X12_vote_19 hG ?_ ?_
    | refine b_X12_vote_17 hG ?_
    | refine b_X12_vote_34 hG ?_ ?_
    | refine b_X12_vote_49 hG ?_
    | refine b_X12_vote_37 hG ?_
    | refine b_X12_vote_43 hG ?_
    | refine b_X12_vote_46 hG ?_ ?_
    | refine b_X12_vote_52 hG ?_ ?_
    | refine b_X12_vote_67 hG ?_ ?_ ?_
    | refine b_X12_vote_64 hG ?_
    | refine b_X12_vote_92 hG ?_ ?_ ?_ ?_ ?_ ?_ ?_ ?_ ?_ ?_ ?_ ?_ ?_ ?_ ?_ ?_ ?_
  all_goals try omega
  all_goals try (unfold ok32; omega)
  all_goals (try rw [hn])
  · (repeat rw [mset_n (by omega)])
    rw [hn]
    unfold ok32
    omega
  · (repeat rw [mset_n (by omega)])
    rw [hn]
    unfold ok32
    omega
  · (repeat rw [mset_n (by omega)])
    rw [hn, show n + 1 - 1 = n by omega]
    refine k _ (fun a ha => ?_) ?_ (fun i i0 i1 => ?_) ?_ ?_ ?_ ?_ ?_
    · repeat rw [mset_o ha]
    · rw [mset_at]
    · repeat rw [mset_n (by omega)]
    · (repeat rw [mset_n (by omega)])
      rw [mset_at]
    · (repeat rw [mset_n (by omega)])
      rw [mset_at]
    · (repeat rw [mset_n (by omega)])
      rw [mset_at]
    · (repeat rw [mset_n (by omega)])
      rw [mset_at]
    · (repeat rw [mset_n (by omega)])
      rw [mset_at]
end SM
