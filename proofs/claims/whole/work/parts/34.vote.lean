/-! the call vote -/
theorem shl12 {y : Int} (h : 0 ≤ y ∧ y ≤ 12) : 1 ≤ bShl 1 y ∧ bShl 1 y ≤ 4096 := by
  have : y = 0 ∨ y = 1 ∨ y = 2 ∨ y = 3 ∨ y = 4 ∨ y = 5 ∨ y = 6 ∨ y = 7 ∨ y = 8 ∨ y = 9 ∨ y = 10 ∨ y = 11 ∨ y = 12 := by omega
  rcases this with rfl | rfl | rfl | rfl | rfl | rfl | rfl | rfl | rfl | rfl | rfl | rfl | rfl <;> decide
theorem RelM.vote {A A' : aI} {S S' : Int → Int} {c f o m : Int} (h : RelM A S) (hn : S 7 < 10) (g1 : 0 ≤ c ∧ c ≤ 12) (g2 : 0 ≤ f ∧ f ≤ 12) (g3 : -1 ≤ o ∧ o < S 7) (g4 : 0 ≤ m ∧ m ≤ 12)
    (h0 : A' 40 = sset (A 40) 0 (S 7 + 1)) (h1 : A' 41 = sset (A 41) (S 7) c) (h2 : A' 42 = sset (A 42) (S 7) f) (h3 : A' 43 = sset (A 43) (S 7) o) (h4 : A' 44 = sset (A 44) (S 7) m)
    (t0 : S' 7 = S 7 + 1) (hs : ∀ i, i ≠ 7 → (i < 2286 + 5 * S 7 ∨ 2286 + 5 * S 7 + 5 ≤ i) → S' i = S i)
    (e0 : S' (2286 + (5 * S 7)) = c) (e1 : S' ((2286 + (5 * S 7)) + 1) = f) (e2 : S' ((2286 + (5 * S 7)) + 2) = o) (e3 : S' ((2286 + (5 * S 7)) + 3) = m) (e4 : S' ((2286 + (5 * S 7)) + 4) = 0) : RelM A' S' := by
  obtain ⟨⟨a1, a2, a3⟩, p, c1, c2, c3⟩ := h
  unfold RelM
  rw [t0, h0, sset_at, sset_n (by decide)]
  refine ⟨⟨by omega, by omega, rfl⟩, fun k k0 k1 => ?_, c1, c2, fun k k0 k1 => c3 k (by omega) k1⟩
  by_cases hk : k = S 7
  · subst hk
    rw [h1, h2, h3, h4, sset_at, sset_at, sset_at, sset_at, e0, e1, e2, e3, e4]
    exact ⟨⟨rfl, rfl, rfl, rfl⟩, g1, g2, g3, g4, Or.inl rfl, c3 _ (by omega) hn⟩
  · rw [h1, h2, h3, h4, sset_n hk, sset_n hk, sset_n hk, sset_n hk, hs _ (by omega) (by omega), hs _ (by omega) (by omega), hs _ (by omega) (by omega), hs _ (by omega) (by omega), hs _ (by omega) (by omega)]
    exact p k k0 (by omega)
section SM
variable {d : Nat} {b : Bool} {G : aG} {I J : aI} {Q : Option aV → aG → aI → aI → Prop}
theorem mo_28 {x y z n : Int} (hG : GW b G) (m0 : 0 ≤ I 57 0 ∧ I 57 0 ≤ 12) (hx : 0 ≤ x ∧ x ≤ bShl 1 (I 57 0) - 1) (hy : 0 ≤ y ∧ y ≤ pop x) (hz : -1 ≤ z ∧ z < n) (hn : I 57 7 = n) (h0 : 0 ≤ n) (h1 : n < 10)
    (k : ∀ I', (∀ a, a ≠ 57 → I' a = I a) → I' 57 7 = n + 1 → (∀ i, i ≠ 7 → (i < 2286 + 5 * n ∨ 2286 + 5 * n + 5 ≤ i) → I' 57 i = I 57 i) → I' 57 (2286 + (5 * n)) = pop x → I' 57 ((2286 + (5 * n)) + 1) = y → I' 57 ((2286 + (5 * n)) + 2) = z → I' 57 ((2286 + (5 * n)) + 3) = I 57 0 → I' 57 ((2286 + (5 * n)) + 4) = 0 → Q (some (vI n)) G I' J) : At (d + 2) 232 0 [some (vR 56), some (vI x), some (vI y), some (vI z), none] [] G I J Q := by
  have hp := shl12 m0
  have hq := pop_le (x := x)
  repeat' first
    | intro _
    | refine sp_in hG ?_ ?_
    | refine sp_bitsOf hG ?_ ?_ ?_
    | refine b_X12_vote_0 hG ?_ ?_
    | refine b_X12_vote_14 hG ?_ ?_
    | refine b_X12_vote_19 hG ?_ ?_
    | refine b_X12_vote_17 hG ?_
    | refine b_X12_vote_34 hG ?_ ?_
    | refine b_X12_vote_49 hG ?_
    | refine b_X12_vote_37 hG ?_
    | refine b_X12_vote_43 hG ?_
    | refine b_X12_vote_46 hG ?_ ?_
    | refine b_X12_vote_52 hG ?_ ?_
    | refine b_X12_vote_67 hG ?_ ?_ ?_
    | refine b_X12_vote_64 hG ?_
    | refine b_X12_vote_92 hG ?_ ?_ ?_ ?_ ?_ ?_ ?_ ?_ ?_ ?_ ?_ ?_ ?_ ?_ ?_ ?_ ?_
  all_goals try omega
  all_goals try (unfold ok32; omega)
  all_goals (try rw [hn])
  · (repeat rw [mset_n (by omega)])
    rw [hn]
    unfold ok32
    omega
  · (repeat rw [mset_n (by omega)])
    rw [hn]
    unfold ok32
    omega
  · (repeat rw [mset_n (by omega)])
    rw [hn, show n + 1 - 1 = n by omega]
    refine k _ (fun a ha => ?_) ?_ (fun i i0 i1 => ?_) ?_ ?_ ?_ ?_ ?_
    · repeat rw [mset_o ha]
    · rw [mset_at]
    · repeat rw [mset_n (by omega)]
    · (repeat rw [mset_n (by omega)])
      rw [mset_at]
    · (repeat rw [mset_n (by omega)])
      rw [mset_at]
    · (repeat rw [mset_n (by omega)])
      rw [mset_at]
    · (repeat rw [mset_n (by omega)])
      rw [mset_at]
    · (repeat rw [mset_n (by omega)])
      rw [mset_at]
theorem sp_X6_add {x y z w : Int} (hG : GW b G) (h0 : 0 ≤ I 40 0) (h1 : I 40 0 < 10) (k : Q (some (vI (I 40 0))) G (mset (mset (mset (mset (mset I 41 (I 40 0) x) 42 (I 40 0) y) 43 (I 40 0) z) 44 (I 40 0) w) 40 0 ((I 40 0) + 1)) J) : At d 58 0 [some (vR 40), some (vI x), some (vI y), some (vI z), some (vI w)] [] G I J Q := by
  repeat' first
    | intro _
    | refine b_X6_add_0 hG ?_ ?_
    | refine b_X6_add_12 hG ?_ ?_ ?_ ?_
    | refine b_X6_add_9 hG ?_
  · exact h0
  · exact h1
  · unfold ok32
    omega
  · exact k
  · omega
theorem cs_28 {x y z : Int} (hV : LV b G I J) : Cl (d + 5) 137 232 [some (vR 0), some (vI x), some (vI y), some (vI z)] [some (vR 56), some (vI x), some (vI y), some (vI z), none] G I J := by
  obtain ⟨hG, hRW, hc, hi, hk⟩ := id hV
  obtain ⟨hN, hF, hR, hT, hC, hW, hL, hM⟩ := id hRW
  have f1 := hM.1
  have f0 := hF.1
  have m0 : 0 ≤ I 57 0 ∧ I 57 0 ≤ 12 := ⟨f0.1, f0.2.1⟩
  have hp := shl12 m0
  have hq := pop_le (x := x)
  have f2 : bShl 1 (I 2 0) = bShl 1 (I 57 0) := by rw [f0.2.2]
  unfold Cl
  repeat' first
    | intro _
    | refine sp_within hG ?_ ?_
    | refine sp_J6 hG ?_ ?_ ?_
    | refine sp_X6_add hG ?_ ?_ ?_
    | refine b_X11_vote_0 hG ?_ ?_
    | refine b_X11_vote_17 hG ?_ ?_
    | refine b_X11_vote_22 hG ?_ ?_
    | refine b_X11_vote_20 hG ?_
    | refine b_X11_vote_41 hG ?_ ?_
    | refine b_X11_vote_56 hG ?_
    | refine b_X11_vote_44 hG ?_
    | refine b_X11_vote_50 hG ?_
    | refine b_X11_vote_53 hG ?_ ?_
    | refine b_X11_vote_59 hG ?_ ?_
    | refine b_X11_vote_77 hG ?_
    | refine b_X11_vote_74 hG ?_
    | refine b_X11_vote_88 hG ?_
    | refine b_X11_vote_103 hG ?_
  all_goals try omega
  all_goals try (unfold ok32; omega)
  all_goals refine ⟨_, _, rfl, hG, ⟨rfl, rfl⟩, ?_⟩
  all_goals unfold Md
  · generalize hX : mset (mset (mset (mset (mset I 41 (I 40 0) (pop x)) 42 (I 40 0) y) 43 (I 40 0) z) 44 (I 40 0) (I 2 0)) 40 0 (I 40 0 + 1) = I1
    have e57 : I1 57 = I 57 := by rw [← hX]; rfl
    have u0 : I1 57 0 = I 57 0 := by rw [e57]
    have u7 : I1 57 7 = I 57 7 := by rw [e57]
    refine mo_28 (n := I 57 7) hG (by omega) (by rw [u0]; omega) (by omega) (by omega) u7 (by omega) (by omega) ?_
    intro I2 c2 s0 sa s1 s2 s3 s4 s5
    rw [e57] at s4 sa
    refine ⟨congrArg (fun z => some (vI z)) (by omega), b, ?_⟩
    have ec : ∀ a : Nat, a ≠ 57 → a ≠ 40 → a ≠ 41 → a ≠ 42 → a ≠ 43 → a ≠ 44 → I2 a = I a := fun a h h0 h1 h2 h3 h4 => by
      rw [c2 a h, ← hX, mset_o h0, mset_o h4, mset_o h3, mset_o h2, mset_o h1]
    have hvs := hM.vote (A' := I2) (S' := I2 57) (c := pop x) (f := y) (o := z) (m := I 57 0) (by omega) hq (by omega) (by omega) m0 ?_ ?_ ?_ ?_ ?_ s0 sa s1 s2 s3 s4 s5
    have hsc : Sc (mset (mset (mset (mset (mset I 41 (I 40 0) (pop x)) 42 (I 40 0) y) 43 (I 40 0) z) 44 (I 40 0) (I 2 0)) 40 0 (I 40 0 + 1)) I := ⟨rfl, rfl⟩
    rw [hX] at hsc
    have hfin := hV.of (J2 := J) (hRW.ofM (fun a ha h => ec a (by omega) (by omega) (by omega) (by omega) (by omega) (by omega)) (fun i hi => sa i (by omega) (by omega)) hvs) (fun a k ha hb' hs => by rw [ec a hb' (by omega) (by omega) (by omega) (by omega) (by omega)]) (fun _ _ => rfl)
    exact ⟨hfin.1, hfin.2.1.trans hsc.1, hfin.2.2.trans hsc.2⟩
    · rw [c2 40 (by decide), ← hX, mset_s, mset_o (by decide), mset_o (by decide), mset_o (by decide), mset_o (by decide), f1.2.2]
    · rw [c2 41 (by decide), ← hX, mset_o (by decide), mset_o (by decide), mset_o (by decide), mset_o (by decide), mset_s, f1.2.2]
    · rw [c2 42 (by decide), ← hX, mset_o (by decide), mset_o (by decide), mset_o (by decide), mset_s, mset_o (by decide), f1.2.2]
    · rw [c2 43 (by decide), ← hX, mset_o (by decide), mset_o (by decide), mset_s, mset_o (by decide), mset_o (by decide), f1.2.2]
    · rw [c2 44 (by decide), ← hX, mset_o (by decide), mset_s, mset_o (by decide), mset_o (by decide), mset_o (by decide), f1.2.2, f0.2.2]
  all_goals
    repeat' first
      | intro _
      | refine sp_in hG ?_ ?_
      | refine sp_bitsOf hG ?_ ?_ ?_
      | refine b_X12_vote_0 hG ?_ ?_
      | refine b_X12_vote_14 hG ?_ ?_
      | refine b_X12_vote_19 hG ?_ ?_
      | refine b_X12_vote_17 hG ?_
      | refine b_X12_vote_34 hG ?_ ?_
      | refine b_X12_vote_49 hG ?_
      | refine b_X12_vote_37 hG ?_
      | refine b_X12_vote_43 hG ?_
      | refine b_X12_vote_46 hG ?_ ?_
      | refine b_X12_vote_52 hG ?_ ?_
      | refine b_X12_vote_67 hG ?_ ?_ ?_
      | refine b_X12_vote_64 hG ?_
      | refine b_X12_vote_92 hG ?_ ?_ ?_ ?_ ?_ ?_ ?_ ?_ ?_ ?_ ?_ ?_ ?_ ?_ ?_ ?_ ?_
  all_goals first
    | omega
    | exact ⟨rfl, b, hV, rfl, rfl⟩
    | (unfold ok32; omega)
end SM
