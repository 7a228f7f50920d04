/-! the call nought -/
theorem RelM.annul {A A' : aI} {S S' : Int → Int} {x : Int} (h : RelM A S) (hx : 0 ≤ x ∧ x < S 7) (hc : ∀ a : Nat, a < 45 → a ≠ 40 → A' a = A a) (h0 : A' 40 = sset (A 40) 1 (bOr (A 40 1) (bShl 1 x))) (hs : S' = sset S ((2286 + (5 * x)) + 4) 1) : RelM A' S' := by
  obtain ⟨⟨a1, a2, a3⟩, p, c1, c2, c3⟩ := h
  have q : ∀ i, i ≠ ((2286 + (5 * x)) + 4) → S' i = S i := fun i hi => by rw [hs, sset_n hi]
  obtain ⟨b1, b2, b3⟩ := bset (n := 10) (x := A 40 1) (s := x) (by decide) c1 c2 hx.1 (by omega)
  have e0 : A' 40 0 = S 7 := by rw [h0, sset_n (by decide), a3]
  have e1 : A' 40 1 = bOr (A 40 1) (bShl 1 x) := by rw [h0, sset_at]
  unfold RelM
  rw [q 7 (by omega), e0, e1, hc 41 (by decide) (by decide), hc 42 (by decide) (by decide), hc 43 (by decide) (by decide), hc 44 (by decide) (by decide)]
  refine ⟨⟨a1, a2, rfl⟩, fun k k0 k1 => ?_, b1, b2, fun k k0 k1 => ?_⟩
  · obtain ⟨r1, r2, r3, r4, r5, r6, r7⟩ := p k k0 k1
    rw [q (2286 + (5 * k)) (by omega), q ((2286 + (5 * k)) + 1) (by omega), q ((2286 + (5 * k)) + 2) (by omega), q ((2286 + (5 * k)) + 3) (by omega), b3 k k0 (by omega)]
    refine ⟨r1, r2, r3, r4, r5, ?_⟩
    by_cases hk : k = x
    · subst hk
      rw [hs, sset_at, if_pos rfl]
      exact ⟨Or.inr rfl, rfl⟩
    · rw [if_neg hk, q _ (by omega)]
      exact ⟨r6, r7⟩
  · rw [b3 k (by omega) k1, if_neg (by omega)]
    exact c3 k k0 k1
section SM
variable {d : Nat} {b : Bool} {G : aG} {I J : aI} {Q : Option aV → aG → aI → aI → Prop}
theorem cs_29 {x : Int} (hV : LV b G I J) : Cl (d + 5) 138 233 [some (vR 0), some (vI x)] [some (vR 56), some (vI x), none] G I J := by
  obtain ⟨hG, hRW, hc, hi, hk⟩ := id hV
  obtain ⟨hN, hF, hR, hT, hC, hW, hL, hM⟩ := id hRW
  have f1 := hM.1
  unfold Cl
  repeat' first
    | intro _
    | refine sp_within hG ?_ ?_
    | refine b_X11_nought_0 hG ?_ ?_
    | refine b_X11_nought_17 hG ?_ ?_
    | refine b_X11_nought_22 hG ?_
    | refine b_X11_nought_20 hG ?_
    | refine b_X11_nought_33 hG ?_ ?_
    | refine b_X11_nought_40 hG ?_
    | refine b_X11_nought_36 hG ?_
    | refine b_X6_annul_0 hG ?_ ?_
    | refine b_X6_annul_15 hG ?_
    | refine b_X6_annul_11 hG ?_
  all_goals try omega
  all_goals try (unfold ok32; omega)
  all_goals refine ⟨_, _, rfl, hG, ⟨rfl, rfl⟩, ?_⟩
  all_goals unfold Md
  · generalize hX : mset I 40 1 (bOr (I 40 1) (bShl 1 x)) = I1
    have e57 : I1 57 = I 57 := by rw [← hX]; rfl
    have f2 : I1 57 7 = I 57 7 := by rw [e57]
    have hx : 0 ≤ x ∧ x < I 57 7 := by omega
    have hb := hM.2.1 x hx.1 hx.2
    have f3 : I1 57 ((2286 + (5 * x)) + 4) = I 57 ((2286 + (5 * x)) + 4) := by rw [e57]
    repeat' first
      | intro _
      | refine sp_in hG ?_ ?_
      | refine b_X12_nought_0 hG ?_ ?_
      | refine b_X12_nought_14 hG ?_ ?_
      | refine b_X12_nought_19 hG ?_ ?_ ?_ ?_ ?_ ?_ ?_
      | refine b_X12_nought_17 hG ?_
    all_goals try omega
    all_goals try (unfold ok32; omega)
    refine ⟨congrArg (fun z => some (vI z)) (by omega), b, ?_⟩
    subst hX
    refine hV.of (hRW.ofM (fun a ha h => ?_) (fun i hi => ?_) (hM.annul hx (fun a ha h => ?_) ?_ ?_)) (fun a k ha hb' hs => ?_) (fun _ _ => rfl)
    · rw [mset_o (by omega), mset_o (by omega)]
    · rw [mset_n (by omega), mset_o (by decide)]
    · rw [mset_o (by omega), mset_o h]
    · rw [mset_o (by decide), mset_s]
    · rw [mset_s, mset_o (by decide)]
    · rw [mset_o hb', mset_o (by omega)]
  · generalize hX : mset I 40 1 (bOr (I 40 1) (bShl 1 x)) = I1
    have e57 : I1 57 = I 57 := by rw [← hX]; rfl
    have f2 : I1 57 7 = I 57 7 := by rw [e57]
    have hx : 0 ≤ x ∧ x < I 57 7 := by omega
    have hb := hM.2.1 x hx.1 hx.2
    have f3 : I1 57 ((2286 + (5 * x)) + 4) = I 57 ((2286 + (5 * x)) + 4) := by rw [e57]
    repeat' first
      | intro _
      | refine sp_in hG ?_ ?_
      | refine b_X12_nought_0 hG ?_ ?_
      | refine b_X12_nought_14 hG ?_ ?_
      | refine b_X12_nought_19 hG ?_ ?_ ?_ ?_ ?_ ?_ ?_
      | refine b_X12_nought_17 hG ?_
    all_goals try omega
    all_goals try (unfold ok32; omega)
    refine ⟨congrArg (fun z => some (vI z)) (by omega), b, ?_⟩
    subst hX
    refine hV.of (hRW.ofM (fun a ha h => ?_) (fun i hi => ?_) (hM.annul hx (fun a ha h => ?_) ?_ ?_)) (fun a k ha hb' hs => ?_) (fun _ _ => rfl)
    · rw [mset_o (by omega), mset_o (by omega)]
    · rw [mset_n (by omega), mset_o (by decide)]
    · rw [mset_o (by omega), mset_o h]
    · rw [mset_o (by decide), mset_s]
    · rw [mset_s, mset_o (by decide)]
    · rw [mset_o hb', mset_o (by omega)]
  all_goals
    repeat' first
      | intro _
      | refine sp_in hG ?_ ?_
      | refine b_X12_nought_0 hG ?_ ?_
      | refine b_X12_nought_14 hG ?_ ?_
      | refine b_X12_nought_19 hG ?_ ?_ ?_ ?_ ?_ ?_ ?_
      | refine b_X12_nought_17 hG ?_
  all_goals first
    | omega
    | exact ⟨rfl, b, hV, rfl, rfl⟩
    | (unfold ok32; omega)
end SM
