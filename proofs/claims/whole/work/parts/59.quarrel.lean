/-! the call quarrel -/
theorem RelF.quarrel {A A' : aI} {S S' : Int → Int} {x y : Int} (h : RelF A S) (hx : 0 ≤ x ∧ x < S 0) (hy : 0 ≤ y ∧ y < S 0) (hxy : x ≠ y) (hc : ∀ a : Nat, a < 45 → a ≠ 8 → A' a = A a) (h8 : A' 8 = sset (sset (A 8) x (bOr (A 8 x) (bShl 1 y))) y (bOr (A 8 y) (bShl 1 x))) (hs : S' = sset (sset S ((2142 + (12 * x)) + y) 1) ((2142 + (12 * y)) + x) 1) : RelF A' S' := by
  obtain ⟨⟨a1, a2, a3⟩, p, c, e⟩ := h
  have q : ∀ i, i ≠ ((2142 + (12 * x)) + y) → i ≠ ((2142 + (12 * y)) + x) → S' i = S i := fun i h1 h2 => by rw [hs, sset_n h2, sset_n h1]
  have q1 : S' ((2142 + (12 * x)) + y) = 1 := by
    rw [hs, sset_n (by omega), sset_at]
  have q2 : S' ((2142 + (12 * y)) + x) = 1 := by rw [hs, sset_at]
  unfold RelF
  rw [q 0 (by omega) (by omega), q 3 (by omega) (by omega), hc 2 (by decide) (by decide), hc 3 (by decide) (by decide), hc 4 (by decide) (by decide), hc 5 (by decide) (by decide), hc 6 (by decide) (by decide), hc 7 (by decide) (by decide)]
  refine ⟨⟨a1, a2, a3⟩, fun k k0 k1 => ?_, c, fun a b0 b1 => ?_⟩
  · rw [q _ (by omega) (by omega), q _ (by omega) (by omega), q _ (by omega) (by omega), q _ (by omega) (by omega), q _ (by omega) (by omega)]
    exact p k k0 k1
  · obtain ⟨e1, e2, e3⟩ := e a b0 b1
    have key : ∀ (o : Int), 0 ≤ o → o < 12 → A' 8 a = bOr (A 8 a) (bShl 1 o) → (∀ c, 0 ≤ c → c < 12 → c ≠ o → S' ((2142 + (12 * a)) + c) = S ((2142 + (12 * a)) + c) ∧ S' ((2142 + (12 * c)) + a) = S ((2142 + (12 * c)) + a)) → S' ((2142 + (12 * a)) + o) = 1 → S' ((2142 + (12 * o)) + a) = 1 → 0 ≤ A' 8 a ∧ A' 8 a < 4096 ∧ ∀ c, 0 ≤ c → c < 12 → (S' ((2142 + (12 * a)) + c) = 0 ∨ S' ((2142 + (12 * a)) + c) = 1) ∧ bAnd (bShr (A' 8 a) c) 1 = S' ((2142 + (12 * a)) + c) ∧ S' ((2142 + (12 * a)) + c) = S' ((2142 + (12 * c)) + a) := by
      intro o o0 o1 h1 h2 h3 h4
      obtain ⟨g1, g2, g3⟩ := bset (n := 12) (x := A 8 a) (s := o) (by decide) e1 e2 o0 o1
      rw [h1]
      refine ⟨g1, g2, fun c c0 c1 => ?_⟩
      rw [g3 c c0 c1]
      by_cases hc : c = o
      · subst hc
        rw [if_pos rfl, h3, h4]
        exact ⟨Or.inr rfl, rfl, rfl⟩
      · rw [if_neg hc, (h2 c c0 c1 hc).1, (h2 c c0 c1 hc).2]
        exact e3 c c0 c1
    by_cases ha : a = y
    · subst ha
      refine key x hx.1 (by omega) (by rw [h8, sset_at]) (fun c c0 c1 hc => ⟨q _ (by omega) (by omega), q _ (by omega) (by omega)⟩) q2 q1
    · by_cases ha2 : a = x
      · subst ha2
        refine key y hy.1 (by omega) (by rw [h8, sset_n hxy, sset_at]) (fun c c0 c1 hc => ⟨q _ (by omega) (by omega), q _ (by omega) (by omega)⟩) q1 q2
      · rw [h8, sset_n ha, sset_n ha2]
        refine ⟨e1, e2, fun c c0 c1 => ?_⟩
        rw [q _ (by omega) (by omega), q _ (by omega) (by omega)]
        exact e3 c c0 c1
section SM
variable {d : Nat} {b : Bool} {G : aG} {I J : aI} {Q : Option aV → aG → aI → aI → Prop}
theorem sp_fallOut {x y : Int} (hG : GW b G) (hr : I 2 0 ≤ 12) (x0 : 0 ≤ x) (x1 : x < I 2 0) (y0 : 0 ≤ y) (y1 : y < I 2 0) (k1 : bAnd (bShr (I 8 x) y) 1 = 0 → Q (some (vI 1)) G (mset (mset I 8 x (bOr (I 8 x) (bShl 1 y))) 8 y (bOr ((mset I 8 x (bOr (I 8 x) (bShl 1 y))) 8 y) (bShl 1 x))) J) (k0 : ¬ bAnd (bShr (I 8 x) y) 1 = 0 → Q (some (vI 0)) G I J) : At (d + 1) 49 0 [some (vR 2), some (vI x), some (vI y)] [] G I J Q :=
  b_X4_fallOut_0 hG (sp_X4_has hG (fun _ _ => b_X4_fallOut_5 hG (fun q => absurd q (by decide)) (fun _ => b_X4_fallOut_8 hG (sp_X4_has hG (fun _ _ => b_X4_fallOut_13 hG (fun q => absurd q (by decide)) (fun _ => b_X4_fallOut_16 hG (b_X4_quarrelsWith_0 hG x0 (by omega) (fun q => b_X4_quarrelsWith_17 hG (b_X4_fallOut_22 hG (fun _ => b_X4_fallOut_27 hG x0 (by omega) y0 (by omega) (k1 q)) (fun q => absurd rfl q))) (fun q => b_X4_quarrelsWith_13 hG (b_X4_fallOut_22 hG (fun q => absurd q (by decide)) (fun _ => b_X4_fallOut_25 hG (k0 q))))))) (fun q => absurd q (by omega))))) (fun q => absurd q (by omega)))
theorem cs_26 {x y : Int} (hV : LV b G I J) : Cl (d + 5) 135 228 [some (vR 0), some (vI x), some (vI y)] [some (vR 56), some (vI x), some (vI y), none] G I J := by
  obtain ⟨hG, hRW, hc, hi, hk⟩ := id hV
  obtain ⟨hN, hF, hR, hT, hC, hW, hL, hM⟩ := id hRW
  have f0 := hF.1
  have m0 : 0 ≤ I 57 0 ∧ I 57 0 ≤ 12 := ⟨f0.1, f0.2.1⟩
  have bits := hF.2.2.2
  unfold Cl
  refine b_X11_quarrel_0 hG (sp_X4_has hG (fun x0 x1 => b_X11_quarrel_11 hG (fun q => absurd q (by decide)) (fun _ => b_X11_quarrel_14 hG (sp_X4_has hG (fun y0 y1 => b_X11_quarrel_25 hG (fun _ => b_X11_quarrel_30 hG (fun hne => b_X11_quarrel_38 hG (sp_fallOut hG (by omega) x0 x1 y0 y1 (fun hz => b_X11_quarrel_50 hG (fun q => absurd q (by decide)) (fun _ => b_X11_quarrel_53 hG ⟨_, b, rfl, hG, ⟨rfl, rfl⟩, ?new⟩)) (fun hz => b_X11_quarrel_50 hG (fun _ => b_X11_quarrel_57 hG ⟨_, b, rfl, hG, ⟨rfl, rfl⟩, ?was⟩) (fun q => absurd rfl q)))) (fun he => b_X11_quarrel_35 hG ⟨_, b, rfl, hG, ⟨rfl, rfl⟩, ?same⟩)) (fun q => absurd q (by decide))) (fun q => b_X11_quarrel_25 hG (fun q => absurd rfl q) (fun _ => b_X11_quarrel_28 hG ⟨_, b, rfl, hG, ⟨rfl, rfl⟩, ?n2⟩))))) (fun q => b_X11_quarrel_11 hG (fun _ => b_X11_quarrel_28 hG ⟨_, b, rfl, hG, ⟨rfl, rfl⟩, ?n1⟩) (fun q => absurd rfl q)))
  case new =>
    have hb := (bits x x0 (by omega)).2.2 y y0 (by omega)
    have e8 : mset I 8 x (bOr (I 8 x) (bShl 1 y)) 8 y = I 8 y := by
      have : y ≠ x := fun q => hne q.symm
      rw [mset_n this]
    rw [e8]
    generalize hX : mset (mset I 8 x (bOr (I 8 x) (bShl 1 y))) 8 y (bOr (I 8 y) (bShl 1 x)) = I1
    have e57 : I1 57 = I 57 := by rw [← hX]; rfl
    have u0 : I1 57 0 = I 57 0 := by rw [e57]
    have ub : I1 57 ((2142 + (12 * x)) + y) = I 57 ((2142 + (12 * x)) + y) := by rw [e57]
    unfold Md
    refine b_X12_quarrel_0 hG (sp_isFarm hG (by omega) (fun _ _ => b_X12_quarrel_5 hG (fun q => absurd q (by decide)) (fun _ => b_X12_quarrel_8 hG (sp_isFarm hG (by omega) (fun _ _ => b_X12_quarrel_13 hG (fun _ => b_X12_quarrel_18 hG (fun _ => b_X12_quarrel_26 hG (by unfold ok32; omega) (by unfold ok32; omega) (by unfold ok32; omega) (by omega) (by omega) (by unfold ok32; omega) (by unfold ok32; omega) (by unfold ok32; omega) (by omega) (by omega) (by unfold ok32; omega) ⟨congrArg (fun z => some (vI z)) (by omega), b, ?_⟩) (fun q => absurd q hne)) (fun q => absurd q (by decide))) (fun q => absurd q (by omega))))) (fun q => absurd q (by omega)))
    subst hX
    refine hV.of (hRW.ofQ (fun a ha h => ?_) (fun i hi => ?_) (hF.quarrel (x := x) (y := y) ⟨x0, by omega⟩ ⟨y0, by omega⟩ hne (fun a ha h => ?_) ?_ ?_)) (fun a k ha hb' hs => ?_) (fun _ _ => rfl)
    · simp (disch := omega) only [mset_at, mset_n, mset_o, sset_at, sset_n]
    · simp (disch := omega) only [mset_at, mset_n, mset_o, sset_at, sset_n]
    · simp (disch := omega) only [mset_at, mset_n, mset_o, sset_at, sset_n]
    · rw [mset_o (show 8 ≠ 57 by decide), mset_o (show 8 ≠ 57 by decide), mset_s, mset_s]
    · rw [mset_s, mset_s, mset_o (show 57 ≠ 8 by decide), mset_o (show 57 ≠ 8 by decide)]
    · simp (disch := omega) only [mset_at, mset_n, mset_o, sset_at, sset_n]
  case was =>
    have hb := (bits x x0 (by omega)).2.2 y y0 (by omega)
    unfold Md
    refine b_X12_quarrel_0 hG (sp_isFarm hG m0 (fun _ _ => b_X12_quarrel_5 hG (fun q => absurd q (by decide)) (fun _ => b_X12_quarrel_8 hG (sp_isFarm hG m0 (fun _ _ => b_X12_quarrel_13 hG (fun _ => b_X12_quarrel_18 hG (fun _ => b_X12_quarrel_26 hG (by unfold ok32; omega) (by unfold ok32; omega) (by unfold ok32; omega) (by omega) (by omega) (by unfold ok32; omega) (by unfold ok32; omega) (by unfold ok32; omega) (by omega) (by omega) (by unfold ok32; omega) ⟨congrArg (fun z => some (vI z)) (by omega), b, ?_⟩) (fun q => absurd q hne)) (fun q => absurd q (by decide))) (fun q => absurd q (by omega))))) (fun q => absurd q (by omega)))
    have hII : mset (mset I 57 ((2142 + (12 * x)) + y) 1) 57 ((2142 + (12 * y)) + x) 1 = I := by
      funext a j
      by_cases ha : a = 57
      · subst ha
        rw [mset_a, mset_a]
        split
        · rename_i q
          rw [q]
          omega
        · split
          · rename_i q
            rw [q]
            omega
          · rfl
      · rw [mset_o ha, mset_o ha]
    rw [hII]
    exact ⟨hV, rfl, rfl⟩
  case same =>
    unfold Md
    exact b_X12_quarrel_0 hG (sp_isFarm hG m0 (fun _ _ => b_X12_quarrel_5 hG (fun q => absurd q (by decide)) (fun _ => b_X12_quarrel_8 hG (sp_isFarm hG m0 (fun _ _ => b_X12_quarrel_13 hG (fun _ => b_X12_quarrel_18 hG (fun q => absurd he q) (fun _ => b_X12_quarrel_23 hG ⟨rfl, b, hV, rfl, rfl⟩)) (fun q => absurd q (by decide))) (fun q => absurd q (by omega))))) (fun q => absurd q (by omega)))
  case n2 =>
    unfold Md
    exact b_X12_quarrel_0 hG (sp_isFarm hG m0 (fun _ _ => b_X12_quarrel_5 hG (fun q => absurd q (by decide)) (fun _ => b_X12_quarrel_8 hG (sp_isFarm hG m0 (fun _ _ => absurd q (by omega)) (fun _ => b_X12_quarrel_13 hG (fun q => absurd rfl q) (fun _ => b_X12_quarrel_16 hG ⟨rfl, b, hV, rfl, rfl⟩))))) (fun q => absurd q (by omega)))
  case n1 =>
    unfold Md
    exact b_X12_quarrel_0 hG (sp_isFarm hG m0 (fun _ _ => absurd q (by omega)) (fun _ => b_X12_quarrel_5 hG (fun _ => b_X12_quarrel_16 hG ⟨rfl, b, hV, rfl, rfl⟩) (fun q => absurd rfl q)))
end SM
