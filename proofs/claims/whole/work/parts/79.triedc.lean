/-! the call tried: the case -/
theorem pRule_e {bs : Int → Int} {n : Int} : ∀ (f : Nat) (p : Int), (pRule bs n f p).1 = false → n ≤ (pRule bs n f p).2.1
  | 0, p, h => by
    unfold pRule at h
    cases h
  | f + 1, p, h => by
    unfold pRule at h ⊢
    by_cases h1 : (pClause bs n p).1 = true
    · rw [if_pos h1] at h
      cases h
    · rw [if_neg h1] at h ⊢
      by_cases h2 : n ≤ (pClause bs n p).2.1
      · rw [if_pos h2]
        exact h2
      · rw [if_neg h2] at h ⊢
        by_cases h3 : f = 0 ∨ byt bs n (pClause bs n p).2.1 ≠ 59
        · rw [if_pos h3] at h
          cases h
        · rw [if_neg h3] at h ⊢
          exact pRule_e f _ h
theorem VM_8 {S : Int → Int} {c v : Int} (hc : CallV S c) : VM (sset S 8 v) c = VM S c := by
  funext j
  unfold VM
  unfold CallV at hc
  by_cases h : c = -1
  · rw [if_pos h, if_pos h]
  · rw [if_neg h, if_neg h]
    have e1 : sset S 8 v ((1312 + (8 * c)) + 1) = S ((1312 + (8 * c)) + 1) := sset_n (by omega)
    rw [e1, sset_n (S := S) (by omega), sset_n (S := S) (by omega), sset_n (S := S) (by omega), sset_n (S := S) (by omega)]
section SM
variable {d : Nat} {b : Bool} {G : aG} {I J : aI} {Q : Option aV → aG → aI → aI → Prop}
theorem cs_31 {x y : Int} (hV : LV b G I J) : Cl (d + 40) 140 236 [some (vR 0), some (vI x), some (vI y), none, none, none] [some (vR 56), some (vI x), some (vI y), none, none, none] G I J := by
  obtain ⟨hG, hRW, hc, hi, hk⟩ := id hV
  obtain ⟨hN, hF, hR, hT, hC, hW, hL, hM⟩ := id hRW
  have f1 := hR.1
  have f2 := hC.1
  have f3 : I 1 0 = I 57 3 ∧ 0 ≤ I 57 3 ∧ I 57 3 ≤ 40099 := hN
  have f8 := hT.1
  unfold Cl
  have skip : (x = 1 ∨ (x = 0 ∧ 0 ≤ y ∧ y < I 57 2)) → ∀ (I1 : aI) (Q : Option aV → aG → aI → aI → Prop), I1 57 = I 57 → At (d + 40) 236 23 [some (vR 56), some (vI x), some (vI y), none, none, none] [] G I1 J Q → At (d + 40) 236 0 [some (vR 56), some (vI x), some (vI y), none, none, none] [] G I1 J Q := fun ok I1 Q e h => by
    refine b_X12_tried_0 hG (sp_in hG (fun _ _ => b_X12_tried_6 hG (fun q => absurd q (by decide)) (fun _ => b_X12_tried_9 hG (fun _ => h) (fun q => b_X12_tried_13 hG (sp_isCall hG (by rw [e]; omega) (fun _ _ => b_X12_tried_18 hG (fun _ => h) (fun q => absurd q (by decide))) (fun q => absurd q (by rw [e]; omega)))))) (fun q => absurd q (by omega)))
  have bad : ¬ (x = 1 ∨ (x = 0 ∧ 0 ≤ y ∧ y < I 57 2)) → Md (d + 40) 236 [some (vR 56), some (vI x), some (vI y), none, none, none] (-1) G I J := fun nok => by
    unfold Md
    refine b_X12_tried_0 hG (sp_in hG (fun _ _ => b_X12_tried_6 hG (fun q => absurd q (by decide)) (fun _ => b_X12_tried_9 hG (fun q => absurd (show x = 1 ∨ _ from Or.inl (by omega)) nok) (fun q => b_X12_tried_13 hG (sp_isCall hG (by omega) (fun y0 y1 => absurd (Or.inr ⟨q, y0, y1⟩) nok) (fun _ => b_X12_tried_18 hG (fun q => absurd rfl q) (fun _ => b_X12_tried_21 hG ⟨rfl, b, hV, rfl, rfl⟩)))))) (fun q => b_X12_tried_6 hG (fun _ => b_X12_tried_21 hG ⟨rfl, b, hV, rfl, rfl⟩) (fun q => absurd rfl q)))
  have go : (x = 1 ∨ (x = 0 ∧ 0 ≤ y ∧ y < I 57 2)) → At (d + 40) 140 29 [some (vR 0), some (vI x), some (vI y), none, none, none] [] G I J (fun v G2 I2 J2 => ∃ x' b, v = some (vI x') ∧ GW b G2 ∧ Sc I I2 ∧ Md (d + 40) 236 [some (vR 56), some (vI x), some (vI y), none, none, none] x' G2 I2 J2) := fun ok => by
    generalize hS1 : sset (I 57) 8 0 = S1
    have sn : ∀ i, i ≠ 8 → S1 i = I 57 i := fun i hi => by rw [← hS1, sset_n hi]
    have s1 : S1 1 = I 57 1 := sn 1 (by decide)
    have s3 : S1 3 = I 57 3 := sn 3 (by decide)
    have tp : Tp I (fun k => S1 (2336 + k)) (I 57 8) (120 * I 57 1) := by
      refine ⟨⟨f8.1, f8.2.1⟩, by omega, fun k k0 k1 => ?_⟩
      have e := sn (2336 + k) (by omega)
      show bAnd (I 12 k) 255 = S1 (2336 + k) ∧ 0 ≤ S1 (2336 + k) ∧ S1 (2336 + k) ≤ 255
      rw [e]
      exact hT.2 k k0 k1
    refine b_X11_tried_29 hG (sp_readTape (d := d + 17) (bs := fun k => S1 (2336 + k)) hG ⟨f1.1, f1.2.1⟩ f1.2.2 f8.2.2 tp (fun I1 q1 q2 q3 => ?bad) (fun I1 q1 q2 q3 q4 => ?good))
    case bad =>
      have hq : ∀ a : Nat, 18 < a → I1 a = I a := fun a ha => q2.1 a (by omega) (by omega) (by omega) (by omega) (by omega) (by omega) (by omega)
      have e57 : I1 57 = I 57 := hq 57 (by decide)
      have hp0 : 0 ≤ (pRule (fun k => S1 (2336 + k)) (I 57 8) 8 0).2.1 ∧ (pRule (fun k => S1 (2336 + k)) (I 57 8) 8 0).2.1 ≤ 120 := by
        have := pRule_r (bs := fun k => S1 (2336 + k)) (n := I 57 8) 8 0 ⟨Int.le_refl 0, f8.1⟩
        omega
      refine b_X11_tried_39 hG (fun q => by omega) (fun _ => b_X11_tried_44 hG (by unfold ok32; omega) ⟨_, b, rfl, hG, ⟨hq 1060 (by decide), hq 1061 (by decide)⟩, ?_⟩)
      unfold Md
      refine skip ok I1 _ e57 (b_X12_tried_23 hG (sp_goes (d := d + 17) (bs := fun k => S1 (2336 + k)) hG (by rw [e57]; exact ⟨f8.1, f8.2.1⟩) (by decide) (fun k k0 k1 => ?_) (Or.inl rfl) (fun I2 p r1 r2 r3 r4 r5 => b_X12_tried_41 hG (fun h => absurd h (by omega)) (fun _ => ?_)) (fun I2 r1 => ?_)))
      · rw [e57] at k1 ⊢
        have e := sn (2336 + k) (by omega)
        show _ = S1 (2336 + k) ∧ 0 ≤ S1 (2336 + k) ∧ S1 (2336 + k) ≤ 255
        rw [e]
        exact ⟨rfl, (hT.2 k k0 k1).2⟩
      · rw [e57] at r2
        have e8 : (mset I2 57 8 0) 56 8 = p := by rw [mset_o (by decide), r4]
        refine b_X12_tried_56 hG (by rw [e8, r2]; unfold ok32; omega) ⟨by rw [e8, r2], b, ?_⟩
        have e2 : I2 57 = I 57 := (r3.1 57 (by decide)).trans e57
        have hRW1 : RW I1 J (sset (I 57) 8 0) := hRW.tape q2 q3 rfl
        have hfin := hV.of (I2 := mset I2 57 8 0) (J2 := J) ?_ (fun a k ha hb' hs => ?_) (fun _ _ => rfl)
        · exact ⟨hfin.1, hfin.2.1.trans (hq 1060 (by decide)).symm, hfin.2.2.trans (hq 1061 (by decide)).symm⟩
        · rw [mset_s, e2]
          exact hRW1.kp fun a k ha _ => by rw [mset_o (by omega), r3.1 a (by omega)]
        · rw [mset_o hb']
          exact scr56 r3 (fun a ha => hq a (by omega)) ha hs
      · rw [e57] at r1
        rw [q1] at r1
        cases r1
    case good =>
      have hq : ∀ a : Nat, 18 < a → I1 a = I a := fun a ha => q2.1 a (by omega) (by omega) (by omega) (by omega) (by omega) (by omega) (by omega)
      have e57 : I1 57 = I 57 := hq 57 (by decide)
      have e9 : I1 9 0 = I 57 1 := by rw [q2.1 9 (by decide) (by decide) (by decide) (by decide) (by decide) (by decide) (by decide), f1.2.2]
      have e1 : I1 1 0 = I 57 3 := by rw [q2.1 1 (by decide) (by decide) (by decide) (by decide) (by decide) (by decide) (by decide), f3.1]
      have hRW1 : RW I1 J S1 := hRW.tape q2 q3 hS1.symm
      have hpe := pRule_e 8 0 q1
      have hpr := pRule_r (bs := fun k => S1 (2336 + k)) (n := I 57 8) 8 0 ⟨Int.le_refl 0, f8.1⟩
      refine b_X11_tried_39 hG (fun _ => b_X11_tried_49 hG (b_X10_today_0 hG (by omega) (b_X11_tried_56 hG (b_X7_keep_0 hG (fun _ => b_X7_keep_12 hG (by omega) (by omega) (by unfold ok32; omega) ?_) (fun q => absurd q (by omega)))))) (fun q => absurd q (by decide))
      rw [e9, e1]
      generalize hday : I 57 3 / 100 = day
      have hd : 0 ≤ day ∧ day ≤ 400 := by omega
      generalize hM1 : mset I1 14 (I 57 1) day = M1
      have m1 : ∀ a, a ≠ 14 → M1 a = I1 a := fun a h => by rw [← hM1, mset_o h]
      have hRW2 : RW M1 J S1 := by
        obtain ⟨_, _, hR1, _⟩ := id hRW1
        refine hRW1.ofR (fun a ha h => m1 a (by omega)) (fun i hi => rfl) ?_
        obtain ⟨⟨a1, a2, a3⟩, p⟩ := hR1
        unfold RelR RuleOk
        rw [m1 9 (by decide), m1 11 (by decide), m1 13 (by decide), m1 15 (by decide), m1 16 (by decide), m1 17 (by decide), m1 18 (by decide)]
        refine ⟨⟨a1, a2, a3⟩, fun r r0 r1 => ?_⟩
        rw [← hM1, mset_n (by omega)]
        exact p r r0 r1
      generalize hX : mset M1 9 0 (I 57 1 + 1) = X
      have x1 : ∀ a, a ≠ 9 → X a = M1 a := fun a h => by rw [← hX, mset_o h]
      have x57 : X 57 = I 57 := (x1 57 (by decide)).trans ((m1 57 (by decide)).trans e57)
      have xq : ∀ a : Nat, 18 < a → X a = I a := fun a ha => (x1 a (by omega)).trans ((m1 a (by omega)).trans (hq a ha))
      have xb : ∀ a : Nat, a ≠ 9 → a ≠ 14 → a ≠ 10 → a ≠ 11 → a ≠ 13 → a ≠ 15 → a ≠ 16 → a ≠ 17 → a ≠ 18 → X a = I a := fun a h9 h14 z1 z2 z3 z4 z5 z6 z7 => (x1 a h9).trans ((m1 a h14).trans (q2.1 a z1 z2 z3 z4 z5 z6 z7))
      have hXF : RelF X (X 57) := by
        rw [x57]
        exact hF.fr (by rw [xb 2 (by decide) (by decide) (by decide) (by decide) (by decide) (by decide) (by decide) (by decide) (by decide)]) (xb 3 (by decide) (by decide) (by decide) (by decide) (by decide) (by decide) (by decide) (by decide) (by decide)) (xb 4 (by decide) (by decide) (by decide) (by decide) (by decide) (by decide) (by decide) (by decide) (by decide)) (xb 5 (by decide) (by decide) (by decide) (by decide) (by decide) (by decide) (by decide) (by decide) (by decide)) (xb 6 (by decide) (by decide) (by decide) (by decide) (by decide) (by decide) (by decide) (by decide) (by decide)) (xb 7 (by decide) (by decide) (by decide) (by decide) (by decide) (by decide) (by decide) (by decide) (by decide)) (xb 8 (by decide) (by decide) (by decide) (by decide) (by decide) (by decide) (by decide) (by decide) (by decide)) (fun _ _ => rfl) (Int.le_refl _)
      have hXC : RelC X J (X 57) := by
        rw [x57]
        exact hC.fr (by rw [xb 2 (by decide) (by decide) (by decide) (by decide) (by decide) (by decide) (by decide) (by decide) (by decide)]) (xb 3 (by decide) (by decide) (by decide) (by decide) (by decide) (by decide) (by decide) (by decide) (by decide)) (xb 4 (by decide) (by decide) (by decide) (by decide) (by decide) (by decide) (by decide) (by decide) (by decide)) (by rw [xq 20 (by decide)]) (xq 21 (by decide)) (xq 22 (by decide)) (xq 23 (by decide)) (xq 24 (by decide)) rfl (xq 26 (by decide)) (xq 27 (by decide)) (xq 28 (by decide)) (xq 29 (by decide)) (xq 30 (by decide)) (fun _ _ => rfl) (Int.le_refl _)
      have hXR : RelR1 X (tapeS S1 (I 57 8) day) := by
        obtain ⟨_, _, hR1, _⟩ := id hRW1
        refine RelR1.add hR1 (day := day) (n := I 57 8) (bs := fun k => S1 (2336 + k)) (cl := (pRule (fun k => S1 (2336 + k)) (I 57 8) 8 0).2.2) hd ⟨f8.1, f8.2.1⟩ (by rw [s1]; exact q4) (Prod.ext q1 (Prod.ext (by show (pRule (fun k => S1 (2336 + k)) (I 57 8) 8 0).2.1 = I 57 8; omega) rfl)) (fun k k0 k1 => ?_) (fun k k0 k1 => ?_) (fun a ha h9 h14 => (x1 a h9).trans (m1 a h14)) ?_ ?_ tapeS_1 (tapeS_d (by omega)) (tapeS_n (by omega)) (fun i h1 h2 _ _ => tapeS_o h1 h2)
        · rw [tapeS_b (by omega) k0 (by omega)]
        · rw [tapeS_b (by omega) k0 (by omega), sn _ (by omega)]
          exact (hT.2 k k0 k1).2
        · rw [← hX, mset_at, s1]
        · rw [x1 14 (by decide), ← hM1, mset_s, s1]
      have fin : ∀ (I2 : aI) (v : Int), Kp X I2 → v = (if x = 0 then shiftF (I 57) y (ruleF (tapeS S1 (I 57 8) day) (VM (I 57) y) 0 day) else sumI (fun c => ruleF (tapeS S1 (I 57 8) day) (VM (I 57) c) 5 day) (I 57 2)) → Sc I (mset I2 9 0 (I2 9 0 - 1)) ∧ Md (d + 40) 236 [some (vR 56), some (vI x), some (vI y), none, none, none] v G (mset I2 9 0 (I2 9 0 - 1)) J := fun I2 v k2 hv => by
        have i29 : I2 9 0 = I 57 1 + 1 := by rw [k2.c (sc 9 (by decide)), ← hX, mset_at]
        rw [i29, show I 57 1 + 1 - 1 = I 57 1 by omega]
        generalize hI3 : mset I2 9 0 (I 57 1) = I3
        have c3 : ∀ a, a ≠ 9 → I3 a = I2 a := fun a h => by rw [← hI3, mset_o h]
        have k3 : Kp M1 I3 := fun a k hs => by
          by_cases ha : a = 9
          · subst ha
            by_cases hk0 : k = 0
            · rw [hk0, ← hI3, mset_at, m1 9 (by decide), e9]
            · rw [← hI3, mset_n hk0, k2 9 k hs, ← hX, mset_n hk0]
          · rw [c3 a ha, k2 a k hs, x1 a ha]
        have t57 : I3 57 = I 57 := by rw [c3 57 (by decide), k2.c (sc 57 (by decide)), x57]
        have tq : ∀ a : Nat, 62 < a → I3 a = I a := fun a ha => by rw [c3 a (by omega), k2.c (sc a (by omega)), xq a (by omega)]
        refine ⟨⟨tq 1060 (by decide), tq 1061 (by decide)⟩, ?_⟩
        unfold Md
        refine skip ok I3 _ t57 (b_X12_tried_23 hG (sp_goes (d := d + 17) (bs := fun k => S1 (2336 + k)) hG (by rw [t57]; exact ⟨f8.1, f8.2.1⟩) (by decide) (fun k k0 k1 => ?_) (Or.inl rfl) (fun I4 p r1 => ?_) (fun I4 r1 r2 r3 r4 _ => b_X12_tried_41 hG (fun _ => ?_) (fun h => absurd r4 h))))
        · rw [t57] at k1 ⊢
          have e := sn (2336 + k) (by omega)
          show _ = S1 (2336 + k) ∧ 0 ≤ S1 (2336 + k) ∧ S1 (2336 + k) ≤ 255
          rw [e]
          exact ⟨rfl, (hT.2 k k0 k1).2⟩
        · rw [t57, q1] at r1
          cases r1
        · rw [t57]
          generalize hI5 : mset I4 57 8 0 = I5
          have v57 : I5 57 = S1 := by rw [← hI5, mset_s, r3.1 57 (by decide), t57, hS1]
          have done : ∀ I6, Kp I5 I6 → LV b G I6 J ∧ Sc I3 I6 := fun I6 k6 => by
            have w57 : I6 57 = S1 := by rw [k6.c (sc 57 (by decide)), v57]
            have ch : ∀ a k, a ≠ 57 → scr a k = false → I6 a k = M1 a k := fun a k h hs => by rw [k6 a k hs, ← hI5, mset_o h, r3.kp a k hs, k3 a k hs]
            have hfin := hV.of (I2 := I6) (J2 := J) (by rw [w57]; exact hRW2.kp fun a k ha hs => ch a k (by omega) hs) (fun a k ha hb' hs => by rw [ch a k hb' hs, m1 a (by omega), hq a (by omega)]) (fun _ _ => rfl)
            exact ⟨hfin.1, hfin.2.1.trans (tq 1060 (by decide)).symm, hfin.2.2.trans (tq 1061 (by decide)).symm⟩
          have hRR : RelR M1 S1 := hRW2.2.2.1
          have vm : ∀ c, CallV (I 57) c → VM S1 c = VM (I 57) c := fun c h => by rw [← hS1, VM_8 h]
          have rt : ∀ V w, ruleF (tapeS S1 (I 57 8) day) V w day = ruleT S1 (I 57 8) V w day := fun V w => ruleF_t (by omega) ⟨f8.1, f8.2.1⟩
          have hF5 : RelF I1 (I5 57) := by
            rw [v57]
            exact hRW1.2.1
          have hC5 : RelC I1 J (I5 57) := by
            rw [v57]
            exact hRW1.2.2.2.2.1
          have hbs5 : ∀ k, 0 ≤ k → k < I 57 8 → 0 ≤ I5 57 (2336 + k) ∧ I5 57 (2336 + k) ≤ 255 := fun k k0 k1 => by
            rw [v57, sn _ (by omega)]
            exact (hT.2 k k0 k1).2
          have s2 : S1 2 = I 57 2 := sn 2 (by decide)
          refine b_X12_tried_64 hG (fun hx => b_X12_tried_81 hG ?_) (fun hx => b_X12_tried_68 hG ?_)
          · rw [if_neg hx] at hv
            refine lp_triedM (d := d + 14) (I0 := I5) (A := I1) (B := J) hG hF5 hC5 ⟨f8.1, f8.2.1⟩ hbs5 (by rw [v57]; exact q1) (by rw [v57]; omega) (by rw [v57]; exact hRR.mr) (by rw [v57]; omega) (fun c => ?_) (fun I6 k6 => ⟨?_, b, done I6 k6⟩) (I 57 2).toNat 0 0 I5 Kp.rfl' (by decide) (by rw [v57]; omega) rfl (by decide) (by decide)
            · rw [v57, s3, hday, ← rt]
              exact ruleF_b1 (by decide) hXR
            · rw [v57, s3, hday, s2, hv]
              refine congrArg (fun z => some (vI z)) (sumI_c fun c c0 c1 => ?_)
              show ruleT S1 (I 57 8) (VM S1 c) 5 day = ruleF (tapeS S1 (I 57 8) day) (VM (I 57) c) 5 day
              rw [rt, vm c (cllV hF hC c0 c1)]
          · rw [if_pos hx] at hv
            have hy : 0 ≤ y ∧ y < I 57 2 := by omega
            refine sp_triedM (d := d + 14) hG ⟨f8.1, f8.2.1⟩ hbs5 (by rw [v57]; exact q1) (by rw [v57]; omega) (by rw [v57]; exact hRR.mr) (by rw [v57]; exact cllV hRW1.2.1 hRW1.2.2.2.2.1 hy.1 (by omega)) (by rw [v57]; omega) (fun I6 k6 => ?_)
            have w57 : I6 57 = S1 := by rw [k6.c (sc 57 (by decide)), v57]
            rw [v57, s3, hday, vm y (cllV hF hC hy.1 hy.2), ← rt]
            refine b_X12_tried_77 hG (sp_shifted (d := d + 38) hG hy.1 (by omega) (ruleF_b1 (by decide) hXR) (b_X12_tried_80 hG ⟨?_, b, done I6 k6⟩))
            rw [w57, hv]
            unfold shiftF
            rw [sn _ (by omega)]
      refine b_X11_tried_70 hG (fun hx => b_X11_tried_88 hG (b_X10_tellable_0 hG (lp_tell1 (d := d + 35) (I0 := X) hG hXF hXC hXR (fun I2 k2 => b_X11_tried_97 hG ?_) (I 57 2).toNat 0 0 X Kp.rfl' (by decide) (by rw [x57]; omega) rfl (by decide) (by decide)))) (fun hx => b_X11_tried_75 hG (sp_rank1 (d := d + 35) hG hXF hXC hXR (by omega) (by rw [x57]; omega) (fun I2 k2 => b_X11_tried_85 hG ?_)))
      · have i29 : I2 9 0 = I 57 1 + 1 := by rw [k2.c (sc 9 (by decide)), ← hX, mset_at]
        have g := fin I2 _ k2 (by rw [if_neg hx])
        rw [x57]
        exact b_X7_dropLast_0 hG (fun q => absurd q (by omega)) (fun _ => b_X7_dropLast_7 hG (by unfold ok32; omega) (b_X11_tried_109 hG ⟨_, b, rfl, hG, g.1, g.2⟩))
      · have i29 : I2 9 0 = I 57 1 + 1 := by rw [k2.c (sc 9 (by decide)), ← hX, mset_at]
        have g := fin I2 _ k2 (by rw [if_pos hx])
        rw [x57]
        exact b_X7_dropLast_0 hG (fun q => absurd q (by omega)) (fun _ => b_X7_dropLast_7 hG (by unfold ok32; omega) (b_X11_tried_109 hG ⟨_, b, rfl, hG, g.1, g.2⟩))
  refine b_X11_tried_0 hG (sp_within hG (fun x0 x1 => b_X11_tried_6 hG (fun q => absurd q (by decide)) (fun _ => b_X11_tried_9 hG (fun q => go (Or.inl (by omega))) (fun q => b_X11_tried_13 hG (sp_X0_has hG (fun y0 y1 => b_X11_tried_24 hG (fun _ => go (Or.inr ⟨q, y0, by omega⟩)) (fun q => absurd q (by decide))) (fun q2 => b_X11_tried_24 hG (fun q => absurd rfl q) (fun _ => b_X11_tried_27 hG ⟨_, b, rfl, hG, ⟨rfl, rfl⟩, bad (by omega)⟩)))))) (fun q => b_X11_tried_6 hG (fun _ => b_X11_tried_27 hG ⟨_, b, rfl, hG, ⟨rfl, rfl⟩, bad (by omega)⟩) (fun q => absurd rfl q)))
end SM
