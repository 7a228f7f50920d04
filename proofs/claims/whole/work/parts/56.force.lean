/-! the calls force and why -/
theorem cllV {A B : aI} {S : Int → Int} {y : Int} (hF : RelF A S) (hC : RelC A B S) (h0 : 0 ≤ y) (h1 : y < S 2) : CallV S y := by
  obtain ⟨⟨c1, c2, c3, c4, c5, c6, c7, c8⟩, _, o1, o2, o3, o4, o5, o6, o7, o8, _⟩ := hC.2.1 y h0 h1
  have f1 := hF.1
  have f2 := hC.1
  exact Or.inr ⟨h0, by omega, by omega, by omega, by omega⟩
def WOk (S : Int → Int) (x y : Int) : Prop := (0 ≤ x ∧ x ≤ 6) ∧ ((x = 0 ∨ x = 5) → 0 ≤ y ∧ y < S 2)
section SM
variable {d : Nat} {b : Bool} {G : aG} {I J : aI} {Q : Option aV → aG → aI → aI → Prop}
theorem sp_hasWord {x y : Int} (hG : GW b G) (he : I 20 0 = I 57 2) (k1 : WOk (I 57) x y → Q (some (vI 1)) G I J) (k0 : ¬ WOk (I 57) x y → Q (some (vI 0)) G I J) : At (d + 1) 146 0 [some (vR 0), some (vI x), some (vI y)] [] G I J Q := by
  unfold WOk at k1 k0
  repeat' first
    | intro _
    | refine sp_within hG ?_ ?_
    | refine sp_asks hG ?_ ?_
    | refine sp_X0_has hG ?_ ?_
    | refine b_X11_hasWord_0 hG ?_
    | refine b_X11_hasWord_7 hG ?_ ?_
    | refine b_X11_hasWord_35 hG ?_
    | refine b_X11_hasWord_10 hG ?_
    | refine b_X11_hasWord_14 hG ?_ ?_
    | refine b_X11_hasWord_31 hG ?_
    | refine b_X11_hasWord_17 hG ?_
    | refine b_X11_hasWord_28 hG ?_ ?_
  all_goals first
    | (refine k1 ?_; omega)
    | (refine k0 ?_; omega)
    | omega
theorem sp_isAsked {x y : Int} (hG : GW b G) (hr : 0 ≤ I 57 2 ∧ I 57 2 ≤ 60) (k1 : WOk (I 57) x y → Q (some (vI 1)) G I J) (k0 : ¬ WOk (I 57) x y → Q (some (vI 0)) G I J) : At (d + 2) 183 0 [some (vR 56), some (vI x), some (vI y)] [] G I J Q := by
  unfold WOk at k1 k0
  repeat' first
    | intro _
    | refine sp_in hG ?_ ?_
    | refine sp_isCall hG hr ?_ ?_
    | refine b_X12_isAsked_0 hG ?_
    | refine b_X12_isAsked_7 hG ?_ ?_
    | refine b_X12_isAsked_31 hG ?_
    | refine b_X12_isAsked_10 hG ?_ ?_
    | refine b_X12_isAsked_19 hG ?_
    | refine b_X12_isAsked_14 hG ?_ ?_
    | refine b_X12_isAsked_24 hG ?_ ?_
    | refine b_X12_isAsked_27 hG ?_
  all_goals first
    | (refine k1 ?_; omega)
    | (refine k0 ?_; omega)
    | omega
theorem cs_7 {x y z : Int} (hV : LV b G I J) : Cl (d + 40) 116 184 [some (vR 0), some (vI x), some (vI y), some (vI z)] [some (vR 56), some (vI x), some (vI y), some (vI z)] G I J := by
  obtain ⟨hG, hRW, hc, hi, hk⟩ := id hV
  obtain ⟨hN, hF, hR, hT, hC, hW, hL, hM⟩ := id hRW
  have f2 := hC.1
  have m1 : 0 ≤ I 57 2 ∧ I 57 2 ≤ 60 := ⟨f2.1, f2.2.1⟩
  have r1 : 0 ≤ I 57 1 ∧ I 57 1 ≤ 10 := ⟨hR.1.1, hR.1.2.1⟩
  unfold Cl
  refine b_X11_force_0 hG (sp_hasWord hG f2.2.2 (fun p => b_X11_force_6 hG (fun _ => b_X11_force_11 hG (sp_within hG (fun z0 z1 => b_X11_force_19 hG (fun _ => b_X11_force_25 hG (sp_ruledC (cM := if x = 0 ∨ x = 5 then y else -1) hG hF hC hR p.1 (fun q => ⟨p.2 q, by rw [if_pos q]⟩) (fun I1 k1 => b_X11_force_35 hG ⟨_, b, rfl, hG, Sc.kp k1, ?_⟩))) (fun q => absurd q (by decide))) (fun z0 => b_X11_force_19 hG (fun q => absurd rfl q) (fun _ => b_X11_force_22 hG ⟨_, b, rfl, hG, ⟨rfl, rfl⟩, ?_⟩)))) (fun q => absurd q (by decide))) (fun p => b_X11_force_6 hG (fun q => absurd rfl q) (fun _ => b_X11_force_9 hG ⟨_, b, rfl, hG, ⟨rfl, rfl⟩, ?_⟩)))
  · have e57 : I1 57 = I 57 := k1.c (sc 57 (by decide))
    unfold Md
    have fin : ∀ c, c = (if x = 0 ∨ x = 5 then y else -1) → At (d + 39) 182 0 [some (vR 56), some (vI x), some (vI c), some (vI z), none] [] G I1 J (fun v G' I' J' => At (d + 39 + 1) 184 38 [some (vR 56), some (vI x), some (vI y), some (vI z)] (v.toList ++ []) G' I' J' (fun v G2 I2 J2 => v = some (vI (ruleF (I 57) (VM (I 57) (if x = 0 ∨ x = 5 then y else -1)) x z)) ∧ ∃ b, LV b G2 I2 J2 ∧ Sc I1 I2)) := by
      intro c hc
      refine sp_saysM (d := d + 15) hG (by rw [e57]; exact r1) (by rw [e57]; exact hR.mr) ?_ (fun I2 k2 => b_X12_force_38 hG ⟨?_, b, (hV.kp k1).kp k2, Sc.kp k2⟩)
      · rw [e57, hc]
        split
        · rename_i q
          have := p.2 q
          exact cllV hF hC this.1 this.2
        · exact Or.inl rfl
      · rw [e57, hc]
    refine b_X12_force_0 hG (sp_isAsked hG (by rw [e57]; exact m1) (fun _ => b_X12_force_6 hG (fun _ => b_X12_force_11 hG (sp_isDay hG (fun _ _ => b_X12_force_15 hG (fun q => absurd q (by decide)) (fun _ => b_X12_force_18 hG (fun q => b_X12_force_29 hG (fin y ?_)) (fun q => b_X12_force_24 hG (fun q2 => b_X12_force_33 hG (fin (-1) ?_)) (fun q2 => b_X12_force_29 hG (fin y ?_))))) (fun q => ?_))) (fun q => absurd q (by decide))) (fun q => ?_))
    · rw [if_pos (Or.inl q)]
    · rw [if_neg (by omega)]
    · rw [if_pos (Or.inr q2)]
    · omega
    · rw [e57] at q
      exact absurd p q
  · unfold Md
    refine b_X12_force_0 hG (sp_isAsked hG m1 (fun _ => b_X12_force_6 hG (fun _ => b_X12_force_11 hG (sp_isDay hG (fun _ _ => ?_) (fun _ => b_X12_force_15 hG (fun _ => b_X12_force_41 hG ⟨rfl, b, hV, rfl, rfl⟩) (fun q => absurd rfl q)))) (fun q => absurd q (by decide))) (fun q => absurd p q))
    omega
  · unfold Md
    refine b_X12_force_0 hG (sp_isAsked hG m1 (fun q => absurd q p) (fun q => b_X12_force_6 hG (fun q => absurd rfl q) (fun _ => b_X12_force_9 hG ⟨rfl, b, hV, rfl, rfl⟩)))
theorem cs_8 {x y z : Int} (hV : LV b G I J) : Cl (d + 40) 117 185 [some (vR 0), some (vI x), some (vI y), some (vI z), none] [some (vR 56), some (vI x), some (vI y), some (vI z), none] G I J := by
  obtain ⟨hG, hRW, hc, hi, hk⟩ := id hV
  obtain ⟨hN, hF, hR, hT, hC, hW, hL, hM⟩ := id hRW
  have f2 := hC.1
  have m1 : 0 ≤ I 57 2 ∧ I 57 2 ≤ 60 := ⟨f2.1, f2.2.1⟩
  have r1 : 0 ≤ I 57 1 ∧ I 57 1 ≤ 10 := ⟨hR.1.1, hR.1.2.1⟩
  unfold Cl
  refine b_X11_why_0 hG (sp_hasWord hG f2.2.2 (fun p => b_X11_why_6 hG (fun _ => b_X11_why_11 hG (sp_within hG (fun z0 z1 => b_X11_why_19 hG (fun _ => b_X11_why_25 hG (sp_regard hG hF hC (fun I1 k1 hV1 => ?_))) (fun q => absurd q (by decide))) (fun z0 => b_X11_why_19 hG (fun q => absurd rfl q) (fun _ => b_X11_why_22 hG ⟨_, b, rfl, hG, ⟨rfl, rfl⟩, ?_⟩)))) (fun q => absurd q (by decide))) (fun p => b_X11_why_6 hG (fun q => absurd rfl q) (fun _ => b_X11_why_9 hG ⟨_, b, rfl, hG, ⟨rfl, rfl⟩, ?_⟩)))
  · have e57 : I1 57 = I 57 := k1.c (sc 57 (by decide))
    have hR1 : RelR I1 (I 57) := hR.kp k1
    generalize hcM : (if x = 0 ∨ x = 5 then y else -1) = cM
    have hcv : CallV (I 57) cM := by
      rw [← hcM]
      split
      · rename_i q
        have := p.2 q
        exact cllV hF hC this.1 this.2
      · exact Or.inl rfl
    have hVV : (x = 0 ∨ x = 5) → ∀ j, 0 ≤ j → j ≤ 5 → I1 19 j = VM (I 57) cM j := fun q => by
      rw [← hcM, if_pos q]
      exact hV1 (p.2 q)
    -- the model's run, whatever the class answered
    have fin : ∀ (w c : Int), c = cM → (∀ o I2, Kp I1 I2 → o = bestN (I 57) (VM (I 57) cM) x z (I 57 1).toNat → (∀ i e, ¬ o = -1 → hitF (I 57) (VM (I 57) cM) x o = some (i, e) → I2 56 14 = i) → ∀ u4, At (d + 40) 185 41 [some (vR 56), some (vI x), some (vI y), some (vI z), u4] [vI o] G I2 J (fun v G2 I2 J2 => v = some (vI w) ∧ ∃ b, LV b G2 I2 J2 ∧ Sc I1 I2)) → Md (d + 40) 185 [some (vR 56), some (vI x), some (vI y), some (vI z), none] w G I1 J := by
      intro w c hcc k
      unfold Md
      have fin2 : ∀ c, c = cM → ∀ u4, At (d + 39) 181 0 [some (vR 56), some (vI x), some (vI c), some (vI z), none] [] G I1 J (fun v G' I' J' => At (d + 39 + 1) 185 41 [some (vR 56), some (vI x), some (vI y), some (vI z), u4] (v.toList ++ []) G' I' J' (fun v G2 I2 J2 => v = some (vI w) ∧ ∃ b, LV b G2 I2 J2 ∧ Sc I1 I2)) := by
        intro c hc u4
        subst hc
        refine sp_rulesM (d := d + 16) hG (by rw [e57]; exact r1) (by rw [e57]; exact hR.mr) (by rw [e57]; exact hcv) (fun I2 o k2 ho h13 h14 => ?_)
        rw [e57] at ho h14
        exact k o I2 k2 ho h14 u4
      refine b_X12_why_0 hG (sp_isAsked hG (by rw [e57]; exact m1) (fun _ => b_X12_why_6 hG (fun _ => b_X12_why_11 hG (sp_isDay hG (fun _ _ => b_X12_why_15 hG (fun _ => b_X12_why_21 hG (fun q => b_X12_why_32 hG (fin2 y ?_ _)) (fun q => b_X12_why_27 hG (fun q2 => b_X12_why_36 hG (fin2 (-1) ?_ _)) (fun q2 => b_X12_why_32 hG (fin2 y ?_ _)))) (fun q => absurd q (by decide))) (fun q => ?_))) (fun q => absurd q (by decide))) (fun q => ?_))
      · rw [← hcM, if_pos (Or.inl q)]
      · rw [← hcM, if_neg (by omega)]
      · rw [← hcM, if_pos (Or.inr q2)]
      · omega
      · rw [e57] at q
        exact absurd p q
    refine b_X11_why_33 hG (sp_ruling (d := d + 37) hG hR1 hVV ?_)
    rcases rul_ch (V := VM (I 57) cM) (w := x) (on := z) hR1 with ⟨e1, e2, e3⟩ | ⟨r, i, cl, e, e1, e2, e3, e4, e5, e6, e7, e8, e9⟩
    · rw [e2]
      refine b_X11_why_45 hG (fun q => absurd q (by decide)) (fun _ => b_X11_why_52 hG ⟨_, b, rfl, hG, Sc.kp k1, fin _ cM rfl (fun o I2 k2 ho h14 u4 => ?_)⟩)
      refine b_X12_why_41 hG (fun q => absurd (ho.trans e1) q) (fun _ => b_X12_why_49 hG ⟨rfl, b, (hV.kp k1).kp k2, Sc.kp k2⟩)
    · rw [e1, e5]
      refine b_X11_why_45 hG (fun _ => b_X11_why_57 hG (by omega) (by unfold ok32; omega) (by unfold ok32; omega) ⟨_, b, rfl, hG, Sc.kp k1, fin _ cM rfl (fun o I2 k2 ho h14 u4 => ?_)⟩) (fun q => ?_)
      · rw [e1] at ho
        have h4 := h14 i e (by omega) (by rw [ho]; exact e4)
        refine b_X12_why_41 hG (fun q => b_X12_why_54 hG (by unfold ok32; omega) (by unfold ok32; omega) ⟨congrArg (fun z => some (vI z)) (by omega), b, (hV.kp k1).kp k2, Sc.kp k2⟩) (fun q => ?_)
        omega
      · omega
  · unfold Md
    refine b_X12_why_0 hG (sp_isAsked hG m1 (fun _ => b_X12_why_6 hG (fun _ => b_X12_why_11 hG (sp_isDay hG (fun _ _ => ?_) (fun _ => b_X12_why_15 hG (fun q => absurd rfl q) (fun _ => b_X12_why_18 hG ⟨rfl, b, hV, rfl, rfl⟩)))) (fun q => absurd q (by decide))) (fun q => absurd p q))
    omega
  · unfold Md
    refine b_X12_why_0 hG (sp_isAsked hG m1 (fun q => absurd q p) (fun q => b_X12_why_6 hG (fun q => absurd rfl q) (fun _ => b_X12_why_9 hG ⟨rfl, b, hV, rfl, rfl⟩)))
end SM
