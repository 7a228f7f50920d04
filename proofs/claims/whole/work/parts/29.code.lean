/-! the call code -/
theorem LV.of {b : Bool} {G : aG} {I I2 J J2 : aI} (h : LV b G I J) (hRW : RW I2 J2 (I2 57)) (hc : ∀ a k, 45 ≤ a → a ≠ 57 → scr a k = false → I2 a k = I a k) (hJ : ∀ a, 62 < a → J2 a = J a) : LV b G I2 J2 ∧ Sc I I2 := by
  obtain ⟨h1, h2, h3, h4, h5⟩ := h
  have e : ∀ a : Nat, 45 ≤ a → a ≠ 57 → (62 < a ∨ a = 48 ∨ a = 49) → I2 a = I a := fun a ha hb hx => funext fun k => hc a k ha hb (sc a (by omega) k)
  refine ⟨⟨h1, hRW, h3.fr (e 48 (by decide) (by decide) (by decide)) (e 49 (by decide) (by decide) (by decide)), (hc 56 19 (by decide) (by decide) (by decide)).trans h4, fun hb => ?_⟩, e 1060 (by decide) (by decide) (by decide), e 1061 (by decide) (by decide) (by decide)⟩
  rw [e 63 (by decide) (by decide) (by decide), show sh J2 = sh J from funext fun a => hJ (a + 63) (by omega)]
  exact (h5 hb).kp fun a k ha _ => congrFun (e (a + 63) (by omega) (by omega) (by omega)) k
theorem RW.code {A A' B : aI} {S S' : Int → Int} {f v : Int} (h : RW A B S) (hf : 0 ≤ f ∧ f < S 0) (hv : 0 ≤ v ∧ v < 80)
    (hc : ∀ a : Nat, a < 45 → a ≠ 6 → A' a = A a) (h6 : A' 6 = sset (A 6) f v) (hs : S' = sset S ((32 + (5 * f)) + 3) v) : RW A' B S' := by
  obtain ⟨gN, gF, gR, gT, gC, gW, gL, gM⟩ := h
  have c0 := gF.1.1
  have c1 := gF.1.2.1
  have q : ∀ i, i ≠ ((32 + (5 * f)) + 3) → S' i = S i := fun i hi => by rw [hs, sset_n hi]
  have t3 : S' 3 = S 3 := q 3 (by omega)
  refine ⟨gN.fr (by rw [hc 1 (by decide) (by decide)]) t3, ?_, gR.fr (by rw [hc 9 (by decide) (by decide)]) (hc 11 (by decide) (by decide)) (hc 13 (by decide) (by decide)) (hc 14 (by decide) (by decide)) (hc 15 (by decide) (by decide)) (hc 16 (by decide) (by decide)) (hc 17 (by decide) (by decide)) (hc 18 (by decide) (by decide)) (fun i hi => q i (by omega)), gT.fr (by rw [hc 10 (by decide) (by decide)]) (hc 12 (by decide) (by decide)) (fun i hi => q i (by omega)),
    gC.fr (by rw [hc 2 (by decide) (by decide)]) (hc 3 (by decide) (by decide)) (hc 4 (by decide) (by decide)) (by rw [hc 20 (by decide) (by decide)]) (hc 21 (by decide) (by decide)) (hc 22 (by decide) (by decide)) (hc 23 (by decide) (by decide)) (hc 24 (by decide) (by decide)) rfl (hc 26 (by decide) (by decide)) (hc 27 (by decide) (by decide)) (hc 28 (by decide) (by decide)) (hc 29 (by decide) (by decide)) (hc 30 (by decide) (by decide)) (fun i hi => q i (by omega)) (by omega),
    gW.fr (by rw [hc 2 (by decide) (by decide)]) (hc 3 (by decide) (by decide)) (hc 4 (by decide) (by decide)) (by rw [hc 31 (by decide) (by decide)]) (by rw [hc 31 (by decide) (by decide)]) (by rw [hc 31 (by decide) (by decide)]) rfl rfl (hc 33 (by decide) (by decide)) (fun i hi => q i (by omega)),
    gL.fr (by rw [hc 35 (by decide) (by decide)]) (hc 36 (by decide) (by decide)) (hc 37 (by decide) (by decide)) (hc 38 (by decide) (by decide)) (hc 39 (by decide) (by decide)) (hc 7 (by decide) (by decide)) (fun i hi => q i (by omega)) (by omega),
    gM.fr (by rw [hc 40 (by decide) (by decide)]) (by rw [hc 40 (by decide) (by decide)]) (hc 41 (by decide) (by decide)) (hc 42 (by decide) (by decide)) (hc 43 (by decide) (by decide)) (hc 44 (by decide) (by decide)) (fun i hi => q i (by omega))⟩
  obtain ⟨⟨a1, a2, a3⟩, p, c, e⟩ := gF
  unfold RelF
  rw [q 0 (by omega), t3, hc 2 (by decide) (by decide), hc 3 (by decide) (by decide), hc 4 (by decide) (by decide), hc 5 (by decide) (by decide), hc 7 (by decide) (by decide), hc 8 (by decide) (by decide)]
  refine ⟨⟨a1, a2, a3⟩, fun k k0 k1 => ?_, fun k k0 k1 => ?_, fun a a0 a1 => ?_⟩
  · obtain ⟨⟨r0, r1, r2, r3, r4⟩, r⟩ := p k k0 k1
    rw [q _ (by omega), q _ (by omega), q _ (by omega), q ((32 + (5 * k)) + 4) (by omega), h6]
    by_cases hk : k = f
    · subst hk
      rw [sset_at, hs, sset_at]
      exact ⟨⟨r0, r1, r2, rfl, r4⟩, by omega⟩
    · rw [sset_n hk, q _ (by omega)]
      exact ⟨⟨r0, r1, r2, r3, r4⟩, r⟩
  · rw [h6, sset_n (by omega)]
    exact c k k0 k1
  · obtain ⟨p1, p2, p3⟩ := e a a0 a1
    refine ⟨p1, p2, fun c c0 c1 => ?_⟩
    rw [q _ (by omega), q _ (by omega)]
    exact p3 c c0 c1
theorem shl4 {y : Int} (h : 0 ≤ y ∧ y ≤ 4) : 1 ≤ bShl 1 y ∧ bShl 1 y ≤ 16 := by
  have : y = 0 ∨ y = 1 ∨ y = 2 ∨ y = 3 ∨ y = 4 := by omega
  rcases this with rfl | rfl | rfl | rfl | rfl <;> decide
section SM
variable {d : Nat} {b : Bool} {G : aG} {I J : aI} {Q : Option aV → aG → aI → aI → Prop}
theorem cs_1 {x y z : Int} (hV : LV b G I J) : Cl (d + 5) 110 158 [some (vR 0), some (vI x), some (vI y), some (vI z), none] [some (vR 56), some (vI x), some (vI y), some (vI z), none] G I J := by
  obtain ⟨hG, hRW, hc, hi, hk⟩ := id hV
  obtain ⟨hN, hF, hR, hT, hC, hW, hL, hM⟩ := id hRW
  have f1 := hF.1
  have m0 : 0 ≤ I 57 0 ∧ I 57 0 ≤ 12 := ⟨f1.1, f1.2.1⟩
  have hp := fun h => shl4 (y := y) h
  unfold Cl
  repeat' first
    | intro _
    | refine sp_within hG ?_ ?_
    | refine sp_X4_has hG ?_ ?_
    | refine b_X11_code_0 hG ?_
    | refine b_X11_code_11 hG ?_ ?_
    | refine b_X11_code_16 hG ?_
    | refine b_X11_code_14 hG ?_
    | refine b_X11_code_22 hG ?_ ?_
    | refine b_X11_code_38 hG ?_
    | refine b_X11_code_25 hG ?_ ?_
    | refine b_X11_code_35 hG ?_ ?_
    | refine b_X11_code_41 hG ?_ ?_ ?_ ?_ ?_
  all_goals try omega
  all_goals try (have := hp (by omega); unfold ok32; omega)
  all_goals try (refine ⟨_, _, rfl, hG, ⟨rfl, rfl⟩, ?_⟩)
  all_goals unfold Md
  · generalize hX : mset I 6 x (16 * y + z) = I1
    have e57 : I1 57 = I 57 := by rw [← hX]; rfl
    have m1 : 0 ≤ I1 57 0 ∧ I1 57 0 ≤ 12 := by rw [e57]; exact m0
    have f2 : I1 57 0 = I 57 0 := by rw [e57]
    repeat' first
      | intro _
      | refine sp_isFarm hG m1 ?_ ?_
      | refine sp_in hG ?_ ?_
      | refine b_X12_f_0 hG ?_ ?_ ?_ ?_ ?_ ?_
      | refine b_X12_code_0 hG ?_
      | refine b_X12_code_5 hG ?_ ?_
      | refine b_X12_code_10 hG ?_
      | refine b_X12_code_8 hG ?_
      | refine b_X12_code_16 hG ?_ ?_
      | refine b_X12_code_32 hG ?_
      | refine b_X12_code_19 hG ?_ ?_
      | refine b_X12_code_29 hG ?_ ?_
      | refine b_X12_code_35 hG ?_
      | refine b_X12_code_41 hG ?_ ?_ ?_ ?_ ?_ ?_ ?_ ?_
    all_goals try omega
    all_goals try (have := hp (by omega); unfold ok32; omega)
    have hx : 0 ≤ x ∧ x < I 57 0 := by omega
    have hb := hp (by omega)
    refine ⟨?_, b, ?_⟩
    · rw [e57, (hF.2.1 x hx.1 hx.2).1.2.2.2.1]
    · subst hX
      refine hV.of (hRW.code hx (v := 16 * y + z) (by omega) (fun a ha h => ?_) ?_ ?_) (fun a k ha hb' hs => ?_) (fun _ _ => rfl)
      · rw [mset_o (by omega), mset_o h]
      · rw [mset_o (by decide), mset_s]
      · rw [mset_s, mset_o (by decide)]
      · rw [mset_o hb', mset_o (by omega)]
  all_goals
    repeat' first
      | intro _
      | refine sp_isFarm hG m0 ?_ ?_
      | refine sp_in hG ?_ ?_
      | refine b_X12_f_0 hG ?_ ?_ ?_ ?_ ?_ ?_
      | refine b_X12_code_0 hG ?_
      | refine b_X12_code_5 hG ?_ ?_
      | refine b_X12_code_10 hG ?_
      | refine b_X12_code_8 hG ?_
      | refine b_X12_code_16 hG ?_ ?_
      | refine b_X12_code_32 hG ?_
      | refine b_X12_code_19 hG ?_ ?_
      | refine b_X12_code_29 hG ?_ ?_
      | refine b_X12_code_35 hG ?_
      | refine b_X12_code_41 hG ?_ ?_ ?_ ?_ ?_ ?_ ?_ ?_
  all_goals first
    | omega
    | exact ⟨rfl, b, hV, rfl, rfl⟩
    | (have := hp (by omega); unfold ok32; omega)
end SM
