/-! the calls ring and call -/
theorem RelC.add {A A' B B' : aI} {S S' : Int → Int} {kd fr to mi : Int} (hF : RelF A S) (h : RelC A B S) (hN : 0 ≤ S 3) (hn : S 2 < 60) (g1 : 1 ≤ kd ∧ kd ≤ 4) (g2 : 0 ≤ fr ∧ fr < S 0) (g3 : kd ≤ 2 → 0 ≤ to ∧ to < S 0 ∧ fr ≠ to) (g4 : kd = 1 → A 3 fr = A 3 to) (g5 : kd = 2 → A 3 fr ≠ A 3 to) (g6 : 3 ≤ kd → to = 12) (g7 : 1 ≤ mi ∧ mi ≤ 20)
    (hc : ∀ a : Nat, a < 20 → A' a = A a) (h20 : A' 20 0 = S 2 + 1) (h21 : A' 21 = sset (A 21) (S 2) kd) (h22 : A' 22 = sset (A 22) (S 2) fr) (h23 : A' 23 = sset (A 23) (S 2) to) (h24 : A' 24 = sset (A 24) (S 2) (bOr (lineBit A fr) (lineBit A to))) (h25 : B' 25 = sset (B 25) (S 2) (wayF A fr to)) (h26 : A' 26 = sset (A 26) (S 2) mi) (h27 : A' 27 = sset (A 27) (S 2) (S 3)) (h28 : A' 28 = sset (A 28) (S 2) (-1)) (h29 : A' 29 = sset (A 29) (S 2) 0) (h30 : A' 30 = A 30)
    (t0 : S' 2 = S 2 + 1) (hs : ∀ i, i ≠ 2 → (i < 1312 + 8 * S 2 ∨ 1312 + 8 * S 2 + 8 ≤ i) → S' i = S i)
    (e0 : S' ((1312 + (8 * S 2)) + 0) = kd) (e1 : S' ((1312 + (8 * S 2)) + 1) = fr) (e2 : S' ((1312 + (8 * S 2)) + 2) = to) (e3 : S' ((1312 + (8 * S 2)) + 3) = mi) (e4 : S' ((1312 + (8 * S 2)) + 4) = S 3) (e5 : S' ((1312 + (8 * S 2)) + 5) = 0) (e6 : S' ((1312 + (8 * S 2)) + 6) = -1) (e7 : S' ((1312 + (8 * S 2)) + 7) = 0) : RelC A' B' S' := by
  obtain ⟨⟨a1, a2, a3⟩, p, c⟩ := h
  have f0 := hF.1
  have lb : ∀ e, lineBit A' e = lineBit A e := fun e => lineBit_fr (by rw [hc 2 (by decide)]) (hc 3 (by decide))
  have wf : ∀ f t, wayF A' f t = wayF A f t := fun f t => wayF_fr (by rw [hc 2 (by decide)]) (hc 3 (by decide)) (hc 4 (by decide))
  unfold RelC CallOk
  rw [t0, h20, hs 0 (by omega) (by omega), hs 3 (by omega) (by omega), hc 3 (by decide), h30]
  refine ⟨⟨by omega, by omega, rfl⟩, fun k k0 k1 => ?_, fun k k0 k1 => c k (by omega) k1⟩
  rw [lb, lb, wf]
  by_cases hk : k = S 2
  · subst hk
    rw [h21, h22, h23, h24, h25, h26, h27, h28, h29, sset_at, sset_at, sset_at, sset_at, sset_at, sset_at, sset_at, sset_at, sset_at, e0, e1, e2, e3, e4, e5, e6, e7, c (S 2) (by omega) hn]
    exact ⟨⟨rfl, rfl, rfl, rfl, rfl, rfl, rfl, rfl⟩, ⟨rfl, rfl⟩, g1, g2, g3, g4, g5, g6, g7, by omega, by omega, Or.inl rfl, by omega, by omega⟩
  · rw [h21, h22, h23, h24, h25, h26, h27, h28, h29, sset_n hk, sset_n hk, sset_n hk, sset_n hk, sset_n hk, sset_n hk, sset_n hk, sset_n hk, sset_n hk, hs _ (by omega) (by omega), hs _ (by omega) (by omega), hs _ (by omega) (by omega), hs _ (by omega) (by omega), hs _ (by omega) (by omega), hs _ (by omega) (by omega), hs _ (by omega) (by omega), hs _ (by omega) (by omega)]
    exact p k k0 (by omega)
section SM
variable {d : Nat} {b : Bool} {G : aG} {I J : aI} {Q : Option aV → aG → aI → aI → Prop}
theorem sp_lineBit2 {x : Int} (hG : GW b G) (hr : I 2 0 ≤ 12) (k : Q (some (vI (lineBit I x))) G I J) : At (d + 1) 43 0 [some (vR 2), some (vI x)] [] G I J Q := by
  unfold lineBit at k
  refine b_X4_lineBit_0 hG (sp_X4_has hG (fun q0 q1 => b_X4_lineBit_5 hG (fun q => absurd q (by decide)) (fun _ => b_X4_lineBit_8 hG q0 (by omega) ?_)) (fun q => b_X4_lineBit_5 hG (fun _ => b_X4_lineBit_19 hG ?_) (fun q => absurd rfl q)))
  · rw [if_pos ⟨q0, q1⟩] at k
    exact k
  · rw [if_neg (by omega)] at k
    exact k
def CAdd (I I' J J' : aI) (kd fr to mi nw : Int) : Prop := (∀ a, ¬ (20 ≤ a ∧ a ≤ 29) → I' a = I a) ∧ I' 20 0 = I 20 0 + 1 ∧ I' 21 = sset (I 21) (I 20 0) kd ∧ I' 22 = sset (I 22) (I 20 0) fr ∧ I' 23 = sset (I 23) (I 20 0) to ∧ I' 24 = sset (I 24) (I 20 0) (bOr (lineBit I fr) (lineBit I to)) ∧ J' 25 = sset (J 25) (I 20 0) (wayF I fr to) ∧ I' 26 = sset (I 26) (I 20 0) mi ∧ I' 27 = sset (I 27) (I 20 0) nw ∧ I' 28 = sset (I 28) (I 20 0) (-1) ∧ I' 29 = sset (I 29) (I 20 0) 0 ∧ (∀ a, a ≠ 25 → J' a = J a)
theorem sp_cadd {kd fr to mi nw : Int} (hG : GW b G) (hF : RelF I (I 57)) (h0 : 0 ≤ I 20 0) (h1 : I 20 0 < 60) (f0 : 0 ≤ fr) (f1 : fr < I 2 0) (k : ∀ I' J', CAdd I I' J J' kd fr to mi nw → Q (some (vI (I 20 0))) G I' J') : At (d + 2) 4 0 [some (vR 20), some (vR 2), some (vI kd), some (vI fr), some (vI to), some (vI mi), some (vI nw)] [] G I J Q := by
  have hr := hF.1
  refine b_X0_add_0 hG (fun _ => b_X0_add_12 hG h0 h1 ?_) (fun q => by omega)
  generalize hX : mset (mset (mset I 21 (I 20 0) kd) 22 (I 20 0) fr) 23 (I 20 0) to = I1
  have c1 : ∀ a, a ≠ 21 → a ≠ 22 → a ≠ 23 → I1 a = I a := fun a h h2 h3 => by rw [← hX, mset_o h3, mset_o h2, mset_o h]
  have e2 : I1 2 0 = I 2 0 := by rw [c1 2 (by decide) (by decide) (by decide)]
  have e20 : I1 20 0 = I 20 0 := by rw [c1 20 (by decide) (by decide) (by decide)]
  have lb : ∀ e, lineBit I1 e = lineBit I e := fun e => lineBit_fr e2 (c1 3 (by decide) (by decide) (by decide))
  have hF1 : RelF I1 (I1 57) := by
    rw [c1 57 (by decide) (by decide) (by decide)]
    exact hF.fr e2 (c1 3 (by decide) (by decide) (by decide)) (c1 4 (by decide) (by decide) (by decide)) (c1 5 (by decide) (by decide) (by decide)) (c1 6 (by decide) (by decide) (by decide)) (c1 7 (by decide) (by decide) (by decide)) (c1 8 (by decide) (by decide) (by decide)) (fun _ _ => rfl) (Int.le_refl _)
  refine sp_lineBit2 hG (by omega) (b_X0_add_56 hG (sp_lineBit2 hG (by omega) (b_X0_add_62 hG h0 h1 ?_)))
  rw [lb, lb]
  generalize hY : mset I1 24 (I 20 0) (bOr (lineBit I fr) (lineBit I to)) = I2
  have c2 : ∀ a, a ≠ 24 → I2 a = I1 a := fun a h => by rw [← hY, mset_o h]
  have e20' : I1 20 0 = I 20 0 := e20
  have hF2 : RelF I2 (I2 57) := by
    rw [c2 57 (by decide)]
    exact hF1.fr (by rw [c2 2 (by decide)]) (c2 3 (by decide)) (c2 4 (by decide)) (c2 5 (by decide)) (c2 6 (by decide)) (c2 7 (by decide)) (c2 8 (by decide)) (fun _ _ => rfl) (Int.le_refl _)
  have ew : wayF I2 fr to = wayF I fr to := wayF_fr (by rw [c2 2 (by decide), e2]) (by rw [c2 3 (by decide), c1 3 (by decide) (by decide) (by decide)]) (by rw [c2 4 (by decide), c1 4 (by decide) (by decide) (by decide)])
  rw [e20]
  have e22 : I2 20 0 = I 20 0 := by rw [c2 20 (by decide), e20]
  refine sp_way hG hF2 f0 (by rw [c2 2 (by decide), e2]; exact f1) (b_X0_add_79 hG h0 h1 (by omega) (by omega) (by unfold ok32; omega) ?_)
  rw [e22, ew]
  refine k _ _ ⟨fun a ha => ?_, ?_, ?_, ?_, ?_, ?_, mset_s, ?_, ?_, ?_, ?_, fun a ha => mset_o ha⟩
  · rw [mset_o (by omega), mset_o (by omega), mset_o (by omega), mset_o (by omega), mset_o (by omega), c2 a (by omega), c1 a (by omega) (by omega) (by omega)]
  · rw [mset_at]
  · rw [mset_o (by decide), mset_o (by decide), mset_o (by decide), mset_o (by decide), mset_o (by decide), c2 21 (by decide), ← hX, mset_o (by decide), mset_o (by decide), mset_s]
  · rw [mset_o (by decide), mset_o (by decide), mset_o (by decide), mset_o (by decide), mset_o (by decide), c2 22 (by decide), ← hX, mset_o (by decide), mset_s, mset_o (by decide)]
  · rw [mset_o (by decide), mset_o (by decide), mset_o (by decide), mset_o (by decide), mset_o (by decide), c2 23 (by decide), ← hX, mset_s, mset_o (by decide), mset_o (by decide)]
  · rw [mset_o (by decide), mset_o (by decide), mset_o (by decide), mset_o (by decide), mset_o (by decide), ← hY, mset_s, c1 24 (by decide) (by decide) (by decide)]
  · rw [mset_o (by decide), mset_o (by decide), mset_o (by decide), mset_o (by decide), mset_s, c2 26 (by decide), c1 26 (by decide) (by decide) (by decide)]
  · rw [mset_o (by decide), mset_o (by decide), mset_o (by decide), mset_s, mset_o (by decide), c2 27 (by decide), c1 27 (by decide) (by decide) (by decide)]
  · rw [mset_o (by decide), mset_o (by decide), mset_s, mset_o (by decide), mset_o (by decide), c2 28 (by decide), c1 28 (by decide) (by decide) (by decide)]
  · rw [mset_o (by decide), mset_s, mset_o (by decide), mset_o (by decide), mset_o (by decide), c2 29 (by decide), c1 29 (by decide) (by decide) (by decide)]
def MayL (S : Int → Int) (x : Int) : Prop := (1 ≤ x ∧ x ≤ 20) ∧ x ≤ ruleF S (VM S (-1)) 3 (S 3 / 100)
theorem sp_mayLast {x : Int} (hV : LV b G I J) (k1 : ∀ I', LV b G I' J → Kp I I' → I' 57 = I 57 → MayL (I 57) x → Q (some (vI 1)) G I' J) (k0 : ∀ I', LV b G I' J → Kp I I' → I' 57 = I 57 → ¬ MayL (I 57) x → Q (some (vI 0)) G I' J) : At (d + 4) 147 0 [some (vR 0), some (vI x)] [] G I J Q := by
  obtain ⟨hG, ⟨hN, _⟩, _⟩ := id hV
  have f3 : I 1 0 = I 57 3 ∧ 0 ≤ I 57 3 ∧ I 57 3 ≤ 40099 := hN
  unfold MayL at k1 k0
  refine b_X11_mayLast_0 hG (b_X10_today_0 hG (by omega) (b_X11_mayLast_17 hG ?_))
  rw [f3.1]
  refine ru (d := d) (cM := -1) hV rfl (by decide) (fun q => by omega) (fun I1 hV1 kk e1 => b_X11_mayLast_20 hG (sp_within hG (fun z0 z1 => b_X11_mayLast_26 hG (Or.inr rfl) (k1 I1 hV1 kk e1 ?_)) (fun z => b_X11_mayLast_26 hG (Or.inl rfl) (k0 I1 hV1 kk e1 ?_))))
  · omega
  · omega
/-- the model asks a call -/
theorem mo_asks {kd fr to mi : Int} {A B : aI} (hV : LV b G A B) (hC : CAdd A I B J kd fr to mi (A 57 3)) (hlt : A 20 0 < 60) (hm : MayL (A 57) mi) (g1 : 1 ≤ kd ∧ kd ≤ 4) (g2 : 0 ≤ fr ∧ fr < A 57 0) (g3 : kd ≤ 2 → 0 ≤ to ∧ to < A 57 0 ∧ fr ≠ to) (g4 : kd = 1 → A 3 fr = A 3 to) (g5 : kd = 2 → A 3 fr ≠ A 3 to) (g6 : 3 ≤ kd → to = 12) (k : ∀ I2, LV b G I2 J → Sc I I2 → Q (some (vI (A 20 0))) G I2 J) : At (d + 25) 186 0 [some (vR 56), some (vI kd), some (vI fr), some (vI to), some (vI mi), none] [] G I J Q := by
  obtain ⟨hG, hRW, hc, hi, hk⟩ := id hV
  obtain ⟨hN, hF, hR, hT, hCC, hW, hL, hM⟩ := id hRW
  obtain ⟨c0, c20, c21, c22, c23, c24, c25, c26, c27, c28, c29, cJ⟩ := hC
  have f2 := hCC.1
  have f3 : A 1 0 = A 57 3 ∧ 0 ≤ A 57 3 ∧ A 57 3 ≤ 40099 := hN
  have e57 : I 57 = A 57 := c0 57 (by decide)
  unfold MayL at hm
  refine b_X12_asks_0 hG (sp_in hG (fun _ _ => b_X12_asks_8 hG (fun q => absurd q (by decide)) (fun _ => b_X12_asks_11 hG (b_X12_day_0 hG (by rw [e57]; omega) (b_X12_asks_20 hG (sp_saysM (d := d) hG (by rw [e57]; exact ⟨hR.1.1, hR.1.2.1⟩) (by rw [e57]; exact hR.mr) (Or.inl rfl) (fun I1 k1 => b_X12_asks_23 hG (fun _ => b_X12_asks_29 hG (fun _ => ?_) (fun q => ?_)) (fun q => ?_))))))) (fun q => absurd hm.1 (by omega)))
  · have e1 : I1 57 = A 57 := (k1.c (sc 57 (by decide))).trans e57
    have u2 : I1 57 2 = A 20 0 := by rw [e1, f2.2.2]
    have u3 : I1 57 3 = A 57 3 := by rw [e1]
    generalize hn : A 20 0 = n at *
    have fin : ∀ I2 v, (∀ a, a ≠ 57 → I2 a = I1 a) → I2 57 2 = n + 1 → (∀ i, i ≠ 2 → (i < 1312 + 8 * n ∨ 1312 + 8 * n + 8 ≤ i) → I2 57 i = I1 57 i) → I2 57 ((1312 + (8 * n)) + 0) = kd → I2 57 ((1312 + (8 * n)) + 1) = fr → I2 57 ((1312 + (8 * n)) + 2) = to → I2 57 ((1312 + (8 * n)) + 3) = mi → I2 57 ((1312 + (8 * n)) + 4) = A 57 3 → I2 57 ((1312 + (8 * n)) + 5) = 0 → I2 57 ((1312 + (8 * n)) + 6) = -1 → I2 57 ((1312 + (8 * n)) + 7) = 0 → v = n → Q (some (vI v)) G I2 J := by
      intro I2 v s0 s1 s2 s3 s4 s5 s6 s7 s8 s9 s10 hv
      rw [hv]
      rw [e1] at s2
      have hn2 : A 57 2 = n := by omega
      have hRC : RelC I J (I2 57) := by
        refine hCC.add (kd := kd) (fr := fr) (to := to) (mi := mi) hF f3.2.1 (by omega) g1 g2 g3 g4 g5 g6 hm.1 (fun a ha => c0 a (by omega)) (by omega) ?_ ?_ ?_ ?_ ?_ ?_ ?_ ?_ ?_ (c0 30 (by decide)) ?_ ?_ ?_ ?_ ?_ ?_ ?_ ?_ ?_ ?_
        all_goals rw [hn2]
        all_goals assumption
      have hRW1 : RW I J (I2 57) := hRW.ofC (fun a ha h => c0 a (by omega)) (fun a ha h => cJ a h) (fun i hi => s2 i hi.1 (by omega)) hRC
      have hRW2 : RW I2 J (I2 57) := hRW1.kp fun a k ha hs => by rw [s0 a (by omega), k1 a k hs]
      have hfin := hV.of (I2 := I2) (J2 := J) hRW2 (fun a k ha hb hs => by rw [s0 a hb, k1 a k hs, c0 a (by omega)]) (fun a ha => cJ a (by omega))
      exact k I2 hfin.1 ⟨by rw [s0 1060 (by decide), k1.c (sc 1060 (by decide))], by rw [s0 1061 (by decide), k1.c (sc 1061 (by decide))]⟩
    clear k c20 c21 c22 c23 c24 c25 c26 c27 c28 c29 c0 hk hc hRW hN hF hR hT hCC hW hL hM hV
    subst u2
    repeat' first
      | intro _
      | refine b_X12_asks_43 hG ?_ ?_ ?_ ?_ ?_ ?_ ?_ ?_ ?_ ?_ ?_ ?_ ?_ ?_ ?_ ?_ ?_ ?_ ?_ ?_ ?_ ?_ ?_ ?_ ?_ ?_ ?_ ?_ ?_
    all_goals try omega
    all_goals try (unfold ok32; omega)
    · simp (disch := omega) only [mset_at, mset_n, mset_o, sset_at, sset_n]
      unfold ok32
      omega
    · simp (disch := omega) only [mset_at, mset_n, mset_o, sset_at, sset_n]
      unfold ok32
      omega
    · refine fin _ _ (fun a ha => ?_) ?_ (fun i i0 i1 => ?_) ?_ ?_ ?_ ?_ ?_ ?_ ?_ ?_ ?_
      all_goals simp (disch := omega) only [mset_at, mset_n, mset_o, sset_at, sset_n]
      all_goals first
        | exact u3
        | omega
        | rfl
  · rw [k1.c (sc 57 (by decide)), e57] at q
    omega
  · rw [e57] at q
    omega
/-- the model refuses -/
theorem mo_asksB {kd fr to mi : Int} {A B : aI} (hV : LV b G I J) (hm : ¬ MayL (I 57) mi) (k : ∀ I2, LV b G I2 J → Sc I I2 → Q (some (vI (-2))) G I2 J) : At (d + 25) 186 0 [some (vR 56), some (vI kd), some (vI fr), some (vI to), some (vI mi), none] [] G I J Q := by
  obtain ⟨hG, ⟨hN, _⟩, _⟩ := id hV
  have f3 : I 1 0 = I 57 3 ∧ 0 ≤ I 57 3 ∧ I 57 3 ≤ 40099 := hN
  unfold MayL at hm
  refine b_X12_asks_0 hG (sp_in hG (fun _ _ => b_X12_asks_8 hG (fun q => absurd q (by decide)) (fun _ => b_X12_asks_11 hG (b_X12_day_0 hG (by omega) (b_X12_asks_20 hG (sa (d := d) hV rfl (Or.inl rfl) (fun I1 hV1 k1 e1 => b_X12_asks_23 hG (fun q => absurd ⟨⟨by omega, by omega⟩, q⟩ hm) (fun q => b_X12_asks_26 hG (k I1 hV1 (Sc.kp k1))))))))) (fun q => b_X12_asks_8 hG (fun _ => b_X12_asks_26 hG (k I hV ⟨rfl, rfl⟩)) (fun q => absurd rfl q)))
theorem mo_asksF {kd fr to mi : Int} (hV : LV b G I J) (hm : MayL (I 57) mi) (hf : I 57 2 = 60) (k : ∀ I2, LV b G I2 J → Sc I I2 → Q (some (vI (-4))) G I2 J) : At (d + 25) 186 0 [some (vR 56), some (vI kd), some (vI fr), some (vI to), some (vI mi), none] [] G I J Q := by
  obtain ⟨hG, ⟨hN, _⟩, _⟩ := id hV
  have f3 : I 1 0 = I 57 3 ∧ 0 ≤ I 57 3 ∧ I 57 3 ≤ 40099 := hN
  unfold MayL at hm
  refine b_X12_asks_0 hG (sp_in hG (fun _ _ => b_X12_asks_8 hG (fun q => absurd q (by decide)) (fun _ => b_X12_asks_11 hG (b_X12_day_0 hG (by omega) (b_X12_asks_20 hG (sa (d := d) hV rfl (Or.inl rfl) (fun I1 hV1 k1 e1 => b_X12_asks_23 hG (fun _ => b_X12_asks_29 hG (fun q => absurd (by rw [e1]; exact hf) q) (fun _ => b_X12_asks_40 hG (k I1 hV1 (Sc.kp k1)))) (fun q => absurd hm.2 (by omega)))))))) (fun q => absurd hm.1 (by omega)))
theorem CAdd.sc {I I' J J' : aI} {kd fr to mi nw : Int} (h : CAdd I I' J J' kd fr to mi nw) : Sc I I' := ⟨h.1 1060 (by decide), h.1 1061 (by decide)⟩
theorem Sc.tr {I I1 I2 : aI} (h : Sc I I1) (h2 : Sc I1 I2) : Sc I I2 := ⟨h2.1.trans h.1, h2.2.trans h.2⟩
theorem cs_9 {x y z : Int} (hV : LV b G I J) : Cl (d + 40) 118 187 [some (vR 0), some (vI x), some (vI y), some (vI z), none] [some (vR 56), some (vI x), some (vI y), some (vI z)] G I J := by
  obtain ⟨hG, hRW, hc, hi, hk⟩ := id hV
  obtain ⟨hN, hF, hR, hT, hC, hW, hL, hM⟩ := id hRW
  have f0 := hF.1
  have m0 : 0 ≤ I 57 0 ∧ I 57 0 ≤ 12 := ⟨f0.1, f0.2.1⟩
  unfold Cl
  -- the model up to what it asks
  have mdl : ∀ (I1 J1 : aI) (w : Int), I1 57 = I 57 → (0 ≤ x ∧ x < I 57 0) → (0 ≤ y ∧ y < I 57 0) → ¬ x = y → (∀ kd, (I 3 x = I 3 y → kd = 1) → (¬ I 3 x = I 3 y → kd = 2) → At (d + 39) 186 0 [some (vR 56), some (vI kd), some (vI x), some (vI y), some (vI z), none] [] G I1 J1 (fun v G' I' J' => At (d + 39 + 1) 187 53 [some (vR 56), some (vI x), some (vI y), some (vI z)] (v.toList ++ []) G' I' J' (fun v G2 I2 J2 => v = some (vI w) ∧ ∃ b, LV b G2 I2 J2 ∧ Sc I1 I2))) → Md (d + 40) 187 [some (vR 56), some (vI x), some (vI y), some (vI z)] w G I1 J1 := by
    intro I1 J1 w e1 hx hy hne k
    obtain ⟨⟨ex, _⟩, _⟩ := farmF hF hx.1 (by omega)
    obtain ⟨⟨ey, _⟩, _⟩ := farmF hF hy.1 (by omega)
    unfold Md
    refine b_X12_ring_0 hG (sp_isFarm hG (by rw [e1]; exact m0) (fun _ _ => b_X12_ring_5 hG (fun q => absurd q (by decide)) (fun _ => b_X12_ring_8 hG (sp_isFarm hG (by rw [e1]; exact m0) (fun _ _ => b_X12_ring_13 hG (fun _ => b_X12_ring_18 hG (fun _ => b_X12_ring_26 hG (rdf hG hx.1 (by omega) (by decide) (by decide) (b_X12_ring_33 hG (rdf hG hy.1 (by omega) (by decide) (by decide) (b_X12_ring_39 hG (fun q => b_X12_ring_46 hG (k 2 (fun h => ?_) (fun _ => rfl))) (fun q => b_X12_ring_42 hG (k 1 (fun _ => rfl) (fun h => ?_)))))))) (fun q => absurd q hne)) (fun q => absurd q (by decide))) (fun q => absurd hy (by rw [e1] at q; omega))))) (fun q => absurd hx (by rw [e1] at q; omega)))
    · rw [e1, ex, ey] at q
      exact absurd h q
    · rw [e1, ex, ey] at q
      exact absurd q h
  refine b_X11_ring_0 hG (sp_X4_has hG (fun x0 x1 => b_X11_ring_11 hG (fun q => absurd q (by decide)) (fun _ => b_X11_ring_14 hG (sp_X4_has hG (fun y0 y1 => b_X11_ring_25 hG (fun _ => b_X11_ring_30 hG (fun he => b_X11_ring_43 hG ⟨_, b, rfl, hG, ⟨rfl, rfl⟩, ?same⟩) (fun hne => b_X11_ring_35 hG (sp_mayLast (d := d + 35) hV (fun I1 hV1 k1 e1 hm => b_X11_ring_40 hG (fun _ => b_X11_ring_46 hG (fun hlt => ?ok) (fun hge => b_X11_ring_61 hG ⟨_, b, rfl, hG, Sc.kp k1, ?full⟩)) (fun q => absurd q (by decide))) (fun I1 hV1 k1 e1 hm => b_X11_ring_40 hG (fun q => absurd rfl q) (fun _ => b_X11_ring_43 hG ⟨_, b, rfl, hG, Sc.kp k1, ?min⟩))))) (fun q => absurd q (by decide))) (fun q => b_X11_ring_25 hG (fun q => absurd rfl q) (fun _ => b_X11_ring_28 hG ⟨_, b, rfl, hG, ⟨rfl, rfl⟩, ?n2⟩))))) (fun q => b_X11_ring_11 hG (fun _ => b_X11_ring_28 hG ⟨_, b, rfl, hG, ⟨rfl, rfl⟩, ?n1⟩) (fun q => absurd rfl q)))
  case ok =>
    obtain ⟨_, ⟨hN1, hF1, hR1, hT1, hC1, hW1, hL1, hM1⟩, _⟩ := id hV1
    have g0 := hF1.1
    have g2 := hC1.1
    have h3 : I1 3 = I 3 := k1.c (sc 3 (by decide))
    have u0 : I1 57 0 = I 57 0 := by rw [e1]
    have f3 : I1 1 0 = I1 57 3 ∧ 0 ≤ I1 57 3 ∧ I1 57 3 ≤ 40099 := hN1
    have add : ∀ kd, (I 3 x = I 3 y → kd = 1) → (¬ I 3 x = I 3 y → kd = 2) → ∀ x4, At (d + 39) 4 0 [some (vR 20), some (vR 2), some (vI kd), some (vI x), some (vI y), some (vI z), some (vI (I1 1 0))] [] G I1 J (fun v G' I' J' => At (d + 39 + 1) 118 127 [some (vR 0), some (vI x), some (vI y), some (vI z), some (vI x4)] (v.toList ++ []) G' I' J' (fun v G2 I2 J2 => ∃ x_1 b, v = some (vI x_1) ∧ GW b G2 ∧ Sc I I2 ∧ Md (d + 40) 187 [some (vR 56), some (vI x), some (vI y), some (vI z)] x_1 G2 I2 J2)) := by
      intro kd h1 h2 x4
      have hkd : kd = 1 ∨ kd = 2 := by
        by_cases h : I 3 x = I 3 y
        · exact Or.inl (h1 h)
        · exact Or.inr (h2 h)
      refine sp_cadd (d := d + 37) hG hF1 (by omega) hlt x0 (by omega) (fun I2 J2 hA => b_X11_ring_127 hG ⟨_, b, rfl, hG, (Sc.kp k1).tr hA.sc, mdl I2 J2 _ ((hA.1 57 (by decide)).trans e1) ⟨x0, by omega⟩ ⟨y0, by omega⟩ hne (fun kd' h1' h2' => ?_)⟩)
      have hkk : kd' = kd := by
        by_cases h : I 3 x = I 3 y
        · rw [h1 h, h1' h]
        · rw [h2 h, h2' h]
      subst hkk
      rw [f3.1] at hA
      exact mo_asks (d := d + 14) hV1 hA hlt (by rw [e1]; exact hm) (by omega) ⟨x0, by omega⟩ (fun _ => ⟨y0, by omega, hne⟩) (fun h => by rw [h3]; exact Classical.byContradiction fun q => by have := h2 q; omega) (fun h => by rw [h3]; exact fun q => by have := h1 q; omega) (fun h => by omega) (fun I3 hV3 hS3 => b_X12_ring_53 hG ⟨rfl, b, hV3, hS3⟩)
    refine b_X11_ring_64 hG x0 (by omega) y0 (by omega) (fun q => b_X11_ring_95 hG (add 2 (fun h => ?_) (fun _ => rfl) _)) (fun q => b_X11_ring_91 hG (add 1 (fun _ => rfl) (fun h => ?_) _))
    · rw [h3] at q
      exact absurd h q
    · rw [h3] at q
      exact absurd q h
  case full =>
    obtain ⟨_, ⟨_, _, _, _, hC1, _⟩, _⟩ := id hV1
    have g2 := hC1.1
    exact mdl I1 J _ e1 ⟨x0, by omega⟩ ⟨y0, by omega⟩ hne (fun kd _ _ => mo_asksF (d := d + 14) hV1 (by rw [e1]; exact hm) (by omega) (fun I3 hV3 hS3 => b_X12_ring_53 hG ⟨rfl, b, hV3, hS3⟩))
  case min =>
    exact mdl I1 J _ e1 ⟨x0, by omega⟩ ⟨y0, by omega⟩ hne (fun kd _ _ => mo_asksB (d := d + 14) (A := I) (B := J) hV1 (by rw [e1]; exact hm) (fun I3 hV3 hS3 => b_X12_ring_53 hG ⟨rfl, b, hV3, hS3⟩))
  case same =>
    unfold Md
    exact b_X12_ring_0 hG (sp_isFarm hG m0 (fun _ _ => b_X12_ring_5 hG (fun q => absurd q (by decide)) (fun _ => b_X12_ring_8 hG (sp_isFarm hG m0 (fun _ _ => b_X12_ring_13 hG (fun _ => b_X12_ring_18 hG (fun q => absurd he q) (fun _ => b_X12_ring_23 hG ⟨rfl, b, hV, rfl, rfl⟩)) (fun q => absurd q (by decide))) (fun q => absurd q (by omega))))) (fun q => absurd q (by omega)))
  case n2 =>
    unfold Md
    exact b_X12_ring_0 hG (sp_isFarm hG m0 (fun _ _ => b_X12_ring_5 hG (fun q => absurd q (by decide)) (fun _ => b_X12_ring_8 hG (sp_isFarm hG m0 (fun _ _ => absurd q (by omega)) (fun _ => b_X12_ring_13 hG (fun q => absurd rfl q) (fun _ => b_X12_ring_16 hG ⟨rfl, b, hV, rfl, rfl⟩))))) (fun q => absurd q (by omega)))
  case n1 =>
    unfold Md
    exact b_X12_ring_0 hG (sp_isFarm hG m0 (fun _ _ => absurd q (by omega)) (fun _ => b_X12_ring_5 hG (fun _ => b_X12_ring_16 hG ⟨rfl, b, hV, rfl, rfl⟩) (fun q => absurd rfl q)))
theorem cs_10 {x y z : Int} (hV : LV b G I J) : Cl (d + 40) 119 188 [some (vR 0), some (vI x), some (vI y), some (vI z)] [some (vR 56), some (vI x), some (vI y), some (vI z)] G I J := by
  obtain ⟨hG, hRW, hc, hi, hk⟩ := id hV
  obtain ⟨hN, hF, hR, hT, hC, hW, hL, hM⟩ := id hRW
  have f0 := hF.1
  have m0 : 0 ≤ I 57 0 ∧ I 57 0 ≤ 12 := ⟨f0.1, f0.2.1⟩
  unfold Cl
  have mdl : ∀ (I1 J1 : aI) (w : Int), I1 57 = I 57 → (0 ≤ y ∧ y < I 57 0) → (3 ≤ x ∧ x ≤ 4) → (At (d + 39) 186 0 [some (vR 56), some (vI x), some (vI y), some (vI 12), some (vI z), none] [] G I1 J1 (fun v G' I' J' => At (d + 39 + 1) 188 28 [some (vR 56), some (vI x), some (vI y), some (vI z)] (v.toList ++ []) G' I' J' (fun v G2 I2 J2 => v = some (vI w) ∧ ∃ b, LV b G2 I2 J2 ∧ Sc I1 I2))) → Md (d + 40) 188 [some (vR 56), some (vI x), some (vI y), some (vI z)] w G I1 J1 := by
    intro I1 J1 w e1 hy hx k
    unfold Md
    exact b_X12_call_0 hG (sp_isFarm hG (by rw [e1]; exact m0) (fun _ _ => b_X12_call_5 hG (fun q => absurd q (by decide)) (fun _ => b_X12_call_8 hG (sp_in hG (fun _ _ => b_X12_call_14 hG (fun _ => b_X12_call_19 hG k) (fun q => absurd q (by decide))) (fun q => absurd hx (by omega))))) (fun q => absurd hy (by rw [e1] at q; omega)))
  refine b_X11_call_0 hG (sp_X4_has hG (fun y0 y1 => b_X11_call_11 hG (fun q => absurd q (by decide)) (fun _ => b_X11_call_14 hG (sp_within hG (fun x0 x1 => b_X11_call_20 hG (fun _ => b_X11_call_25 hG (sp_mayLast (d := d + 35) hV (fun I1 hV1 k1 e1 hm => b_X11_call_30 hG (fun _ => b_X11_call_36 hG (fun hlt => b_X11_call_54 hG ?ok) (fun hge => b_X11_call_51 hG ⟨_, b, rfl, hG, Sc.kp k1, ?full⟩)) (fun q => absurd q (by decide))) (fun I1 hV1 k1 e1 hm => b_X11_call_30 hG (fun q => absurd rfl q) (fun _ => b_X11_call_33 hG ⟨_, b, rfl, hG, Sc.kp k1, ?min⟩)))) (fun q => absurd q (by decide))) (fun q => b_X11_call_20 hG (fun q => absurd rfl q) (fun _ => b_X11_call_23 hG ⟨_, b, rfl, hG, ⟨rfl, rfl⟩, ?n2⟩))))) (fun q => b_X11_call_11 hG (fun _ => b_X11_call_23 hG ⟨_, b, rfl, hG, ⟨rfl, rfl⟩, ?n1⟩) (fun q => absurd rfl q)))
  case ok =>
    obtain ⟨_, ⟨hN1, hF1, hR1, hT1, hC1, hW1, hL1, hM1⟩, _⟩ := id hV1
    have g0 := hF1.1
    have g2 := hC1.1
    have u0 : I1 57 0 = I 57 0 := by rw [e1]
    have f3 : I1 1 0 = I1 57 3 ∧ 0 ≤ I1 57 3 ∧ I1 57 3 ≤ 40099 := hN1
    refine sp_cadd (d := d + 37) hG hF1 (by omega) hlt y0 (by omega) (fun I2 J2 hA => b_X11_call_83 hG ⟨_, b, rfl, hG, (Sc.kp k1).tr hA.sc, mdl I2 J2 _ ((hA.1 57 (by decide)).trans e1) ⟨y0, by omega⟩ ⟨x0, x1⟩ ?_⟩)
    rw [f3.1] at hA
    exact mo_asks (d := d + 14) hV1 hA hlt (by rw [e1]; exact hm) (by omega) ⟨y0, by omega⟩ (fun h => by omega) (fun h => by omega) (fun h => by omega) (fun h => rfl) (fun I3 hV3 hS3 => b_X12_call_28 hG ⟨rfl, b, hV3, hS3⟩)
  case full =>
    obtain ⟨_, ⟨_, _, _, _, hC1, _⟩, _⟩ := id hV1
    have g2 := hC1.1
    exact mdl I1 J _ e1 ⟨y0, by omega⟩ ⟨x0, x1⟩ (mo_asksF (d := d + 14) hV1 (by rw [e1]; exact hm) (by omega) (fun I3 hV3 hS3 => b_X12_call_28 hG ⟨rfl, b, hV3, hS3⟩))
  case min =>
    exact mdl I1 J _ e1 ⟨y0, by omega⟩ ⟨x0, x1⟩ (mo_asksB (d := d + 14) (A := I) (B := J) hV1 (by rw [e1]; exact hm) (fun I3 hV3 hS3 => b_X12_call_28 hG ⟨rfl, b, hV3, hS3⟩))
  case n2 =>
    unfold Md
    exact b_X12_call_0 hG (sp_isFarm hG m0 (fun _ _ => b_X12_call_5 hG (fun q => absurd q (by decide)) (fun _ => b_X12_call_8 hG (sp_in hG (fun _ _ => absurd q (by omega)) (fun _ => b_X12_call_14 hG (fun q => absurd rfl q) (fun _ => b_X12_call_17 hG ⟨rfl, b, hV, rfl, rfl⟩))))) (fun q => absurd q (by omega)))
  case n1 =>
    unfold Md
    exact b_X12_call_0 hG (sp_isFarm hG m0 (fun _ _ => absurd q (by omega)) (fun _ => b_X12_call_5 hG (fun _ => b_X12_call_17 hG ⟨rfl, b, hV, rfl, rfl⟩) (fun q => absurd rfl q)))
end SM
