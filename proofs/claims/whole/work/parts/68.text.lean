/-! the call text -/
section PC
variable {bs bt : Int → Int} {n : Int} (h : byt bs n = byt bt n)
theorem pEx_c (h : byt bs n = byt bt n) {c : Int} {r : Bool × Int} : pEx bs n c r = pEx bt n c r := by
  unfold pEx
  rw [h]
theorem pExs_c (h : byt bs n = byt bt n) : ∀ (l : List Int) (r : Bool × Int), pExs bs n l r = pExs bt n l r
  | [], r => rfl
  | c :: cs, r => by
    unfold pExs
    rw [pEx_c h, pExs_c h cs]
theorem pWord_c (h : byt bs n = byt bt n) {p : Int} : pWord bs n p = pWord bt n p := by
  unfold pWord
  simp only [pExs_c h, h]
theorem pNum_c (h : byt bs n = byt bt n) {p : Int} : pNum bs n p = pNum bt n p := by
  unfold pNum
  rw [h]
theorem pFact_c (h : byt bs n = byt bt n) {p : Int} : pFact bs n p = pFact bt n p := by
  unfold pFact
  simp only [pNum_c h, h]
theorem pLoop_c (h : byt bs n = byt bt n) {one : Int → Bool × Int × List Int} {c tok : Int} : ∀ (f : Nat) (r : Bool × Int × List Int), pLoop bs n one c tok f r = pLoop bt n one c tok f r
  | 0, r => rfl
  | f + 1, r => by
    unfold pLoop
    rw [h, pLoop_c h f]
theorem pAll_c (h : byt bs n = byt bt n) {one : Int → Bool × Int × List Int} : pAll bs n one = pAll bt n one := by
  funext p
  unfold pAll
  rw [pLoop_c h]
theorem pAny_c (h : byt bs n = byt bt n) {one : Int → Bool × Int × List Int} : pAny bs n one = pAny bt n one := by
  funext p
  unfold pAny
  rw [pLoop_c h, pAll_c h]
theorem pOne_c (h : byt bs n = byt bt n) : ∀ k : Nat, pOne bs n k = pOne bt n k
  | 0 => by
    funext p
    unfold pOne
    rw [h, pFact_c h]
  | k + 1 => by
    funext p
    unfold pOne
    rw [pOne_c h k, pAny_c h, pFact_c h, pEx_c h, h]
theorem pClause_c (h : byt bs n = byt bt n) {p : Int} : pClause bs n p = pClause bt n p := by
  unfold pClause pClW pClN pClE
  simp only [pWord_c h, pEx_c h, pNum_c h, pAny_c h, pOne_c h]
theorem pRule_c (h : byt bs n = byt bt n) : ∀ (f : Nat) (p : Int), pRule bs n f p = pRule bt n f p
  | 0, p => rfl
  | f + 1, p => by
    unfold pRule
    rw [pClause_c h, pRule_c h f, h]
end PC
theorem byt_eq {bs bt : Int → Int} {n : Int} (h : ∀ k, 0 ≤ k → k < n → bs k = bt k) : byt bs n = byt bt n := by
  funext p
  unfold byt
  split
  · rename_i q
    exact h p q.1 q.2
  · rfl
theorem RuleOk.fr {A A' : aI} {r n sz : Int} {bs : Int → Int} (h : RuleOk A r bs n) (hr : 0 ≤ r ∧ r < sz) (hR : RF sz A A') : RuleOk A' r bs n := by
  obtain ⟨cl, q1, q2, q3⟩ := h
  have hl := (pRule_ok (V := fun _ => 0) (bs := bs) (n := n) 8 0 (by rw [q1])).2
  rw [q1] at hl
  obtain ⟨_, h2, h3, h4⟩ := hR
  refine ⟨cl, q1, by rw [h3 r (by omega)]; exact q2, fun c e he => ?_⟩
  have hc : c < cl.length := (List.getElem?_eq_some_iff.1 he).1
  have hl' : cl.length ≤ 8 := hl
  obtain ⟨g1, g2, g3, g4⟩ := h2 (8 * r + c) (by omega)
  obtain ⟨e1, e2, e3, e4, e5, e6⟩ := q3 c e he
  rw [g1, g2, g3, g4]
  refine ⟨e1, e2, e3, e4, e5, fun j x hj => ?_⟩
  have hj' : j < e.2.2.length := (List.getElem?_eq_some_iff.1 hj).1
  rw [h4 _ (by omega)]
  exact e6 j x hj
theorem RelR.rf {A A' : aI} {S S' : Int → Int} (h : RelR A S) (hR : RF (S 1) A A') (hS : ∀ i, i = 1 ∨ (92 ≤ i ∧ i < 1312) → S' i = S i) : RelR A' S' := by
  obtain ⟨⟨a1, a2, a3⟩, p⟩ := h
  unfold RelR
  rw [hS 1 (by omega), hR.1 9 (by decide) (by decide) (by decide) (by decide) (by decide) (by decide) (by decide), hR.1 14 (by decide) (by decide) (by decide) (by decide) (by decide) (by decide) (by decide)]
  refine ⟨⟨a1, a2, a3⟩, fun r r0 r1 => ?_⟩
  obtain ⟨e1, e2, e3, e4, e5⟩ := p r r0 r1
  rw [hS (92 + (122 * r)) (by omega), hS ((92 + (122 * r)) + 1) (by omega), bsOf_fr (S := S) (fun i i0 i1 => hS i (by omega))]
  refine ⟨e1, e2, e3, fun j j0 j1 => ?_, e5.fr ⟨r0, r1⟩ hR⟩
  rw [hS _ (by omega)]
  exact e4 j j0 j1
/-- the tape was read, and is empty -/
theorem RW.tape {A A' B : aI} {S S' : Int → Int} (h : RW A B S) (hR : RF (S 1) A A') (h10 : A' 10 0 = 0) (hs : S' = sset S 8 0) : RW A' B S' := by
  obtain ⟨hN, hF, hRR, hT, hC, hW, hL, hM⟩ := h
  have q : ∀ i, i ≠ 8 → S' i = S i := fun i hi => by rw [hs, sset_n hi]
  have hc : ∀ a : Nat, (a ≠ 10 ∧ a ≠ 11 ∧ a ≠ 13 ∧ a ≠ 15 ∧ a ≠ 16 ∧ a ≠ 17 ∧ a ≠ 18) → A' a = A a := fun a ha => hR.1 a ha.1 ha.2.1 ha.2.2.1 ha.2.2.2.1 ha.2.2.2.2.1 ha.2.2.2.2.2.1 ha.2.2.2.2.2.2
  have h3 : S 3 ≤ S' 3 := by rw [q 3 (by decide)]; exact Int.le_refl _
  refine ⟨hN.fr (congrFun (hc 1 (by decide)) 0) (q 3 (by decide)),
    hF.fr (congrFun (hc 2 (by decide)) 0) (hc 3 (by decide)) (hc 4 (by decide)) (hc 5 (by decide)) (hc 6 (by decide)) (hc 7 (by decide)) (hc 8 (by decide)) (fun i hi => q i (by omega)) h3,
    hRR.rf hR (fun i hi => q i (by omega)), ?_,
    hC.fr (congrFun (hc 2 (by decide)) 0) (hc 3 (by decide)) (hc 4 (by decide)) (congrFun (hc 20 (by decide)) 0) (hc 21 (by decide)) (hc 22 (by decide)) (hc 23 (by decide)) (hc 24 (by decide)) rfl (hc 26 (by decide)) (hc 27 (by decide)) (hc 28 (by decide)) (hc 29 (by decide)) (hc 30 (by decide)) (fun i hi => q i (by omega)) h3,
    hW.fr (congrFun (hc 2 (by decide)) 0) (hc 3 (by decide)) (hc 4 (by decide)) (congrFun (hc 31 (by decide)) 1) (congrFun (hc 31 (by decide)) 2) (congrFun (hc 31 (by decide)) 5) rfl rfl (hc 33 (by decide)) (fun i hi => q i (by omega)),
    hL.fr (congrFun (hc 35 (by decide)) 0) (hc 36 (by decide)) (hc 37 (by decide)) (hc 38 (by decide)) (hc 39 (by decide)) (hc 7 (by decide)) (fun i hi => q i (by omega)) h3,
    hM.fr (congrFun (hc 40 (by decide)) 0) (congrFun (hc 40 (by decide)) 1) (hc 41 (by decide)) (hc 42 (by decide)) (hc 43 (by decide)) (hc 44 (by decide)) (fun i hi => q i (by omega))⟩
  unfold RelT
  rw [hs, sset_at]
  exact ⟨⟨by decide, by decide, h10⟩, fun k k0 k1 => by omega⟩
/-- a rule more -/
theorem RelR.add {A A' : aI} {S S' : Int → Int} {day n : Int} {bs : Int → Int} {cl : List (Int × Int × List Int)} (h : RelR A S) (hn : S 1 < 10) (hd : 0 ≤ day ∧ day ≤ 400) (hnn : 0 ≤ n ∧ n ≤ 120) (hcl : ClOk A (S 1) cl) (hp : pRule bs n 8 0 = (false, n, cl)) (hbs : ∀ k, 0 ≤ k → k < n → bs k = S' ((92 + (122 * S 1)) + 2 + k)) (hby : ∀ k, 0 ≤ k → k < n → 0 ≤ S' ((92 + (122 * S 1)) + 2 + k) ∧ S' ((92 + (122 * S 1)) + 2 + k) ≤ 255)
    (hc : ∀ a : Nat, a < 45 → a ≠ 9 → a ≠ 14 → A' a = A a) (h9 : A' 9 0 = S 1 + 1) (h14 : A' 14 = sset (A 14) (S 1) day) (t1 : S' 1 = S 1 + 1) (e0 : S' (92 + (122 * S 1)) = day) (e1 : S' ((92 + (122 * S 1)) + 1) = n) (hs : ∀ i, i ≠ 1 → (i < 92 + 122 * S 1 ∨ 92 + 122 * S 1 + 122 ≤ i) → 92 ≤ i → i < 1312 → S' i = S i) : RelR A' S' := by
  obtain ⟨⟨a1, a2, a3⟩, p⟩ := h
  unfold RelR
  rw [t1, h9]
  refine ⟨⟨by omega, by omega, rfl⟩, fun r r0 r1 => ?_⟩
  have ro : ∀ bs n r, RuleOk A r bs n → RuleOk A' r bs n := fun bs n r h => by
    unfold RuleOk at h ⊢
    rw [hc 11 (by decide) (by decide) (by decide), hc 13 (by decide) (by decide) (by decide), hc 15 (by decide) (by decide) (by decide), hc 16 (by decide) (by decide) (by decide), hc 17 (by decide) (by decide) (by decide), hc 18 (by decide) (by decide) (by decide)]
    exact h
  by_cases hr : r = S 1
  · subst hr
    rw [h14, sset_at, e0, e1]
    refine ⟨rfl, hd, hnn, hby, ro _ _ _ ⟨cl, ?_, hcl.1, hcl.2⟩⟩
    rw [← hp]
    refine (pRule_c (byt_eq fun k k0 k1 => ?_) 8 0).symm
    unfold bsOf
    rw [if_pos (by omega)]
    exact hbs k k0 k1
  · obtain ⟨g1, g2, g3, g4, g5⟩ := p r r0 (by omega)
    rw [h14, sset_n hr, hs (92 + (122 * r)) (by omega) (by omega) (by omega) (by omega), hs ((92 + (122 * r)) + 1) (by omega) (by omega) (by omega) (by omega), bsOf_fr (S := S) (fun i i0 i1 => hs i (by omega) (by omega) (by omega) (by omega))]
    refine ⟨g1, g2, g3, fun j j0 j1 => ?_, ro _ _ _ g5⟩
    rw [hs _ (by omega) (by omega) (by omega) (by omega)]
    exact g4 j j0 j1
theorem scr56 {I I1 I2 : aI} (h : FR I1 I2) (hq : ∀ a : Nat, 45 ≤ a → I1 a = I a) {a : Nat} {k : Int} (ha : 45 ≤ a) (hs : scr a k = false) : I2 a k = I a k := by
  by_cases h56 : a = 56
  · subst h56
    have : k = 19 := by
      unfold scr at hs
      by_cases hk : k = 19
      · exact hk
      · simp [hk] at hs
    subst this
    rw [h.2, hq 56 (by decide)]
  · rw [h.1 a h56, hq a ha]
section SM
variable {d : Nat} {b : Bool} {G : aG} {I J : aI} {Q : Option aV → aG → aI → aI → Prop}
theorem lp_copy {x1 m at' : Int} {I0 : aI} (hG : GW b G) (hm : 0 ≤ m ∧ m ≤ 120) (ha : 92 ≤ at' ∧ at' + 122 ≤ 1312) (k : ∀ I' y, (∀ a, a ≠ 57 → I' a = I0 a) → (∀ i, (i < at' + 2 ∨ at' + 2 + m ≤ i) → I' 57 i = I0 57 i) → (∀ j, 0 ≤ j → j < m → I' 57 (at' + 2 + j) = I0 57 (2336 + j)) → At d 178 137 [some (vR 56), some (vI x1), some (vI m), some (vI at'), some (vI y)] [] G I' J Q) : ∀ (j : Nat) (y : Int) (I : aI), 0 ≤ y → y + j = m → (∀ a, a ≠ 57 → I a = I0 a) → (∀ i, (i < at' + 2 ∨ at' + 2 + y ≤ i) → I 57 i = I0 57 i) → (∀ j, 0 ≤ j → j < y → I 57 (at' + 2 + j) = I0 57 (2336 + j)) → At d 178 103 [some (vR 56), some (vI x1), some (vI m), some (vI at'), some (vI y)] [] G I J Q
  | 0, y, I, h0, h1, c1, c2, c3 => by
    rw [show m = y by omega] at k ⊢
    exact b_X12_text_103 hG (fun _ => k I _ c1 c2 c3) (fun q => by omega)
  | j + 1, y, I, h0, h1, c1, c2, c3 => by
    refine b_X12_text_103 hG (fun q => by omega) (fun _ => b_X12_text_109 hG (by unfold ok32; omega) (by unfold ok32; omega) (by unfold ok32; omega) (by omega) (by omega) (by omega) (by omega) (by unfold ok32; omega) (lp_copy hG hm ha k j (y + 1) _ (by omega) (by omega) (fun a h => (mset_o h).trans (c1 a h)) (fun i hi => ?_) (fun i i0 i1 => ?_)))
    · rw [mset_n (by omega)]
      exact c2 i (by omega)
    · by_cases hh : i = y
      · subst hh
        rw [mset_at]
        exact c2 _ (by omega)
      · rw [mset_n (by omega)]
        exact c3 i i0 (by omega)
theorem tp_tape (hT : RelT I (I 57)) (hR : RelR I (I 57)) : Tp I (fun k => I 57 (2336 + k)) (I 57 8) (120 * I 57 1) := by
  have h9 := hR.1
  exact ⟨⟨hT.1.1, hT.1.2.1⟩, by omega, hT.2⟩
theorem cs_6 {x : Int} (hV : LV b G I J) : Cl (d + 40) 115 178 [some (vR 0), some (vI x), none] [some (vR 56), some (vI x), none, none, none] G I J := by
  obtain ⟨hG, hRW, hc, hi, hk⟩ := id hV
  obtain ⟨hN, hF, hR, hT, hC, hW, hL, hM⟩ := id hRW
  have f1 := hR.1
  have f8 := hT.1
  unfold Cl
  refine b_X11_text_0 hG (sp_within hG (fun x0 x1 => b_X11_text_8 hG (fun _ => b_X11_text_14 hG (fun hlt => b_X11_text_32 hG (sp_readTape (d := d + 17) (bs := fun k => I 57 (2336 + k)) hG ⟨f1.1, f1.2.1⟩ f1.2.2 f8.2.2 (tp_tape hT hR) (fun I1 q1 q2 q3 => ?bad) (fun I1 q1 q2 q3 q4 => b_X11_text_42 hG (fun _ => b_X11_text_54 hG (b_X7_keep_0 hG (fun hlt2 => b_X7_keep_12 hG ?g1 ?g2 ?g3 (b_X11_text_65 hG ?good)) (fun q => ?no))) (fun q => absurd q (by decide))))) (fun q => b_X11_text_29 hG ⟨_, b, rfl, hG, ⟨rfl, rfl⟩, ?full⟩)) (fun q => absurd q (by decide))) (fun q => b_X11_text_8 hG (fun q => absurd rfl q) (fun _ => b_X11_text_11 hG ⟨_, b, rfl, hG, ⟨rfl, rfl⟩, ?day⟩)))
  case day =>
    unfold Md
    exact b_X12_text_0 hG (sp_isDay hG (fun _ _ => absurd q (by omega)) (fun _ => b_X12_text_4 hG (fun q => absurd rfl q) (fun _ => b_X12_text_7 hG ⟨rfl, b, hV, rfl, rfl⟩)))
  case full =>
    unfold Md
    exact b_X12_text_0 hG (sp_isDay hG (fun _ _ => b_X12_text_4 hG (fun _ => b_X12_text_10 hG (fun q2 => absurd (show I 57 1 = 10 by omega) q2) (fun _ => b_X12_text_21 hG ⟨rfl, b, hV, rfl, rfl⟩)) (fun q => absurd q (by decide))) (fun q => absurd q (by omega)))
  case no =>
    have e9 : I1 9 0 = I 9 0 := by rw [q2.1 9 (by decide) (by decide) (by decide) (by decide) (by decide) (by decide) (by decide)]
    omega
  case g1 =>
    have e9 : I1 9 0 = I 9 0 := by rw [q2.1 9 (by decide) (by decide) (by decide) (by decide) (by decide) (by decide) (by decide)]
    omega
  case g2 => omega
  case g3 =>
    have e9 : I1 9 0 = I 9 0 := by rw [q2.1 9 (by decide) (by decide) (by decide) (by decide) (by decide) (by decide) (by decide)]
    unfold ok32
    omega
  case bad =>
    have hq : ∀ a : Nat, 18 < a → I1 a = I a := fun a ha => q2.1 a (by omega) (by omega) (by omega) (by omega) (by omega) (by omega) (by omega)
    have e57 : I1 57 = I 57 := hq 57 (by decide)
    have hp0 : 0 ≤ (pRule (fun k => I 57 (2336 + k)) (I 57 8) 8 0).2.1 ∧ (pRule (fun k => I 57 (2336 + k)) (I 57 8) 8 0).2.1 ≤ 120 := by
      have := pRule_r (bs := fun k => I 57 (2336 + k)) (n := I 57 8) 8 0 ⟨Int.le_refl 0, f8.1⟩
      omega
    refine b_X11_text_42 hG (fun q => by omega) (fun _ => b_X11_text_47 hG (by unfold ok32; omega) ⟨_, b, rfl, hG, ⟨hq 1060 (by decide), hq 1061 (by decide)⟩, ?_⟩)
    unfold Md
    refine b_X12_text_0 hG (sp_isDay hG (fun _ _ => b_X12_text_4 hG (fun _ => b_X12_text_10 hG (fun _ => b_X12_text_24 hG (sp_goes (d := d + 17) (bs := fun k => I 57 (2336 + k)) hG (by rw [e57]; exact ⟨f8.1, f8.2.1⟩) (by decide) (fun k k0 k1 => ?_) (Or.inl rfl) (fun I2 p r1 r2 r3 r4 r5 => b_X12_text_40 hG (fun h => absurd h (by omega)) (fun _ => ?_)) (fun I2 r1 => ?_))) (fun q => absurd q (by rw [e57]; omega))) (fun q => absurd q (by decide))) (fun q => absurd q (by omega)))
    · rw [e57] at k1 ⊢
      exact ⟨rfl, (hT.2 k k0 k1).2⟩
    · rw [e57] at r2
      have e8 : (mset I2 57 8 0) 56 8 = p := by rw [mset_o (by decide), r4]
      refine b_X12_text_63 hG (by rw [e8, r2]; unfold ok32; omega) ⟨by rw [e8, r2], b, ?_⟩
      have e2 : I2 57 = I 57 := (r3.1 57 (by decide)).trans e57
      have hRW1 : RW I1 J (sset (I 57) 8 0) := hRW.tape q2 q3 rfl
      have hfin := hV.of (I2 := mset I2 57 8 0) (J2 := J) ?_ (fun a k ha hb' hs => ?_) (fun _ _ => rfl)
      · exact ⟨hfin.1, hfin.2.1.trans (hq 1060 (by decide)).symm, hfin.2.2.trans (hq 1061 (by decide)).symm⟩
      · rw [mset_s, e2]
        exact hRW1.kp fun a k ha _ => by rw [mset_o (by omega), r3.1 a (by omega)]
      · rw [mset_o hb']
        exact scr56 r3 (fun a ha => hq a (by omega)) ha hs
    · rw [e57] at r1
      rw [q1] at r1
      cases r1
  case good =>
    have hq : ∀ a : Nat, 18 < a → I1 a = I a := fun a ha => q2.1 a (by omega) (by omega) (by omega) (by omega) (by omega) (by omega) (by omega)
    have e57 : I1 57 = I 57 := hq 57 (by decide)
    have e9 : I1 9 0 = I 57 1 := by rw [q2.1 9 (by decide) (by decide) (by decide) (by decide) (by decide) (by decide) (by decide), f1.2.2]
    have hRW1 : RW I1 J (sset (I 57) 8 0) := hRW.tape q2 q3 rfl
    generalize hS1 : sset (I 57) 8 0 = S1 at hRW1
    have s1 : S1 1 = I 57 1 := by rw [← hS1, sset_n (by decide)]
    have sn : ∀ i, i ≠ 8 → S1 i = I 57 i := fun i hi => by rw [← hS1, sset_n hi]
    rw [e9]
    generalize hX : mset (mset I1 14 (I 57 1) x) 9 0 (I 57 1 + 1) = I1'
    have c1 : ∀ a, a ≠ 14 → a ≠ 9 → I1' a = I1 a := fun a h h2 => by rw [← hX, mset_o h2, mset_o h]
    have f57 : I1' 57 = I 57 := (c1 57 (by decide) (by decide)).trans e57
    refine ⟨_, b, rfl, hG, ⟨(c1 1060 (by decide) (by decide)).trans (hq 1060 (by decide)), (c1 1061 (by decide) (by decide)).trans (hq 1061 (by decide))⟩, ?_⟩
    unfold Md
    refine b_X12_text_0 hG (sp_isDay hG (fun _ _ => b_X12_text_4 hG (fun _ => b_X12_text_10 hG (fun _ => b_X12_text_24 hG (sp_goes (d := d + 17) (bs := fun k => I 57 (2336 + k)) hG (by rw [f57]; exact ⟨f8.1, f8.2.1⟩) (by decide) (fun k k0 k1 => ?_) (Or.inl rfl) (fun I2 p r1 => ?_) (fun I2 r1 r2 r3 r4 _ => b_X12_text_40 hG (fun _ => ?_) (fun h => absurd r4 h)))) (fun q => absurd q (by rw [f57]; omega))) (fun q => absurd q (by decide))) (fun q => absurd q (by omega)))
    · rw [f57] at k1 ⊢
      exact ⟨rfl, (hT.2 k k0 k1).2⟩
    · rw [f57, q1] at r1
      cases r1
    · rw [f57] at r2
      have e2 : I2 57 = I 57 := (r3.1 57 (by decide)).trans f57
      have u1 : (mset I2 57 8 0) 57 1 = I 57 1 := by rw [mset_n (by decide), e2]
      rw [show I2 57 8 = I 57 8 by rw [e2]]
      refine b_X12_text_71 hG (by rw [u1]; unfold ok32; omega) (by rw [u1]; unfold ok32; omega) (by rw [u1]; omega) (by rw [u1]; omega) (by rw [u1]; unfold ok32; omega) (by rw [u1]; omega) (by rw [u1]; omega) ?_
      rw [u1]
      generalize hM0 : mset (mset (mset I2 57 8 0) 57 (92 + (122 * I 57 1)) x) 57 ((92 + (122 * I 57 1)) + 1) (I 57 8) = M0
      have m0 : ∀ a, a ≠ 57 → M0 a = I2 a := fun a h => by rw [← hM0, mset_o h, mset_o h, mset_o h]
      have mS : ∀ i, i ≠ 8 → i ≠ 92 + (122 * I 57 1) → i ≠ (92 + (122 * I 57 1)) + 1 → M0 57 i = I 57 i := fun i h1 h2 h3 => by rw [← hM0, mset_n h3, mset_n h2, mset_n h1, e2]
      have m8 : M0 57 8 = 0 := by rw [← hM0, mset_n (by omega), mset_n (by omega), mset_at]
      have mr : M0 57 (92 + (122 * I 57 1)) = x := by rw [← hM0, mset_n (by omega), mset_at]
      have mm : M0 57 ((92 + (122 * I 57 1)) + 1) = I 57 8 := by rw [← hM0, mset_at]
      refine lp_copy (I0 := M0) hG ⟨f8.1, f8.2.1⟩ (by omega) (fun I3 y k1 k2 k3 => ?_) (I 57 8).toNat 0 M0 (by omega) (by omega) (fun _ _ => rfl) (fun _ _ => rfl) (fun j j0 j1 => by omega)
      have t1 : I3 57 1 = I 57 1 := by rw [k2 1 (by omega), mS 1 (by decide) (by omega) (by omega)]
      have ec : ∀ a, a ≠ 57 → I3 a = I2 a := fun a h => (k1 a h).trans (m0 a h)
      refine b_X12_text_137 hG (by rw [t1]; unfold ok32; omega) (by rw [t1]; unfold ok32; omega) ⟨?_, b, ?_⟩
      · rw [t1]
        exact congrArg (fun z => some (vI z)) (by omega)
      rw [t1]
      have fS : ∀ i, i ≠ 1 → i ≠ 8 → (i < 92 + 122 * I 57 1 ∨ 92 + 122 * I 57 1 + 122 ≤ i) → (mset I3 57 1 (I 57 1 + 1)) 57 i = I 57 i := fun i h1 h2 h3 => by
        rw [mset_n h1, k2 i (by omega), mS i h2 (by omega) (by omega)]
      have fin45 : ∀ a : Nat, a < 45 → a ≠ 9 → a ≠ 14 → (mset I3 57 1 (I 57 1 + 1)) a = I1 a := fun a h h9 h14 => by
        rw [mset_o (by omega), ec a (by omega), r3.1 a (by omega), c1 a h14 h9]
      have hadd : RelR (mset I3 57 1 (I 57 1 + 1)) ((mset I3 57 1 (I 57 1 + 1)) 57) := by
        obtain ⟨_, _, hR1, _⟩ := hRW1
        refine hR1.add (day := x) (n := I 57 8) (bs := fun k => I 57 (2336 + k)) (cl := (pRule (fun k => I 57 (2336 + k)) (I 57 8) 8 0).2.2) (by rw [s1]; omega) ⟨x0, x1⟩ ⟨f8.1, f8.2.1⟩ (by rw [s1]; exact q4) (Prod.ext q1 (Prod.ext r2 rfl)) (fun k k0 k1 => ?_) (fun k k0 k1 => ?_) fin45 ?_ ?_ ?_ ?_ ?_ (fun i h1 h2 h3 h4 => ?_)
        · rw [s1, mset_n (by omega), k3 k k0 k1, mS _ (by omega) (by omega) (by omega)]
        · rw [s1, mset_n (by omega)]
          rw [k3 k k0 k1, mS _ (by omega) (by omega) (by omega)]
          exact (hT.2 k k0 k1).2
        · rw [mset_o (by decide), ec 9 (by decide), r3.1 9 (by decide), ← hX, mset_at, s1]
        · rw [mset_o (by decide), ec 14 (by decide), r3.1 14 (by decide), ← hX, mset_o (by decide), mset_s, s1]
        · rw [mset_at, s1]
        · rw [s1, mset_n (by omega), k2 _ (by omega), mr]
        · rw [s1, mset_n (by omega), k2 _ (by omega), mm]
        · rw [s1] at h2
          rw [fS i h1 (by omega) h2, sn i (by omega)]
      have hfin := hV.of (I2 := mset I3 57 1 (I 57 1 + 1)) (J2 := J) (hRW1.ofR (fun a ha h => fin45 a ha (by omega) (by omega)) (fun i hi => ?_) hadd) (fun a k ha hb' hs => ?_) (fun _ _ => rfl)
      · exact ⟨hfin.1, by rw [hfin.2.1, c1 1060 (by decide) (by decide), hq 1060 (by decide)], by rw [hfin.2.2, c1 1061 (by decide) (by decide), hq 1061 (by decide)]⟩
      · by_cases h8 : i = 8
        · rw [h8, mset_n (by decide), k2 8 (by omega), m8, ← hS1, sset_at]
        · rw [fS i hi.1 h8 (by omega), sn i h8]
      · rw [mset_o hb', ec a hb']
        exact scr56 r3 (fun a ha => (c1 a (by omega) (by omega)).trans (hq a (by omega))) ha hs
end SM
