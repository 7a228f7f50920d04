/-! a tape as a rule more, also after ten -/
def RelR1 (A : aI) (S : Int → Int) : Prop := (0 ≤ S 1 ∧ S 1 ≤ 11 ∧ A 9 0 = S 1) ∧
  (∀ r, 0 ≤ r → r < S 1 → A 14 r = S (92 + (122 * r)) ∧ (0 ≤ S (92 + (122 * r)) ∧ S (92 + (122 * r)) ≤ 400) ∧ (0 ≤ S ((92 + (122 * r)) + 1) ∧ S ((92 + (122 * r)) + 1) ≤ 120) ∧ (∀ j, 0 ≤ j → j < S ((92 + (122 * r)) + 1) → 0 ≤ S (((92 + (122 * r)) + 2) + j) ∧ S (((92 + (122 * r)) + 2) + j) ≤ 255) ∧ RuleOk A r (bsOf S ((92 + (122 * r)) + 2)) (S ((92 + (122 * r)) + 1)))
theorem RelR1.fr {A A' : aI} {S S' : Int → Int} (h : RelR1 A S) (h0 : A' 9 0 = A 9 0) (h1 : A' 11 = A 11) (h3 : A' 13 = A 13) (h4 : A' 14 = A 14) (h5 : A' 15 = A 15) (h6 : A' 16 = A 16) (h7 : A' 17 = A 17) (h8 : A' 18 = A 18) (hS : ∀ i, i = 1 ∨ (92 ≤ i ∧ i < 1434) → S' i = S i) : RelR1 A' S' := by
  obtain ⟨⟨a1, a2, a3⟩, b⟩ := h
  unfold RelR1 RuleOk
  rw [hS 1 (by omega), h0, h1, h3, h4, h5, h6, h7, h8]
  refine ⟨⟨a1, a2, a3⟩, fun r r0 r1 => ?_⟩
  obtain ⟨e1, e2, e3, e4, e5⟩ := b r r0 r1
  rw [hS (92 + (122 * r)) (by omega), hS ((92 + (122 * r)) + 1) (by omega), bsOf_fr (S := S) (fun i i0 i1 => hS i (by omega))]
  refine ⟨e1, e2, e3, fun j j0 j1 => ?_, e5⟩
  rw [hS _ (by omega)]
  exact e4 j j0 j1
theorem RelR1.add {A A' : aI} {S S' : Int → Int} {day n : Int} {bs : Int → Int} {cl : List (Int × Int × List Int)} (h : RelR A S) (hd : 0 ≤ day ∧ day ≤ 400) (hnn : 0 ≤ n ∧ n ≤ 120) (hcl : ClOk A (S 1) cl) (hp : pRule bs n 8 0 = (false, n, cl)) (hbs : ∀ k, 0 ≤ k → k < n → bs k = S' ((92 + (122 * S 1)) + 2 + k)) (hby : ∀ k, 0 ≤ k → k < n → 0 ≤ S' ((92 + (122 * S 1)) + 2 + k) ∧ S' ((92 + (122 * S 1)) + 2 + k) ≤ 255)
    (hc : ∀ a : Nat, a < 45 → a ≠ 9 → a ≠ 14 → A' a = A a) (h9 : A' 9 0 = S 1 + 1) (h14 : A' 14 = sset (A 14) (S 1) day) (t1 : S' 1 = S 1 + 1) (e0 : S' (92 + (122 * S 1)) = day) (e1 : S' ((92 + (122 * S 1)) + 1) = n) (hs : ∀ i, i ≠ 1 → (i < 92 + 122 * S 1 ∨ 92 + 122 * S 1 + 122 ≤ i) → 92 ≤ i → i < 1434 → S' i = S i) : RelR1 A' S' := by
  obtain ⟨⟨a1, a2, a3⟩, p⟩ := h
  unfold RelR1
  rw [t1, h9]
  refine ⟨⟨by omega, by omega, rfl⟩, fun r r0 r1 => ?_⟩
  have ro : ∀ bs n r, RuleOk A r bs n → RuleOk A' r bs n := fun bs n r h => by
    unfold RuleOk at h ⊢
    rw [hc 11 (by decide) (by decide) (by decide), hc 13 (by decide) (by decide) (by decide), hc 15 (by decide) (by decide) (by decide), hc 16 (by decide) (by decide) (by decide), hc 17 (by decide) (by decide) (by decide), hc 18 (by decide) (by decide) (by decide)]
    exact h
  by_cases hr : r = S 1
  · subst hr
    rw [h14, sset_at, e0, e1]
    refine ⟨rfl, hd, hnn, hby, ro _ _ _ ⟨cl, ?_, hcl.1, hcl.2⟩⟩
    rw [← hp]
    refine (pRule_c (byt_eq fun k k0 k1 => ?_) 8 0).symm
    unfold bsOf
    rw [if_pos (by omega)]
    exact hbs k k0 k1
  · obtain ⟨g1, g2, g3, g4, g5⟩ := p r r0 (by omega)
    rw [h14, sset_n hr, hs (92 + (122 * r)) (by omega) (by omega) (by omega) (by omega), hs ((92 + (122 * r)) + 1) (by omega) (by omega) (by omega) (by omega), bsOf_fr (S := S) (fun i i0 i1 => hs i (by omega) (by omega) (by omega) (by omega))]
    refine ⟨g1, g2, g3, fun j j0 j1 => ?_, ro _ _ _ g5⟩
    rw [hs _ (by omega) (by omega) (by omega) (by omega)]
    exact g4 j j0 j1
section RL
variable {d : Nat} {b : Bool} {G : aG} {I J : aI} {Q : Option aV → aG → aI → aI → Prop} {S V : Int → Int} {w on : Int}
theorem RelR1.kp {A A' : aI} {S : Int → Int} (h : RelR1 A S) (hK : Kp A A') : RelR1 A' S :=
  h.fr (congrFun (hK.c (sc 9 (by decide))) 0) (hK.c (sc 11 (by decide))) (hK.c (sc 13 (by decide))) (hK.c (sc 14 (by decide))) (hK.c (sc 15 (by decide))) (hK.c (sc 16 (by decide))) (hK.c (sc 17 (by decide))) (hK.c (sc 18 (by decide))) (fun _ _ => rfl)
theorem RelR1.rc {A : aI} {r : Int} (h : RelR1 A S) (h0 : 0 ≤ r) (h1 : r < S 1) : ∃ cl, RC A S r cl := by
  obtain ⟨_, _, _, _, cl, q1, q2, q3⟩ := h.2 r h0 h1
  have := fun V => pRule_ok (V := V) (bs := bsOf S ((92 + (122 * r)) + 2)) (n := S ((92 + (122 * r)) + 1)) 8 0 (by rw [q1])
  rw [q1] at this
  exact ⟨cl, q1, q2, (this (fun _ => 0)).2, q3, fun V => (this V).1⟩
theorem lp_rul1 (hG : GW b G) (hR : RelR1 I S) (hV : (w = 0 ∨ w = 5) → ∀ j, 0 ≤ j → j ≤ 5 → I 19 j = V j) (k : Q (some (vI (rulC S V w (bestN S V w on (S 1).toNat)))) G I J) : ∀ (f m : Nat) (x4 : Int) (u6 : Option aV), (m : Int) + f = S 1 → x4 = (if bestN S V w on m = -1 then -1 else S (92 + (122 * bestN S V w on m))) → At (d + 2) 70 8 [some (vR 9), some (vI w), some (vI on), some (vI (rulC S V w (bestN S V w on m))), some (vI x4), some (vI (m : Int)), u6] [] G I J Q
  | 0, m, x4, u6, hm, hx => by
    have h9 := hR.1
    refine b_X7_ruling_8 hG (fun _ => b_X7_ruling_128 hG ?_) (fun q => ?_)
    · rw [show (S 1).toNat = m by omega] at k
      exact k
    · omega
  | f + 1, m, x4, u6, hm, hx => by
    have h9 := hR.1
    have hch := bestN_ch (S := S) (V := V) (w := w) (on := on) m
    obtain ⟨g1, g2, g3, g4, g5⟩ := hR.2 (m : Int) (by omega) (by omega)
    obtain ⟨cl, hC⟩ := hR.rc (r := (m : Int)) (by omega) (by omega)
    have stay : bestN S V w on (m + 1) = bestN S V w on m → ∀ u6, At (d + 2) 70 8 [some (vR 9), some (vI w), some (vI on), some (vI (rulC S V w (bestN S V w on m))), some (vI x4), some (vI ((m : Int) + 1)), u6] [] G I J Q := by
      intro he u6
      have := lp_rul1 hG hR hV k f (m + 1) x4 u6 (by omega) (by rw [he]; exact hx)
      rw [he] at this
      exact this
    have hbd : bestN S V w on m = -1 ∨ (0 ≤ bestN S V w on m ∧ bestN S V w on m < m) := by
      rcases hch with ⟨i1, _⟩ | ⟨i1, i2, _⟩
      · exact Or.inl i1
      · exact Or.inr ⟨i1, i2⟩
    refine b_X7_ruling_8 hG (fun q => ?_) (fun _ => b_X7_ruling_17 hG (fun q => ?_) (fun _ => b_X7_ruling_24 hG (by omega) (by omega) (fun q => b_X7_ruling_122 hG (by unfold ok32; omega) (stay ?_ _)) (fun q1 => b_X7_ruling_35 hG (by omega) (by omega) (fun q2 => ?_) (fun q2 => b_X7_ruling_47 hG (by unfold ok32; omega) (stay ?_ _)))))
    · omega
    · omega
    · show (if _ then _ else _) = _
      rw [if_neg (fun hh => by omega)]
    · have hcond : bestN S V w on m = -1 ∨ S (92 + (122 * bestN S V w on m)) ≤ S (92 + (122 * (m : Int))) := by
        by_cases hb : bestN S V w on m = -1
        · exact Or.inl hb
        · rw [if_neg hb] at hx
          exact Or.inr (by omega)
      have h8 := hC.2.2.1
      refine b_X7_ruling_50 hG (by unfold ok32; omega) (by omega) (by omega) (by rw [hC.2.1]; unfold ok32; omega) (by rw [hC.2.1]; unfold ok32; omega) (lp_rcl (V := V) hG (by omega) hC hV (fun hn x6 => b_X7_ruling_122 hG (by unfold ok32; omega) (stay ?_ _)) (fun i e hh i0 i1 x6 => ?_) cl.length _ (Nat.le_refl _) (by rw [hC.2.1]; omega) (fun c hc e he => ?_))
      · show (if _ then _ else _) = _
        rw [if_neg (fun hh => hh.2.1 hn)]
      · have he : bestN S V w on (m + 1) = m := by
          show (if _ then _ else _) = _
          rw [if_pos ⟨by omega, by rw [hh]; exact (fun q => by cases q), hcond⟩]
        have := lp_rul1 hG hR hV k f (m + 1) (I 14 m) (some (vI x6)) (by omega) (by rw [he, if_neg (by omega), g1])
        rw [he] at this
        unfold rulC at this
        rw [if_neg (by omega), hh] at this
        exact this
      · rw [List.getElem?_eq_none hc] at he
        cases he
    · show (if _ then _ else _) = _
      rw [if_neg (fun hh => ?_)]
      by_cases hb : bestN S V w on m = -1
      · rw [if_pos hb] at hx
        omega
      · rw [if_neg hb] at hx
        have := hh.2.2.resolve_left hb
        omega
theorem sp_ruling1 (hG : GW b G) (hR : RelR1 I S) (hV : (w = 0 ∨ w = 5) → ∀ j, 0 ≤ j → j ≤ 5 → I 19 j = V j) (k : Q (some (vI (rulC S V w (bestN S V w on (S 1).toNat)))) G I J) : At (d + 2) 70 0 [some (vR 9), some (vI w), some (vI on), none, none, none, none] [] G I J Q :=
  b_X7_ruling_0 hG (lp_rul1 hG hR hV k (S 1).toNat 0 (-1) none (by have := hR.1; omega) rfl)
theorem rul_ch1 (hR : RelR1 I S) : (bestN S V w on (S 1).toNat = -1 ∧ rulC S V w (bestN S V w on (S 1).toNat) = -1 ∧ ruleF S V w on = plainF w) ∨ (∃ r i : Int, ∃ cl : List (Int × Int × List Int), ∃ e : Int × Int × List Int, bestN S V w on (S 1).toNat = r ∧ (0 ≤ r ∧ r < S 1) ∧ (0 ≤ i ∧ i < 8) ∧ hitF S V w r = some (i, e) ∧ rulC S V w r = 8 * r + i ∧ RC I S r cl ∧ cl[i.toNat]? = some e ∧ e.1 = w ∧ ruleF S V w on = valE V w e) := by
  have h9 := hR.1
  rcases bestN_ch (S := S) (V := V) (w := w) (on := on) (S 1).toNat with ⟨i1, i2⟩ | ⟨i1, i2, i3, i4, i5⟩
  · refine Or.inl ⟨i1, ?_, ?_⟩
    · unfold rulC
      rw [if_pos i1]
    · unfold ruleF
      rw [if_pos i1]
  · obtain ⟨cl, hC⟩ := hR.rc (r := bestN S V w on (S 1).toNat) i1 (by omega)
    have hl : ∀ (cl : List (Int × Int × List Int)) (j : Int) (z : Option (Int × Int × Int × List Int)), lastH V w cl j z = z ∨ ∃ (c : Nat) (e : Int × Int × List Int), cl[c]? = some e ∧ hitsE V w e = true ∧ lastH V w cl j z = some (j + (c : Int), e) := by
      intro cl
      induction cl with
      | nil => exact fun j z => Or.inl rfl
      | cons e es ih =>
        intro j z
        show lastH V w es (j + 1) (if hitsE V w e = true then some (j, e) else z) = z ∨ _
        cases hh : hitsE V w e
        · rcases ih (j + 1) z with h | ⟨c, x, h1, h2, h3⟩
          · exact Or.inl h
          · exact Or.inr ⟨c + 1, x, h1, h2, by
              show lastH V w es (j + 1) (if hitsE V w e = true then some (j, e) else z) = _
              rw [hh, if_neg (by simp), h3, show j + 1 + (c : Int) = j + ((c + 1 : Nat) : Int) by omega]⟩
        · rcases ih (j + 1) (some (j, e)) with h | ⟨c, x, h1, h2, h3⟩
          · exact Or.inr ⟨0, e, rfl, hh, by
              show lastH V w es (j + 1) (if hitsE V w e = true then some (j, e) else z) = _
              rw [hh, if_pos rfl, h, show j + ((0 : Nat) : Int) = j by omega]⟩
          · exact Or.inr ⟨c + 1, x, h1, h2, by
              show lastH V w es (j + 1) (if hitsE V w e = true then some (j, e) else z) = _
              rw [hh, if_pos rfl, h3, show j + 1 + (c : Int) = j + ((c + 1 : Nat) : Int) by omega]⟩
    rcases hl cl 0 none with h | ⟨c, e, h1, h2, h3⟩
    · rw [hC.hit] at i4
      exact absurd h i4
    · have hh : hitF S V w (bestN S V w on (S 1).toNat) = some ((c : Int), e) := by
        rw [hC.hit, h3, Int.zero_add]
      have hcl : c < cl.length := (List.getElem?_eq_some_iff.1 h1).1
      have h8 := hC.2.2.1
      refine Or.inr ⟨_, (c : Int), cl, e, rfl, ⟨i1, by omega⟩, ⟨by omega, by omega⟩, hh, ?_, hC, by rw [Int.toNat_natCast]; exact h1, ?_, ?_⟩
      · unfold rulC
        rw [if_neg (by omega), hh]
      · unfold hitsE at h2
        rw [Bool.and_eq_true] at h2
        exact of_decide_eq_true h2.1
      · unfold ruleF
        rw [if_neg (by omega), hh]
theorem ruleF_b1 {A : aI} {S V : Int → Int} {w on : Int} (hw : 0 ≤ w ∧ w ≤ 6) (hR : RelR1 A S) : 0 ≤ ruleF S V w on ∧ ruleF S V w on ≤ 999 := by
  rcases rul_ch1 (V := V) (w := w) (on := on) hR with ⟨e1, e2, e3⟩ | ⟨r, i, cl, e, e1, e2, e3, e4, e5, e6, e7, e8, e9⟩
  · rw [e3]
    unfold plainF
    (repeat' split) <;> omega
  · rw [e9]
    have := (e6.2.2.2.2 V e (List.mem_of_getElem? e7)).2.1
    unfold valE
    split
    · split <;> omega
    · exact this
theorem sp_ruled1 {x cM : Int} (hG : GW b G) (hF : RelF I (I 57)) (hC : RelC I J (I 57)) (hR : RelR1 I S) (hw : 0 ≤ w ∧ w ≤ 6) (hc : (w = 0 ∨ w = 5) → (0 ≤ x ∧ x < I 57 2) ∧ cM = x) (k : ∀ I', Kp I I' → Q (some (vI (ruleF S (VM (I 57) cM) w on))) G I' J) : At (d + 3) 101 0 [some (vR 1), some (vI w), some (vI x), some (vI on), none] [] G I J Q := by
  refine b_X10_ruled_0 hG (sp_regard hG hF hC (fun I1 k1 hV1 => ?_))
  have hR1 : RelR1 I1 S := hR.kp k1
  have hV : (w = 0 ∨ w = 5) → ∀ j, 0 ≤ j → j ≤ 5 → I1 19 j = VM (I 57) cM j := fun q => by
    rw [(hc q).2]
    exact hV1 (hc q).1
  refine b_X10_ruled_5 hG (sp_ruling1 (d := d) hG hR1 hV ?_)
  rcases rul_ch1 (V := VM (I 57) cM) (w := w) (on := on) hR1 with ⟨e1, e2, e3⟩ | ⟨r, i, cl, e, e1, e2, e3, e4, e5, e6, e7, e8, e9⟩
  · have k2 := k I1 k1
    rw [e3] at k2
    rw [e2]
    refine b_X10_ruled_14 hG (fun q => absurd q (by decide)) (fun _ => b_X10_ruled_21 hG (b_X7_usual_0 hG (fun q => ?_) (fun _ => b_X7_usual_4 hG (fun q => ?_) (fun _ => b_X7_usual_10 hG hw.1 (by omega) (b_X10_ruled_25 hG ?_)))))
    · omega
    · omega
    · rw [KI1000 hw]
      exact k2
  · have k2 := k I1 k1
    rw [e9] at k2
    unfold valE at k2
    rw [e1, e5]
    have hr10 := hR1.1
    have h16 := e6.2.2.2.1 i.toNat e e7
    rw [show (i.toNat : Int) = i by omega] at h16
    refine b_X10_ruled_14 hG (fun _ => b_X10_ruled_26 hG (fun q5 => b_X10_ruled_49 hG (by omega) (by omega) ?_) (fun q5 => b_X10_ruled_31 hG ?_)) (fun q => ?_)
    · rw [if_neg q5] at k2
      rw [h16.2.1]
      exact k2
    · rw [if_pos q5] at k2
      have ht := e6.true (A := I1) (d := d + 1) (b := b) (G := G) (J := J) (V := VM (I 57) cM) (Q := fun v G' I' J' => At (d + 2 + 1) 101 40 [some (vR 1), some (vI w), some (vI x), some (vI on), some (vI (8 * r + i))] (v.toList ++ []) G' I' J' Q) (by omega) e7 (Or.inr (by omega)) hG (hV (Or.inr q5))
      rw [show (i.toNat : Int) = i by omega] at ht
      refine ht ?_
      cases hv : evT (VM (I 57) cM) e.2.2
      · rw [hv] at k2
        exact b_X10_ruled_40 hG (fun _ => b_X10_ruled_47 hG k2) (fun q => absurd rfl q)
      · rw [hv] at k2
        exact b_X10_ruled_40 hG (fun q => absurd q (by decide)) (fun _ => b_X10_ruled_43 hG k2)
    · omega
/-! the model asks its rules, the latest first -/
end RL
