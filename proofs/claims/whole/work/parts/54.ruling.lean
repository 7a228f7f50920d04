/-! which clause rules: in the class -/
theorem lastH_no {V : Int → Int} {w : Int} : ∀ (cl : List (Int × Int × List Int)) (i : Int) (r : Option (Int × Int × Int × List Int)), (∀ c : Nat, ∀ e, cl[c]? = some e → hitsE V w e = false) → lastH V w cl i r = r
  | [], i, r, h => rfl
  | e :: es, i, r, h => by
    unfold lastH
    rw [h 0 e rfl]
    exact lastH_no es (i + 1) r (fun c e' hc => h (c + 1) e' hc)
theorem lastH_at {V : Int → Int} {w : Int} {x : Int × Int × List Int} (hx : hitsE V w x = true) : ∀ (cl : List (Int × Int × List Int)) (c : Nat) (i : Int) (r : Option (Int × Int × Int × List Int)), cl[c]? = some x → (∀ c' : Nat, c < c' → ∀ e, cl[c']? = some e → hitsE V w e = false) → lastH V w cl i r = some (i + (c : Int), x)
  | [], c, i, r, hc, h => by
    cases hc
  | e :: es, 0, i, r, hc, h => by
    obtain rfl : e = x := Option.some.inj hc
    unfold lastH
    rw [hx, lastH_no es (i + 1) _ (fun c e' hc' => h (c + 1) (by omega) e' hc')]
    rw [if_pos rfl, show i + ((0 : Nat) : Int) = i by omega]
  | e :: es, c + 1, i, r, hc, h => by
    unfold lastH
    rw [lastH_at hx es c (i + 1) _ hc (fun c' h' e' he => h (c' + 1) (by omega) e' he), show i + 1 + (c : Int) = i + ((c + 1 : Nat) : Int) by omega]
def hitF (S V : Int → Int) (w r : Int) : Option (Int × Int × Int × List Int) := lastH V w (pRule (bsOf S ((92 + (122 * r)) + 2)) (S ((92 + (122 * r)) + 1)) 8 0).2.2 0 none
def bestN (S V : Int → Int) (w on : Int) : Nat → Int
  | 0 => -1
  | m + 1 => if S (92 + (122 * (m : Int))) ≤ on ∧ hitF S V w m ≠ none ∧ (bestN S V w on m = -1 ∨ S (92 + (122 * bestN S V w on m)) ≤ S (92 + (122 * (m : Int)))) then (m : Int) else bestN S V w on m
theorem bestN_ch {S V : Int → Int} {w on : Int} : ∀ m : Nat, (bestN S V w on m = -1 ∧ ∀ r : Int, 0 ≤ r → r < m → S (92 + (122 * r)) ≤ on → hitF S V w r = none) ∨ (0 ≤ bestN S V w on m ∧ bestN S V w on m < m ∧ S (92 + (122 * bestN S V w on m)) ≤ on ∧ hitF S V w (bestN S V w on m) ≠ none ∧ ∀ r : Int, 0 ≤ r → r < m → S (92 + (122 * r)) ≤ on → hitF S V w r ≠ none → S (92 + (122 * r)) < S (92 + (122 * bestN S V w on m)) ∨ (S (92 + (122 * r)) = S (92 + (122 * bestN S V w on m)) ∧ r ≤ bestN S V w on m))
  | 0 => Or.inl ⟨rfl, fun r h0 h1 => by omega⟩
  | m + 1 => by
    have ih := bestN_ch (S := S) (V := V) (w := w) (on := on) m
    unfold bestN
    by_cases hc : S (92 + (122 * (m : Int))) ≤ on ∧ hitF S V w m ≠ none ∧ (bestN S V w on m = -1 ∨ S (92 + (122 * bestN S V w on m)) ≤ S (92 + (122 * (m : Int))))
    · rw [if_pos hc]
      refine Or.inr ⟨by omega, by omega, hc.1, hc.2.1, fun r h0 h1 h2 h3 => ?_⟩
      by_cases hr : r = m
      · subst hr
        exact Or.inr ⟨rfl, Int.le_refl _⟩
      · rcases ih with ⟨i1, i2⟩ | ⟨i1, i2, i3, i4, i5⟩
        · exact absurd (i2 r h0 (by omega) h2) h3
        · have := i5 r h0 (by omega) h2 h3
          rcases hc.2.2 with h | h
          · omega
          · omega
    · rw [if_neg hc]
      rcases ih with ⟨i1, i2⟩ | ⟨i1, i2, i3, i4, i5⟩
      · refine Or.inl ⟨i1, fun r h0 h1 h2 => ?_⟩
        by_cases hr : r = m
        · subst hr
          cases hh : hitF S V w m with
          | none => rfl
          | some x => exact absurd ⟨h2, by rw [hh]; exact (fun q => by cases q), Or.inl i1⟩ hc
        · exact i2 r h0 (by omega) h2
      · refine Or.inr ⟨i1, by omega, i3, i4, fun r h0 h1 h2 h3 => ?_⟩
        by_cases hr : r = m
        · subst hr
          have : ¬ S (92 + (122 * bestN S V w on m)) ≤ S (92 + (122 * (m : Int))) := fun q => hc ⟨h2, h3, Or.inr q⟩
          omega
        · exact i5 r h0 (by omega) h2 h3
def rulC (S V : Int → Int) (w o : Int) : Int := if o = -1 then -1 else match hitF S V w o with
  | none => -1
  | some (i, _) => 8 * o + i
def plainF (w : Int) : Int := if w = 0 then 50 else if w = 1 then 10 else if w = 2 then 2 else if w = 3 then 5 else if w = 4 then 2 else if w = 5 then 0 else 40
def ruleF (S V : Int → Int) (w on : Int) : Int := if bestN S V w on (S 1).toNat = -1 then plainF w else match hitF S V w (bestN S V w on (S 1).toNat) with
  | none => 0
  | some (_, e) => valE V w e
section RL
variable {d : Nat} {b : Bool} {G : aG} {I J : aI} {Q : Option aV → aG → aI → aI → Prop} {S V : Int → Int} {w on : Int}
/-- what the class holds of a rule -/
def RC (A : aI) (S : Int → Int) (r : Int) (cl : List (Int × Int × List Int)) : Prop := (pRule (bsOf S ((92 + (122 * r)) + 2)) (S ((92 + (122 * r)) + 1)) 8 0) = (false, S ((92 + (122 * r)) + 1), cl) ∧ A 15 r = cl.length ∧ cl.length ≤ 8 ∧ (∀ c : Nat, ∀ e : Int × Int × List Int, cl[c]? = some e → A 16 ((8 * r) + c) = e.1 ∧ A 13 ((8 * r) + c) = e.2.1 ∧ 120 * r ≤ A 17 ((8 * r) + c) ∧ A 18 ((8 * r) + c) = A 17 ((8 * r) + c) + (e.2.2.length : Int) ∧ A 18 ((8 * r) + c) ≤ 120 * r + 120 ∧ ∀ j : Nat, ∀ x : Int, e.2.2[j]? = some x → A 11 (A 17 ((8 * r) + c) + j) = x) ∧ ∀ V, ∀ e ∈ cl, Ecl V e
theorem RelR.rc {A : aI} {r : Int} (h : RelR A S) (h0 : 0 ≤ r) (h1 : r < S 1) : ∃ cl, RC A S r cl := by
  obtain ⟨_, _, _, _, cl, q1, q2, q3⟩ := h.2 r h0 h1
  have := fun V => pRule_ok (V := V) (bs := bsOf S ((92 + (122 * r)) + 2)) (n := S ((92 + (122 * r)) + 1)) 8 0 (by rw [q1])
  rw [q1] at this
  exact ⟨cl, q1, q2, (this (fun _ => 0)).2, q3, fun V => (this V).1⟩
theorem RC.hit {A : aI} {r : Int} {cl : List (Int × Int × List Int)} (h : RC A S r cl) : hitF S V w r = lastH V w cl 0 none := by
  unfold hitF
  rw [h.1]
theorem RC.true {A : aI} {r : Int} {cl : List (Int × Int × List Int)} {c : Nat} {e : Int × Int × List Int} (h : RC I S r cl) (hr : 0 ≤ r ∧ r ≤ 10) (hc : cl[c]? = some e) (he : e.1 = 0 ∨ e.1 = 5) (hG : GW b G) (hV : ∀ j, 0 ≤ j → j ≤ 5 → I 19 j = V j) (k : Q (some (vI (if evT V e.2.2 = true then 1 else 0))) G I J) : At (d + 1) 71 0 [some (vR 9), some (vI ((8 * r) + c)), none, none, none] [] G I J Q := by
  obtain ⟨h1, h2, h3, h4, h5⟩ := h
  obtain ⟨g1, g2, g3, g4, g5, g6⟩ := h4 c e hc
  have hl : c < cl.length := (List.getElem?_eq_some_iff.1 hc).1
  have h6 := h5 V e (List.mem_of_getElem? hc)
  exact sp_isTrue hG hV (by omega) (h6.2.2 he).1 (by omega) g4 (by omega) (h6.2.2 he).2 g6 k
theorem lp_rcl {r x3 x4 : Int} {cl : List (Int × Int × List Int)} (hG : GW b G) (hr : 0 ≤ r ∧ r ≤ 10) (hR : RC I S r cl) (hV : (w = 0 ∨ w = 5) → ∀ j, 0 ≤ j → j ≤ 5 → I 19 j = V j)
    (kn : hitF S V w r = none → ∀ x6, At (d + 2) 70 122 [some (vR 9), some (vI w), some (vI on), some (vI x3), some (vI x4), some (vI r), some (vI x6)] [] G I J Q)
    (ky : ∀ i e, hitF S V w r = some (i, e) → 0 ≤ i → i < 8 → ∀ x6, At (d + 2) 70 8 [some (vR 9), some (vI w), some (vI on), some (vI (8 * r + i)), some (vI (I 14 r)), some (vI (r + 1)), some (vI x6)] [] G I J Q) : ∀ (j : Nat) (x6 : Int), j ≤ cl.length → x6 = 8 * r + (j : Int) - 1 → (∀ c : Nat, j ≤ c → ∀ e, cl[c]? = some e → hitsE V w e = false) → At (d + 2) 70 67 [some (vR 9), some (vI w), some (vI on), some (vI x3), some (vI x4), some (vI r), some (vI x6)] [] G I J Q
  | 0, x6, hj, hx, hno => by
    refine b_X7_ruling_67 hG (by unfold ok32; omega) (fun _ => kn ?_ x6) (fun q => ?_)
    · rw [hR.hit]
      exact lastH_no cl 0 none (fun c e hc => hno c (by omega) e hc)
    · omega
  | j + 1, x6, hj, hx, hno => by
    have h8 := hR.2.2.1
    have hjl : j < cl.length := by omega
    obtain ⟨e, he⟩ : ∃ e, cl[j]? = some e := ⟨cl[j], List.getElem?_eq_getElem hjl⟩
    obtain ⟨g1, g2, g3, g4, g5, g6⟩ := hR.2.2.2.1 j e he
    obtain rfl : x6 = 8 * r + (j : Int) := by omega
    have nx : hitsE V w e = false → At (d + 2) 70 116 [some (vR 9), some (vI w), some (vI on), some (vI x3), some (vI x4), some (vI r), some (vI (8 * r + (j : Int)))] [] G I J Q := by
      intro hf
      refine b_X7_ruling_116 hG (by unfold ok32; omega) (lp_rcl hG hr hR hV kn ky j _ (by omega) (by omega) (fun c hc e' he' => ?_))
      by_cases hcj : c = j
      · subst hcj
        rw [he] at he'
        cases he'
        exact hf
      · exact hno c (by omega) e' he'
    have fd : hitsE V w e = true → At (d + 2) 70 101 [some (vR 9), some (vI w), some (vI on), some (vI x3), some (vI x4), some (vI r), some (vI (8 * r + (j : Int)))] [] G I J Q := by
      intro hf
      have hh : hitF S V w r = some ((j : Int), e) := by
        rw [hR.hit, lastH_at hf cl j 0 none he (fun c' hc' e' he' => hno c' (by omega) e' he'), Int.zero_add]
      exact b_X7_ruling_101 hG (by omega) (by omega) (by unfold ok32; omega) (ky _ _ hh (by omega) (by omega) _)
    refine b_X7_ruling_67 hG (by unfold ok32; omega) (fun q => ?_) (fun _ => b_X7_ruling_77 hG (by omega) (by omega) (fun q => nx ?_) (fun q => b_X7_ruling_88 hG (fun q0 => fd ?_) (fun q0 => b_X7_ruling_92 hG (hR.true (A := I) hr he (Or.inl (by omega)) hG (hV (Or.inl q0)) (b_X7_ruling_98 hG (fun q2 => nx ?_) (fun q2 => fd ?_))))))
    · omega
    · unfold hitsE
      rw [decide_eq_false (by omega)]
      rfl
    · unfold hitsE
      rw [decide_eq_true (by omega), decide_eq_false q0]
      rfl
    · unfold hitsE
      cases hv : evT V e.2.2
      · rw [decide_eq_true q0]
        simp
      · rw [hv] at q2
        cases q2
    · unfold hitsE
      cases hv : evT V e.2.2
      · rw [hv] at q2
        exact absurd rfl q2
      · rw [decide_eq_true (by omega)]
        simp
theorem lp_rul (hG : GW b G) (hR : RelR I S) (hV : (w = 0 ∨ w = 5) → ∀ j, 0 ≤ j → j ≤ 5 → I 19 j = V j) (k : Q (some (vI (rulC S V w (bestN S V w on (S 1).toNat)))) G I J) : ∀ (f m : Nat) (x4 : Int) (u6 : Option aV), (m : Int) + f = S 1 → x4 = (if bestN S V w on m = -1 then -1 else S (92 + (122 * bestN S V w on m))) → At (d + 2) 70 8 [some (vR 9), some (vI w), some (vI on), some (vI (rulC S V w (bestN S V w on m))), some (vI x4), some (vI (m : Int)), u6] [] G I J Q
  | 0, m, x4, u6, hm, hx => by
    have h9 := hR.1
    refine b_X7_ruling_8 hG (fun _ => b_X7_ruling_128 hG ?_) (fun q => ?_)
    · rw [show (S 1).toNat = m by omega] at k
      exact k
    · omega
  | f + 1, m, x4, u6, hm, hx => by
    have h9 := hR.1
    have hch := bestN_ch (S := S) (V := V) (w := w) (on := on) m
    obtain ⟨g1, g2, g3, g4, g5⟩ := hR.2 (m : Int) (by omega) (by omega)
    obtain ⟨cl, hC⟩ := hR.rc (r := (m : Int)) (by omega) (by omega)
    have stay : bestN S V w on (m + 1) = bestN S V w on m → ∀ u6, At (d + 2) 70 8 [some (vR 9), some (vI w), some (vI on), some (vI (rulC S V w (bestN S V w on m))), some (vI x4), some (vI ((m : Int) + 1)), u6] [] G I J Q := by
      intro he u6
      have := lp_rul hG hR hV k f (m + 1) x4 u6 (by omega) (by rw [he]; exact hx)
      rw [he] at this
      exact this
    have hbd : bestN S V w on m = -1 ∨ (0 ≤ bestN S V w on m ∧ bestN S V w on m < m) := by
      rcases hch with ⟨i1, _⟩ | ⟨i1, i2, _⟩
      · exact Or.inl i1
      · exact Or.inr ⟨i1, i2⟩
    refine b_X7_ruling_8 hG (fun q => ?_) (fun _ => b_X7_ruling_17 hG (fun q => ?_) (fun _ => b_X7_ruling_24 hG (by omega) (by omega) (fun q => b_X7_ruling_122 hG (by unfold ok32; omega) (stay ?_ _)) (fun q1 => b_X7_ruling_35 hG (by omega) (by omega) (fun q2 => ?_) (fun q2 => b_X7_ruling_47 hG (by unfold ok32; omega) (stay ?_ _)))))
    · omega
    · omega
    · show (if _ then _ else _) = _
      rw [if_neg (fun hh => by omega)]
    · have hcond : bestN S V w on m = -1 ∨ S (92 + (122 * bestN S V w on m)) ≤ S (92 + (122 * (m : Int))) := by
        by_cases hb : bestN S V w on m = -1
        · exact Or.inl hb
        · rw [if_neg hb] at hx
          exact Or.inr (by omega)
      have h8 := hC.2.2.1
      refine b_X7_ruling_50 hG (by unfold ok32; omega) (by omega) (by omega) (by rw [hC.2.1]; unfold ok32; omega) (by rw [hC.2.1]; unfold ok32; omega) (lp_rcl (V := V) hG (by omega) hC hV (fun hn x6 => b_X7_ruling_122 hG (by unfold ok32; omega) (stay ?_ _)) (fun i e hh i0 i1 x6 => ?_) cl.length _ (Nat.le_refl _) (by rw [hC.2.1]; omega) (fun c hc e he => ?_))
      · show (if _ then _ else _) = _
        rw [if_neg (fun hh => hh.2.1 hn)]
      · have he : bestN S V w on (m + 1) = m := by
          show (if _ then _ else _) = _
          rw [if_pos ⟨by omega, by rw [hh]; exact (fun q => by cases q), hcond⟩]
        have := lp_rul hG hR hV k f (m + 1) (I 14 m) (some (vI x6)) (by omega) (by rw [he, if_neg (by omega), g1])
        rw [he] at this
        unfold rulC at this
        rw [if_neg (by omega), hh] at this
        exact this
      · rw [List.getElem?_eq_none hc] at he
        cases he
    · show (if _ then _ else _) = _
      rw [if_neg (fun hh => ?_)]
      by_cases hb : bestN S V w on m = -1
      · rw [if_pos hb] at hx
        omega
      · rw [if_neg hb] at hx
        have := hh.2.2.resolve_left hb
        omega
theorem sp_ruling (hG : GW b G) (hR : RelR I S) (hV : (w = 0 ∨ w = 5) → ∀ j, 0 ≤ j → j ≤ 5 → I 19 j = V j) (k : Q (some (vI (rulC S V w (bestN S V w on (S 1).toNat)))) G I J) : At (d + 2) 70 0 [some (vR 9), some (vI w), some (vI on), none, none, none, none] [] G I J Q :=
  b_X7_ruling_0 hG (lp_rul hG hR hV k (S 1).toNat 0 (-1) none (by have := hR.1; omega) rfl)
/-- what a clause that rules is -/
theorem rul_ch (hR : RelR I S) : (bestN S V w on (S 1).toNat = -1 ∧ rulC S V w (bestN S V w on (S 1).toNat) = -1 ∧ ruleF S V w on = plainF w) ∨ (∃ r i : Int, ∃ cl : List (Int × Int × List Int), ∃ e : Int × Int × List Int, bestN S V w on (S 1).toNat = r ∧ (0 ≤ r ∧ r < S 1) ∧ (0 ≤ i ∧ i < 8) ∧ hitF S V w r = some (i, e) ∧ rulC S V w r = 8 * r + i ∧ RC I S r cl ∧ cl[i.toNat]? = some e ∧ e.1 = w ∧ ruleF S V w on = valE V w e) := by
  have h9 := hR.1
  rcases bestN_ch (S := S) (V := V) (w := w) (on := on) (S 1).toNat with ⟨i1, i2⟩ | ⟨i1, i2, i3, i4, i5⟩
  · refine Or.inl ⟨i1, ?_, ?_⟩
    · unfold rulC
      rw [if_pos i1]
    · unfold ruleF
      rw [if_pos i1]
  · obtain ⟨cl, hC⟩ := hR.rc (r := bestN S V w on (S 1).toNat) i1 (by omega)
    have hl : ∀ (cl : List (Int × Int × List Int)) (j : Int) (z : Option (Int × Int × Int × List Int)), lastH V w cl j z = z ∨ ∃ (c : Nat) (e : Int × Int × List Int), cl[c]? = some e ∧ hitsE V w e = true ∧ lastH V w cl j z = some (j + (c : Int), e) := by
      intro cl
      induction cl with
      | nil => exact fun j z => Or.inl rfl
      | cons e es ih =>
        intro j z
        show lastH V w es (j + 1) (if hitsE V w e = true then some (j, e) else z) = z ∨ _
        cases hh : hitsE V w e
        · rcases ih (j + 1) z with h | ⟨c, x, h1, h2, h3⟩
          · exact Or.inl h
          · exact Or.inr ⟨c + 1, x, h1, h2, by
              show lastH V w es (j + 1) (if hitsE V w e = true then some (j, e) else z) = _
              rw [hh, if_neg (by simp), h3, show j + 1 + (c : Int) = j + ((c + 1 : Nat) : Int) by omega]⟩
        · rcases ih (j + 1) (some (j, e)) with h | ⟨c, x, h1, h2, h3⟩
          · exact Or.inr ⟨0, e, rfl, hh, by
              show lastH V w es (j + 1) (if hitsE V w e = true then some (j, e) else z) = _
              rw [hh, if_pos rfl, h, show j + ((0 : Nat) : Int) = j by omega]⟩
          · exact Or.inr ⟨c + 1, x, h1, h2, by
              show lastH V w es (j + 1) (if hitsE V w e = true then some (j, e) else z) = _
              rw [hh, if_pos rfl, h3, show j + 1 + (c : Int) = j + ((c + 1 : Nat) : Int) by omega]⟩
    rcases hl cl 0 none with h | ⟨c, e, h1, h2, h3⟩
    · rw [hC.hit] at i4
      exact absurd h i4
    · have hh : hitF S V w (bestN S V w on (S 1).toNat) = some ((c : Int), e) := by
        rw [hC.hit, h3, Int.zero_add]
      have hcl : c < cl.length := (List.getElem?_eq_some_iff.1 h1).1
      have h8 := hC.2.2.1
      refine Or.inr ⟨_, (c : Int), cl, e, rfl, ⟨i1, by omega⟩, ⟨by omega, by omega⟩, hh, ?_, hC, by rw [Int.toNat_natCast]; exact h1, ?_, ?_⟩
      · unfold rulC
        rw [if_neg (by omega), hh]
      · unfold hitsE at h2
        rw [Bool.and_eq_true] at h2
        exact of_decide_eq_true h2.1
      · unfold ruleF
        rw [if_neg (by omega), hh]
end RL
