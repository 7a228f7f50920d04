/-! the call tried -/
def tapeS (S : Int → Int) (n day : Int) : Int → Int := fun i => if i = 1 then S 1 + 1 else if i = 92 + (122 * S 1) then day else if i = (92 + (122 * S 1)) + 1 then n else if (92 + (122 * S 1)) + 2 ≤ i ∧ i < (92 + (122 * S 1)) + 122 then S (2336 + (i - ((92 + (122 * S 1)) + 2))) else S i
def ruleT (S : Int → Int) (n : Int) (V : Int → Int) (w day : Int) : Int := match lastH V w (pRule (fun k => S (2336 + k)) n 8 0).2.2 0 none with
  | none => ruleF S V w day
  | some (_, e) => valE V w e
theorem tapeS_1 {S : Int → Int} {n day : Int} : tapeS S n day 1 = S 1 + 1 := by
  unfold tapeS
  rw [if_pos rfl]
theorem tapeS_d {S : Int → Int} {n day : Int} (h : 0 ≤ S 1) : tapeS S n day (92 + (122 * S 1)) = day := by
  unfold tapeS
  rw [if_neg (by omega), if_pos rfl]
theorem tapeS_n {S : Int → Int} {n day : Int} (h : 0 ≤ S 1) : tapeS S n day ((92 + (122 * S 1)) + 1) = n := by
  unfold tapeS
  rw [if_neg (by omega), if_neg (by omega), if_pos rfl]
theorem tapeS_b {S : Int → Int} {n day k : Int} (h : 0 ≤ S 1) (h0 : 0 ≤ k) (h1 : k < 120) : tapeS S n day ((92 + (122 * S 1)) + 2 + k) = S (2336 + k) := by
  unfold tapeS
  rw [if_neg (by omega), if_neg (by omega), if_neg (by omega), if_pos (by omega), show (92 + (122 * S 1)) + 2 + k - ((92 + (122 * S 1)) + 2) = k by omega]
theorem tapeS_o {S : Int → Int} {n day i : Int} (h : i ≠ 1) (h1 : i < 92 + 122 * S 1 ∨ 92 + 122 * S 1 + 122 ≤ i) : tapeS S n day i = S i := by
  unfold tapeS
  rw [if_neg (by omega), if_neg (by omega), if_neg (by omega), if_neg (by omega)]
theorem hitT_o {S V : Int → Int} {w n day r : Int} (h0 : 0 ≤ r) (h1 : r < S 1) : hitF (tapeS S n day) V w r = hitF S V w r := by
  unfold hitF
  rw [tapeS_o (by omega) (by omega), bsOf_fr (S := S) (fun i i0 i1 => tapeS_o (by omega) (by omega))]
theorem hitT_n {S V : Int → Int} {w n day : Int} (h : 0 ≤ S 1) (hn : 0 ≤ n ∧ n ≤ 120) : hitF (tapeS S n day) V w (S 1) = lastH V w (pRule (fun k => S (2336 + k)) n 8 0).2.2 0 none := by
  unfold hitF
  rw [tapeS_n h]
  rw [pRule_c (bs := bsOf (tapeS S n day) ((92 + (122 * S 1)) + 2)) (bt := fun k => S (2336 + k)) (byt_eq fun k k0 k1 => ?_) 8 0]
  unfold bsOf
  rw [if_pos (by omega)]
  exact tapeS_b h k0 (by omega)
theorem bestT {S V : Int → Int} {w n day on : Int} : ∀ m : Nat, (m : Int) ≤ S 1 → bestN (tapeS S n day) V w on m = bestN S V w on m
  | 0, _ => rfl
  | m + 1, h => by
    have ih := bestT (S := S) (V := V) (w := w) (n := n) (day := day) (on := on) m (by omega)
    have hb := bestN_ch (S := S) (V := V) (w := w) (on := on) m
    unfold bestN
    rw [ih, hitT_o (by omega) (by omega), tapeS_o (i := 92 + (122 * (m : Int))) (by omega) (by omega)]
    by_cases hh : bestN S V w on m = -1
    · by_cases hc : S (92 + (122 * (m : Int))) ≤ on ∧ hitF S V w m ≠ none
      · rw [if_pos ⟨hc.1, hc.2, Or.inl hh⟩, if_pos ⟨hc.1, hc.2, Or.inl hh⟩]
      · rw [if_neg (fun q => hc ⟨q.1, q.2.1⟩), if_neg (fun q => hc ⟨q.1, q.2.1⟩)]
    · have : 0 ≤ bestN S V w on m ∧ bestN S V w on m < m := by
        rcases hb with ⟨i1, _⟩ | ⟨i1, i2, _⟩
        · exact absurd i1 hh
        · exact ⟨i1, i2⟩
      rw [tapeS_o (i := 92 + (122 * bestN S V w on m)) (by omega) (by omega)]
theorem ruleF_t {S V : Int → Int} {w n day : Int} (h : 0 ≤ S 1) (hn : 0 ≤ n ∧ n ≤ 120) : ruleF (tapeS S n day) V w day = ruleT S n V w day := by
  have hb := bestN_ch (S := S) (V := V) (w := w) (on := day) (S 1).toNat
  have hl := hitT_n (V := V) (w := w) (day := day) h hn
  have eM : bestN (tapeS S n day) V w day ((S 1).toNat + 1) = if tapeS S n day (92 + (122 * ((S 1).toNat : Int))) ≤ day ∧ hitF (tapeS S n day) V w ((S 1).toNat : Int) ≠ none ∧ (bestN (tapeS S n day) V w day (S 1).toNat = -1 ∨ tapeS S n day (92 + (122 * bestN (tapeS S n day) V w day (S 1).toNat)) ≤ tapeS S n day (92 + (122 * ((S 1).toNat : Int)))) then ((S 1).toNat : Int) else bestN (tapeS S n day) V w day (S 1).toNat := rfl
  rw [bestT (S 1).toNat (by omega), show ((S 1).toNat : Int) = S 1 by omega, tapeS_d h] at eM
  unfold ruleT
  rw [← hl]
  unfold ruleF
  rw [tapeS_1, show (S 1 + 1).toNat = (S 1).toNat + 1 by omega, eM]
  cases hh : hitF (tapeS S n day) V w (S 1) with
  | none =>
    rw [if_neg (show ¬ (day ≤ day ∧ none ≠ none ∧ _) from fun q => q.2.1 rfl)]
    by_cases hm : bestN S V w day (S 1).toNat = -1
    · rw [if_pos hm]
      show _ = (if bestN S V w day (S 1).toNat = -1 then plainF w else _)
      rw [if_pos hm]
    · rw [if_neg hm]
      show _ = (if bestN S V w day (S 1).toNat = -1 then plainF w else _)
      rw [if_neg hm]
      rcases hb with ⟨i1, _⟩ | ⟨i1, i2, _⟩
      · exact absurd i1 hm
      · rw [hitT_o i1 (by omega)]
  | some x =>
    have hc : bestN S V w day (S 1).toNat = -1 ∨ tapeS S n day (92 + (122 * bestN S V w day (S 1).toNat)) ≤ day := by
      rcases hb with ⟨i1, _⟩ | ⟨i1, i2, i3, _⟩
      · exact Or.inl i1
      · rw [tapeS_o (by omega) (by omega)]
        exact Or.inr i3
    rw [if_pos (show day ≤ day ∧ some x ≠ none ∧ _ from ⟨Int.le_refl _, by simp, hc⟩), if_neg (by omega), hh]
theorem RelF.kp {A A' : aI} {S : Int → Int} (h : RelF A S) (hK : Kp A A') : RelF A' S := h.fr (congrFun (hK.c (sc 2 (by decide))) 0) (hK.c (sc 3 (by decide))) (hK.c (sc 4 (by decide))) (hK.c (sc 5 (by decide))) (hK.c (sc 6 (by decide))) (hK.c (sc 7 (by decide))) (hK.c (sc 8 (by decide))) (fun _ _ => rfl) (Int.le_refl _)
theorem RelC.kp {A A' B : aI} {S : Int → Int} (h : RelC A B S) (hK : Kp A A') : RelC A' B S := h.fr (congrFun (hK.c (sc 2 (by decide))) 0) (hK.c (sc 3 (by decide))) (hK.c (sc 4 (by decide))) (congrFun (hK.c (sc 20 (by decide))) 0) (hK.c (sc 21 (by decide))) (hK.c (sc 22 (by decide))) (hK.c (sc 23 (by decide))) (hK.c (sc 24 (by decide))) rfl (hK.c (sc 26 (by decide))) (hK.c (sc 27 (by decide))) (hK.c (sc 28 (by decide))) (hK.c (sc 29 (by decide))) (hK.c (sc 30 (by decide))) (fun _ _ => rfl) (Int.le_refl _)
section SM
variable {d : Nat} {b : Bool} {G : aG} {I J : aI} {Q : Option aV → aG → aI → aI → Prop} {S : Int → Int} {day n : Int}
theorem sp_rank1 {x : Int} (hG : GW b G) (hF : RelF I (I 57)) (hC : RelC I J (I 57)) (hR : RelR1 I S) (x0 : 0 ≤ x) (x1 : x < I 57 2) (k : ∀ I', Kp I I' → Q (some (vI (shiftF (I 57) x (ruleF S (VM (I 57) x) 0 day)))) G I' J) : At (d + 4) 102 0 [some (vR 1), some (vI x), some (vI day), none, none] [] G I J Q := by
  obtain ⟨⟨g, e1, _⟩, _⟩ := cll hF hC x0 x1
  have rb := ruleF_b1 (V := VM (I 57) x) (w := 0) (on := day) (by decide) hR
  unfold shiftF at k
  rw [e1] at k
  refine b_X10_rankOn_0 hG (sp_ruled1 (d := d) (cM := x) hG hF hC hR (by decide) (fun _ => ⟨⟨x0, x1⟩, rfl⟩) (fun I1 k1 => ?_))
  have k2 := k I1 k1
  have e21 : I1 21 x = I 21 x := by rw [k1.c (sc 21 (by decide))]
  refine b_X10_rankOn_7 hG x0 g (fun q => b_X10_rankOn_30 hG (fun q2 => b_X10_rankOn_42 hG ?_) (fun q2 => b_X10_rankOn_36 hG (by unfold ok32; omega) ?_)) (fun q => b_X10_rankOn_25 hG (by unfold ok32; omega) ?_)
  · rw [e21] at q q2
    rw [if_neg q, if_neg q2] at k2
    exact k2
  · rw [e21] at q q2
    rw [if_neg q, if_pos q2] at k2
    exact k2
  · rw [e21] at q
    rw [if_pos q] at k2
    exact k2
theorem lp_tell1 {I0 : aI} (hG : GW b G) (hF : RelF I0 (I0 57)) (hC : RelC I0 J (I0 57)) (hR : RelR1 I0 S) (k : ∀ I', Kp I0 I' → Q (some (vI (sumI (fun c => ruleF S (VM (I0 57) c) 5 day) (I0 57 2)))) G I' J) : ∀ (j : Nat) (x y : Int) (I : aI), Kp I0 I → 0 ≤ y → y + j = I0 57 2 → x = sumI (fun c => ruleF S (VM (I0 57) c) 5 day) y → 0 ≤ x → x ≤ 999 * y → At (d + 4) 104 4 [some (vR 1), some (vI day), some (vI x), some (vI y)] [] G I J Q
  | 0, x, y, I, hK, h0, h1, hx, _, _ => by
    have e20 : I 20 0 = I0 57 2 := by rw [hK.c (sc 20 (by decide)), hC.1.2.2]
    refine b_X10_tellable_4 hG (fun _ => b_X10_tellable_31 hG ?_) (fun h => absurd h (by omega))
    rw [hx, show y = I0 57 2 by omega]
    exact k I hK
  | j + 1, x, y, I, hK, h0, h1, hx, hx0, hx1 => by
    have f2 := hC.1
    have e20 : I 20 0 = I0 57 2 := by rw [hK.c (sc 20 (by decide)), hC.1.2.2]
    have e57 : I 57 = I0 57 := hK.c (sc 57 (by decide))
    have hs := sumI_s (f := fun c => ruleF S (VM (I0 57) c) 5 day) h0
    have rb := ruleF_b1 (V := VM (I0 57) y) (w := 5) (on := day) (by decide) hR
    refine b_X10_tellable_4 hG (fun h => absurd h (by omega)) (fun _ => b_X10_tellable_15 hG (sp_ruled1 (d := d) (cM := y) hG (by rw [e57]; exact hF.kp hK) (by rw [e57]; exact hC.kp hK) (hR.kp hK) (by decide) (fun _ => ⟨⟨h0, by rw [e57]; omega⟩, rfl⟩) (fun I1 k1 => ?_)))
    rw [e57]
    exact b_X10_tellable_23 hG (by unfold ok32; omega) (by unfold ok32; omega) (lp_tell1 hG hF hC hR k j _ (y + 1) I1 (hK.tr k1) (by omega) (by omega) (by rw [hs, hx]) (by omega) (by omega))
/-- the model: what the tape says of it, or else what is said -/
theorem sp_triedM {w c : Int} (hG : GW b G) (hn : 0 ≤ n ∧ n ≤ 120) (hbs : ∀ k, 0 ≤ k → k < n → 0 ≤ I 57 (2336 + k) ∧ I 57 (2336 + k) ≤ 255) (hok : (pRule (fun k => I 57 (2336 + k)) n 8 0).1 = false) (hr : 0 ≤ I 57 1 ∧ I 57 1 ≤ 10) (hM : MRules (I 57)) (hc : CallV (I 57) c) (h3 : 0 ≤ I 57 3) (k : ∀ I', Kp I I' → Q (some (vI (ruleT (I 57) n (VM (I 57) c) w (I 57 3 / 100)))) G I' J) : At (d + 25) 235 0 [some (vR 56), some (vI w), some (vI c), some (vI n)] [] G I J Q := by
  refine b_X12_triedSays_0 hG (sp_goes (d := d + 2) (bs := fun k => I 57 (2336 + k)) hG hn (by decide) (fun k k0 k1 => ⟨rfl, hbs k k0 k1⟩) hc (fun I1 q r1 => ?_) (fun I1 r1 r2 r3 r4 r5 => ?_))
  · rw [hok] at r1
    cases r1
  · have e57 : I1 57 = I 57 := r3.1 57 (by decide)
    unfold ruleT at k
    cases hh : lastH (VM (I 57) c) w (pRule (fun k => I 57 (2336 + k)) n 8 0).2.2 0 none with
    | none =>
      rw [hh] at r5 k
      refine b_X12_triedSays_10 hG (fun _ => b_X12_triedSays_24 hG (b_X12_day_0 hG (by rw [e57]; exact h3) (b_X12_triedSays_31 hG (sp_saysM (d := d) hG (by rw [e57]; exact hr) (by rw [e57]; exact hM) (by rw [e57]; exact hc) (fun I2 k2 => b_X12_triedSays_34 hG ?_))))) (fun q => absurd r5 q)
      rw [e57]
      exact k I2 (r3.kp.tr k2)
    | some x =>
      obtain ⟨i, e⟩ := x
      rw [hh] at r5 k
      refine b_X12_triedSays_10 hG (fun q => absurd (r5.1.symm.trans q) (by decide)) (fun _ => b_X12_triedSays_17 hG ?_)
      rw [r5.2.1]
      exact k I1 r3.kp
theorem lp_triedM {x1 x2 : Int} {I0 A B : aI} (hG : GW b G) (hF : RelF A (I0 57)) (hC : RelC A B (I0 57)) (hn : 0 ≤ n ∧ n ≤ 120) (hbs : ∀ k, 0 ≤ k → k < n → 0 ≤ I0 57 (2336 + k) ∧ I0 57 (2336 + k) ≤ 255) (hok : (pRule (fun k => I0 57 (2336 + k)) n 8 0).1 = false) (hr : 0 ≤ I0 57 1 ∧ I0 57 1 ≤ 10) (hM : MRules (I0 57)) (h3 : 0 ≤ I0 57 3) (hb : ∀ c, 0 ≤ ruleT (I0 57) n (VM (I0 57) c) 5 (I0 57 3 / 100) ∧ ruleT (I0 57) n (VM (I0 57) c) 5 (I0 57 3 / 100) ≤ 999) (k : ∀ I', Kp I0 I' → Q (some (vI (sumI (fun c => ruleT (I0 57) n (VM (I0 57) c) 5 (I0 57 3 / 100)) (I0 57 2)))) G I' J) : ∀ (j : Nat) (x y : Int) (I : aI), Kp I0 I → 0 ≤ y → y + j = I0 57 2 → x = sumI (fun c => ruleT (I0 57) n (VM (I0 57) c) 5 (I0 57 3 / 100)) y → 0 ≤ x → x ≤ 999 * y → At (d + 26) 236 87 [some (vR 56), some (vI x1), some (vI x2), some (vI n), some (vI x), some (vI y)] [] G I J Q
  | 0, x, y, I, hK, h0, h1, hx, _, _ => by
    have e57 : I 57 = I0 57 := hK.c (sc 57 (by decide))
    refine b_X12_tried_87 hG (fun _ => b_X12_tried_117 hG ?_) (fun h => absurd h (by rw [e57]; omega))
    rw [hx, show y = I0 57 2 by omega]
    exact k I hK
  | j + 1, x, y, I, hK, h0, h1, hx, hx0, hx1 => by
    have f2 := hC.1
    have e57 : I 57 = I0 57 := hK.c (sc 57 (by decide))
    have hs := sumI_s (f := fun c => ruleT (I0 57) n (VM (I0 57) c) 5 (I0 57 3 / 100)) h0
    have rb := hb y
    refine b_X12_tried_87 hG (fun h => absurd h (by rw [e57]; omega)) (fun _ => b_X12_tried_98 hG (sp_triedM (d := d) hG hn (by rw [e57]; exact hbs) (by rw [e57]; exact hok) (by rw [e57]; exact hr) (by rw [e57]; exact hM) (by rw [e57]; exact cllV hF hC h0 (by omega)) (by rw [e57]; exact h3) (fun I1 k1 => ?_)))
    rw [e57]
    exact b_X12_tried_108 hG (by unfold ok32; omega) (by unfold ok32; omega) (lp_triedM hG hF hC hn hbs hok hr hM h3 hb k j _ (y + 1) I1 (hK.tr k1) (by omega) (by omega) (by rw [hs, hx]) (by omega) (by omega))
end SM
