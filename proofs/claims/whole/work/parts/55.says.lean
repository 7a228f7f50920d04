/-! what rules: the class's ruled, the model's rules -/
theorem FR.kp {I I' : aI} (h : FR I I') : Kp I I' := fun a k hs => by
  by_cases ha : a = 56
  · subst ha
    by_cases hk : k = 19
    · subst hk
      exact h.2
    · unfold scr at hs
      simp [hk] at hs
  · rw [h.1 a ha]
theorem Kp.s19 {I : aI} {I' : aI} {k v : Int} (h : Kp I I') : Kp I (mset I' 19 k v) := h.set rfl
theorem VM_w {S V V' : Int → Int} {w : Int} (h0 : ¬ w = 0) (e : Int × Int × List Int) : hitsE V w e = hitsE V' w e := by
  unfold hitsE
  rw [decide_eq_false h0]
  simp
section RL
variable {d : Nat} {b : Bool} {G : aG} {I J : aI} {Q : Option aV → aG → aI → aI → Prop} {w on c : Int}
theorem RelR.kp {A A' : aI} {S : Int → Int} (h : RelR A S) (hK : Kp A A') : RelR A' S :=
  h.fr (congrFun (hK.c (sc 9 (by decide))) 0) (hK.c (sc 11 (by decide))) (hK.c (sc 13 (by decide))) (hK.c (sc 14 (by decide))) (hK.c (sc 15 (by decide))) (hK.c (sc 16 (by decide))) (hK.c (sc 17 (by decide))) (hK.c (sc 18 (by decide))) (fun _ _ => rfl)
theorem sp_lineOf {x : Int} (hG : GW b G) (h0 : 0 ≤ x) (h1 : x < I 2 0) (h2 : x < 12) (k : Q (some (vI (I 3 x))) G I J) : At (d + 1) 42 0 [some (vR 2), some (vI x)] [] G I J Q := by
  repeat' first
    | intro _
    | refine sp_X4_has hG ?_ ?_
    | refine b_X4_lineOf_0 hG ?_
    | refine b_X4_lineOf_5 hG ?_ ?_
    | refine b_X4_lineOf_17 hG ?_
    | refine b_X4_lineOf_8 hG ?_ ?_ ?_
  all_goals first
    | exact k
    | omega
theorem sp_regard {x : Int} (hG : GW b G) (hF : RelF I (I 57)) (hC : RelC I J (I 57)) (k : ∀ I', Kp I I' → ((0 ≤ x ∧ x < I 57 2) → ∀ j, 0 ≤ j → j ≤ 5 → I' 19 j = VM (I 57) x j) → Q none G I' J) : At (d + 2) 100 0 [some (vR 1), some (vI x), none] [] G I J Q := by
  have f1 := hF.1
  have f2 := hC.1
  refine b_X10_regard_0 hG (sp_X0_has hG (fun q0 q1 => b_X10_regard_8 hG (fun _ => ?_) (fun q => absurd q (by decide))) (fun q => b_X10_regard_8 hG (fun q => absurd rfl q) (fun _ => b_X10_regard_11 hG (k I Kp.rfl' (fun q2 => by omega)))))
  obtain ⟨⟨c1, c2, c3, c4, c5, c6, c7, c8⟩, _, o1, o2, o3, o4, o5, o6, o7, o8, _⟩ := hC.2.1 x q0 (by omega)
  have g := (hF.2.1 (I 22 x) o2.1 o2.2).1.1
  refine b_X10_regard_12 hG q0 (by omega) (sp_lineOf hG o2.1 (by omega) (by omega) (b_X10_regard_43 hG q0 (by omega) (by omega) (b_X7_regard_0 hG (b_X10_regard_68 hG (k _ ((((((Kp.rfl'.s19).s19).s19).s19).s19).s19) (fun _ j j0 j1 => ?_))))))
  have hj : j = 0 ∨ j = 1 ∨ j = 2 ∨ j = 3 ∨ j = 4 ∨ j = 5 := by omega
  unfold VM
  rw [if_neg (by omega), ← c1, ← c2, ← c3, ← c5, ← g]
  rcases hj with rfl | rfl | rfl | rfl | rfl | rfl
  · rw [mset_n (by decide), mset_n (by decide), mset_n (by decide), mset_n (by decide), mset_n (by decide), mset_at]
    rfl
  · rw [mset_n (by decide), mset_n (by decide), mset_n (by decide), mset_n (by decide), mset_at]
    rfl
  · rw [mset_n (by decide), mset_n (by decide), mset_n (by decide), mset_at]
    rfl
  · rw [mset_n (by decide), mset_n (by decide), mset_at]
    rfl
  · rw [mset_n (by decide), mset_at]
    rfl
  · rw [mset_at]
    rfl
theorem KI1000 {x : Int} (h : 0 ≤ x ∧ x ≤ 6) : KI 1000 x = plainF x := by
  have : x = 0 ∨ x = 1 ∨ x = 2 ∨ x = 3 ∨ x = 4 ∨ x = 5 ∨ x = 6 := by omega
  rcases this with rfl | rfl | rfl | rfl | rfl | rfl | rfl <;> decide
/-- cM: the call whose facts are asked, -1 where none matters -/
theorem sp_ruledC {x cM : Int} (hG : GW b G) (hF : RelF I (I 57)) (hC : RelC I J (I 57)) (hR : RelR I (I 57)) (hw : 0 ≤ w ∧ w ≤ 6) (hc : (w = 0 ∨ w = 5) → (0 ≤ x ∧ x < I 57 2) ∧ cM = x) (k : ∀ I', Kp I I' → Q (some (vI (ruleF (I 57) (VM (I 57) cM) w on))) G I' J) : At (d + 3) 101 0 [some (vR 1), some (vI w), some (vI x), some (vI on), none] [] G I J Q := by
  refine b_X10_ruled_0 hG (sp_regard hG hF hC (fun I1 k1 hV1 => ?_))
  have hR1 : RelR I1 (I 57) := hR.kp k1
  have hV : (w = 0 ∨ w = 5) → ∀ j, 0 ≤ j → j ≤ 5 → I1 19 j = VM (I 57) cM j := fun q => by
    rw [(hc q).2]
    exact hV1 (hc q).1
  refine b_X10_ruled_5 hG (sp_ruling (d := d) hG hR1 hV ?_)
  rcases rul_ch (V := VM (I 57) cM) (w := w) (on := on) hR1 with ⟨e1, e2, e3⟩ | ⟨r, i, cl, e, e1, e2, e3, e4, e5, e6, e7, e8, e9⟩
  · have k2 := k I1 k1
    rw [e3] at k2
    rw [e2]
    refine b_X10_ruled_14 hG (fun q => absurd q (by decide)) (fun _ => b_X10_ruled_21 hG (b_X7_usual_0 hG (fun q => ?_) (fun _ => b_X7_usual_4 hG (fun q => ?_) (fun _ => b_X7_usual_10 hG hw.1 (by omega) (b_X10_ruled_25 hG ?_)))))
    · omega
    · omega
    · rw [KI1000 hw]
      exact k2
  · have k2 := k I1 k1
    rw [e9] at k2
    unfold valE at k2
    rw [e1, e5]
    have hr10 := hR1.1
    have h16 := e6.2.2.2.1 i.toNat e e7
    rw [show (i.toNat : Int) = i by omega] at h16
    refine b_X10_ruled_14 hG (fun _ => b_X10_ruled_26 hG (fun q5 => b_X10_ruled_49 hG (by omega) (by omega) ?_) (fun q5 => b_X10_ruled_31 hG ?_)) (fun q => ?_)
    · rw [if_neg q5] at k2
      rw [h16.2.1]
      exact k2
    · rw [if_pos q5] at k2
      have ht := e6.true (A := I1) (d := d + 1) (b := b) (G := G) (J := J) (V := VM (I 57) cM) (Q := fun v G' I' J' => At (d + 2 + 1) 101 40 [some (vR 1), some (vI w), some (vI x), some (vI on), some (vI (8 * r + i))] (v.toList ++ []) G' I' J' Q) (by omega) e7 (Or.inr (by omega)) hG (hV (Or.inr q5))
      rw [show (i.toNat : Int) = i by omega] at ht
      refine ht ?_
      cases hv : evT (VM (I 57) cM) e.2.2
      · rw [hv] at k2
        exact b_X10_ruled_40 hG (fun _ => b_X10_ruled_47 hG k2) (fun q => absurd rfl q)
      · rw [hv] at k2
        exact b_X10_ruled_40 hG (fun q => absurd q (by decide)) (fun _ => b_X10_ruled_43 hG k2)
    · omega
/-! the model asks its rules, the latest first -/
def BH (S : Int → Int) (l r : Int) : Prop := l = -1 ∨ S (92 + (122 * r)) < S (92 + (122 * l)) ∨ (S (92 + (122 * r)) = S (92 + (122 * l)) ∧ r < l)
def NX (S : Int → Int) (on l m o : Int) : Prop := (o = -1 ∧ ∀ r, 0 ≤ r → r < m → S (92 + (122 * r)) ≤ on → ¬ BH S l r) ∨ ((0 ≤ o ∧ o < m) ∧ S (92 + (122 * o)) ≤ on ∧ BH S l o ∧ ∀ r, 0 ≤ r → r < m → S (92 + (122 * r)) ≤ on → BH S l r → S (92 + (122 * r)) < S (92 + (122 * o)) ∨ (S (92 + (122 * r)) = S (92 + (122 * o)) ∧ r ≤ o))
theorem lp_nextRule {l : Int} (hG : GW b G) (hr : 0 ≤ I 57 1 ∧ I 57 1 ≤ 10) (hl : l = -1 ∨ (0 ≤ l ∧ l < I 57 1)) (k : ∀ o, NX (I 57) on l (I 57 1) o → Q (some (vI o)) G I J) : ∀ (f : Nat) (m o : Int) (u5 u6 : Option aV), 0 ≤ m → m + f = I 57 1 → NX (I 57) on l m o → At d 180 5 [some (vR 56), some (vI on), some (vI l), some (vI o), some (vI m), u5, u6] [] G I J Q
  | 0, m, o, u5, u6, hm, hf, hN => by
    refine b_X12_nextRule_5 hG (fun _ => b_X12_nextRule_125 hG (k o ?_)) (fun q => ?_)
    · rw [show I 57 1 = m by omega]
      exact hN
    · omega
  | f + 1, m, o, u5, u6, hm, hf, hN => by
    have ho : o = -1 ∨ (0 ≤ o ∧ o < m) := by
      rcases hN with ⟨h, _⟩ | ⟨h, _⟩
      · exact Or.inl h
      · exact Or.inr h
    have stay : ¬ (I 57 (92 + (122 * m)) ≤ on ∧ BH (I 57) l m ∧ (o = -1 ∨ I 57 (92 + (122 * o)) ≤ I 57 (92 + (122 * m)))) → ∀ u5 u6, At d 180 119 [some (vR 56), some (vI on), some (vI l), some (vI o), some (vI m), some (vI u5), some (vI u6)] [] G I J Q := by
      intro hn u5 u6
      refine b_X12_nextRule_119 hG (by unfold ok32; omega) (lp_nextRule hG hr hl k f (m + 1) o _ _ (by omega) (by omega) ?_)
      rcases hN with ⟨h1, h2⟩ | ⟨h1, h2, h3, h4⟩
      · refine Or.inl ⟨h1, fun r r0 r1 r2 r3 => ?_⟩
        by_cases hh : r = m
        · subst hh
          exact hn ⟨r2, r3, Or.inl h1⟩
        · exact h2 r r0 (by omega) r2 r3
      · refine Or.inr ⟨by omega, h2, h3, fun r r0 r1 r2 r3 => ?_⟩
        by_cases hh : r = m
        · subst hh
          have : ¬ I 57 (92 + (122 * o)) ≤ I 57 (92 + (122 * r)) := fun q => hn ⟨r2, r3, Or.inr q⟩
          omega
        · exact h4 r r0 (by omega) r2 r3
    have move : (I 57 (92 + (122 * m)) ≤ on ∧ BH (I 57) l m ∧ (o = -1 ∨ I 57 (92 + (122 * o)) ≤ I 57 (92 + (122 * m)))) → ∀ u5 u6, At d 180 116 [some (vR 56), some (vI on), some (vI l), some (vI o), some (vI m), some (vI u5), some (vI u6)] [] G I J Q := by
      intro hn u5 u6
      refine b_X12_nextRule_116 hG (by unfold ok32; omega) (lp_nextRule hG hr hl k f (m + 1) m _ _ (by omega) (by omega) ?_)
      refine Or.inr ⟨by omega, hn.1, hn.2.1, fun r r0 r1 r2 r3 => ?_⟩
      by_cases hh : r = m
      · subst hh
        exact Or.inr ⟨rfl, Int.le_refl _⟩
      · rcases hN with ⟨h1, h2⟩ | ⟨h1, h2, h3, h4⟩
        · exact absurd r3 (h2 r r0 (by omega) r2)
        · have := h4 r r0 (by omega) r2 r3
          rcases hn.2.2 with h | h <;> omega
    have c89y : BH (I 57) l m → I 57 (92 + (122 * m)) ≤ on → At d 180 89 [some (vR 56), some (vI on), some (vI l), some (vI o), some (vI m), some (vI (I 57 (92 + (122 * m)))), some (vI 1)] [] G I J Q := fun hb ho2 =>
      b_X12_nextRule_89 hG (fun q => absurd q (by decide)) (fun _ => b_X12_nextRule_94 hG (fun q => move ⟨ho2, hb, Or.inl q⟩ _ _) (fun q => b_X12_nextRule_99 hG (by unfold ok32; omega) (by unfold ok32; omega) (by omega) (by omega) (fun q2 => stay (fun hh => by rcases hh.2.2 with h | h <;> omega) _ _) (fun q2 => move ⟨ho2, hb, Or.inr q2⟩ _ _)))
    have c76 : BH (I 57) l m → ∀ u6, At d 180 76 [some (vR 56), some (vI on), some (vI l), some (vI o), some (vI m), some (vI (I 57 (92 + (122 * m)))), u6] [] G I J Q := fun hb u6 =>
      b_X12_nextRule_76 hG (fun q => stay (fun hh => by omega) _ _) (fun q => c89y hb q)
    have c80 : ¬ BH (I 57) l m → ∀ u6, At d 180 80 [some (vR 56), some (vI on), some (vI l), some (vI o), some (vI m), some (vI (I 57 (92 + (122 * m)))), u6] [] G I J Q := fun hb u6 =>
      b_X12_nextRule_80 hG (fun q => stay (fun hh => hb hh.2.1) _ _) (fun q => b_X12_nextRule_89 hG (fun _ => stay (fun hh => hb hh.2.1) _ _) (fun q => absurd rfl q))
    refine b_X12_nextRule_5 hG (fun q => ?_) (fun _ => b_X12_nextRule_16 hG (by unfold ok32; omega) (by unfold ok32; omega) (by omega) (by omega) (fun q => c76 (Or.inl q) _) (fun q => b_X12_nextRule_36 hG (by unfold ok32; omega) (by unfold ok32; omega) (by omega) (by omega) (fun q2 => c76 (Or.inr (Or.inl q2)) _) (fun q2 => b_X12_nextRule_53 hG (by unfold ok32; omega) (by unfold ok32; omega) (by omega) (by omega) (fun q3 => c80 (fun hh => ?_) _) (fun q3 => b_X12_nextRule_70 hG (fun q4 => c80 (fun hh => ?_) _) (fun q4 => c76 (Or.inr (Or.inr ⟨q3, q4⟩)) _)))))
    · omega
    · unfold BH at hh
      omega
    · unfold BH at hh
      omega
theorem sp_nextRule {l : Int} (hG : GW b G) (hr : 0 ≤ I 57 1 ∧ I 57 1 ≤ 10) (hl : l = -1 ∨ (0 ≤ l ∧ l < I 57 1)) (k : ∀ o, NX (I 57) on l (I 57 1) o → Q (some (vI o)) G I J) : At d 180 0 [some (vR 56), some (vI on), some (vI l), none, none, none, none] [] G I J Q :=
  b_X12_nextRule_0 hG (lp_nextRule hG hr hl k (I 57 1).toNat 0 (-1) _ _ (by omega) (by omega) (Or.inl ⟨rfl, fun r h0 h1 => by omega⟩))
def MRules (S : Int → Int) : Prop := ∀ r, 0 ≤ r → r < S 1 → (0 ≤ S (92 + (122 * r)) ∧ S (92 + (122 * r)) ≤ 400) ∧ (0 ≤ S ((92 + (122 * r)) + 1) ∧ S ((92 + (122 * r)) + 1) ≤ 120) ∧ (∀ j, 0 ≤ j → j < S ((92 + (122 * r)) + 1) → 0 ≤ S (((92 + (122 * r)) + 2) + j) ∧ S (((92 + (122 * r)) + 2) + j) ≤ 255) ∧ (pRule (bsOf S ((92 + (122 * r)) + 2)) (S ((92 + (122 * r)) + 1)) 8 0).1 = false
theorem RelR.mr {A : aI} {S : Int → Int} (h : RelR A S) : MRules S := fun r r0 r1 => by
  obtain ⟨_, q2, q3, q4, cl, q5, _⟩ := h.2 r r0 r1
  exact ⟨q2, q3, q4, by rw [q5]⟩
def CallV (S : Int → Int) (c : Int) : Prop := c = -1 ∨ (0 ≤ c ∧ c < 60 ∧ 0 ≤ S ((1312 + (8 * c)) + 1) ∧ S ((1312 + (8 * c)) + 1) < 12 ∧ 0 ≤ S ((1312 + (8 * c)) + 4))
theorem sp_plain {x : Int} (hG : GW b G) (k : Q (some (vI (plainF x))) G I J) : At d 179 0 [some (vI x)] [] G I J Q := by
  unfold plainF at k
  repeat' first
    | intro _
    | refine b_X12_plain_0 hG ?_ ?_
    | refine b_X12_plain_9 hG ?_ ?_
    | refine b_X12_plain_4 hG ?_
    | refine b_X12_plain_19 hG ?_ ?_
    | refine b_X12_plain_14 hG ?_
    | refine b_X12_plain_28 hG ?_ ?_
    | refine b_X12_plain_24 hG ?_
    | refine b_X12_plain_37 hG ?_ ?_
    | refine b_X12_plain_33 hG ?_
    | refine b_X12_plain_46 hG ?_ ?_
    | refine b_X12_plain_42 hG ?_
    | refine b_X12_plain_55 hG ?_
    | refine b_X12_plain_51 hG ?_
  all_goals simp [*] at k
  all_goals exact k
/-- what the loop over rules finds -/
theorem lp_rules {S : Int → Int} (hG : GW b G) (hr : 0 ≤ S 1 ∧ S 1 ≤ 10) (hM : MRules S) (hc : CallV S c) (hn : ∀ I', FR I I' → bestN S (VM S c) w on (S 1).toNat = -1 → At (d + 23) 181 67 [some (vR 56), some (vI w), some (vI c), some (vI on), some (vI (-1))] [] G I' J Q) (hy : ∀ I' o i e, FR I I' → o = bestN S (VM S c) w on (S 1).toNat → hitF S (VM S c) w o = some (i, e) → ¬ o = -1 → I' 56 13 = valE (VM S c) w e → I' 56 14 = i → Q (some (vI o)) G I' J) : ∀ (f : Nat) (o l : Int) (I1 : aI), FR I I1 → I1 57 = S → (o = -1 ∨ (S (92 + (122 * o)) * 16 + o < f)) → NX S on l (S 1) o → (∀ r, 0 ≤ r → r < S 1 → S (92 + (122 * r)) ≤ on → ¬ BH S l r → hitF S (VM S c) w r = none) → At (d + 23) 181 8 [some (vR 56), some (vI w), some (vI c), some (vI on), some (vI o)] [] G I1 J Q
  | f, o, l, I1, hR, hS, hf, hN, hh => by
    have hch := bestN_ch (S := S) (V := VM S c) (w := w) (on := on) (S 1).toNat
    refine b_X12_rules_8 hG (fun q => ?_) (fun q => ?_)
    · rw [q]
      refine hn I1 hR ?_
      rcases hch with ⟨i1, _⟩ | ⟨i1, i2, i3, i4, _⟩
      · exact i1
      · exfalso
        rcases hN with ⟨_, h2⟩ | ⟨h1, _⟩
        · exact i4 (hh _ i1 (by omega) i3 (h2 _ i1 (by omega) i3))
        · omega
    · rcases hN with ⟨h1, _⟩ | ⟨h1, h2, h3, h4⟩
      · exact absurd h1 q
      obtain ⟨m1, m2, m3, m4⟩ := hM o h1.1 h1.2
      have hh2 : hitF S (VM S c) w o = none → ∀ r, 0 ≤ r → r < S 1 → S (92 + (122 * r)) ≤ on → ¬ BH S o r → hitF S (VM S c) w r = none := by
        intro hz r r0 r1 r2 r3
        by_cases hb : BH S l r
        · have := h4 r r0 r1 r2 hb
          unfold BH at r3
          have : r = o := by omega
          rw [this]
          exact hz
        · exact hh r r0 r1 r2 hb
      subst hS
      refine b_X12_rules_14 hG (by unfold ok32; omega) (by unfold ok32; omega) (by unfold ok32; omega) (by unfold ok32; omega) (by omega) (by omega) (sp_goes (d := d) (bs := bsOf (I1 57) ((92 + (122 * o)) + 2)) hG m2 (by omega) (fun k k0 k1 => ?_) hc (fun I' q' q1 => ?_) (fun I' q1 _ q2 q3 q4 => ?_))
      · have := m3 k k0 (by omega)
        refine ⟨?_, ?_, ?_⟩
        · unfold bsOf
          rw [if_pos (by omega)]
        · unfold bsOf
          rw [if_pos (by omega)]
          exact this.1
        · unfold bsOf
          rw [if_pos (by omega)]
          exact this.2
      · rw [m4] at q1
        cases q1
      · have hRR : FR I I' := ⟨fun a ha => (q2.1 a ha).trans (hR.1 a ha), q2.2.trans hR.2⟩
        cases hq : hitF (I1 57) (VM (I1 57) c) w o with
        | none =>
          have hq' := hq
          unfold hitF at hq
          rw [hq] at q4
          have q4 : I' 56 12 = 0 := q4
          have e57 : I' 57 = I1 57 := q2.1 57 (by decide)
          refine b_X12_rules_45 hG (fun _ => b_X12_rules_55 hG (sp_nextRule hG (by rw [e57]; exact hr) (by rw [e57]; omega) (fun o2 hN2 => b_X12_rules_62 hG ?_))) (fun q => absurd q4 q)
          rw [e57] at hN2
          obtain ⟨f, rfl⟩ : ∃ f', f = f' + 1 := ⟨f - 1, by omega⟩
          refine lp_rules hG hr hM hc hn hy f o2 o I' hRR e57 ?_ hN2 (hh2 hq')
          rcases hN2 with ⟨g1, _⟩ | ⟨g1, _, g3, _⟩
          · exact Or.inl g1
          · refine Or.inr ?_
            unfold BH at g3
            omega
        | some x =>
          obtain ⟨i, e⟩ := x
          have hq' := hq
          unfold hitF at hq
          rw [hq] at q4
          obtain ⟨z1, z2, z3⟩ := q4
          refine b_X12_rules_45 hG (fun q => ?_) (fun _ => b_X12_rules_52 hG (hy I' o i e hRR ?_ hq' q z2 z3))
          · omega
          · rcases hch with ⟨i1, i2⟩ | ⟨i1, i2, i3, i4, i5⟩
            · have := i2 o h1.1 (by omega) h2
              rw [hq'] at this
              cases this
            · have g := i5 o h1.1 (by omega) h2 (by rw [hq']; exact (fun q => by cases q))
              by_cases hb : BH (I1 57) l (bestN (I1 57) (VM (I1 57) c) w on (I1 57 1).toNat)
              · have := h4 _ i1 (by omega) i3 hb
                omega
              · exact absurd (hh _ i1 (by omega) i3 hb) i4
/-- the model's rules: the rule, its place and what it says -/
theorem sp_rulesM (hG : GW b G) (hr : 0 ≤ I 57 1 ∧ I 57 1 ≤ 10) (hM : MRules (I 57)) (hc : CallV (I 57) c) (k : ∀ I' o, Kp I I' → o = bestN (I 57) (VM (I 57) c) w on (I 57 1).toNat → I' 56 13 = ruleF (I 57) (VM (I 57) c) w on → (∀ i e, ¬ o = -1 → hitF (I 57) (VM (I 57) c) w o = some (i, e) → I' 56 14 = i) → Q (some (vI o)) G I' J) : At (d + 23) 181 0 [some (vR 56), some (vI w), some (vI c), some (vI on), none] [] G I J Q := by
  refine b_X12_rules_0 hG (sp_nextRule hG hr (Or.inl rfl) (fun o hN => b_X12_rules_6 hG (lp_rules (S := I 57) (I := I) hG hr hM hc (fun I' hR hb => ?_) (fun I' o i e hR ho hi hn h13 h14 => k I' o hR.kp ho ?_ (fun i' e' _ he => ?_)) 20000 o (-1) I ⟨fun _ _ => rfl, rfl⟩ rfl ?_ hN (fun r r0 r1 r2 r3 => absurd (Or.inl rfl) r3))))
  · refine b_X12_rules_67 hG (sp_plain hG (b_X12_rules_72 hG (k _ (-1) (hR.set (by decide)).kp hb.symm ?_ (fun i e q => absurd rfl q))))
    rw [mset_at]
    unfold ruleF
    rw [if_pos hb]
  · unfold ruleF
    rw [← ho, if_neg hn, hi, h13]
  · rw [hi] at he
    cases he
    exact h14
  · rcases hN with ⟨h1, _⟩ | ⟨h1, _⟩
    · exact Or.inl h1
    · have := (hM o h1.1 h1.2).1
      refine Or.inr ?_
      omega
theorem sp_saysM (hG : GW b G) (hr : 0 ≤ I 57 1 ∧ I 57 1 ≤ 10) (hM : MRules (I 57)) (hc : CallV (I 57) c) (k : ∀ I', Kp I I' → Q (some (vI (ruleF (I 57) (VM (I 57) c) w on))) G I' J) : At (d + 24) 182 0 [some (vR 56), some (vI w), some (vI c), some (vI on), none] [] G I J Q := by
  refine b_X12_says_0 hG (sp_rulesM hG hr hM hc (fun I' o hK _ h13 _ => b_X12_says_7 hG ?_))
  rw [h13]
  exact k I' hK
end RL
