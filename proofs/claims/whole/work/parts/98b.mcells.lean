/-! minutes: the cells at another time, with other states of the calls -/
def gA (A : aI) (t : Int) (x : aT) : aI := fun a k => if a = 29 then x.1 k else if a = 28 then x.2 k else if a = 1 ∧ k = 0 then t else A a k
theorem gA_o {A : aI} {t : Int} {x : aT} {a : Nat} (h : a ≠ 29 ∧ a ≠ 28 ∧ a ≠ 1) : gA A t x a = A a := by
  funext k
  unfold gA
  rw [if_neg h.1, if_neg h.2.1, if_neg (fun g => h.2.2 g.1)]
theorem gA_29 {A : aI} {t : Int} {x : aT} : gA A t x 29 = x.1 := rfl
theorem gA_28 {A : aI} {t : Int} {x : aT} : gA A t x 28 = x.2 := rfl
theorem gA_1 {A : aI} {t : Int} {x : aT} : gA A t x 1 0 = t := rfl
def MS (S : Int → Int) (n t : Int) (x : aT) (S' : Int → Int) : Prop := S' 3 = t ∧ (∀ k, 0 ≤ k → k < n → S' ((1312 + (8 * k)) + 5) = x.1 k ∧ S' ((1312 + (8 * k)) + 6) = x.2 k) ∧ ∀ i, i ≠ 3 → (i < 1312 ∨ 1792 ≤ i ∨ ((i - 1312) % 8 ≠ 5 ∧ (i - 1312) % 8 ≠ 6)) → S' i = S i
theorem MS_set {S S' : Int → Int} {n t c v : Int} {x : aT} (h : MS S n t x S') (hc : 0 ≤ c ∧ c < 60) : MS S n t (sset x.1 c v, x.2) (sset S' ((1312 + (8 * c)) + 5) v) := by
  obtain ⟨h1, h2, h3⟩ := h
  refine ⟨by rw [sset_n (by omega)]; exact h1, fun k k0 k1 => ⟨?_, ?_⟩, fun i i3 hi => by rw [sset_n (by omega)]; exact h3 i i3 hi⟩
  · show _ = sset x.1 c v k
    rw [sset_a, sset_a]
    by_cases e : k = c
    · rw [if_pos (by omega), if_pos e]
    · rw [if_neg (by omega), if_neg e]
      exact (h2 k k0 k1).1
  · rw [sset_n (by omega)]
    exact (h2 k k0 k1).2
theorem MS_set6 {S S' : Int → Int} {n t c v : Int} {x : aT} (h : MS S n t x S') (hc : 0 ≤ c ∧ c < 60) : MS S n t (x.1, sset x.2 c v) (sset S' ((1312 + (8 * c)) + 6) v) := by
  obtain ⟨h1, h2, h3⟩ := h
  refine ⟨by rw [sset_n (by omega)]; exact h1, fun k k0 k1 => ⟨?_, ?_⟩, fun i i3 hi => by rw [sset_n (by omega)]; exact h3 i i3 hi⟩
  · rw [sset_n (by omega)]
    exact (h2 k k0 k1).1
  · show _ = sset x.2 c v k
    rw [sset_a, sset_a]
    by_cases e : k = c
    · rw [if_pos (by omega), if_pos e]
    · rw [if_neg (by omega), if_neg e]
      exact (h2 k k0 k1).2
theorem MS_t {S S' : Int → Int} {n t v : Int} {x : aT} (h : MS S n t x S') (hn : n ≤ 60) : MS S n v x (sset S' 3 v) := by
  obtain ⟨h1, h2, h3⟩ := h
  refine ⟨sset_at, fun k k0 k1 => ⟨?_, ?_⟩, fun i i3 hi => by rw [sset_n i3]; exact h3 i i3 hi⟩
  · rw [sset_n (by omega)]
    exact (h2 k k0 k1).1
  · rw [sset_n (by omega)]
    exact (h2 k k0 k1).2
theorem MS_c {S S' : Int → Int} {n t : Int} {x x' : aT} (h : MS S n t x S') (h1 : ∀ k, 0 ≤ k → k < n → x'.1 k = x.1 k ∧ x'.2 k = x.2 k) : MS S n t x' S' :=
  ⟨h.1, fun k k0 k1 => by rw [(h1 k k0 k1).1, (h1 k k0 k1).2]; exact h.2.1 k k0 k1, h.2.2⟩
theorem RW_mn {A B : aI} {S S' : Int → Int} {t : Int} {x : aT} (h : RW A B S) (hv : SV A (S 2) t x) (h3 : S 3 ≤ t) (ht : t ≤ 40099) (hS : MS S (S 2) t x S') : RW (gA A t x) B S' := by
  obtain ⟨gN, gF, gR, gT, gC, gW, gL, gM⟩ := h
  obtain ⟨s3, sk, so⟩ := hS
  have n1 := gC.1
  have n3 := gN.2
  refine ⟨⟨by rw [gA_1, s3], by omega, by omega⟩,
    gF.fr (congrFun (gA_o (by decide)) 0) (gA_o (by decide)) (gA_o (by decide)) (gA_o (by decide)) (gA_o (by decide)) (gA_o (by decide)) (gA_o (by decide)) (fun i hi => so i (by omega) (by omega)) (by omega),
    gR.fr (congrFun (gA_o (by decide)) 0) (gA_o (by decide)) (gA_o (by decide)) (gA_o (by decide)) (gA_o (by decide)) (gA_o (by decide)) (gA_o (by decide)) (gA_o (by decide)) (fun i hi => so i (by omega) (by omega)),
    gT.fr (congrFun (gA_o (by decide)) 0) (gA_o (by decide)) (fun i hi => so i (by omega) (by omega)),
    ?_,
    gW.fr (congrFun (gA_o (by decide)) 0) (gA_o (by decide)) (gA_o (by decide)) (congrFun (gA_o (by decide)) 1) (congrFun (gA_o (by decide)) 2) (congrFun (gA_o (by decide)) 5) rfl rfl (gA_o (by decide)) (fun i hi => so i (by omega) (by omega)),
    gL.fr (congrFun (gA_o (by decide)) 0) (gA_o (by decide)) (gA_o (by decide)) (gA_o (by decide)) (gA_o (by decide)) (gA_o (by decide)) (fun i hi => so i (by omega) (by omega)) (by omega),
    gM.fr (congrFun (gA_o (by decide)) 0) (congrFun (gA_o (by decide)) 1) (gA_o (by decide)) (gA_o (by decide)) (gA_o (by decide)) (gA_o (by decide)) (fun i hi => so i (by omega) (by omega))⟩
  obtain ⟨⟨a1, a2, a3⟩, q, c⟩ := gC
  have o2 : (gA A t x) 2 0 = A 2 0 := congrFun (gA_o (by decide)) 0
  have o3 : (gA A t x) 3 = A 3 := gA_o (by decide)
  have o4 : (gA A t x) 4 = A 4 := gA_o (by decide)
  unfold RelC CallOk
  rw [so 2 (by omega) (by omega), so 0 (by omega) (by omega), s3, o3, gA_29, gA_28, gA_o (a := 20) (by decide), gA_o (a := 21) (by decide), gA_o (a := 22) (by decide), gA_o (a := 23) (by decide), gA_o (a := 24) (by decide), gA_o (a := 26) (by decide), gA_o (a := 27) (by decide), gA_o (a := 30) (by decide)]
  refine ⟨⟨a1, a2, a3⟩, fun k k0 k1 => ?_, c⟩
  obtain ⟨⟨p1, p2, p3, p4, p5, p6, p7, p8⟩, p, r1, r2, r3, r4, r5, r6, r7, r8, r9, r10, r11, r12⟩ := q k k0 k1
  rw [so _ (by omega) (by omega), so ((1312 + (8 * k)) + 1) (by omega) (by omega), so ((1312 + (8 * k)) + 2) (by omega) (by omega), so ((1312 + (8 * k)) + 3) (by omega) (by omega), so ((1312 + (8 * k)) + 4) (by omega) (by omega), (sk k k0 k1).1, (sk k k0 k1).2, so ((1312 + (8 * k)) + 7) (by omega) (by omega), lineBit_fr o2 o3, lineBit_fr o2 o3, wayF_fr o2 o3 o4]
  obtain ⟨v1, v2, v3⟩ := hv k k0 k1
  exact ⟨⟨p1, p2, p3, p4, p5, rfl, rfl, p8⟩, p, r1, r2, r3, r4, r5, r6, r7, ⟨r8.1, by omega⟩, v1, v2, v3, r12⟩
/-! minutes: what the rules say stays -/
theorem ruleF_fr {S S' V : Int → Int} {w on : Int} (h1 : 0 ≤ S 1 ∧ S 1 ≤ 10) (h : ∀ i, i = 1 ∨ (92 ≤ i ∧ i < 1312) → S' i = S i) : ruleF S' V w on = ruleF S V w on := by
  have hh : ∀ r, 0 ≤ r → r < 10 → hitF S' V w r = hitF S V w r := fun r r0 r1 => by
    unfold hitF
    rw [h ((92 + (122 * r)) + 1) (by omega), bsOf_fr (S := S) (fun i i0 i1 => h i (by omega))]
  have hb : ∀ m : Nat, (m : Int) ≤ 10 → bestN S' V w on m = bestN S V w on m := by
    intro m
    induction m with
    | zero => exact fun _ => rfl
    | succ m ih =>
      intro hm
      have e := ih (by omega)
      have c : (bestN S V w on m = -1 ∨ S' (92 + (122 * bestN S V w on m)) ≤ S (92 + (122 * (m : Int)))) ↔ (bestN S V w on m = -1 ∨ S (92 + (122 * bestN S V w on m)) ≤ S (92 + (122 * (m : Int)))) := by
        rcases bestN_ch (S := S) (V := V) (w := w) (on := on) m with ⟨b0, _⟩ | ⟨b0, b1, _⟩
        · exact ⟨fun _ => Or.inl b0, fun _ => Or.inl b0⟩
        · rw [h (92 + (122 * bestN S V w on m)) (by omega)]
      unfold bestN
      rw [e, h (92 + (122 * (m : Int))) (by omega), hh m (by omega) (by omega)]
      simp only [c]
  unfold ruleF
  rw [h 1 (Or.inl rfl), hb _ (by omega)]
  rcases bestN_ch (S := S) (V := V) (w := w) (on := on) (S 1).toNat with ⟨b0, _⟩ | ⟨b0, b1, _⟩
  · rw [if_pos b0, if_pos b0]
  · rw [if_neg (by omega), if_neg (by omega), hh _ b0 (by omega)]
theorem VM_fr {S S' : Int → Int} {n t c : Int} {x : aT} (h : MS S n t x S') (hc : c = -1 ∨ (0 ≤ c ∧ c < 60 ∧ 0 ≤ S ((1312 + (8 * c)) + 1) ∧ S ((1312 + (8 * c)) + 1) < 12)) : VM S' c = VM S c := by
  obtain ⟨_, _, so⟩ := h
  rcases hc with e | hc
  · subst e
    rfl
  · funext j
    unfold VM
    rw [so ((1312 + (8 * c)) + 1) (by omega) (by omega), so ((1312 + (8 * c)) + 0) (by omega) (by omega), so ((1312 + (8 * c)) + 2) (by omega) (by omega), so ((1312 + (8 * c)) + 4) (by omega) (by omega), so ((32 + (5 * S ((1312 + (8 * c)) + 1))) + 0) (by omega) (by omega)]
theorem mst_fr {S S' : Int → Int} {n t : Int} {x : aT} (h : MS S n t x S') (h1 : 0 ≤ S 1 ∧ S 1 ≤ 10) : ruleF S' (VM S' (-1)) 4 (S' 3 / 100) = mstF S t := by
  rw [VM_fr h (Or.inl rfl), h.1, ruleF_fr h1 (fun i hi => h.2.2 i (by omega) (by omega))]
  rfl
theorem rk_fr {S S' : Int → Int} {n t c : Int} {x : aT} (h : MS S n t x S') (h1 : 0 ≤ S 1 ∧ S 1 ≤ 10) (hc : 0 ≤ c ∧ c < 60 ∧ 0 ≤ S ((1312 + (8 * c)) + 1) ∧ S ((1312 + (8 * c)) + 1) < 12) : rankF S' c (S' ((1312 + (8 * c)) + 4) / 100) = rkF S c := by
  unfold rkF rankF shiftF
  rw [VM_fr h (Or.inr hc), ruleF_fr h1 (fun i hi => h.2.2 i (by omega) (by omega)), h.2.2 ((1312 + (8 * c)) + 0) (by omega) (by omega), h.2.2 ((1312 + (8 * c)) + 4) (by omega) (by omega)]
section RL
variable {d : Nat} {b : Bool} {G : aG} {I J : aI} {Q : Option aV → aG → aI → aI → Prop} {w on c : Int}
/-- the model's rules, with all that they change -/
theorem sp_rulesF (hG : GW b G) (hr : 0 ≤ I 57 1 ∧ I 57 1 ≤ 10) (hM : MRules (I 57)) (hc : CallV (I 57) c) (k : ∀ I' o, FR I I' → I' 56 13 = ruleF (I 57) (VM (I 57) c) w on → Q (some (vI o)) G I' J) : At (d + 23) 181 0 [some (vR 56), some (vI w), some (vI c), some (vI on), none] [] G I J Q := by
  refine b_X12_rules_0 hG (sp_nextRule hG hr (Or.inl rfl) (fun o hN => b_X12_rules_6 hG (lp_rules (S := I 57) (I := I) hG hr hM hc (fun I' hR hb => ?_) (fun I' o i e hR ho hi hn h13 h14 => k I' o hR ?_) 20000 o (-1) I ⟨fun _ _ => rfl, rfl⟩ rfl ?_ hN (fun r r0 r1 r2 r3 => absurd (Or.inl rfl) r3))))
  · refine b_X12_rules_67 hG (sp_plain hG (b_X12_rules_72 hG (k _ (-1) (hR.set (by decide)) ?_)))
    rw [mset_at]
    unfold ruleF
    rw [if_pos hb]
  · unfold ruleF
    rw [← ho, if_neg hn, hi, h13]
  · rcases hN with ⟨h1, _⟩ | ⟨h1, _⟩
    · exact Or.inl h1
    · have := (hM o h1.1 h1.2).1
      refine Or.inr ?_
      omega
theorem sp_saysF (hG : GW b G) (hr : 0 ≤ I 57 1 ∧ I 57 1 ≤ 10) (hM : MRules (I 57)) (hc : CallV (I 57) c) (k : ∀ I', FR I I' → Q (some (vI (ruleF (I 57) (VM (I 57) c) w on))) G I' J) : At (d + 24) 182 0 [some (vR 56), some (vI w), some (vI c), some (vI on), none] [] G I J Q := by
  refine b_X12_says_0 hG (sp_rulesF hG hr hM hc (fun I' o hK h13 => b_X12_says_7 hG ?_))
  rw [h13]
  exact k I' hK
theorem sp_rankOfF {x : Int} {A : aI} (hG : GW b G) (hR : RelR A (I 57)) (hc : CallV (I 57) x) (x0 : 0 ≤ x) (x1 : x < 60) (hk : 0 ≤ I 57 ((1312 + (8 * x)) + 4)) (k : ∀ I', FR I I' → Q (some (vI (rankF (I 57) x (I 57 ((1312 + (8 * x)) + 4) / 100)))) G I' J) : At (d + 25) 190 0 [some (vR 56), some (vI x)] [] G I J Q := by
  have h1 := hR.1
  refine b_X12_rankOf_0 hG (rdc hG x0 x1 (by decide) (by decide) (b_X12_rankOf_11 hG hk (sp_saysF (d := d) hG ⟨h1.1, h1.2.1⟩ hR.mr hc (fun I1 k1 => b_X12_rankOf_17 hG ?_))))
  have e57 : I1 57 = I 57 := k1.1 57 (by decide)
  have rb := ruleF_b (V := VM (I 57) x) (w := 0) (on := I 57 ((1312 + (8 * x)) + 4) / 100) (by decide) hR
  refine sp_shifted (d := d + 23) hG x0 x1 rb (b_X12_rankOf_20 hG ?_)
  rw [e57]
  exact k I1 k1
/-- the class's rules, with all that they change -/
def N19 (I I' : aI) : Prop := ∀ a, a ≠ 19 → I' a = I a
theorem N19.kp {I I' : aI} (h : N19 I I') : Kp I I' := fun a k hs => by
  by_cases e : a = 19
  · subst e
    cases hs
  · rw [h a e]
theorem sp_regardN {x : Int} (hG : GW b G) (hF : RelF I (I 57)) (hC : RelC I J (I 57)) (k : ∀ I', N19 I I' → ((0 ≤ x ∧ x < I 57 2) → ∀ j, 0 ≤ j → j ≤ 5 → I' 19 j = VM (I 57) x j) → Q none G I' J) : At (d + 2) 100 0 [some (vR 1), some (vI x), none] [] G I J Q := by
  have f1 := hF.1
  have f2 := hC.1
  refine b_X10_regard_0 hG (sp_X0_has hG (fun q0 q1 => b_X10_regard_8 hG (fun _ => ?_) (fun q => absurd q (by decide))) (fun q => b_X10_regard_8 hG (fun q => absurd rfl q) (fun _ => b_X10_regard_11 hG (k I (fun _ _ => rfl) (fun q2 => by omega)))))
  obtain ⟨⟨c1, c2, c3, c4, c5, c6, c7, c8⟩, _, o1, o2, o3, o4, o5, o6, o7, o8, _⟩ := hC.2.1 x q0 (by omega)
  have g := (hF.2.1 (I 22 x) o2.1 o2.2).1.1
  refine b_X10_regard_12 hG q0 (by omega) (sp_lineOf hG o2.1 (by omega) (by omega) (b_X10_regard_43 hG q0 (by omega) (by omega) (b_X7_regard_0 hG (b_X10_regard_68 hG (k _ (fun a ha => by repeat rw [mset_o ha]) (fun _ j j0 j1 => ?_))))))
  have hj : j = 0 ∨ j = 1 ∨ j = 2 ∨ j = 3 ∨ j = 4 ∨ j = 5 := by omega
  unfold VM
  rw [if_neg (by omega), ← c1, ← c2, ← c3, ← c5, ← g]
  rcases hj with rfl | rfl | rfl | rfl | rfl | rfl
  · rw [mset_n (by decide), mset_n (by decide), mset_n (by decide), mset_n (by decide), mset_n (by decide), mset_at]
    rfl
  · rw [mset_n (by decide), mset_n (by decide), mset_n (by decide), mset_n (by decide), mset_at]
    rfl
  · rw [mset_n (by decide), mset_n (by decide), mset_n (by decide), mset_at]
    rfl
  · rw [mset_n (by decide), mset_n (by decide), mset_at]
    rfl
  · rw [mset_n (by decide), mset_at]
    rfl
  · rw [mset_at]
    rfl
/-- the first word, of a call -/
theorem sp_ruledN {x : Int} (hG : GW b G) (hF : RelF I (I 57)) (hC : RelC I J (I 57)) (hR : RelR I (I 57)) (hx : 0 ≤ x ∧ x < I 57 2) (k : ∀ I', N19 I I' → Q (some (vI (ruleF (I 57) (VM (I 57) x) 0 on))) G I' J) : At (d + 3) 101 0 [some (vR 1), some (vI 0), some (vI x), some (vI on), none] [] G I J Q := by
  refine b_X10_ruled_0 hG (sp_regardN hG hF hC (fun I1 k1 hV1 => ?_))
  have hR1 : RelR I1 (I 57) := hR.kp k1.kp
  refine b_X10_ruled_5 hG (sp_ruling (d := d) hG hR1 (fun _ => hV1 hx) ?_)
  rcases rul_ch (V := VM (I 57) x) (w := 0) (on := on) hR1 with ⟨e1, e2, e3⟩ | ⟨r, i, cl, e, e1, e2, e3, e4, e5, e6, e7, e8, e9⟩
  · have k2 := k I1 k1
    rw [e3] at k2
    rw [e2]
    refine b_X10_ruled_14 hG (fun q => absurd q (by decide)) (fun _ => b_X10_ruled_21 hG (b_X7_usual_0 hG (fun q => ?_) (fun _ => b_X7_usual_4 hG (fun q => ?_) (fun _ => b_X7_usual_10 hG (by decide) (by omega) (b_X10_ruled_25 hG ?_)))))
    · omega
    · omega
    · rw [KI1000 (by decide)]
      exact k2
  · have k2 := k I1 k1
    rw [e9] at k2
    unfold valE at k2
    rw [e1, e5]
    have hr10 := hR1.1
    have h16 := e6.2.2.2.1 i.toNat e e7
    rw [show (i.toNat : Int) = i by omega] at h16
    refine b_X10_ruled_14 hG (fun _ => b_X10_ruled_26 hG (fun q5 => b_X10_ruled_49 hG (by omega) (by omega) ?_) (fun q5 => absurd q5 (by decide))) (fun q => ?_)
    · rw [if_neg q5] at k2
      rw [h16.2.1]
      exact k2
    · omega
theorem sp_rankOnN {x day : Int} (hG : GW b G) (hF : RelF I (I 57)) (hC : RelC I J (I 57)) (hR : RelR I (I 57)) (x0 : 0 ≤ x) (x1 : x < I 57 2) (k : ∀ I', N19 I I' → Q (some (vI (rankF (I 57) x day))) G I' J) : At (d + 4) 102 0 [some (vR 1), some (vI x), some (vI day), none, none] [] G I J Q := by
  obtain ⟨⟨g, e1, _⟩, _⟩ := cll hF hC x0 x1
  have rb := ruleF_b (V := VM (I 57) x) (w := 0) (on := day) (by decide) hR
  unfold rankF shiftF at k
  rw [e1] at k
  refine b_X10_rankOn_0 hG (sp_ruledN (d := d) hG hF hC hR ⟨x0, x1⟩ (fun I1 k1 => ?_))
  have k2 := k I1 k1
  have e21 : I1 21 x = I 21 x := by rw [k1 21 (by decide)]
  refine b_X10_rankOn_7 hG x0 g (fun q => b_X10_rankOn_30 hG (fun q2 => b_X10_rankOn_42 hG ?_) (fun q2 => b_X10_rankOn_36 hG (by unfold ok32; omega) ?_)) (fun q => b_X10_rankOn_25 hG (by unfold ok32; omega) ?_)
  · rw [e21] at q q2
    rw [if_neg q, if_neg q2] at k2
    exact k2
  · rw [e21] at q q2
    rw [if_neg q, if_pos q2] at k2
    exact k2
  · rw [e21] at q
    rw [if_pos q] at k2
    exact k2
/-- the cords, of no call -/
theorem sp_ruled4 {S : Int → Int} (hG : GW b G) (hR : RelR I S) (h20 : 0 ≤ I 20 0) (k : Q (some (vI (ruleF S (VM S (-1)) 4 on))) G I J) : At (d + 3) 101 0 [some (vR 1), some (vI 4), some (vI (-1)), some (vI on), none] [] G I J Q := by
  refine b_X10_ruled_0 hG (b_X10_regard_0 hG (sp_X0_has hG (fun q0 q1 => absurd q0 (by decide)) (fun q => b_X10_regard_8 hG (fun q => absurd rfl q) (fun _ => b_X10_regard_11 hG ?_))))
  refine b_X10_ruled_5 hG (sp_ruling (d := d) (V := VM S (-1)) hG hR (fun q => absurd q (by decide)) ?_)
  rcases rul_ch (V := VM S (-1)) (w := 4) (on := on) hR with ⟨e1, e2, e3⟩ | ⟨r, i, cl, e, e1, e2, e3, e4, e5, e6, e7, e8, e9⟩
  · rw [e3] at k
    rw [e2]
    refine b_X10_ruled_14 hG (fun q => absurd q (by decide)) (fun _ => b_X10_ruled_21 hG (b_X7_usual_0 hG (fun q => ?_) (fun _ => b_X7_usual_4 hG (fun q => ?_) (fun _ => b_X7_usual_10 hG (by decide) (by omega) (b_X10_ruled_25 hG ?_)))))
    · omega
    · omega
    · rw [KI1000 (by decide)]
      exact k
  · rw [e9] at k
    unfold valE at k
    rw [e1, e5]
    have hr10 := hR.1
    have h16 := e6.2.2.2.1 i.toNat e e7
    rw [show (i.toNat : Int) = i by omega] at h16
    refine b_X10_ruled_14 hG (fun _ => b_X10_ruled_26 hG (fun q5 => b_X10_ruled_49 hG (by omega) (by omega) ?_) (fun q5 => absurd q5 (by decide))) (fun q => ?_)
    · rw [if_neg q5] at k
      rw [h16.2.1]
      exact k
    · omega
end RL
