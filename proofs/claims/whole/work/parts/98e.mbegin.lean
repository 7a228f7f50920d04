/-! minutes: calls that begin, and the minutes of the class -/
section SM
variable {d : Nat} {b : Bool} {G : aG} {I J : aI} {Q : Option aV → aG → aI → aI → Prop} {A I0 : aI} {S : Int → Int} {t : Int}
theorem EX_3 {A : aI} {y c v : Int} {s : Int → Int} {I : aI} (h : EX A y s I) (hs : ¬ s c = 1) (hv : ¬ v = 1) : EX A y (sset s c v) I := by
  have e : ∀ k, sset s c v k = 1 ↔ s k = 1 := fun k => by
    rw [sset_a]
    split
    · rename_i g
      rw [g]
      exact ⟨fun q => absurd q hv, fun q => absurd q hs⟩
    · exact Iff.rfl
  exact EX_no h (Int.le_refl _) (fun k k0 k1 => by rw [e k]; exact ⟨fun q => ⟨k1, q⟩, fun q => q.2⟩) (cuS_c (fun k _ _ => e k))
/-- one call that waits -/
theorem sp_begin {c m : Int} {x : aT} (hG : GW b G) (hF : RelF A S) (hC : RelC A J S) (c0 : 0 ≤ c) (c1 : c < S 2) (hs : x.1 c = 0) (hI : CI A t x I) (hE : EX A (S 2) x.1 I) (hz : I 45 5 ≤ 200) (ht : 0 ≤ t ∧ t ≤ 40100) (ht3 : S 3 ≤ t) (K : ∀ I', CI A t (stB A J (S 2) m t true c x) I' → EX A (S 2) (stB A J (S 2) m t true c x).1 I' → I' 45 5 ≤ I 45 5 + 1 → I' 46 = I 46 → I' 45 2 = I 45 2 → Q none G I' J) : At (d + 3) 36 0 [some (vR 45), some (vR 1), some (vI c), some (vI m), none, none] [] G I J Q := by
  have cc0 := hC.1
  obtain ⟨⟨g60, _⟩, h1, _, _, _, _, _, _, h27, _⟩ := cll hF hC c0 c1
  have h27' := (hC.2.1 c c0 c1).2.2.2.2.2.2.2.2.2.1
  have e21 : I 21 = A 21 := hI.1 21 (by decide) (by decide) (by decide) (by decide)
  have e24 : I 24 = A 24 := hI.1 24 (by decide) (by decide) (by decide) (by decide)
  have e27 : I 27 = A 27 := hI.1 27 (by decide) (by decide) (by decide) (by decide)
  have e1 := hI.2.1
  have sb := sumI_bd (f := cuS A x.1) (B := 1) cc0.1 (fun k _ _ => cuS_b)
  obtain ⟨x1, x2, x3, x4, x5⟩ := id hE
  have hl := ln_b hF hC c0 c1
  have db := dn_bit hF hC c0 c1
  have ba := ba_i hl.1 x1
  have hns : ¬ x.1 c = 1 := by omega
  have lost : ∀ x5, dnF A J c → At (d + 3) 36 50 [some (vR 45), some (vR 1), some (vI c), some (vI m), some (vR 20), some (vI x5)] [] G I J Q := fun x5 hd => b_X3_begin_50 hG c0 g60 (K _ (by rw [stB_d hd]; exact CI_29 hI) (by rw [stB_d hd]; exact EX_fr (EX_3 hE hns (by decide)) (by rw [mset_o (by decide)]) (by rw [mset_o (by decide)]) (by rw [mset_o (by decide)])) (by rw [mset_o (by decide)]; omega) (by rw [mset_o (by decide)]) (by rw [mset_o (by decide)]))
  have waits : ∀ x5, ¬ dnF A J c → ¬ okF A (S 2) m x.1 c → At (d + 3) 36 110 [some (vR 45), some (vR 1), some (vI c), some (vI m), some (vR 20), some (vI x5)] [] G I J Q := fun x5 hd ho => by
    refine b_X3_begin_110 hG c0 g60 (by rw [e1, e27]; unfold ok32; omega) (fun g => b_X3_begin_135 hG (K I ?_ ?_ (by omega) rfl rfl)) (fun g => b_X3_begin_127 hG c0 g60 (K _ ?_ ?_ ?_ ?_ ?_))
    · rw [e1, e27] at g
      rw [stB_w hd ho (by omega)]
      exact hI
    · rw [e1, e27] at g
      rw [stB_w hd ho (by omega)]
      exact hE
    · rw [e1, e27] at g
      rw [stB_l hd ho g]
      exact CI_29 hI
    · rw [e1, e27] at g
      rw [stB_l hd ho g]
      exact EX_fr (EX_3 hE hns (by decide)) (by rw [mset_o (by decide)]) (by rw [mset_o (by decide)]) (by rw [mset_o (by decide)])
    · rw [mset_o (by decide)]
      omega
    · rw [mset_o (by decide)]
    · rw [mset_o (by decide)]
  have free : (unF (A 21 c) 2 = 0 ∨ sumI (cuS A x.1) (S 2) < m) → ¬ dnF A J c → At (d + 3) 36 61 [some (vR 45), some (vR 1), some (vI c), some (vI m), some (vR 20), some (vI 1)] [] G I J Q := fun hh hd => by
    refine b_X3_begin_61 hG (fun g => absurd g (by decide)) (fun _ => b_X3_begin_66 hG c0 g60 (fun g => waits _ hd (fun ho => ?_)) (fun g => ?_))
    · rw [e24] at g
      refine g (ba.2 (fun l l0 l1 q => ?_))
      obtain ⟨k, k0, k1, k2, k3⟩ := (x2 l l0 l1).1 q.2
      exact ho.2 k k0 k1 k2 l l0 l1 k3 ((hl.2 l l0 l1).1 q.1)
    · rw [e24] at g
      have ho : okF A (S 2) m x.1 c := ⟨hh, fun k k0 k1 k2 l l0 l1 k3 k4 => ba.1 g l l0 l1 ⟨(hl.2 l l0 l1).2 k4, (x2 l l0 l1).2 ⟨k, k0, k1, k2, k3⟩⟩⟩
      have hI2 : CI A t (sset x.1 c 1, sset x.2 c t) (mset (mset I 29 c 1) 28 c (I 1 0)) := by
        rw [e1]
        exact CI_28 (CI_29 hI)
      have o21 : (mset (mset I 29 c 1) 28 c (I 1 0)) 21 = A 21 := by rw [mset_o (by decide), mset_o (by decide), e21]
      have o24 : (mset (mset I 29 c 1) 28 c (I 1 0)) 24 = A 24 := by rw [mset_o (by decide), mset_o (by decide), e24]
      have o45 : (mset (mset I 29 c 1) 28 c (I 1 0)) 45 = I 45 := by rw [mset_o (by decide), mset_o (by decide)]
      refine b_X3_begin_81 hG c0 g60 (sp_occupy hG c0 g60 (by rw [o21]; exact h1) (by rw [o45]; omega) (by rw [o45]; omega) (fun I1 q1 q2 q3 q4 q5 => b_X3_begin_107 hG (K I1 ?_ ?_ ?_ ?_ ?_)))
      · rw [stB_k hd ho]
        exact CI_45 hI2 (fun a ha => q1 a (by omega))
      · rw [stB_k hd ho]
        rw [o45, o24] at q3
        rw [o45, o21] at q4
        rw [o45] at q5
        refine EX_on hE c0 c1 (Int.le_refl _) hl (fun k k0 k1 => ?_) (cuS_on c0 c1 hns) q3 q4 q5
        show sset x.1 c 1 k = 1 ↔ _
        rw [sset_a]
        by_cases hk : k = c
        · rw [if_pos hk]
          exact ⟨fun _ => Or.inr hk, fun _ => rfl⟩
        · rw [if_neg hk]
          exact ⟨fun z => Or.inl ⟨k1, z⟩, fun z => by
            rcases z with z | z
            · exact z.2
            · exact absurd z hk⟩
      · rw [q5, o45]
        omega
      · rw [q1 46 (by decide), mset_o (by decide), mset_o (by decide)]
      · rw [q2 2 (by decide) (by decide) (by decide), o45]
  have c23 : (unF (A 21 c) 2 = 0 ∨ sumI (cuS A x.1) (S 2) < m) → At (d + 3) 36 23 [some (vR 45), some (vR 1), some (vI c), some (vI m), some (vR 20), none] [] G I J Q := fun hh => b_X3_begin_23 hG c0 g60 (fun g => free hh (db.1 g)) (fun g => lost _ (Classical.byContradiction fun q => g (db.2 q)))
  refine b_X3_begin_0 hG (sp_cords' hG c0 g60 (by rw [e21]; exact h1) ?_)
  rw [e21]
  rcases unF_01 (a := A 21 c) (o := 2) with hu | hu
  · rw [hu]
    exact b_X3_begin_12 hG (fun _ => c23 (Or.inl hu)) (fun q => absurd rfl q)
  · rw [hu]
    refine b_X3_begin_12 hG (fun q => absurd q (by decide)) (fun _ => b_X3_begin_15 hG (fun g => ?_) (fun g => c23 (Or.inr (by omega))))
    have no : ¬ okF A (S 2) m x.1 c := fun h => by
      have := h.1
      omega
    exact b_X3_begin_27 hG c0 g60 (fun g => b_X3_begin_61 hG (fun _ => waits _ (db.1 g) no) (fun q => absurd rfl q)) (fun g => lost _ (Classical.byContradiction fun q => g (db.2 q)))
/-- the queue is gone through -/
theorem lp_begC {m w : Int} {R : aT} {q : List Int} (hG : GW b G) (hF : RelF A S) (hC : RelC A J S) (ht : 0 ≤ t ∧ t ≤ 40100) (ht3 : S 3 ≤ t) (hw : w = (q.length : Int)) (hw60 : q.length ≤ 60) (hqn : q.Nodup) (hqr : ∀ k ∈ q, 0 ≤ k ∧ k < S 2) (K : ∀ (kl : List Int) (I' : aI), CI A t R I' → EX A (S 2) R.1 I' → kl.Sublist q → (∀ k, k ∈ kl ↔ k ∈ q ∧ R.1 k = 0) → I' 45 2 = (kl.length : Int) → LM 46 0 kl I' → Q none G I' J) : ∀ (r p kl : List Int) (x : aT) (I : aI) (u5 : Option aV), q = p ++ r → kl.Sublist p → (∀ k, k ∈ kl ↔ k ∈ p ∧ x.1 k = 0) → (∀ k ∈ r, x.1 k = 0) → runL A J (S 2) m t true r x = R → CI A t x I → EX A (S 2) x.1 I → I 45 5 ≤ 60 + (p.length : Int) → I 45 2 = (kl.length : Int) → LM 46 0 kl I → LM 46 (p.length : Int) r I → At (d + 4) 35 32 [some (vR 45), some (vR 1), some (vI w), some (vI m), some (vI (p.length : Int)), u5] [] G I J Q
  | [], p, kl, x, I, u5, e, hs, hk, hz, hR, hI, hE, h5, h2, m1, m2 => by
    rw [List.append_nil] at e
    have hR : x = R := hR
    rw [e] at hw K
    rw [hR] at hI hE hk
    exact b_X3_beginCalls_32 hG (fun _ => b_X3_beginCalls_117 hG (K kl I hI hE hs hk h2 m1)) (fun g => absurd g (by omega))
  | c :: r, p, kl, x, I, u5, e, hs, hk, hz, hR, hI, hE, h5, h2, m1, m2 => by
    have cc0 := hC.1
    have e20 : I 20 0 = S 2 := by rw [hI.1 20 (by decide) (by decide) (by decide) (by decide)]; exact cc0.2.2
    have el : q.length = p.length + (r.length + 1) := by rw [e, List.length_append, List.length_cons]
    have hcq := hqr c (by rw [e]; exact List.mem_append.2 (Or.inr List.mem_cons_self))
    have ec : I 46 (p.length : Int) = c := by
      have := m2 0 c rfl
      rwa [show (p.length : Int) + ((0 : Nat) : Int) = (p.length : Int) by omega] at this
    have hnd := e ▸ hqn
    obtain ⟨nd1, nd2, nd3⟩ := List.nodup_append.1 hnd
    rw [List.nodup_cons] at nd2
    have cp : ¬ c ∈ p := fun g => nd3 c g c List.mem_cons_self rfl
    have kll := hs.length_le
    have eq2 : q = (p ++ [c]) ++ r := by rw [e, List.append_assoc]; rfl
    have pl : (((p ++ [c]).length : Nat) : Int) = (p.length : Int) + 1 := by
      rw [List.length_append]
      rfl
    have ecn : I 46 (p.length : Int) < 60 ∧ 0 ≤ I 46 (p.length : Int) := by omega
    refine b_X3_beginCalls_32 hG (fun g => absurd g (by omega)) (fun _ => b_X3_beginCalls_38 hG (fun g => absurd g (by omega)) (fun _ => b_X3_beginCalls_45 hG (by omega) (by omega) ?_))
    rw [ec]
    refine sp_X0_has hG (fun _ _ => b_X3_beginCalls_63 hG (fun _ => b_X3_beginCalls_69 hG ?_) (fun g => absurd g (by decide))) (fun g => absurd g (by omega))
    refine sp_begin (d := d) hG hF hC hcq.1 hcq.2 (hz c List.mem_cons_self) hI hE (by omega) ht ht3 (fun I1 hI1 hE1 q5 q46 q2 => ?_)
    have e29 : I1 29 c = (stB A J (S 2) m t true c x).1 c := by rw [hI1.2.2.2.1]
    have m2r : LM 46 ((p.length : Int) + 1) r I1 := fun i v hv => by
      rw [q46, show (p.length : Int) + 1 + (i : Int) = (p.length : Int) + ((i + 1 : Nat) : Int) by omega]
      exact m2 (i + 1) v hv
    have hz' : ∀ k ∈ r, (stB A J (S 2) m t true c x).1 k = 0 := fun k hk => by
      rw [(stB_n (show k ≠ c from fun g => nd2.1 (by rw [g] at hk; exact hk))).1]
      exact hz k (List.mem_cons_of_mem _ hk)
    have old : ∀ k, k ≠ c → (k ∈ kl ↔ (k ∈ p ++ [c]) ∧ (stB A J (S 2) m t true c x).1 k = 0) := fun k hkc => by
      rw [hk k, (stB_n hkc).1, List.mem_append, List.mem_singleton]
      constructor
      · rintro ⟨a, e⟩
        exact ⟨Or.inl a, e⟩
      · rintro ⟨a | a, e⟩
        · exact ⟨a, e⟩
        · exact absurd a hkc
    refine b_X3_beginCalls_77 hG hcq.1 (by omega) (fun g => b_X3_beginCalls_111 hG (by unfold ok32; omega) ?_) (fun g => b_X3_beginCalls_90 hG (by omega) (by omega) (by unfold ok32; omega) (by unfold ok32; omega) ?_)
    · rw [← pl]
      refine lp_begC hG hF hC ht ht3 hw hw60 hqn hqr K r (p ++ [c]) kl _ I1 _ eq2 (hs.trans (List.sublist_append_left _ _)) (fun k => ?_) hz' hR hI1 hE1 (by omega) (by omega) (LM_fr m1 q46) (by rw [pl]; exact m2r)
      by_cases hkc : k = c
      · rw [hkc]
        constructor
        · intro h
          exact absurd ((hk c).1 h).1 cp
        · intro h
          rw [e29] at g
          exact absurd h.2 g
      · exact old k hkc
    · rw [← pl]
      have kn : (((kl ++ [c]).length : Nat) : Int) = (kl.length : Int) + 1 := by
        rw [List.length_append]
        rfl
      have i45 : I1 45 2 = (kl.length : Int) := by omega
      rw [i45]
      refine lp_begC hG hF hC ht ht3 hw hw60 hqn hqr K r (p ++ [c]) (kl ++ [c]) _ _ _ eq2 (hs.append (List.Sublist.refl _)) (fun k => ?_) hz' hR (CI_45 hI1 (fun a ha => by rw [mset_o (by omega), mset_o (by omega)])) (EX_fr hE1 (by rw [mset_n (by decide), mset_o (by decide)]) (by rw [mset_n (by decide), mset_o (by decide)]) (by rw [mset_n (by decide), mset_o (by decide)])) ?_ (by rw [mset_at, kn]) (LM_o ?_ (by decide)) (LM_o (fun i v hv => ?_) (by decide))
      · by_cases hkc : k = c
        · rw [hkc]
          rw [e29] at g
          exact ⟨fun _ => ⟨List.mem_append.2 (Or.inr (List.mem_singleton.2 rfl)), g⟩, fun _ => List.mem_append.2 (Or.inr (List.mem_singleton.2 rfl))⟩
        · rw [← old k hkc, List.mem_append, List.mem_singleton]
          exact ⟨fun h => h.resolve_right hkc, Or.inl⟩
      · rw [mset_n (by decide), mset_o (by decide)]
        omega
      · exact LM_ins (v := []) (LM_fr m1 q46) (fun i w hw => by cases hw)
      · rw [pl, mset_n (by omega)]
        exact m2r i v hv
end SM
