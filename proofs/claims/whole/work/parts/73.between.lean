/-! how many calls were asked between two farms -/
def betF (A : aI) (a c k : Int) : Int := if (A 22 k = a ∧ A 23 k = c) ∨ (A 22 k = c ∧ A 23 k = a) then 1 else 0
def betN (A : aI) (a c : Int) : Int := sumI (betF A a c) (A 20 0)
theorem betF_c {A : aI} {a c k : Int} : betF A a c k = betF A c a k := by
  unfold betF
  by_cases h : (A 22 k = a ∧ A 23 k = c) ∨ (A 22 k = c ∧ A 23 k = a)
  · rw [if_pos h, if_pos h.symm]
  · rw [if_neg h, if_neg (fun q => h q.symm)]
theorem betN_c {A : aI} {a c : Int} : betN A a c = betN A c a := sumI_c fun _ _ _ => betF_c
theorem betF_r {A : aI} {a c k : Int} : 0 ≤ betF A a c k ∧ betF A a c k ≤ 1 := by
  unfold betF
  split <;> decide
theorem sumN_r {f : Int → Int} (h : ∀ k, 0 ≤ f k ∧ f k ≤ 1) : ∀ n : Nat, 0 ≤ sumN f n ∧ sumN f n ≤ n
  | 0 => by
    unfold sumN
    omega
  | n + 1 => by
    have := sumN_r h n
    have := h n
    unfold sumN
    omega
theorem betN_r {A : aI} {a c : Int} (h : 0 ≤ A 20 0 ∧ A 20 0 ≤ 60) : 0 ≤ betN A a c ∧ betN A a c ≤ 60 := by
  have := sumN_r (f := betF A a c) (fun _ => betF_r) (A 20 0).toNat
  unfold betN sumI
  omega
section SM
variable {d : Nat} {b : Bool} {G : aG} {I J : aI} {Q : Option aV → aG → aI → aI → Prop}
theorem lp_between {a c : Int} (hG : GW b G) (hr : 0 ≤ I 20 0 ∧ I 20 0 ≤ 60) (k : Q (some (vI (betN I a c))) G I J) : ∀ (j : Nat) (x y : Int), 0 ≤ y → y + j = I 20 0 → x = sumI (betF I a c) y → 0 ≤ x → x ≤ y → At d 18 5 [some (vR 20), some (vI a), some (vI c), some (vI x), some (vI y)] [] G I J Q
  | 0, x, y, h0, h1, hx, _, _ => by
    refine b_X0_between_5 hG (fun _ => b_X0_between_67 hG ?_) (fun h => absurd h (by omega))
    rw [hx, show y = I 20 0 by omega]
    exact k
  | j + 1, x, y, h0, h1, hx, hx0, hx1 => by
    have hs := sumI_s (f := betF I a c) h0
    have n1 : ((I 22 y = a ∧ I 23 y = c) ∨ (I 22 y = c ∧ I 23 y = a)) → At d 18 5 [some (vR 20), some (vI a), some (vI c), some (vI (x + 1)), some (vI (y + 1))] [] G I J Q := fun e => by
      refine lp_between hG hr k j _ _ (by omega) (by omega) ?_ (by omega) (by omega)
      rw [hs, hx]
      unfold betF
      rw [if_pos e]
    have n0 : ¬ ((I 22 y = a ∧ I 23 y = c) ∨ (I 22 y = c ∧ I 23 y = a)) → At d 18 5 [some (vR 20), some (vI a), some (vI c), some (vI x), some (vI (y + 1))] [] G I J Q := fun e => by
      refine lp_between hG hr k j _ _ (by omega) (by omega) ?_ (by omega) (by omega)
      rw [hs, hx]
      have : betF I a c y = 0 := by
        unfold betF
        rw [if_neg e]
      omega
    have o := (show ok32 (y + 1) by unfold ok32; omega)
    have yes := fun e => b_X0_between_58 hG (x1 := a) (x2 := c) (J := J) (Q := Q) (d := d) (by unfold ok32; omega) o (n1 e)
    have no := fun e => b_X0_between_61 hG (x1 := a) (x2 := c) (J := J) (Q := Q) (d := d) o (n0 e)
    have part2 : ¬ (I 22 y = a ∧ I 23 y = c) → At d 18 36 [some (vR 20), some (vI a), some (vI c), some (vI x), some (vI y)] [] G I J Q := fun e1 => b_X0_between_36 hG h0 (by omega) (fun e => no (by omega)) (fun e => b_X0_between_47 hG h0 (by omega) (fun e3 => no (by omega)) (fun e3 => yes (Or.inr ⟨e, e3⟩)))
    exact b_X0_between_5 hG (fun h => absurd h (by omega)) (fun h => b_X0_between_14 hG h0 (by omega) (fun e => part2 (by omega)) (fun e => b_X0_between_25 hG h0 (by omega) (fun e2 => yes (Or.inl ⟨e, e2⟩)) (fun e2 => part2 (by omega))))
theorem sp_between {a c : Int} (hG : GW b G) (hr : 0 ≤ I 20 0 ∧ I 20 0 ≤ 60) (k : Q (some (vI (betN I a c))) G I J) : At d 18 0 [some (vR 20), some (vI a), some (vI c), none, none] [] G I J Q :=
  b_X0_between_0 hG (lp_between hG hr k (I 20 0).toNat 0 0 (by decide) (by omega) rfl (by decide) (by decide))
theorem lp_asked {A B : aI} {a c : Int} (hG : GW b G) (hF : RelF A (I 57)) (hC : RelC A B (I 57)) (ha : 0 ≤ a ∧ a < 12) (hc : 0 ≤ c ∧ c < 12) (k : Q (some (vI (betN A a c))) G I J) : ∀ (j : Nat) (x y : Int) (u : Option aV), 0 ≤ y → y + j = I 57 2 → x = sumI (betF A a c) y → 0 ≤ x → x ≤ y → At (d + 1) 229 5 [some (vR 56), some (vI a), some (vI c), some (vI x), some (vI y), u] [] G I J Q
  | 0, x, y, u, h0, h1, hx, _, _ => by
    have f2 := hC.1
    refine b_X12_asked_5 hG (fun _ => b_X12_asked_108 hG ?_) (fun h => absurd h (by omega))
    rw [hx, show y = A 20 0 by omega]
    exact k
  | j + 1, x, y, u, h0, h1, hx, hx0, hx1 => by
    have f2 := hC.1
    have hs := sumI_s (f := betF A a c) h0
    obtain ⟨⟨g, s0, s1, s2, _⟩, h21, h22, _, _, h3, _⟩ := cll hF hC h0 (by omega)
    have o := (show ok32 (y + 1) by unfold ok32; omega)
    have yes : (((A 22 y = a ∧ A 23 y = c) ∨ (A 22 y = c ∧ A 23 y = a))) → At (d + 1) 229 95 [some (vR 56), some (vI a), some (vI c), some (vI x), some (vI y), some (vI 1)] [vI x] G I J Q := fun e => by
      refine b_X12_asked_95 hG (by unfold ok32; omega) o (lp_asked hG hF hC ha hc k j _ _ _ (by omega) (by omega) ?_ (by omega) (by omega))
      rw [hs, hx]
      unfold betF
      rw [if_pos e]
    have no : ∀ u, ¬ (((A 22 y = a ∧ A 23 y = c) ∨ (A 22 y = c ∧ A 23 y = a))) → At (d + 1) 229 64 [some (vR 56), some (vI a), some (vI c), some (vI x), some (vI y), u] [] G I J Q := fun u e => by
      refine b_X12_asked_64 hG (by unfold ok32; omega) o (lp_asked hG hF hC ha hc k j _ _ _ (by omega) (by omega) ?_ (by omega) (by omega))
      have : betF A a c y = 0 := by
        unfold betF
        rw [if_neg e]
      omega
    have kind : ∀ u, (((A 22 y = a ∧ A 23 y = c) ∨ (A 22 y = c ∧ A 23 y = a))) → At (d + 1) 229 60 [some (vR 56), some (vI a), some (vI c), some (vI x), some (vI y), u] [] G I J Q := fun u e => by
      refine b_X12_asked_60 hG (b_X12_c_0 hG (by unfold ok32; omega) (by unfold ok32; omega) (by unfold ok32; omega) (by omega) (by omega) ?_)
      rw [s0]
      refine b_X12_asked_80 hG (fun _ => yes e) (fun q => b_X12_asked_84 hG (b_X12_c_0 hG (by unfold ok32; omega) (by unfold ok32; omega) (by unfold ok32; omega) (by omega) (by omega) ?_))
      rw [s0]
      exact b_X12_asked_91 hG (fun q2 => absurd (h3 (by omega)) (by omega)) (fun _ => yes e)
    have part2 : ∀ u, ¬ (A 22 y = a ∧ A 23 y = c) → At (d + 1) 229 38 [some (vR 56), some (vI a), some (vI c), some (vI x), some (vI y), u] [] G I J Q := fun u e1 => by
      refine b_X12_asked_38 hG (b_X12_c_0 hG (by unfold ok32; omega) (by unfold ok32; omega) (by unfold ok32; omega) (by omega) (by omega) ?_)
      rw [s1]
      refine b_X12_asked_45 hG (fun e => no _ (by omega)) (fun e => b_X12_asked_49 hG (b_X12_c_0 hG (by unfold ok32; omega) (by unfold ok32; omega) (by unfold ok32; omega) (by omega) (by omega) ?_))
      rw [s2]
      exact b_X12_asked_56 hG (fun e3 => no _ (by omega)) (fun e3 => kind _ (Or.inr ⟨e, e3⟩))
    refine b_X12_asked_5 hG (fun h => absurd h (by omega)) (fun h => b_X12_asked_16 hG (b_X12_c_0 hG (by unfold ok32; omega) (by unfold ok32; omega) (by unfold ok32; omega) (by omega) (by omega) ?_))
    rw [s1]
    refine b_X12_asked_23 hG (fun e => part2 _ (by omega)) (fun e => b_X12_asked_27 hG (b_X12_c_0 hG (by unfold ok32; omega) (by unfold ok32; omega) (by unfold ok32; omega) (by omega) (by omega) ?_))
    rw [s2]
    exact b_X12_asked_34 hG (fun e2 => kind _ (Or.inl ⟨e, e2⟩)) (fun e2 => part2 _ (by omega))
theorem sp_asked {A B : aI} {a c : Int} (hG : GW b G) (hF : RelF A (I 57)) (hC : RelC A B (I 57)) (ha : 0 ≤ a ∧ a < 12) (hc : 0 ≤ c ∧ c < 12) (k : Q (some (vI (betN A a c))) G I J) : At (d + 1) 229 0 [some (vR 56), some (vI a), some (vI c), none, none, none] [] G I J Q :=
  b_X12_asked_0 hG (lp_asked hG hF hC ha hc k (I 57 2).toNat 0 0 none (by decide) (by have := hC.1; omega) rfl (by decide) (by decide))
end SM
