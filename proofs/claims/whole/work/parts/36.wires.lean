/-! bits of a long; the calls down and maybe -/
theorem lset {x s : Int} {n : Nat} (hn : n ≤ 63) (h0 : 0 ≤ x) (h1 : x < ((2 ^ n : Nat) : Int)) (s0 : 0 ≤ s) (s1 : s < n) : 0 ≤ lOr x (lShl 1 s) ∧ lOr x (lShl 1 s) < ((2 ^ n : Nat) : Int) ∧ ∀ c : Int, 0 ≤ c → c < n → lAnd (lShr (lOr x (lShl 1 s)) c) 1 = if c = s then 1 else lAnd (lShr x c) 1 := by
  obtain ⟨m, rfl⟩ := Int.eq_ofNat_of_zero_le h0
  obtain ⟨t, rfl⟩ := Int.eq_ofNat_of_zero_le s0
  have hm : m < 2 ^ n := by omega
  have ht : t < n := by omega
  have hp : 2 ^ n ≤ 2 ^ 63 := Nat.pow_le_pow_right (by decide) hn
  have h2 : 1 <<< t < 2 ^ n := by
    rw [Nat.shiftLeft_eq, Nat.one_mul]
    exact Nat.pow_lt_pow_right (by decide) ht
  have hp' : (2 : Nat) ^ 63 = 9223372036854775808 := by decide
  have e1 : lShl 1 (t : Int) = ((1 <<< t : Nat) : Int) := lShl_nat (m := 1) (by omega) (by omega)
  have e2 : lOr (m : Int) ((1 <<< t : Nat) : Int) = ((m ||| 1 <<< t : Nat) : Int) := lOr_nat (by omega) (by omega)
  have h3 : m ||| 1 <<< t < 2 ^ n := Nat.or_lt_two_pow hm h2
  rw [e1, e2]
  refine ⟨by omega, by omega, fun c c0 c1 => ?_⟩
  obtain ⟨u, rfl⟩ := Int.eq_ofNat_of_zero_le c0
  rw [bit64 (by omega), bit64 (by omega), lt_nat (by omega), lt_nat (by omega), Nat.testBit_or, tb2]
  by_cases hu : u = t
  · subst hu
    simp
  · rw [decide_eq_false hu, Bool.or_false, if_neg (show ¬ ((u : Int) = (t : Int)) by omega)]
theorem lt_m1 {k : Nat} (h : k < 64) : lt (-1) k = true := by
  have : ∀ k : Nat, k < 64 → lt (-1) k = true := by decide +kernel
  exact this k h
theorem lclr {x s : Int} {n : Nat} (hn : n ≤ 63) (h0 : 0 ≤ x) (h1 : x < ((2 ^ n : Nat) : Int)) (s0 : 0 ≤ s) (s1 : s < n) : 0 ≤ lAnd x (lXor (lShl 1 s) (-1)) ∧ lAnd x (lXor (lShl 1 s) (-1)) < ((2 ^ n : Nat) : Int) ∧ ∀ c : Int, 0 ≤ c → c < n → lAnd (lShr (lAnd x (lXor (lShl 1 s) (-1))) c) 1 = if c = s then 0 else lAnd (lShr x c) 1 := by
  obtain ⟨m, rfl⟩ := Int.eq_ofNat_of_zero_le h0
  obtain ⟨t, rfl⟩ := Int.eq_ofNat_of_zero_le s0
  have hm : m < 2 ^ n := by omega
  have ht : t < n := by omega
  have hp : 2 ^ n ≤ 2 ^ 63 := Nat.pow_le_pow_right (by decide) hn
  have h2 : 1 <<< t < 2 ^ n := by
    rw [Nat.shiftLeft_eq, Nat.one_mul]
    exact Nat.pow_lt_pow_right (by decide) ht
  have hp' : (2 : Nat) ^ 63 = 9223372036854775808 := by decide
  have e1 : lShl 1 (t : Int) = ((1 <<< t : Nat) : Int) := lShl_nat (m := 1) (by omega) (by omega)
  have h3 : m ^^^ (m &&& 1 <<< t) < 2 ^ n := Nat.xor_lt_two_pow hm (Nat.lt_of_le_of_lt Nat.and_le_left hm)
  have e2 : lAnd (m : Int) (lXor ((1 <<< t : Nat) : Int) (-1)) = ((m ^^^ (m &&& 1 <<< t) : Nat) : Int) := by
    refine lt_ext (n_r64 _) (natol (by omega)) fun k hk => ?_
    rw [lt_and, lt_xor, lt_m1 hk, lt_nat (by omega), lt_nat (by omega), lt_nat (by omega), Nat.testBit_xor, Nat.testBit_and]
    cases m.testBit k <;> cases (1 <<< t).testBit k <;> rfl
  rw [e1, e2]
  refine ⟨by omega, by omega, fun c c0 c1 => ?_⟩
  obtain ⟨u, rfl⟩ := Int.eq_ofNat_of_zero_le c0
  rw [bit64 (by omega), bit64 (by omega), lt_nat (by omega), lt_nat (by omega), Nat.testBit_xor, Nat.testBit_and, tb2]
  by_cases hu : u = t
  · subst hu
    simp
  · rw [decide_eq_false hu, Bool.and_false, Bool.xor_false, if_neg (show ¬ ((u : Int) = (t : Int)) by omega)]
section SM
variable {d : Nat} {b : Bool} {G : aG} {I J : aI} {Q : Option aV → aG → aI → aI → Prop}
theorem sp_isWireC {x y : Int} (hG : GW b G) (k1 : 0 ≤ x → x ≤ 3 → 0 ≤ y → y ≤ 9 → Q (some (vI 1)) G I J) (k0 : x < 0 ∨ 3 < x ∨ y < 0 ∨ 9 < y → Q (some (vI 0)) G I J) : At (d + 1) 145 0 [some (vI x), some (vI y)] [] G I J Q := by
  repeat' first
    | intro _
    | refine sp_within hG ?_ ?_
    | refine b_X11_isWire_0 hG ?_
    | refine b_X11_isWire_6 hG ?_ ?_
    | refine b_X11_isWire_23 hG ?_
    | refine b_X11_isWire_9 hG ?_
    | refine b_X11_isWire_16 hG ?_ ?_
    | refine b_X11_isWire_19 hG ?_
  all_goals first
    | (refine k1 ?_ ?_ ?_ ?_ <;> omega)
    | (refine k0 ?_; omega)
    | omega
theorem sp_isWireM {x y : Int} (hG : GW b G) (k1 : 0 ≤ x → x ≤ 3 → 0 ≤ y → y ≤ 9 → Q (some (vI 1)) G I J) (k0 : x < 0 ∨ 3 < x ∨ y < 0 ∨ 9 < y → Q (some (vI 0)) G I J) : At (d + 2) 214 0 [some (vI x), some (vI y)] [] G I J Q := by
  repeat' first
    | intro _
    | refine sp_isLine hG ?_ ?_
    | refine sp_in hG ?_ ?_
    | refine b_X12_isWire_0 hG ?_
    | refine b_X12_isWire_4 hG ?_ ?_
    | refine b_X12_isWire_21 hG ?_
    | refine b_X12_isWire_7 hG ?_
    | refine b_X12_isWire_14 hG ?_ ?_
    | refine b_X12_isWire_17 hG ?_
  all_goals first
    | (refine k1 ?_ ?_ ?_ ?_ <;> omega)
    | (refine k0 ?_; omega)
    | omega
theorem cLcm01 {x : Int} (h : x = 0 ∨ x = 1) : cLcm x 0 = x := by
  rcases h with rfl | rfl <;> decide
end SM
