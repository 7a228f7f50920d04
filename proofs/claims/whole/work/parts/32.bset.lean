/-! the model's count of bits; a bit that is set -/
theorem popN_le : ∀ f x : Nat, popN f x ≤ f
  | 0, _ => Nat.le_refl 0
  | f + 1, x => by
    unfold popN
    split
    · omega
    · have := popN_le f (x &&& (x - 1))
      omega
theorem pop_le {x : Int} : 0 ≤ pop x ∧ pop x ≤ 12 := by
  unfold pop
  have := popN_le 12 x.toNat
  omega
theorem popz0 : ∀ a : Nat, a < 64 → ∀ c : Nat, c < 64 → (let s := fun x => x &&& (x - 1); s (s (s (s (s (s (s (s (s (s (s (s (64 * a + c))))))))))))) = 0 := by decide +kernel
def clr : Nat → Nat → Nat
  | 0, x => x
  | f + 1, x => clr f (x &&& (x - 1))
theorem clr12 {n : Nat} (h : n < 4096) : clr 12 n = 0 := by
  have := popz0 (n / 64) (by omega) (n % 64) (by omega)
  rw [show 64 * (n / 64) + n % 64 = n by omega] at this
  exact this
section SM
variable {d : Nat} {b : Bool} {G : aG} {I J : aI} {Q : Option aV → aG → aI → aI → Prop}
theorem lp_bitsOf {w : Int} (hG : GW b G) : ∀ (f x c : Nat), x < 4096 → clr f x = 0 → (Q (some (vI ((c + popN f x : Nat) : Int))) G I J) → c + f ≤ 100 → At d 159 4 [some (vI w), some (vI (c : Int)), some (vI (x : Int))] [] G I J Q
  | 0, x, c, hx, hz, k, hf => by
    have hz : x = 0 := hz
    subst hz
    refine b_X12_bitsOf_4 hG (fun _ => b_X12_bitsOf_20 hG ?_) (fun h => absurd rfl h)
    exact k
  | f + 1, x, c, hx, hz, k, hf => by
    unfold popN at k
    refine b_X12_bitsOf_4 hG (fun h => b_X12_bitsOf_20 hG ?_) (fun h => b_X12_bitsOf_8 hG (by unfold ok32; omega) (by unfold ok32; omega) ?_)
    · rw [if_pos (by omega)] at k
      exact k
    · rw [if_neg (by omega)] at k
      have h1 : x &&& (x - 1) ≤ x := Nat.and_le_left
      rw [show ((x : Int) - 1) = ((x - 1 : Nat) : Int) by omega, bAnd_nat (by omega) (by omega), show ((c : Int) + 1) = ((c + 1 : Nat) : Int) by omega]
      refine lp_bitsOf hG f (x &&& (x - 1)) (c + 1) (by omega) hz ?_ (by omega)
      rw [show c + 1 + popN f (x &&& (x - 1)) = c + (popN f (x &&& (x - 1)) + 1) by omega]
      exact k
theorem sp_bitsOf {x : Int} (hG : GW b G) (h0 : 0 ≤ x) (h1 : x < 4096) (k : Q (some (vI (pop x))) G I J) : At d 159 0 [some (vI x), none, none] [] G I J Q := by
  obtain ⟨n, rfl⟩ := Int.eq_ofNat_of_zero_le h0
  refine b_X12_bitsOf_0 hG (lp_bitsOf hG 12 n 0 (by omega) (clr12 (by omega)) ?_ (by decide))
  rw [Nat.zero_add]
  exact k
end SM
theorem tb2 (t u : Nat) : Nat.testBit (1 <<< t) u = decide (u = t) := by
  rw [Nat.shiftLeft_eq, Nat.one_mul, Nat.testBit_two_pow]
  exact decide_eq_decide.2 ⟨Eq.symm, Eq.symm⟩
/-- setting a bit -/
theorem bset {x s : Int} {n : Nat} (hn : n ≤ 31) (h0 : 0 ≤ x) (h1 : x < ((2 ^ n : Nat) : Int)) (s0 : 0 ≤ s) (s1 : s < n) : 0 ≤ bOr x (bShl 1 s) ∧ bOr x (bShl 1 s) < ((2 ^ n : Nat) : Int) ∧ ∀ c : Int, 0 ≤ c → c < n → bAnd (bShr (bOr x (bShl 1 s)) c) 1 = if c = s then 1 else bAnd (bShr x c) 1 := by
  obtain ⟨m, rfl⟩ := Int.eq_ofNat_of_zero_le h0
  obtain ⟨t, rfl⟩ := Int.eq_ofNat_of_zero_le s0
  have hm : m < 2 ^ n := by omega
  have ht : t < n := by omega
  have hp : 2 ^ n ≤ 2 ^ 31 := Nat.pow_le_pow_right (by decide) hn
  have h2 : 1 <<< t < 2 ^ n := by
    rw [Nat.shiftLeft_eq, Nat.one_mul]
    exact Nat.pow_lt_pow_right (by decide) ht
  have hp' : (2 : Nat) ^ 31 = 2147483648 := by decide
  have e1 : bShl 1 (t : Int) = ((1 <<< t : Nat) : Int) := bShl_nat (m := 1) (by omega) (by omega)
  have e2 : bOr (m : Int) ((1 <<< t : Nat) : Int) = ((m ||| 1 <<< t : Nat) : Int) := bOr_nat (by omega) (by omega)
  have h3 : m ||| 1 <<< t < 2 ^ n := Nat.or_lt_two_pow hm h2
  rw [e1, e2]
  refine ⟨by omega, by omega, fun c c0 c1 => ?_⟩
  obtain ⟨u, rfl⟩ := Int.eq_ofNat_of_zero_le c0
  rw [bit32 (by omega), bit32 (by omega), bt_nat (by omega), bt_nat (by omega), Nat.testBit_or, tb2]
  by_cases hu : u = t
  · subst hu
    simp
  · rw [decide_eq_false hu, Bool.or_false, if_neg (show ¬ ((u : Int) = (t : Int)) by omega)]
