/-! the call counting -/
theorem bOr0 {x : Int} (h0 : 0 ≤ x) (h1 : x < 2147483648) : bOr x 0 = x := by
  obtain ⟨m, rfl⟩ := Int.eq_ofNat_of_zero_le h0
  have := bOr_nat (m := m) (n := 0) (by omega) (by decide)
  rw [Nat.or_zero] at this
  exact this
/-- a mask that grows place by place -/
def mskN (p : Int → Int → Bool) : Nat → Int
  | 0 => 0
  | n + 1 => if p n (mskN p n) = true then bOr (mskN p n) (bShl 1 n) else mskN p n
def mskI (p : Int → Int → Bool) (n : Int) : Int := mskN p n.toNat
theorem mskI_s {p : Int → Int → Bool} {n : Int} (h : 0 ≤ n) : mskI p (n + 1) = if p n (mskI p n) = true then bOr (mskI p n) (bShl 1 n) else mskI p n := by
  unfold mskI
  rw [show (n + 1).toNat = n.toNat + 1 by omega]
  show (if p (n.toNat : Int) (mskN p n.toNat) = true then _ else _) = _
  rw [Int.toNat_of_nonneg h]
theorem mskN_b {p : Int → Int → Bool} : ∀ n : Nat, n ≤ 31 → 0 ≤ mskN p n ∧ mskN p n < ((2 ^ n : Nat) : Int)
  | 0, _ => ⟨Int.le_refl 0, show (0 : Int) < 1 by decide⟩
  | n + 1, h => by
    obtain ⟨a, b⟩ := mskN_b (p := p) n (by omega)
    have hp : 2 ^ n ≤ 2 ^ (n + 1) := Nat.pow_le_pow_right (by decide) (by omega)
    unfold mskN
    split
    · have := bset (n := n + 1) (x := mskN p n) (s := (n : Int)) h a (by omega) (by omega) (by omega)
      exact ⟨this.1, this.2.1⟩
    · omega
theorem mskI_b {p : Int → Int → Bool} {n : Int} (h : n ≤ 12) : 0 ≤ mskI p n ∧ mskI p n < 4096 := by
  obtain ⟨a, b⟩ := mskN_b (p := p) n.toNat (by omega)
  have hp : 2 ^ n.toNat ≤ 2 ^ 12 := Nat.pow_le_pow_right (by decide) (by omega)
  unfold mskI
  omega
theorem mskN_c {p q : Int → Int → Bool} : ∀ n : Nat, (∀ k : Int, ∀ m, 0 ≤ k → k < n → p k m = q k m) → mskN p n = mskN q n
  | 0, _ => rfl
  | n + 1, h => by
    unfold mskN
    rw [mskN_c n (fun k m h0 h1 => h k m h0 (by omega)), h n _ (by omega) (by omega)]
theorem mskI_c {p q : Int → Int → Bool} {n : Int} (h : ∀ k m, 0 ≤ k → k < n → p k m = q k m) : mskI p n = mskI q n := mskN_c n.toNat (fun k m h0 h1 => h k m h0 (by omega))
