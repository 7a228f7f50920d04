/-! bits of the machine's words -/
def bt (x : Int) (k : Nat) : Bool := (BitVec.ofInt 32 x).getLsbD k
def lt (x : Int) (k : Nat) : Bool := (BitVec.ofInt 64 x).getLsbD k
theorem ofi32 (z : Int32) : BitVec.ofInt 32 z.toInt = z.toBitVec := by
  rw [← Int32.toInt_toBitVec]
  exact BitVec.ofInt_toInt
theorem ofi64 (z : Int64) : BitVec.ofInt 64 z.toInt = z.toBitVec := by
  rw [← Int64.toInt_toBitVec]
  exact BitVec.ofInt_toInt
theorem bt_and {x y : Int} {k : Nat} : bt (bAnd x y) k = (bt x k && bt y k) := by
  unfold bt bAnd
  rw [ofi32]
  exact BitVec.getLsbD_and
theorem bt_or {x y : Int} {k : Nat} : bt (bOr x y) k = (bt x k || bt y k) := by
  unfold bt bOr
  rw [ofi32]
  exact BitVec.getLsbD_or
theorem bt_xor {x y : Int} {k : Nat} : bt (bXor x y) k = (bt x k ^^ bt y k) := by
  unfold bt bXor
  rw [ofi32]
  exact BitVec.getLsbD_xor
theorem lt_and {x y : Int} {k : Nat} : lt (lAnd x y) k = (lt x k && lt y k) := by
  unfold lt lAnd
  rw [ofi64]
  exact BitVec.getLsbD_and
theorem lt_or {x y : Int} {k : Nat} : lt (lOr x y) k = (lt x k || lt y k) := by
  unfold lt lOr
  rw [ofi64]
  exact BitVec.getLsbD_or
theorem lt_xor {x y : Int} {k : Nat} : lt (lXor x y) k = (lt x k ^^ lt y k) := by
  unfold lt lXor
  rw [ofi64]
  exact BitVec.getLsbD_xor
theorem sm32 : ∀ n : Nat, n < 32 → ((Int32.ofInt (n : Int) &&& 31).toBitVec.smod 32).toNat = n := by decide +kernel
theorem sm64 : ∀ n : Nat, n < 64 → (((Int32.ofInt (n : Int)).toInt64 &&& 63).toBitVec.smod 64).toNat = n := by decide +kernel
theorem bt_shl {x : Int} {s k : Nat} (h : s < 32) : bt (bShl x (s : Int)) k = (decide (k < 32) && !decide (k < s) && bt x (k - s)) := by
  unfold bt bShl
  rw [ofi32, Int32.toBitVec_shiftLeft, BitVec.shiftLeft_eq', sm32 s h, BitVec.getLsbD_shiftLeft]
  rfl
theorem lt_shl {x : Int} {s k : Nat} (h : s < 64) : lt (lShl x (s : Int)) k = (decide (k < 64) && !decide (k < s) && lt x (k - s)) := by
  unfold lt lShl
  rw [ofi64, Int64.toBitVec_shiftLeft, BitVec.shiftLeft_eq', sm64 s h, BitVec.getLsbD_shiftLeft]
  rfl
theorem bt_shr {x : Int} {s k : Nat} (h : s < 32) : bt (bShr x (s : Int)) k = (!decide (32 ≤ k) && if s + k < 32 then bt x (s + k) else (BitVec.ofInt 32 x).msb) := by
  unfold bt bShr
  rw [ofi32, Int32.toBitVec_shiftRight, BitVec.getLsbD_sshiftRight', sm32 s h]
  rfl
theorem lt_shr {x : Int} {s k : Nat} (h : s < 64) : lt (lShr x (s : Int)) k = (!decide (64 ≤ k) && if s + k < 64 then lt x (s + k) else (BitVec.ofInt 64 x).msb) := by
  unfold lt lShr
  rw [ofi64, Int64.toBitVec_shiftRight, BitVec.getLsbD_sshiftRight', sm64 s h]
  rfl
theorem bt_ext {x y : Int} (hx : ok32 x) (hy : ok32 y) (h : ∀ k, k < 32 → bt x k = bt y k) : x = y := by
  have e : BitVec.ofInt 32 x = BitVec.ofInt 32 y := BitVec.eq_of_getLsbD_eq h
  rw [← n_t32 hx, ← n_t32 hy]
  exact congrArg BitVec.toInt e
theorem lt_ext {x y : Int} (hx : ok64 x) (hy : ok64 y) (h : ∀ k, k < 64 → lt x k = lt y k) : x = y := by
  have e : BitVec.ofInt 64 x = BitVec.ofInt 64 y := BitVec.eq_of_getLsbD_eq h
  rw [← n_t64 hx, ← n_t64 hy]
  exact congrArg BitVec.toInt e
theorem bt_nat {n k : Nat} (h : n < 2147483648) : bt (n : Int) k = n.testBit k := by
  unfold bt
  rw [BitVec.ofInt_natCast, BitVec.getLsbD_ofNat]
  by_cases hk : k < 32
  · simp [hk]
  · rw [decide_eq_false hk, Bool.false_and, Nat.testBit_lt_two_pow]
    exact Nat.lt_of_lt_of_le (show n < 2 ^ 32 by omega) (Nat.pow_le_pow_right (by decide) (by omega))
theorem lt_nat {n k : Nat} (h : n < 9223372036854775808) : lt (n : Int) k = n.testBit k := by
  unfold lt
  rw [BitVec.ofInt_natCast, BitVec.getLsbD_ofNat]
  by_cases hk : k < 64
  · simp [hk]
  · rw [decide_eq_false hk, Bool.false_and, Nat.testBit_lt_two_pow]
    exact Nat.lt_of_lt_of_le (show n < 2 ^ 64 by omega) (Nat.pow_le_pow_right (by decide) (by omega))
theorem bok {z : Int32} : ok32 z.toInt := n_r32 z
theorem natok {n : Nat} (h : n < 2147483648) : ok32 (n : Int) := ⟨by omega, by omega⟩
theorem natol {n : Nat} (h : n < 9223372036854775808) : ok64 (n : Int) := ⟨by omega, by omega⟩
theorem bAnd_nat {m n : Nat} (hm : m < 2147483648) (hn : n < 2147483648) : bAnd (m : Int) (n : Int) = ((m &&& n : Nat) : Int) := by
  have h : m &&& n < 2147483648 := Nat.lt_of_le_of_lt Nat.and_le_left hm
  refine bt_ext (n_r32 _) (natok h) fun k _ => ?_
  rw [bt_and, bt_nat hm, bt_nat hn, bt_nat h, Nat.testBit_and]
theorem bOr_nat {m n : Nat} (hm : m < 2147483648) (hn : n < 2147483648) : bOr (m : Int) (n : Int) = ((m ||| n : Nat) : Int) := by
  have h : m ||| n < 2147483648 := Nat.or_lt_two_pow (n := 31) hm hn
  refine bt_ext (n_r32 _) (natok h) fun k _ => ?_
  rw [bt_or, bt_nat hm, bt_nat hn, bt_nat h, Nat.testBit_or]
theorem bXor_nat {m n : Nat} (hm : m < 2147483648) (hn : n < 2147483648) : bXor (m : Int) (n : Int) = ((m ^^^ n : Nat) : Int) := by
  have h : m ^^^ n < 2147483648 := Nat.xor_lt_two_pow (n := 31) hm hn
  refine bt_ext (n_r32 _) (natok h) fun k _ => ?_
  rw [bt_xor, bt_nat hm, bt_nat hn, bt_nat h, Nat.testBit_xor]
theorem lAnd_nat {m n : Nat} (hm : m < 9223372036854775808) (hn : n < 9223372036854775808) : lAnd (m : Int) (n : Int) = ((m &&& n : Nat) : Int) := by
  have h : m &&& n < 9223372036854775808 := Nat.lt_of_le_of_lt Nat.and_le_left hm
  refine lt_ext (n_r64 _) (natol h) fun k _ => ?_
  rw [lt_and, lt_nat hm, lt_nat hn, lt_nat h, Nat.testBit_and]
theorem lOr_nat {m n : Nat} (hm : m < 9223372036854775808) (hn : n < 9223372036854775808) : lOr (m : Int) (n : Int) = ((m ||| n : Nat) : Int) := by
  have h : m ||| n < 9223372036854775808 := Nat.or_lt_two_pow (n := 63) hm hn
  refine lt_ext (n_r64 _) (natol h) fun k _ => ?_
  rw [lt_or, lt_nat hm, lt_nat hn, lt_nat h, Nat.testBit_or]
theorem bShl_nat {m s : Nat} (h : m <<< s < 2147483648) (hs : s < 32) : bShl (m : Int) (s : Int) = ((m <<< s : Nat) : Int) := by
  have hm : m < 2147483648 := by
    rw [Nat.shiftLeft_eq] at h
    have := Nat.le_mul_of_pos_right m (Nat.two_pow_pos s)
    omega
  refine bt_ext (n_r32 _) (natok h) fun k hk => ?_
  rw [bt_shl hs, bt_nat hm, bt_nat h, Nat.testBit_shiftLeft, decide_eq_true hk, Bool.true_and]
  by_cases hh : k < s
  · simp [hh, Nat.not_le.2 hh]
  · simp [hh, Nat.le_of_not_lt hh]
theorem lShl_nat {m s : Nat} (h : m <<< s < 9223372036854775808) (hs : s < 64) : lShl (m : Int) (s : Int) = ((m <<< s : Nat) : Int) := by
  have hm : m < 9223372036854775808 := by
    rw [Nat.shiftLeft_eq] at h
    have := Nat.le_mul_of_pos_right m (Nat.two_pow_pos s)
    omega
  refine lt_ext (n_r64 _) (natol h) fun k hk => ?_
  rw [lt_shl hs, lt_nat hm, lt_nat h, Nat.testBit_shiftLeft, decide_eq_true hk, Bool.true_and]
  by_cases hh : k < s
  · simp [hh, Nat.not_le.2 hh]
  · simp [hh, Nat.le_of_not_lt hh]
theorem msb_nat {m : Nat} (h : m < 2147483648) : (BitVec.ofInt 32 (m : Int)).msb = false := by
  rw [BitVec.msb_eq_getLsbD_last]
  show bt (m : Int) 31 = false
  rw [bt_nat h, Nat.testBit_lt_two_pow]
  exact h
theorem msl_nat {m : Nat} (h : m < 9223372036854775808) : (BitVec.ofInt 64 (m : Int)).msb = false := by
  rw [BitVec.msb_eq_getLsbD_last]
  show lt (m : Int) 63 = false
  rw [lt_nat h, Nat.testBit_lt_two_pow]
  exact h
theorem bShr_nat {m s : Nat} (h : m < 2147483648) (hs : s < 32) : bShr (m : Int) (s : Int) = ((m >>> s : Nat) : Int) := by
  have h2 : m >>> s < 2147483648 := Nat.lt_of_le_of_lt (Nat.shiftRight_le m s) h
  refine bt_ext (n_r32 _) (natok h2) fun k hk => ?_
  rw [bt_shr hs, msb_nat h, bt_nat h, bt_nat h2, Nat.testBit_shiftRight]
  by_cases hh : s + k < 32
  · simp [hh, Nat.not_le.2 hk]
  · rw [if_neg hh, Bool.and_false, Nat.testBit_lt_two_pow]
    exact Nat.lt_of_lt_of_le h (Nat.pow_le_pow_right (show 0 < 2 by decide) (show 31 ≤ s + k by omega))
theorem lShr_nat {m s : Nat} (h : m < 9223372036854775808) (hs : s < 64) : lShr (m : Int) (s : Int) = ((m >>> s : Nat) : Int) := by
  have h2 : m >>> s < 9223372036854775808 := Nat.lt_of_le_of_lt (Nat.shiftRight_le m s) h
  refine lt_ext (n_r64 _) (natol h2) fun k hk => ?_
  rw [lt_shr hs, msl_nat h, lt_nat h, lt_nat h2, Nat.testBit_shiftRight]
  by_cases hh : s + k < 64
  · simp [hh, Nat.not_le.2 hk]
  · rw [if_neg hh, Bool.and_false, Nat.testBit_lt_two_pow]
    exact Nat.lt_of_lt_of_le h (Nat.pow_le_pow_right (show 0 < 2 by decide) (show 63 ≤ s + k by omega))
theorem tb_one (k : Nat) : Nat.testBit 1 k = decide (k = 0) := by
  cases k with
  | zero => rfl
  | succ k => simp [Nat.testBit_succ]
theorem bit32 {x : Int} {s : Nat} (hs : s < 32) : bAnd (bShr x (s : Int)) 1 = if bt x s then 1 else 0 := by
  have h1 : ∀ k, bt 1 k = decide (k = 0) := fun k => by
    show bt ((1 : Nat) : Int) k = _
    rw [bt_nat (by decide), tb_one]
  have h0 : ∀ k, bt 0 k = false := fun k => by
    show bt ((0 : Nat) : Int) k = _
    rw [bt_nat (by decide), Nat.zero_testBit]
  have hh : bt (bShr x (s : Int)) 0 = bt x s := by
    rw [bt_shr hs, Nat.add_zero, if_pos hs]
    simp
  split
  · rename_i e
    refine bt_ext (n_r32 _) (by decide) fun k _ => ?_
    rw [bt_and, h1]
    by_cases hk : k = 0
    · subst hk
      rw [hh, e]
      rfl
    · simp [hk]
  · rename_i e
    refine bt_ext (n_r32 _) (by decide) fun k _ => ?_
    rw [bt_and, h1, h0]
    by_cases hk : k = 0
    · subst hk
      rw [hh]
      simp [e]
    · simp [hk]
theorem bit64 {x : Int} {s : Nat} (hs : s < 64) : lAnd (lShr x (s : Int)) 1 = if lt x s then 1 else 0 := by
  have h1 : ∀ k, lt 1 k = decide (k = 0) := fun k => by
    show lt ((1 : Nat) : Int) k = _
    rw [lt_nat (by decide), tb_one]
  have h0 : ∀ k, lt 0 k = false := fun k => by
    show lt ((0 : Nat) : Int) k = _
    rw [lt_nat (by decide), Nat.zero_testBit]
  have hh : lt (lShr x (s : Int)) 0 = lt x s := by
    rw [lt_shr hs, Nat.add_zero, if_pos hs]
    simp
  split
  · rename_i e
    refine lt_ext (n_r64 _) (by decide) fun k _ => ?_
    rw [lt_and, h1]
    by_cases hk : k = 0
    · subst hk
      rw [hh, e]
      rfl
    · simp [hk]
  · rename_i e
    refine lt_ext (n_r64 _) (by decide) fun k _ => ?_
    rw [lt_and, h1, h0]
    by_cases hk : k = 0
    · subst hk
      rw [hh]
      simp [e]
    · simp [hk]
