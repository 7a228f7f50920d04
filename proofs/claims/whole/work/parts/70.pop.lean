/-! bits of a long that are set, counted; longs and bytes -/
theorem su64 : ∀ n : Nat, n < 64 → ((Int32.ofInt (n : Int)).toInt64.toUInt64 &&& Int64.toUInt64 63).toNat = n := by decide +kernel
theorem lUsr_nat {m s : Nat} (h : m < 9223372036854775808) (hs : s < 64) : lUsr (m : Int) (s : Int) = ((m >>> s : Nat) : Int) := by
  have h2 : m >>> s < 9223372036854775808 := Nat.lt_of_le_of_lt (Nat.shiftRight_le m s) h
  refine lt_ext (n_r64 _) (natol h2) fun k hk => ?_
  unfold lUsr
  show (BitVec.ofInt 64 (((Int64.ofInt (m : Int)).toUInt64 >>> ((Int32.ofInt (s : Int)).toInt64.toUInt64 &&& Int64.toUInt64 63)).toInt64.toInt)).getLsbD k = _
  rw [ofi64]
  show ((Int64.ofInt (m : Int)).toUInt64 >>> ((Int32.ofInt (s : Int)).toInt64.toUInt64 &&& Int64.toUInt64 63)).toBitVec.getLsbD k = _
  rw [UInt64.toBitVec_shiftRight, BitVec.ushiftRight_eq', BitVec.getLsbD_ushiftRight]
  have e : (((Int32.ofInt (s : Int)).toInt64.toUInt64 &&& Int64.toUInt64 63).toBitVec % 64).toNat = s := by
    rw [BitVec.toNat_umod]
    show ((Int32.ofInt (s : Int)).toInt64.toUInt64 &&& Int64.toUInt64 63).toNat % 64 = s
    rw [su64 s hs]
    omega
  rw [e]
  show lt (m : Int) (s + k) = _
  rw [lt_nat h, lt_nat h2, Nat.testBit_shiftRight]
theorem bt_l2i {x : Int} {k : Nat} (h : k < 32) : bt (cL2i x) k = lt x k := by
  unfold bt lt cL2i
  rw [ofi32]
  show (Int64.ofInt x).toInt32.toBitVec.getLsbD k = (Int64.ofInt x).toBitVec.getLsbD k
  rw [Int64.toBitVec_toInt32, BitVec.getLsbD_signExtend]
  have : k < 64 := by omega
  simp [h, this]
theorem bt_i2b {x : Int} {k : Nat} (h : k < 8) : bt (cI2b x) k = bt x k := by
  unfold bt cI2b
  rw [ofi32]
  show (Int32.ofInt x).toInt8.toInt32.toBitVec.getLsbD k = (Int32.ofInt x).toBitVec.getLsbD k
  rw [Int8.toBitVec_toInt32, BitVec.getLsbD_signExtend, Int32.toBitVec_toInt8, BitVec.getLsbD_signExtend]
  have h1 : k < 32 := by omega
  simp [h, h1]
theorem i2b_r {x : Int} : -128 ≤ cI2b x ∧ cI2b x ≤ 127 := by
  unfold cI2b
  rw [Int8.toInt_toInt32]
  have h1 := Int8.le_toInt (Int32.ofInt x).toInt8
  have h2 := Int8.toInt_lt (Int32.ofInt x).toInt8
  omega
theorem and_m {x : Int} {m : Nat} (hm : m < 256) : bAnd x (m : Int) = (((BitVec.ofInt 32 x).toNat &&& m : Nat) : Int) ∧ ((BitVec.ofInt 32 x).toNat &&& m) ≤ m := by
  have h1 : ((BitVec.ofInt 32 x).toNat &&& m) ≤ m := Nat.and_le_right
  refine ⟨bt_ext (n_r32 _) (natok (by omega)) fun k hk => ?_, h1⟩
  rw [bt_and, bt_nat (by omega), bt_nat (by omega), Nat.testBit_and]
  rfl
theorem byte_eq {z : Int} : bAnd (cI2b (cL2i z)) 255 = cL2i (lAnd z 255) ∧ 0 ≤ cL2i (lAnd z 255) ∧ cL2i (lAnd z 255) ≤ 255 := by
  have e : bAnd (cI2b (cL2i z)) 255 = cL2i (lAnd z 255) := by
    refine bt_ext (n_r32 _) (n_r32 _) fun k hk => ?_
    rw [bt_and, bt_l2i hk, lt_and]
    have e1 : bt 255 k = Nat.testBit 255 k := bt_nat (n := 255) (by decide)
    have e2 : lt 255 k = Nat.testBit 255 k := lt_nat (n := 255) (by decide)
    rw [e1, e2]
    by_cases h8 : k < 8
    · rw [bt_i2b h8, bt_l2i hk]
    · have : Nat.testBit 255 k = false := Nat.testBit_lt_two_pow (Nat.lt_of_lt_of_le (show 255 < 2 ^ 8 by decide) (Nat.pow_le_pow_right (by decide) (by omega)))
      rw [this, Bool.and_false, Bool.and_false]
  refine ⟨e, ?_⟩
  rw [← e]
  have := and_m (x := cI2b (cL2i z)) (m := 255) (by decide)
  have h2 := this.2
  have h1 : bAnd (cI2b (cL2i z)) 255 = _ := this.1
  rw [h1]
  omega
def bcL (n : Nat) : Nat :=
  let a := n - ((n >>> 1) &&& 6148914691236517205)
  let b := (a &&& 3689348814741910323) + ((a >>> 2) &&& 3689348814741910323)
  let c := (b + (b >>> 4)) &&& 1085102592571150095
  let e := c + (c >>> 8)
  let f := e + (e >>> 16)
  (f + (f >>> 32)) &&& 127
section SM
variable {d : Nat} {b : Bool} {G : aG} {I J : aI} {Q : Option aV → aG → aI → aI → Prop}
theorem sp_J13 {x : Int} (hG : GW b G) (h0 : 0 ≤ x) (h1 : x < 1099511627776) (k : Q (some (vI ((bcL x.toNat : Nat) : Int))) G I J) : At d 242 0 [some (vL x), none] [] G I J Q := by
  obtain ⟨n, rfl⟩ := Int.eq_ofNat_of_zero_le h0
  rw [Int.toNat_natCast] at k
  have hn : n < 1099511627776 := by omega
  have a1 : n >>> 1 ≤ n := Nat.shiftRight_le n 1
  have a2 : (n >>> 1) &&& 6148914691236517205 ≤ n >>> 1 := Nat.and_le_left
  have e1 : (n : Int) - (lAnd (lUsr (n : Int) 1) 6148914691236517205) = ((n - ((n >>> 1) &&& 6148914691236517205) : Nat) : Int) := by
    rw [show (1 : Int) = ((1 : Nat) : Int) from rfl, lUsr_nat (by omega) (by decide), show (6148914691236517205 : Int) = ((6148914691236517205 : Nat) : Int) from rfl, lAnd_nat (by omega) (by decide)]
    omega
  generalize ha : n - ((n >>> 1) &&& 6148914691236517205) = a at e1
  have ha' : a < 1099511627776 := by omega
  have b1 : a >>> 2 ≤ a := Nat.shiftRight_le a 2
  have b2 : (a >>> 2) &&& 3689348814741910323 ≤ a >>> 2 := Nat.and_le_left
  have b3 : a &&& 3689348814741910323 ≤ a := Nat.and_le_left
  have e2 : (lAnd (a : Int) 3689348814741910323) + (lAnd (lUsr (a : Int) 2) 3689348814741910323) = (((a &&& 3689348814741910323) + ((a >>> 2) &&& 3689348814741910323) : Nat) : Int) := by
    rw [show (2 : Int) = ((2 : Nat) : Int) from rfl, lUsr_nat (by omega) (by decide), show (3689348814741910323 : Int) = ((3689348814741910323 : Nat) : Int) from rfl, lAnd_nat (by omega) (by decide), lAnd_nat (by omega) (by decide)]
    omega
  generalize hb : (a &&& 3689348814741910323) + ((a >>> 2) &&& 3689348814741910323) = c at e2
  have c1 : c >>> 4 ≤ c := Nat.shiftRight_le c 4
  have c2 : (c + (c >>> 4)) &&& 1085102592571150095 ≤ c + (c >>> 4) := Nat.and_le_left
  have e3' : lUsr (c : Int) 4 = ((c >>> 4 : Nat) : Int) := lUsr_nat (s := 4) (by omega) (by decide)
  have e3 : lAnd ((c : Int) + ((c >>> 4 : Nat) : Int)) 1085102592571150095 = (((c + (c >>> 4)) &&& 1085102592571150095 : Nat) : Int) := by
    rw [show (1085102592571150095 : Int) = ((1085102592571150095 : Nat) : Int) from rfl, ← Int.natCast_add, lAnd_nat (by omega) (by decide)]
  generalize hc : (c + (c >>> 4)) &&& 1085102592571150095 = f at e3
  have f1 : f >>> 8 ≤ f := Nat.shiftRight_le f 8
  have e4 : lUsr (f : Int) 8 = ((f >>> 8 : Nat) : Int) := lUsr_nat (s := 8) (by omega) (by decide)
  have e5 : (f : Int) + ((f >>> 8 : Nat) : Int) = ((f + (f >>> 8) : Nat) : Int) := by omega
  generalize hd : f + (f >>> 8) = g at e5
  have g1 : g >>> 16 ≤ g := Nat.shiftRight_le g 16
  have e6 : lUsr (g : Int) 16 = ((g >>> 16 : Nat) : Int) := lUsr_nat (s := 16) (by omega) (by decide)
  have e6' : (g : Int) + ((g >>> 16 : Nat) : Int) = ((g + (g >>> 16) : Nat) : Int) := by omega
  generalize he : g + (g >>> 16) = j at e6'
  have j1 : j >>> 32 ≤ j := Nat.shiftRight_le j 32
  have e7 : lUsr (j : Int) 32 = ((j >>> 32 : Nat) : Int) := lUsr_nat (s := 32) (by omega) (by decide)
  have e8 : (j : Int) + ((j >>> 32 : Nat) : Int) = ((j + (j >>> 32) : Nat) : Int) := by omega
  generalize hj : j + (j >>> 32) = m at e8
  have e9 : bAnd (cL2i (m : Int)) 127 = ((m &&& 127 : Nat) : Int) := by
    have hm : m < 9223372036854775808 := by omega
    have hm2 : m &&& 127 ≤ 127 := Nat.and_le_right
    refine bt_ext (n_r32 _) (natok (by omega)) fun k hk => ?_
    rw [bt_and, bt_l2i hk, lt_nat hm, bt_nat (by omega), Nat.testBit_and]
    have e1 : bt 127 k = Nat.testBit 127 k := bt_nat (n := 127) (by decide)
    rw [e1]
  have e10 : m &&& 127 = bcL n := by
    unfold bcL
    simp only [ha, hb, hc, hd, he, hj]
  refine b_J13_bitCount_0 hG ?_ ?_ ?_ ?_ ?_ ?_ ?_
  all_goals simp only [e1, e2, e3, e3', e4, e5, e6, e6', e7, e8, e9]
  all_goals try (unfold ok64; omega)
  rw [e10]
  exact k
end SM
/-! how many posts a way has -/
theorem wnat {w n f : Int} (hw : 0 ≤ w ∧ w ≤ 3) (hn : -1 ≤ n) (hnf : n ≤ f) (hf : f ≤ 9) : wiresF w n f = ((((1 <<< (f + 1).toNat) - (1 <<< (n + 1).toNat)) <<< (10 * w).toNat : Nat) : Int) := by
  have : ∀ w : Nat, w < 4 → ∀ n : Nat, n < 11 → ∀ f : Nat, f < 11 → n ≤ f → wiresF (w : Int) ((n : Int) - 1) ((f : Int) - 1) = ((((1 <<< f) - (1 <<< n)) <<< (10 * w) : Nat) : Int) := by decide +kernel
  have h := this w.toNat (by omega) (n + 1).toNat (by omega) (f + 1).toNat (by omega) (by omega)
  rw [show ((w.toNat : Nat) : Int) = w by omega, show (((n + 1).toNat : Nat) : Int) - 1 = n by omega, show (((f + 1).toNat : Nat) : Int) - 1 = f by omega] at h
  rw [h, show 10 * w.toNat = (10 * w).toNat by omega]
theorem wcnt1 : ∀ w : Nat, w < 4 → ∀ n : Nat, n < 11 → ∀ f : Nat, f < 11 → n ≤ f → bcL (((1 <<< f) - (1 <<< n)) <<< (10 * w)) = f - n ∧ ((1 <<< f) - (1 <<< n)) <<< (10 * w) < 1099511627776 := by decide +kernel
theorem wcnt2 : ∀ w : Nat, w < 4 → ∀ v : Nat, v < 4 → ∀ p : Nat, p < 10 → ∀ q : Nat, q < 10 → w ≠ v → bcL ((((1 <<< (p + 1)) - 1) <<< (10 * w)) ||| (((1 <<< (q + 1)) - 1) <<< (10 * v))) = p + q + 2 := by decide +kernel
