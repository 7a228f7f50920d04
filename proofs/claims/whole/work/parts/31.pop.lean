/-! bits that are set, counted -/
theorem su32 : ∀ n : Nat, n < 32 → ((Int32.ofInt (n : Int)).toUInt32 &&& Int32.toUInt32 31).toNat = n := by decide +kernel
theorem bUsr_nat {m s : Nat} (h : m < 2147483648) (hs : s < 32) : bUsr (m : Int) (s : Int) = ((m >>> s : Nat) : Int) := by
  have h2 : m >>> s < 2147483648 := Nat.lt_of_le_of_lt (Nat.shiftRight_le m s) h
  refine bt_ext (n_r32 _) (natok h2) fun k hk => ?_
  unfold bUsr
  show (BitVec.ofInt 32 (((Int32.ofInt (m : Int)).toUInt32 >>> ((Int32.ofInt (s : Int)).toUInt32 &&& Int32.toUInt32 31)).toInt32.toInt)).getLsbD k = _
  rw [ofi32]
  show ((Int32.ofInt (m : Int)).toUInt32 >>> ((Int32.ofInt (s : Int)).toUInt32 &&& Int32.toUInt32 31)).toBitVec.getLsbD k = _
  rw [UInt32.toBitVec_shiftRight, BitVec.ushiftRight_eq', BitVec.getLsbD_ushiftRight]
  have e : (((Int32.ofInt (s : Int)).toUInt32 &&& Int32.toUInt32 31).toBitVec % 32).toNat = s := by
    rw [BitVec.toNat_umod]
    show ((Int32.ofInt (s : Int)).toUInt32 &&& Int32.toUInt32 31).toNat % 32 = s
    rw [su32 s hs]
    omega
  rw [e]
  show bt (m : Int) (s + k) = _
  rw [bt_nat h, bt_nat h2, Nat.testBit_shiftRight]
def popN : Nat → Nat → Nat
  | 0, _ => 0
  | f + 1, x => if x = 0 then 0 else popN f (x &&& (x - 1)) + 1
def pop (x : Int) : Int := (popN 12 x.toNat : Nat)
def bcN (n : Nat) : Nat :=
  let a := n - ((n >>> 1) &&& 1431655765)
  let b := (a &&& 858993459) + ((a >>> 2) &&& 858993459)
  let c := (b + (b >>> 4)) &&& 252645135
  let e := c + (c >>> 8)
  (e + (e >>> 16)) &&& 63
theorem bc_pop0 : ∀ a : Nat, a < 64 → ∀ c : Nat, c < 64 → bcN (64 * a + c) = popN 12 (64 * a + c) := by decide +kernel
theorem bc_pop (n : Nat) (h : n < 4096) : bcN n = popN 12 n := by
  have := bc_pop0 (n / 64) (by omega) (n % 64) (by omega)
  rwa [show 64 * (n / 64) + n % 64 = n by omega] at this
section SM
variable {d : Nat} {b : Bool} {G : aG} {I J : aI} {Q : Option aV → aG → aI → aI → Prop}
theorem sp_J6 {x : Int} (hG : GW b G) (h0 : 0 ≤ x) (h1 : x < 4096) (k : Q (some (vI (pop x))) G I J) : At d 241 0 [some (vI x)] [] G I J Q := by
  obtain ⟨n, rfl⟩ := Int.eq_ofNat_of_zero_le h0
  have hn : n < 4096 := by omega
  have a1 : n >>> 1 ≤ n := Nat.shiftRight_le n 1
  have a2 : (n >>> 1) &&& 1431655765 ≤ n >>> 1 := Nat.and_le_left
  have e1 : (n : Int) - (bAnd (bUsr (n : Int) 1) 1431655765) = ((n - ((n >>> 1) &&& 1431655765) : Nat) : Int) := by
    rw [show (1 : Int) = ((1 : Nat) : Int) from rfl, bUsr_nat (by omega) (by decide), show (1431655765 : Int) = ((1431655765 : Nat) : Int) from rfl, bAnd_nat (by omega) (by decide)]
    omega
  generalize ha : n - ((n >>> 1) &&& 1431655765) = a at e1
  have ha' : a < 4096 := by omega
  have b1 : a >>> 2 ≤ a := Nat.shiftRight_le a 2
  have b2 : (a >>> 2) &&& 858993459 ≤ a >>> 2 := Nat.and_le_left
  have b3 : a &&& 858993459 ≤ a := Nat.and_le_left
  have e2 : (bAnd (a : Int) 858993459) + (bAnd (bUsr (a : Int) 2) 858993459) = (((a &&& 858993459) + ((a >>> 2) &&& 858993459) : Nat) : Int) := by
    rw [show (2 : Int) = ((2 : Nat) : Int) from rfl, bUsr_nat (by omega) (by decide), show (858993459 : Int) = ((858993459 : Nat) : Int) from rfl, bAnd_nat (by omega) (by decide), bAnd_nat (by omega) (by decide)]
    omega
  generalize hb : (a &&& 858993459) + ((a >>> 2) &&& 858993459) = c at e2
  have c1 : c >>> 4 ≤ c := Nat.shiftRight_le c 4
  have c2 : (c + (c >>> 4)) &&& 252645135 ≤ c + (c >>> 4) := Nat.and_le_left
  have e3 : bAnd ((c : Int) + ((c >>> 4 : Nat) : Int)) 252645135 = (((c + (c >>> 4)) &&& 252645135 : Nat) : Int) := by
    rw [show (252645135 : Int) = ((252645135 : Nat) : Int) from rfl, ← Int.natCast_add, bAnd_nat (by omega) (by decide)]
  have e3' : bUsr (c : Int) 4 = ((c >>> 4 : Nat) : Int) := bUsr_nat (s := 4) (by omega) (by decide)
  generalize hc : (c + (c >>> 4)) &&& 252645135 = f at e3
  have f1 : f >>> 8 ≤ f := Nat.shiftRight_le f 8
  have e4 : bUsr (f : Int) 8 = ((f >>> 8 : Nat) : Int) := bUsr_nat (s := 8) (by omega) (by decide)
  have e5 : (f : Int) + ((f >>> 8 : Nat) : Int) = ((f + (f >>> 8) : Nat) : Int) := by omega
  generalize hd : f + (f >>> 8) = g at e5
  have g1 : g >>> 16 ≤ g := Nat.shiftRight_le g 16
  have e6 : bUsr (g : Int) 16 = ((g >>> 16 : Nat) : Int) := bUsr_nat (s := 16) (by omega) (by decide)
  have e7 : bAnd ((g : Int) + ((g >>> 16 : Nat) : Int)) 63 = (((g + (g >>> 16)) &&& 63 : Nat) : Int) := by
    rw [show (63 : Int) = ((63 : Nat) : Int) from rfl, ← Int.natCast_add, bAnd_nat (by omega) (by decide)]
  have e8 : (g + (g >>> 16)) &&& 63 = popN 12 n := by
    rw [← bc_pop n hn]
    unfold bcN
    simp only [ha, hb, hc, hd]
  refine b_J6_bitCount_0 hG ?_ ?_ ?_ ?_ ?_ ?_
  all_goals simp only [e1, e2, e3, e3', e4, e5, e6, e7]
  all_goals try (unfold ok32; omega)
  rw [e8]
  exact k
end SM
