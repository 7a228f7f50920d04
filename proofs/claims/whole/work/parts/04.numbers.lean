/-! numbers: Int for the machine's words -/
theorem n_t32 {x : Int} (h : ok32 x) : (Int32.ofInt x).toInt = x := Int32.toInt_ofInt_of_le (by have := h.1; omega) (by have := h.2; omega)
theorem n_r32 (y : Int32) : ok32 y.toInt := by
  have h1 := y.le_toInt
  have h2 := y.toInt_lt
  exact ⟨by omega, by omega⟩
theorem n_t64 {x : Int} (h : ok64 x) : (Int64.ofInt x).toInt = x := Int64.toInt_ofInt_of_le (by have := h.1; omega) (by have := h.2; omega)
theorem n_r64 (y : Int64) : ok64 y.toInt := by
  have h1 := y.le_toInt
  have h2 := y.toInt_lt
  exact ⟨by omega, by omega⟩
theorem n_lt {x y : Int} (hx : ok32 x) (hy : ok32 y) : Int32.ofInt x < Int32.ofInt y ↔ x < y := by rw [Int32.lt_iff_toInt_lt, n_t32 hx, n_t32 hy]
theorem n_le {x y : Int} (hx : ok32 x) (hy : ok32 y) : Int32.ofInt x ≤ Int32.ofInt y ↔ x ≤ y := by rw [Int32.le_iff_toInt_le, n_t32 hx, n_t32 hy]
theorem n_eq {x y : Int} (hx : ok32 x) (hy : ok32 y) : Int32.ofInt x = Int32.ofInt y ↔ x = y := by rw [← Int32.toInt_inj, n_t32 hx, n_t32 hy]
theorem n_ok0 : ok32 0 := by decide
theorem n_z : Int32.ofInt 0 = 0 := rfl
theorem n_div {x y : Int} (hx : ok32 x) (hy : ok32 y) (h0 : 0 ≤ x) (h1 : 0 < y) : Int32.ofInt x / Int32.ofInt y = Int32.ofInt (x / y) := by
  rw [← Int32.toInt_inj, Int32.toInt_div_of_ne_right _ _ (fun e => by
    have h2 := congrArg Int32.toInt e
    rw [n_t32 hy] at h2
    have h3 : (-1 : Int32).toInt = -1 := by decide
    omega), n_t32 hx, n_t32 hy, Int.tdiv_eq_ediv_of_nonneg h0, n_t32 ⟨by have := Int.ediv_nonneg h0 (Int.le_of_lt h1); omega, by have := Int.ediv_le_self y h0; have := hx.2; omega⟩]
theorem n_dok {x y : Int} (hx : ok32 x) (h0 : 0 ≤ x) (h1 : 0 < y) : ok32 (x / y) := ⟨by have := Int.ediv_nonneg h0 (Int.le_of_lt h1); omega, by have := Int.ediv_le_self y h0; have := hx.2; omega⟩
theorem n_rem {x y : Int} (hx : ok32 x) (hy : ok32 y) (h0 : 0 ≤ x) (h1 : 0 < y) : Int32.ofInt x - Int32.ofInt x / Int32.ofInt y * Int32.ofInt y = Int32.ofInt (x % y) := by
  rw [n_div hx hy h0 h1, ← Int32.ofInt_mul, ← Int32.ofInt_sub]
  congr 1
  rw [Int.emod_def, Int.mul_comm]
theorem n_rok {x y : Int} (hy : ok32 y) (h1 : 0 < y) : ok32 (x % y) := ⟨by have := Int.emod_nonneg x (Int.ne_of_gt h1); omega, by have := Int.emod_lt_of_pos x h1; have := hy.2; omega⟩
theorem n_b8 {v : Int} (h : -128 ≤ v ∧ v ≤ 127) : (Int8.ofInt v).toInt32 = Int32.ofInt v := by
  rw [← Int32.toInt_inj, Int8.toInt_toInt32, Int8.toInt_ofInt_of_le (by omega) (by omega), n_t32 ⟨by omega, by omega⟩]
theorem n_b16 {v : Int} (h : -32768 ≤ v ∧ v ≤ 32767) : (Int16.ofInt v).toInt32 = Int32.ofInt v := by
  rw [← Int32.toInt_inj, Int16.toInt_toInt32, Int16.toInt_ofInt_of_le (by omega) (by omega), n_t32 ⟨by omega, by omega⟩]
theorem n_cl {j : Int} (h : ok32 j) : (Int32.ofInt j).toNatClampNeg = j.toNat := by
  show (Int32.ofInt j).toInt.toNat = _
  rw [n_t32 h]
theorem n_in {j : Int} {n : Nat} (h : ok32 j) (h0 : 0 ≤ j) (h1 : j < n) : vp_in (Int32.ofInt j) n := by
  rw [vp_in_iff, n_t32 h]
  exact ⟨h0, h1⟩
theorem n_nb {x : Int} (h : -128 ≤ x ∧ x ≤ 127) : (Int32.ofInt x).toInt8.toInt32 = Int32.ofInt x := by
  rw [← Int32.toInt_inj, Int8.toInt_toInt32, Int32.toInt_toInt8, n_t32 ⟨by omega, by omega⟩]
  exact Int.bmod_eq_of_le (by omega) (by omega)
theorem n_fb {x : Int} (h : -128 ≤ x ∧ x ≤ 127) : fits .byte (.int (Int32.ofInt x)) = true := by
  have hx : ok32 x := ⟨by omega, by omega⟩
  show (decide ((-128 : Int32) ≤ Int32.ofInt x) && decide (Int32.ofInt x ≤ (127 : Int32))) = true
  rw [show (-128 : Int32) = Int32.ofInt (-128) from by decide, show (127 : Int32) = Int32.ofInt 127 from by decide]
  simp only [n_le (show ok32 (-128) by decide) hx, n_le hx (show ok32 127 by decide), h.1, h.2, decide_true, Bool.and_self]
theorem n_ret {t : FieldType} {x : Int} (h : retOk (some t) x = true) : narrow t (.int (Int32.ofInt x)) = .int (Int32.ofInt x) := by
  cases t with
  | boolean =>
    simp only [retOk, Bool.or_eq_true, beq_iff_eq] at h
    rcases h with rfl | rfl <;> rfl
  | byte =>
    simp only [retOk, Bool.and_eq_true, decide_eq_true_eq] at h
    show Value.int (Int32.ofInt x).toInt8.toInt32 = _
    rw [n_nb h]
  | char =>
    simp only [retOk, Bool.and_eq_true, decide_eq_true_eq] at h
    obtain ⟨n, rfl⟩ := Int.eq_ofNat_of_zero_le h.1
    exact (pk_charN (q := n) (by omega)).1
  | int => rfl
  | _ => cases h
theorem n_u1 (x y : Int) : Int32.ofInt (bAnd x y) = Int32.ofInt x &&& Int32.ofInt y := Int32.ofInt_toInt _
theorem n_u2 (x y : Int) : Int32.ofInt (bOr x y) = Int32.ofInt x ||| Int32.ofInt y := Int32.ofInt_toInt _
theorem n_u3 (x y : Int) : Int32.ofInt (bXor x y) = Int32.ofInt x ^^^ Int32.ofInt y := Int32.ofInt_toInt _
theorem n_u4 (x y : Int) : Int32.ofInt (bShl x y) = Int32.ofInt x <<< (Int32.ofInt y &&& 31) := Int32.ofInt_toInt _
theorem n_u5 (x y : Int) : Int32.ofInt (bShr x y) = Int32.ofInt x >>> (Int32.ofInt y &&& 31) := Int32.ofInt_toInt _
theorem n_u6 (x y : Int) : Int32.ofInt (bUsr x y) = ((Int32.ofInt x).toUInt32 >>> ((Int32.ofInt y).toUInt32 &&& Int32.toUInt32 31)).toInt32 := Int32.ofInt_toInt _
theorem n_l1 (x y : Int) : Int64.ofInt (lAnd x y) = Int64.ofInt x &&& Int64.ofInt y := Int64.ofInt_toInt _
theorem n_l2 (x y : Int) : Int64.ofInt (lOr x y) = Int64.ofInt x ||| Int64.ofInt y := Int64.ofInt_toInt _
theorem n_l3 (x y : Int) : Int64.ofInt (lXor x y) = Int64.ofInt x ^^^ Int64.ofInt y := Int64.ofInt_toInt _
theorem n_l4 (x y : Int) : Int64.ofInt (lShl x y) = Int64.ofInt x <<< ((Int32.ofInt y).toInt64 &&& 63) := Int64.ofInt_toInt _
theorem n_l5 (x y : Int) : Int64.ofInt (lShr x y) = Int64.ofInt x >>> ((Int32.ofInt y).toInt64 &&& 63) := Int64.ofInt_toInt _
theorem n_l6 (x y : Int) : Int64.ofInt (lUsr x y) = ((Int64.ofInt x).toUInt64 >>> ((Int32.ofInt y).toInt64.toUInt64 &&& Int64.toUInt64 63)).toInt64 := Int64.ofInt_toInt _
theorem n_c1 (x : Int) : Int32.ofInt (cL2i x) = (Int64.ofInt x).toInt32 := Int32.ofInt_toInt _
theorem n_c2 (x : Int) : Int32.ofInt (cI2b x) = (Int32.ofInt x).toInt8.toInt32 := Int32.ofInt_toInt _
theorem n_c3 (x : Int) : Int32.ofInt (cI2c x) = ((Int32.ofInt x).toUInt32 % 65536).toInt32 := Int32.ofInt_toInt _
theorem n_c4 {x : Int} (h : ok32 x) : (Int32.ofInt x).toInt64 = Int64.ofInt x := by
  rw [← Int64.toInt_inj, Int32.toInt_toInt64, n_t32 h, n_t64 ⟨by have := h.1; omega, by have := h.2; omega⟩]
theorem n_cm {x y : Int} (hx : ok64 x) (hy : ok64 y) : lg_cmp (Int64.ofInt x) (Int64.ofInt y) = Int32.ofInt (cLcm x y) := by
  have e1 : Int64.ofInt x > Int64.ofInt y ↔ y < x := by
    show Int64.ofInt y < Int64.ofInt x ↔ _
    rw [Int64.lt_iff_toInt_lt, n_t64 hx, n_t64 hy]
  have e2 : Int64.ofInt x = Int64.ofInt y ↔ x = y := by rw [← Int64.toInt_inj, n_t64 hx, n_t64 hy]
  unfold lg_cmp cLcm
  by_cases h1 : y < x
  · rw [if_pos (e1.mpr h1), if_pos h1]
    rfl
  · rw [if_neg (fun h => h1 (e1.mp h)), if_neg h1]
    by_cases h2 : x = y
    · rw [if_pos (e2.mpr h2), if_pos h2]
      rfl
    · rw [if_neg (fun h => h2 (e2.mp h)), if_neg h2]
      rfl
theorem n_mx {x y : Int} (hx : ok32 x) (hy : ok32 y) : (if Int32.ofInt x < Int32.ofInt y then Int32.ofInt y else Int32.ofInt x) = Int32.ofInt (max x y) := by
  by_cases h : x < y
  · rw [if_pos ((n_lt hx hy).mpr h), show max x y = y by omega]
  · rw [if_neg (fun q => h ((n_lt hx hy).mp q)), show max x y = x by omega]
theorem n_mn {x y : Int} (hx : ok32 x) (hy : ok32 y) : (if Int32.ofInt y < Int32.ofInt x then Int32.ofInt y else Int32.ofInt x) = Int32.ofInt (min x y) := by
  by_cases h : y < x
  · rw [if_pos ((n_lt hy hx).mpr h), show min x y = y by omega]
  · rw [if_neg (fun q => h ((n_lt hy hx).mp q)), show min x y = x by omega]
