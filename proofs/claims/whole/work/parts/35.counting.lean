/-! the call counting -/
theorem bOr0 {x : Int} (h0 : 0 ≤ x) (h1 : x < 2147483648) : bOr x 0 = x := by
  obtain ⟨m, rfl⟩ := Int.eq_ofNat_of_zero_le h0
  have := bOr_nat (m := m) (n := 0) (by omega) (by decide)
  rw [Nat.or_zero] at this
  exact this
/-- a mask that grows place by place -/
def mskN (p : Int → Int → Bool) : Nat → Int
  | 0 => 0
  | n + 1 => if p n (mskN p n) = true then bOr (mskN p n) (bShl 1 n) else mskN p n
def mskI (p : Int → Int → Bool) (n : Int) : Int := mskN p n.toNat
theorem mskI_s {p : Int → Int → Bool} {n : Int} (h : 0 ≤ n) : mskI p (n + 1) = if p n (mskI p n) = true then bOr (mskI p n) (bShl 1 n) else mskI p n := by
  unfold mskI
  rw [show (n + 1).toNat = n.toNat + 1 by omega]
  show (if p (n.toNat : Int) (mskN p n.toNat) = true then _ else _) = _
  rw [Int.toNat_of_nonneg h]
theorem mskN_b {p : Int → Int → Bool} : ∀ n : Nat, n ≤ 31 → 0 ≤ mskN p n ∧ mskN p n < ((2 ^ n : Nat) : Int)
  | 0, _ => ⟨Int.le_refl 0, show (0 : Int) < 1 by decide⟩
  | n + 1, h => by
    obtain ⟨a, b⟩ := mskN_b (p := p) n (by omega)
    have hp : 2 ^ n ≤ 2 ^ (n + 1) := Nat.pow_le_pow_right (by decide) (by omega)
    unfold mskN
    split
    · have := bset (n := n + 1) (x := mskN p n) (s := (n : Int)) h a (by omega) (by omega) (by omega)
      exact ⟨this.1, this.2.1⟩
    · omega
theorem mskI_b {p : Int → Int → Bool} {n : Int} (h : n ≤ 12) : 0 ≤ mskI p n ∧ mskI p n < 4096 := by
  obtain ⟨a, b⟩ := mskN_b (p := p) n.toNat (by omega)
  have hp : 2 ^ n.toNat ≤ 2 ^ 12 := Nat.pow_le_pow_right (by decide) (by omega)
  unfold mskI
  omega
theorem mskN_c {p q : Int → Int → Bool} : ∀ n : Nat, (∀ k : Int, ∀ m, 0 ≤ k → k < n → p k m = q k m) → mskN p n = mskN q n
  | 0, _ => rfl
  | n + 1, h => by
    unfold mskN
    rw [mskN_c n (fun k m h0 h1 => h k m h0 (by omega)), h n _ (by omega) (by omega)]
theorem mskI_c {p q : Int → Int → Bool} {n : Int} (h : ∀ k m, 0 ≤ k → k < n → p k m = q k m) : mskI p n = mskI q n := mskN_c n.toNat (fun k m h0 h1 => h k m h0 (by omega))
theorem bit01 {m h : Int} (h0 : 0 ≤ h) (h1 : h < 32) : bAnd (bShr m h) 1 = 0 ∨ bAnd (bShr m h) 1 = 1 := by
  obtain ⟨u, rfl⟩ := Int.eq_ofNat_of_zero_le h0
  rw [bit32 (by omega)]
  split
  · exact Or.inr rfl
  · exact Or.inl rfl
def cntC (A : aI) (k m : Int) : Bool := decide (A 44 k ≤ 2 * A 41 k ∧ A 41 k < 2 * A 42 k ∧ (A 43 k < 0 ∨ ¬ bAnd (bShr m (A 43 k)) 1 = 0) ∧ bAnd (bShr (A 40 1) k) 1 = 0)
def cntM (S : Int → Int) (k m : Int) : Bool := decide (S ((2286 + (5 * k)) + 3) ≤ 2 * S (2286 + (5 * k)) ∧ S (2286 + (5 * k)) < 2 * S ((2286 + (5 * k)) + 1) ∧ (S ((2286 + (5 * k)) + 2) = -1 ∨ bAnd (bShr m (S ((2286 + (5 * k)) + 2))) 1 = 1) ∧ S ((2286 + (5 * k)) + 4) = 0)
theorem cnt_eq {A : aI} {S : Int → Int} (h : RelM A S) : mskI (cntC A) (A 40 0) = mskI (cntM S) (S 7) := by
  rw [h.1.2.2]
  refine mskI_c fun k m h0 h1 => ?_
  obtain ⟨⟨r1, r2, r3, r4⟩, r5, r6, r7, r8, r9, r10⟩ := h.2.1 k h0 h1
  have hb := h.1.2.1
  have hbit := fun q => bit01 (m := m) (h := A 43 k) q (by omega)
  unfold cntC cntM
  rw [← r1, ← r2, ← r3, ← r4, ← r10]
  refine decide_eq_decide.2 ?_
  by_cases h43 : A 43 k < 0
  · omega
  · have := hbit (by omega)
    omega
section SM
variable {d : Nat} {b : Bool} {G : aG} {I J : aI} {Q : Option aV → aG → aI → aI → Prop}
theorem lp_valid (hG : GW b G) (hr : 0 ≤ I 40 0 ∧ I 40 0 ≤ 10) (hm : ∀ k, 0 ≤ k → k < I 40 0 → (0 ≤ I 41 k ∧ I 41 k ≤ 12) ∧ (0 ≤ I 42 k ∧ I 42 k ≤ 12)) (k : Q (some (vI (mskI (cntC I) (I 40 0)))) G I J) : ∀ (j : Nat) (x y : Int) (u3 u4 : Option aV), 0 ≤ y → y + j = I 40 0 → x = mskI (cntC I) y → At d 60 4 [some (vR 40), some (vI x), some (vI y), u3, u4] [] G I J Q
  | 0, x, y, u3, u4, h0, h1, hx => by
    refine b_X6_valid_4 hG (fun _ => b_X6_valid_113 hG ?_) (fun h => ?_)
    · rw [hx, show y = I 40 0 by omega]
      exact k
    · omega
  | j + 1, x, y, u3, u4, h0, h1, hx => by
    have hs := mskI_s (p := cntC I) h0
    have h2 := hm y h0 (by omega)
    have ih := fun x => lp_valid hG hr hm k j x (y + 1)
    refine b_X6_valid_4 hG (fun _ => ?_) (fun _ => ?_)
    · omega
    repeat' first
      | intro _
      | refine b_X6_valid_12 hG ?_ ?_ ?_ ?_ ?_
      | refine b_X6_valid_50 hG ?_ ?_ ?_ ?_
      | refine b_X6_valid_29 hG ?_ ?_ ?_ ?_ ?_
      | refine b_X6_valid_74 hG ?_ ?_
      | refine b_X6_valid_61 hG ?_ ?_ ?_ ?_
      | refine b_X6_valid_46 hG ?_ ?_ ?_ ?_
      | refine b_X6_valid_107 hG ?_ ?_
      | refine b_X6_valid_85 hG ?_ ?_
      | refine b_X6_valid_78 hG ?_ ?_
      | refine b_X6_valid_90 hG ?_ ?_
      | refine b_X6_valid_101 hG ?_ ?_
    all_goals try omega
    all_goals try (unfold ok32; omega)
    all_goals refine ih _ _ _ (by omega) (by omega) ?_
    all_goals rw [hs, ← hx]
    all_goals first
      | (rw [if_pos (by unfold cntC; exact decide_eq_true (by omega))]; done)
      | (rw [if_neg (by unfold cntC; rw [decide_eq_true_eq]; omega)]; done)
theorem lp_counting (hG : GW b G) (hr : 0 ≤ I 57 7 ∧ I 57 7 ≤ 10) (hm : ∀ k, 0 ≤ k → k < I 57 7 → (0 ≤ I 57 (2286 + (5 * k)) ∧ I 57 (2286 + (5 * k)) ≤ 12) ∧ (0 ≤ I 57 ((2286 + (5 * k)) + 1) ∧ I 57 ((2286 + (5 * k)) + 1) ≤ 12)) (k : Q (some (vI (mskI (cntM (I 57)) (I 57 7)))) G I J) : ∀ (j : Nat) (x y : Int) (u3 u4 : Option aV), 0 ≤ y → y + j = I 57 7 → x = mskI (cntM (I 57)) y → At d 234 4 [some (vR 56), some (vI x), some (vI y), u3, u4] [] G I J Q
  | 0, x, y, u3, u4, h0, h1, hx => by
    refine b_X12_counting_4 hG (fun _ => b_X12_counting_128 hG ?_) (fun h => ?_)
    · rw [hx, show y = I 57 7 by omega]
      exact k
    · omega
  | j + 1, x, y, u3, u4, h0, h1, hx => by
    have hs := mskI_s (p := cntM (I 57)) h0
    have h2 := hm y h0 (by omega)
    have hb := mskI_b (p := cntM (I 57)) (n := y) (by omega)
    have hz := bOr0 (x := x) (by omega) (by omega)
    have ih := fun x => lp_counting hG hr hm k j x (y + 1)
    refine b_X12_counting_4 hG (fun _ => ?_) (fun _ => ?_)
    · omega
    repeat' first
      | intro _
      | refine b_X12_counting_15 hG ?_ ?_ ?_ ?_ ?_ ?_ ?_ ?_ ?_ ?_
      | refine b_X12_counting_76 hG ?_ ?_
      | refine b_X12_counting_42 hG ?_ ?_ ?_ ?_ ?_ ?_ ?_ ?_
      | refine b_X12_counting_61 hG ?_ ?_ ?_ ?_ ?_
      | refine b_X12_counting_72 hG ?_ ?_ ?_ ?_ ?_
      | refine b_X12_counting_113 hG ?_ ?_
      | refine b_X12_counting_97 hG ?_ ?_ ?_ ?_ ?_
      | refine b_X12_counting_119 hG ?_ ?_
    all_goals try omega
    all_goals try (unfold ok32; omega)
    all_goals refine ih _ _ _ (by omega) (by omega) ?_
    all_goals rw [hs, ← hx]
    all_goals first
      | (rw [if_pos (by unfold cntM; exact decide_eq_true (by omega))]; done)
      | (rw [if_neg (by unfold cntM; rw [decide_eq_true_eq]; omega), hz]; done)
theorem cs_30 (hV : LV b G I J) : Cl (d + 5) 139 234 [some (vR 0)] [some (vR 56), none, none, none, none] G I J := by
  obtain ⟨hG, hRW, hc, hi, hk⟩ := id hV
  obtain ⟨hN, hF, hR, hT, hC, hW, hL, hM⟩ := id hRW
  have f1 := hM.1
  have he := cnt_eq hM
  unfold Cl
  refine b_X11_counting_0 hG (b_X6_valid_0 hG (lp_valid hG (by omega) (fun k k0 k1 => ?_) ?_ (I 40 0).toNat 0 0 _ _ (by omega) (by omega) rfl))
  · have := hM.2.1 k k0 (by omega)
    exact ⟨this.2.1, this.2.2.1⟩
  refine b_X11_counting_10 hG ?_
  refine ⟨_, _, rfl, hG, ⟨rfl, rfl⟩, ?_⟩
  unfold Md
  refine b_X12_counting_0 hG (lp_counting hG (by omega) (fun k k0 k1 => ?_) ?_ (I 57 7).toNat 0 0 _ _ (by omega) (by omega) rfl)
  · have := hM.2.1 k k0 (by omega)
    rw [← this.1.1, ← this.1.2.1]
    exact ⟨this.2.1, this.2.2.1⟩
  · exact ⟨by rw [he], b, hV, rfl, rfl⟩
end SM
