/-! of calls: who is in it, which lines it needs, its cords -/
theorem or0 {x : Int} (h : 0 ≤ x ∧ x < 4096) : bOr x 0 = x := by
  obtain ⟨m, rfl⟩ := Int.eq_ofNat_of_zero_le h.1
  rw [show (0 : Int) = ((0 : Nat) : Int) from rfl, bOr_nat (by omega) (by decide), Nat.or_zero]
theorem shlb {s : Int} (h : 0 ≤ s ∧ s < 12) : 0 ≤ bShl 1 s ∧ bShl 1 s < 4096 := by
  have := (bset (n := 12) (x := 0) (s := s) (by decide) (by decide) (by decide) h.1 h.2)
  have z : bOr 0 (bShl 1 s) = bShl 1 s := by
    obtain ⟨t, rfl⟩ := Int.eq_ofNat_of_zero_le h.1
    have : ∀ t : Nat, t < 12 → bOr 0 (bShl 1 (t : Int)) = bShl 1 (t : Int) := by decide +kernel
    exact this t (by omega)
  rw [z] at this
  exact ⟨this.1, this.2.1⟩
def onL (A : aI) (l : Int) : Nat → Int
  | 0 => 0
  | n + 1 => if A 3 (n : Int) = l then bOr (onL A l n) (bShl 1 (n : Int)) else onL A l n
theorem onL_b {A : aI} {l : Int} : ∀ n : Nat, n ≤ 12 → 0 ≤ onL A l n ∧ onL A l n < 4096
  | 0, _ => by
    show (0 : Int) ≤ 0 ∧ (0 : Int) < 4096
    decide
  | n + 1, h => by
    have ih := onL_b (A := A) (l := l) n (by omega)
    unfold onL
    split
    · have := bset (n := 12) (x := onL A l n) (s := (n : Int)) (by decide) ih.1 ih.2 (by omega) (by omega)
      exact ⟨this.1, this.2.1⟩
    · exact ih
def inF (A : aI) (k : Int) : Int := if A 21 k = 4 then onL A (A 3 (A 22 k)) (A 2 0).toNat else if A 23 k = 12 then bShl 1 (A 22 k) else bOr (bShl 1 (A 22 k)) (bShl 1 (A 23 k))
def needF (A : aI) (k l : Int) : Prop := A 3 (A 22 k) = l ∨ (A 21 k = 2 ∧ A 3 (A 23 k) = l)
theorem bor_bits1 : ∀ a : Nat, a < 4 → ∀ c : Nat, c < 4 → ∀ l : Nat, l < 4 → bAnd (bShr (bOr (bShl 1 (a : Int)) (bShl 1 (c : Int))) (l : Int)) 1 = if l = a ∨ l = c then 1 else 0 := by decide +kernel
theorem bor_bits2 : ∀ a : Nat, a < 4 → ∀ l : Nat, l < 4 → bAnd (bShr (bOr (bShl 1 (a : Int)) 0) (l : Int)) 1 = if l = a then 1 else 0 := by decide +kernel
theorem bor_bits3 : ∀ a : Nat, a < 4 → ∀ c : Nat, c < 4 → ∀ l : Nat, l < 4 → decide (bAnd (bOr (bShl 1 (a : Int)) (bShl 1 (c : Int))) (bShl 1 (l : Int)) = 0) = !decide (l = a ∨ l = c) := by decide +kernel
theorem bor_bits4 : ∀ a : Nat, a < 4 → ∀ l : Nat, l < 4 → decide (bAnd (bOr (bShl 1 (a : Int)) 0) (bShl 1 (l : Int)) = 0) = !decide (l = a) := by decide +kernel
section SM
variable {d : Nat} {b : Bool} {G : aG} {I J : aI} {Q : Option aV → aG → aI → aI → Prop}
/-- what is known of a call and its farms -/
theorem cll {A B : aI} {S : Int → Int} {k : Int} (hF : RelF A S) (hC : RelC A B S) (k0 : 0 ≤ k) (k1 : k < S 2) : (k < 60 ∧ S ((1312 + (8 * k)) + 0) = A 21 k ∧ S ((1312 + (8 * k)) + 1) = A 22 k ∧ S ((1312 + (8 * k)) + 2) = A 23 k ∧ S ((1312 + (8 * k)) + 3) = A 26 k ∧ S ((1312 + (8 * k)) + 4) = A 27 k ∧ S ((1312 + (8 * k)) + 5) = A 29 k ∧ S ((1312 + (8 * k)) + 6) = A 28 k ∧ S ((1312 + (8 * k)) + 7) = A 30 k) ∧ (1 ≤ A 21 k ∧ A 21 k ≤ 4) ∧ (0 ≤ A 22 k ∧ A 22 k < A 2 0 ∧ A 22 k < 12) ∧ (A 23 k = 12 ∨ (0 ≤ A 23 k ∧ A 23 k < A 2 0 ∧ A 23 k < 12)) ∧ (A 21 k ≤ 2 → 0 ≤ A 23 k ∧ A 23 k < A 2 0 ∧ A 23 k < 12) ∧ (3 ≤ A 21 k → A 23 k = 12) ∧ (A 21 k = 1 → A 3 (A 22 k) = A 3 (A 23 k)) ∧ (0 ≤ A 30 k ∧ A 30 k < 4096) ∧ (0 ≤ A 27 k) ∧ (0 ≤ A 29 k ∧ A 29 k ≤ 3) ∧ A 24 k = bOr (lineBit A (A 22 k)) (lineBit A (A 23 k)) ∧ (S (32 + (5 * A 22 k) + 0) = A 3 (A 22 k) ∧ 0 ≤ A 3 (A 22 k) ∧ A 3 (A 22 k) ≤ 3) ∧ (A 23 k ≠ 12 → S (32 + (5 * A 23 k) + 0) = A 3 (A 23 k) ∧ 0 ≤ A 3 (A 23 k) ∧ A 3 (A 23 k) ≤ 3) := by
  have f0 := hF.1
  have f2 := hC.1
  obtain ⟨⟨c1, c2, c3, c4, c5, c6, c7, c8⟩, ⟨e1, e2⟩, o1, o2, o3, o4, o5, o6, o7, o8, o9, o10, o11, o12⟩ := hC.2.1 k k0 k1
  have h22 := hF.2.1 (A 22 k) o2.1 o2.2
  have hto : A 23 k = 12 ∨ (0 ≤ A 23 k ∧ A 23 k < S 0) := by
    by_cases h : A 21 k ≤ 2
    · exact Or.inr ⟨(o3 h).1, (o3 h).2.1⟩
    · exact Or.inl (o6 (by omega))
  refine ⟨⟨by omega, c1.symm, c2.symm, c3.symm, c4.symm, c5.symm, c6.symm, c7.symm, c8.symm⟩, o1, by omega, by omega, fun h => ⟨(o3 h).1, ?_, ?_⟩, o6, o4, o12, o8.1, o9, e1, ⟨h22.1.1.symm, by omega, by omega⟩, fun h => ?_⟩
  · have := (o3 h).2.1
    omega
  · have := (o3 h).2.1
    omega
  · have h23 := hF.2.1 (A 23 k) (by omega) (by omega)
    exact ⟨h23.1.1.symm, by omega, by omega⟩
theorem lineBit_i {A : aI} {e : Int} (h : 0 ≤ e ∧ e < A 2 0) : lineBit A e = bShl 1 (A 3 e) := by
  unfold lineBit
  rw [if_pos h]
theorem lineBit_o {A : aI} {e : Int} (h : A 2 0 ≤ e) : lineBit A e = 0 := by
  unfold lineBit
  rw [if_neg (by omega)]
theorem nd_bit {A B : aI} {S : Int → Int} {k l : Int} (hF : RelF A S) (hC : RelC A B S) (k0 : 0 ≤ k) (k1 : k < S 2) (hl : 0 ≤ l ∧ l ≤ 3) : (needF A k l → bAnd (bShr (A 24 k) l) 1 = 1 ∧ ¬ bAnd (A 24 k) (bShl 1 l) = 0) ∧ (¬ needF A k l → bAnd (bShr (A 24 k) l) 1 = 0 ∧ bAnd (A 24 k) (bShl 1 l) = 0) := by
  obtain ⟨⟨g, _⟩, h1, h2, h3, h4, h5, h6, h7, h8, h9, h10, h11, h12⟩ := cll hF hC k0 k1
  have f0 := hF.1
  obtain ⟨n, rfl⟩ := Int.eq_ofNat_of_zero_le hl.1
  obtain ⟨m, hm⟩ := Int.eq_ofNat_of_zero_le h11.2.1
  rw [lineBit_i ⟨h2.1, h2.2.1⟩, hm] at h10
  unfold needF
  rw [hm, h10]
  by_cases ht : A 23 k = 12
  · rw [lineBit_o (by omega)]
    have b2 := bor_bits2 m (by omega) n (by omega)
    have b4 := bor_bits4 m (by omega) n (by omega)
    rw [b2]
    by_cases hh : n = m
    · rw [if_pos hh]
      rw [decide_eq_true hh] at b4
      exact ⟨fun _ => ⟨rfl, of_decide_eq_false b4⟩, fun h => absurd (Or.inl (by omega)) h⟩
    · rw [if_neg hh]
      rw [decide_eq_false hh] at b4
      exact ⟨fun h => by omega, fun _ => ⟨rfl, of_decide_eq_true b4⟩⟩
  · obtain ⟨e1, e2, e3⟩ := h12 ht
    obtain ⟨c, hc⟩ := Int.eq_ofNat_of_zero_le e2
    rw [lineBit_i (by omega), hc]
    have b1 := bor_bits1 m (by omega) c (by omega) n (by omega)
    have b3 := bor_bits3 m (by omega) c (by omega) n (by omega)
    rw [b1]
    have hk : A 21 k = 2 ∨ (m : Int) = c := by
      by_cases h : A 21 k = 1
      · have := h6 h
        omega
      · by_cases h' : A 21 k ≤ 2
        · omega
        · have := h5 (by omega)
          omega
    by_cases hh : n = m ∨ n = c
    · rw [if_pos hh]
      rw [decide_eq_true hh] at b3
      exact ⟨fun _ => ⟨rfl, of_decide_eq_false b3⟩, fun h => absurd (show (m : Int) = n ∨ (A 21 k = 2 ∧ (c : Int) = n) by omega) h⟩
    · rw [if_neg hh]
      rw [decide_eq_false hh] at b3
      exact ⟨fun h => by omega, fun _ => ⟨rfl, of_decide_eq_true b3⟩⟩
theorem lp_onLine {l : Int} (hG : GW b G) (hr : 0 ≤ I 2 0 ∧ I 2 0 ≤ 12) (k : Q (some (vI (onL I l (I 2 0).toNat))) G I J) : ∀ (j y : Nat), (y : Int) + j = I 2 0 → At d 45 4 [some (vR 2), some (vI l), some (vI (onL I l y)), some (vI (y : Int))] [] G I J Q
  | 0, y, h => by
    rw [show (I 2 0).toNat = y by omega] at k
    exact b_X4_onLine_4 hG (fun _ => b_X4_onLine_34 hG k) (fun q => by omega)
  | j + 1, y, h => by
    have nx := lp_onLine (l := l) hG hr k j (y + 1) (by omega)
    rw [Int.natCast_add] at nx
    unfold onL at nx
    refine b_X4_onLine_4 hG (fun q => by omega) (fun _ => b_X4_onLine_12 hG (by omega) (by omega) (fun q => b_X4_onLine_28 hG (by unfold ok32; omega) ?_) (fun q => b_X4_onLine_22 hG (by unfold ok32; omega) ?_))
    · rw [if_neg q] at nx
      exact nx
    · rw [if_pos q] at nx
      exact nx
theorem sp_onLine {l : Int} (hG : GW b G) (hr : 0 ≤ I 2 0 ∧ I 2 0 ≤ 12) (k : Q (some (vI (onL I l (I 2 0).toNat))) G I J) : At d 45 0 [some (vR 2), some (vI l), none, none] [] G I J Q :=
  b_X4_onLine_0 hG (lp_onLine hG hr k (I 2 0).toNat 0 (by omega))
theorem lp_onLineM {A : aI} {l : Int} (hG : GW b G) (hr : 0 ≤ A 2 0 ∧ A 2 0 ≤ 12) (he : I 57 0 = A 2 0) (h57 : ∀ x, 0 ≤ x → x < A 2 0 → I 57 (32 + 5 * x + 0) = A 3 x) (k : Q (some (vI (onL A l (A 2 0).toNat))) G I J) : ∀ (j y : Nat), (y : Int) + j = A 2 0 → At (d + 1) 195 4 [some (vR 56), some (vI l), some (vI (onL A l y)), some (vI (y : Int))] [] G I J Q
  | 0, y, h => by
    rw [show (A 2 0).toNat = y by omega] at k
    exact b_X12_onLine_4 hG (fun _ => b_X12_onLine_40 hG k) (fun q => by omega)
  | j + 1, y, h => by
    have nx := lp_onLineM (l := l) hG hr he h57 k j (y + 1) (by omega)
    have hb := onL_b (A := A) (l := l) y (by omega)
    have e := h57 y (by omega) (by omega)
    rw [Int.natCast_add] at nx
    unfold onL at nx
    refine b_X12_onLine_4 hG (fun q => by omega) (fun _ => b_X12_onLine_14 hG (b_X12_f_0 hG (by unfold ok32; omega) (by unfold ok32; omega) (by unfold ok32; omega) (by omega) (by omega) (b_X12_onLine_21 hG (fun q => b_X12_onLine_31 hG (by unfold ok32; omega) ?_) (fun q => b_X12_onLine_25 hG (by unfold ok32; omega) ?_))))
    · rw [e] at q
      rw [if_neg q] at nx
      rw [or0 hb]
      exact nx
    · rw [e] at q
      rw [if_pos q] at nx
      exact nx
theorem sp_onLineM {A : aI} {l : Int} (hG : GW b G) (hF : RelF A (I 57)) (k : Q (some (vI (onL A l (A 2 0).toNat))) G I J) : At (d + 1) 195 0 [some (vR 56), some (vI l), none, none] [] G I J Q := by
  have f0 := hF.1
  exact b_X12_onLine_0 hG (lp_onLineM hG (by omega) f0.2.2.symm (fun x x0 x1 => (hF.2.1 x x0 (by omega)).1.1.symm) k (A 2 0).toNat 0 (by omega))
theorem sp_inCall {x : Int} (hG : GW b G) (hF : RelF I (I 57)) (hC : RelC I J (I 57)) (x0 : 0 ≤ x) (x1 : x < I 57 2) (k : Q (some (vI (inF I x))) G I J) : At (d + 2) 14 0 [some (vR 20), some (vI x), some (vR 2)] [] G I J Q := by
  obtain ⟨⟨g, _⟩, h1, h2, h3, h4, h5, h6, h7, h8, h9, h10, h11, h12⟩ := cll hF hC x0 x1
  have f0 := hF.1
  unfold inF at k
  refine b_X0_inCall_0 hG x0 g (fun q => b_X0_inCall_25 hG x0 g (sp_X4_has hG (fun q0 q1 => b_X0_inCall_35 hG (fun q2 => absurd q2 (by decide)) (fun _ => b_X0_inCall_38 hG x0 g ?_)) (fun q0 => b_X0_inCall_35 hG (fun _ => b_X0_inCall_58 hG x0 g ?_) (fun q2 => absurd rfl q2)))) (fun q => b_X0_inCall_10 hG x0 g (sp_lineOf hG h2.1 h2.2.1 h2.2.2 (b_X0_inCall_21 hG (sp_onLine hG (by omega) (b_X0_inCall_24 hG ?_)))))
  · rw [if_neg q, if_neg (by omega)] at k
    exact k
  · rw [if_neg q, if_pos (by omega)] at k
    exact k
  · rw [if_pos q] at k
    exact k
theorem sp_inCallM {A B : aI} {x : Int} (hG : GW b G) (hF : RelF A (I 57)) (hC : RelC A B (I 57)) (x0 : 0 ≤ x) (x1 : x < I 57 2) (k : Q (some (vI (inF A x))) G I J) : At (d + 2) 211 0 [some (vR 56), some (vI x)] [] G I J Q := by
  obtain ⟨⟨g, k1, k2, k3, _⟩, h1, h2, h3, h4, h5, h6, h7, h8, h9, h10, h11, h12⟩ := cll hF hC x0 x1
  have f0 := hF.1
  have hb := shlb (s := A 22 x) ⟨h2.1, h2.2.2⟩
  have rd : ∀ (D : Nat) (j : Int) (Q' : Option aV → aG → aI → aI → Prop), 0 ≤ j → j ≤ 7 → Q' (some (vI (I 57 ((1312 + (8 * x)) + j)))) G I J → At D 154 0 [some (vR 56), some (vI x), some (vI j)] [] G I J Q' := fun D j Q' j0 j1 k => b_X12_c_0 hG (by unfold ok32; omega) (by unfold ok32; omega) (by unfold ok32; omega) (by omega) (by omega) k
  unfold inF at k
  refine b_X12_inCall_0 hG (rd _ _ _ (by decide) (by decide) (b_X12_inCall_6 hG (fun q => b_X12_inCall_20 hG (rd _ _ _ (by decide) (by decide) (b_X12_inCall_27 hG (rd _ _ _ (by decide) (by decide) (b_X12_inCall_34 hG (fun q2 => b_X12_inCall_43 hG (rd _ _ _ (by decide) (by decide) (b_X12_inCall_50 hG ?_))) (fun q2 => b_X12_inCall_39 hG ?_)))))) (fun q => b_X12_inCall_10 hG (b_X12_lineOf_0 hG (rd _ _ _ (by decide) (by decide) (b_X12_lineOf_7 hG (b_X12_f_0 hG (by rw [k2]; unfold ok32; omega) (by rw [k2]; unfold ok32; omega) (by rw [k2]; unfold ok32; omega) (by rw [k2]; omega) (by rw [k2]; omega) (b_X12_lineOf_11 hG (b_X12_inCall_16 hG ?_)))))))))
  · rw [k1] at q
    rw [k3] at q2
    rw [k2, k3]
    rw [if_neg q, if_neg q2] at k
    exact k
  · rw [k1] at q
    rw [k3] at q2
    rw [k2, or0 hb]
    rw [if_neg q, if_pos q2] at k
    exact k
  · rw [k1] at q
    rw [if_pos q] at k
    rw [k2, h11.1]
    exact sp_onLineM (d := d) hG hF (b_X12_inCall_19 hG k)
theorem sp_needs {A B : aI} {x l : Int} (hG : GW b G) (hF : RelF A (I 57)) (hC : RelC A B (I 57)) (x0 : 0 ≤ x) (x1 : x < I 57 2) (k1 : needF A x l → Q (some (vI 1)) G I J) (k0 : ¬ needF A x l → Q (some (vI 0)) G I J) : At (d + 2) 193 0 [some (vR 56), some (vI x), some (vI l)] [] G I J Q := by
  obtain ⟨⟨g, e1, e2, e3, _⟩, h1, h2, h3, h4, h5, h6, h7, h8, h9, h10, h11, h12⟩ := cll hF hC x0 x1
  have rd : ∀ (D : Nat) (j : Int) (Q' : Option aV → aG → aI → aI → Prop), 0 ≤ j → j ≤ 7 → Q' (some (vI (I 57 ((1312 + (8 * x)) + j)))) G I J → At D 154 0 [some (vR 56), some (vI x), some (vI j)] [] G I J Q' := fun D j Q' j0 j1 k => b_X12_c_0 hG (by unfold ok32; omega) (by unfold ok32; omega) (by unfold ok32; omega) (by omega) (by omega) k
  unfold needF at k1 k0
  refine b_X12_needs_0 hG (b_X12_lineOf_0 hG (rd _ _ _ (by decide) (by decide) (b_X12_lineOf_7 hG (b_X12_f_0 hG (by rw [e2]; unfold ok32; omega) (by rw [e2]; unfold ok32; omega) (by rw [e2]; unfold ok32; omega) (by rw [e2]; omega) (by rw [e2]; omega) (b_X12_lineOf_11 hG (b_X12_needs_5 hG (fun q => b_X12_needs_34 hG (k1 (Or.inl ?_))) (fun q => b_X12_needs_9 hG (rd _ _ _ (by decide) (by decide) (b_X12_needs_15 hG (fun q2 => b_X12_needs_38 hG (k0 (fun h => ?_))) (fun q2 => b_X12_needs_19 hG (rd _ _ _ (by decide) (by decide) (b_X12_needs_26 hG ?_))))))))))))
  · rw [← q, e2, h11.1]
  · rw [e2, h11.1] at q
    rcases h with h | h
    · exact q h
    · rw [e1] at q2
      exact q2 h.1
  · rw [e2, h11.1] at q
    rw [e1] at q2
    have h4' := h4 (by omega)
    have h12' := h12 (by omega)
    refine b_X12_f_0 hG (by rw [e3]; unfold ok32; omega) (by rw [e3]; unfold ok32; omega) (by rw [e3]; unfold ok32; omega) (by rw [e3]; omega) (by rw [e3]; omega) (b_X12_needs_30 hG (fun q3 => b_X12_needs_38 hG (k0 (fun h => ?_))) (fun q3 => b_X12_needs_34 hG (k1 (Or.inr ⟨q2, ?_⟩))))
    · rw [e3, h12'.1] at q3
      rcases h with h | h
      · exact q h
      · exact q3 h.2
    · rw [e3, h12'.1] at q3
      exact q3
theorem sp_cords {x : Int} (hG : GW b G) (hF : RelF I (I 57)) (hC : RelC I J (I 57)) (x0 : 0 ≤ x) (x1 : x < I 57 2) (k : Q (some (vI (unF (I 21 x) 2))) G I J) : At (d + 1) 10 0 [some (vR 20), some (vI x)] [] G I J Q := by
  obtain ⟨⟨g, _⟩, h1, _⟩ := cll hF hC x0 x1
  refine b_X0_cords_0 hG x0 g (sp_isUnder hG (by omega) ?_)
  rcases unF_01 (a := I 21 x) (o := 2) with h | h
  · rw [h] at k ⊢
    exact b_X0_cords_10 hG (fun _ => b_X0_cords_17 hG k) (fun q => absurd rfl q)
  · rw [h] at k ⊢
    exact b_X0_cords_10 hG (fun q => absurd q (by decide)) (fun _ => b_X0_cords_13 hG k)
theorem un2 {a : Int} (h : 1 ≤ a ∧ a ≤ 4) : unF a 2 = if a = 2 ∨ a = 3 then 1 else 0 := by
  have : a = 1 ∨ a = 2 ∨ a = 3 ∨ a = 4 := by omega
  rcases this with rfl | rfl | rfl | rfl <;> decide
theorem sp_byBoard {A B : aI} {x : Int} (hG : GW b G) (hF : RelF A (I 57)) (hC : RelC A B (I 57)) (x0 : 0 ≤ x) (x1 : x < I 57 2) (k : Q (some (vI (unF (A 21 x) 2))) G I J) : At (d + 1) 194 0 [some (vR 56), some (vI x)] [] G I J Q := by
  obtain ⟨⟨g, e1, _⟩, h1, _⟩ := cll hF hC x0 x1
  rw [un2 h1] at k
  have rd : ∀ (D : Nat) (j : Int) (Q' : Option aV → aG → aI → aI → Prop), 0 ≤ j → j ≤ 7 → Q' (some (vI (I 57 ((1312 + (8 * x)) + j)))) G I J → At D 154 0 [some (vR 56), some (vI x), some (vI j)] [] G I J Q' := fun D j Q' j0 j1 k => b_X12_c_0 hG (by unfold ok32; omega) (by unfold ok32; omega) (by unfold ok32; omega) (by omega) (by omega) k
  refine b_X12_isByBoard_0 hG (rd _ _ _ (by decide) (by decide) (b_X12_isByBoard_6 hG (fun q => b_X12_isByBoard_20 hG ?_) (fun q => b_X12_isByBoard_10 hG (rd _ _ _ (by decide) (by decide) (b_X12_isByBoard_16 hG (fun q2 => b_X12_isByBoard_24 hG ?_) (fun q2 => b_X12_isByBoard_20 hG ?_))))))
  · rw [if_pos (by omega)] at k
    exact k
  · rw [if_neg (by omega)] at k
    exact k
  · rw [if_pos (by omega)] at k
    exact k
theorem cs_16 {x : Int} (hV : LV b G I J) : Cl (d + 6) 125 213 [some (vR 0), some (vI x)] [some (vR 56), some (vI x)] G I J := by
  obtain ⟨hG, hRW, hc, hi, hk⟩ := id hV
  obtain ⟨hN, hF, hR, hT, hC, hW, hL, hM⟩ := id hRW
  have f2 := hC.1
  have m1 : 0 ≤ I 57 2 ∧ I 57 2 ≤ 60 := ⟨f2.1, f2.2.1⟩
  unfold Cl
  have fin : ∀ w, (0 ≤ x → x < I 57 2 → w = if I 29 x = 0 ∨ I 29 x = 3 then 0 else bOr (inF I x) (I 30 x)) → (¬ (0 ≤ x ∧ x < I 57 2) → w = -1) → Md (d + 6) 213 [some (vR 56), some (vI x)] w G I J := by
    intro w hw hn
    unfold Md
    refine b_X12_heard_0 hG (sp_isCall hG m1 (fun x0 x1 => b_X12_heard_5 hG (fun _ => ?_) (fun q => absurd q (by decide))) (fun q => b_X12_heard_5 hG (fun q => absurd rfl q) (fun _ => b_X12_heard_8 hG ⟨by rw [hn (by omega)], b, hV, rfl, rfl⟩)))
    obtain ⟨⟨g, e1, e2, e3, e4, e5, e6, e7, e8⟩, _⟩ := cll hF hC x0 x1
    have rd : ∀ (D : Nat) (j : Int) (Q' : Option aV → aG → aI → aI → Prop), 0 ≤ j → j ≤ 7 → Q' (some (vI (I 57 ((1312 + (8 * x)) + j)))) G I J → At D 154 0 [some (vR 56), some (vI x), some (vI j)] [] G I J Q' := fun D j Q' j0 j1 k => b_X12_c_0 hG (by unfold ok32; omega) (by unfold ok32; omega) (by unfold ok32; omega) (by omega) (by omega) k
    have hw := hw x0 x1
    refine b_X12_heard_10 hG (rd _ _ _ (by decide) (by decide) (b_X12_heard_16 hG (fun q => b_X12_heard_29 hG ⟨?_, b, hV, rfl, rfl⟩) (fun q => b_X12_heard_19 hG (rd _ _ _ (by decide) (by decide) (b_X12_heard_25 hG (fun q2 => b_X12_heard_33 hG (sp_inCallM (d := d + 3) hG hF hC x0 x1 (b_X12_heard_38 hG (rd _ _ _ (by decide) (by decide) (b_X12_heard_45 hG ⟨?_, b, hV, rfl, rfl⟩))))) (fun q2 => b_X12_heard_29 hG ⟨?_, b, hV, rfl, rfl⟩))))))
    · rw [hw, if_pos (by omega)]
    · rw [hw, if_neg (by omega), e8]
    · rw [hw, if_pos (by omega)]
  refine b_X11_heard_0 hG (sp_X0_has hG (fun x0 x1 => b_X11_heard_11 hG (fun _ => b_X11_heard_16 hG (b_X0_hearers_0 hG x0 (by omega) (fun q => b_X0_hearers_19 hG (b_X11_heard_34 hG ⟨_, b, rfl, hG, ⟨rfl, rfl⟩, fin _ (fun _ _ => ?a) (fun h => absurd ⟨x0, by omega⟩ h)⟩)) (fun q => b_X0_hearers_9 hG x0 (by omega) (fun q2 => b_X0_hearers_23 hG (sp_inCall (d := d + 2) hG hF hC x0 (by omega) (b_X0_hearers_29 hG x0 (by omega) (b_X11_heard_34 hG ⟨_, b, rfl, hG, ⟨rfl, rfl⟩, fin _ (fun _ _ => ?bb) (fun h => absurd ⟨x0, by omega⟩ h)⟩)))) (fun q2 => b_X0_hearers_19 hG (b_X11_heard_34 hG ⟨_, b, rfl, hG, ⟨rfl, rfl⟩, fin _ (fun _ _ => ?cc) (fun h => absurd ⟨x0, by omega⟩ h)⟩))))) (fun q => absurd q (by decide))) (fun q => b_X11_heard_11 hG (fun q => absurd rfl q) (fun _ => b_X11_heard_14 hG ⟨_, b, rfl, hG, ⟨rfl, rfl⟩, fin _ (fun _ _ => by omega) (fun _ => rfl)⟩)))
  case a => rw [if_pos (Or.inl q)]
  case bb => rw [if_neg (by omega)]
  case cc => rw [if_pos (Or.inr q2)]
end SM
