/-! the call storm -/
def cutN (A B : aI) (r : Int) : Nat → Int
  | 0 => 0
  | k + 1 => if lt (B 32 r) (A 33 (k : Int)).toNat = true then bOr (cutN A B r k) (bShl 1 (k : Int)) else cutN A B r k
def okR (A B : aI) (set r : Int) : Bool := decide (bAnd (cutN A B r (A 31 2).toNat) set = 0) == decide (bAnd (bShr (A 31 5) r) 1 = 1)
def exN (A B : aI) (set : Int) : Nat → Bool
  | 0 => true
  | n + 1 => exN A B set n && okR A B set (n : Int)
def stN (E : Int → Bool) : Nat → Int × Int
  | 0 => (0, 0)
  | n + 1 => if (0 < (stN E n).2 ∧ pop (stN E n).1 < pop (n : Int)) ∨ E (n : Int) = false then stN E n else if (stN E n).2 = 0 ∨ pop (n : Int) < pop (stN E n).1 then ((n : Int), 1) else ((stN E n).1, (stN E n).2 + 1)
def dnN (A : aI) (set c : Int) : Nat → Bool
  | 0 => false
  | k + 1 => dnN A set c k || (decide (bAnd (bShr set (k : Int)) 1 = 1) && decide (A 33 (k : Int) = c))
theorem dn_ex {A : aI} {set c : Int} : ∀ n : Nat, dnN A set c n = true ↔ ∃ k : Int, 0 ≤ k ∧ k < n ∧ bAnd (bShr set k) 1 = 1 ∧ A 33 k = c
  | 0 => ⟨fun h => (by cases h), fun ⟨k, h0, h1, _⟩ => (by omega)⟩
  | n + 1 => by
    unfold dnN
    rw [Bool.or_eq_true, dn_ex n, Bool.and_eq_true, decide_eq_true_eq, decide_eq_true_eq]
    constructor
    · rintro (⟨k, h0, h1, h2⟩ | h)
      · exact ⟨k, h0, by omega, h2⟩
      · exact ⟨n, by omega, by omega, h⟩
    · rintro ⟨k, h0, h1, h2⟩
      by_cases hk : k = n
      · subst hk
        exact Or.inr h2
      · exact Or.inl ⟨k, h0, by omega, h2⟩
theorem cut_b {A B : aI} {r : Int} : ∀ n : Nat, n ≤ 10 → (0 ≤ cutN A B r n ∧ cutN A B r n < 1024) ∧ ∀ c : Int, 0 ≤ c → c < 10 → bAnd (bShr (cutN A B r n) c) 1 = if c < n ∧ lt (B 32 r) (A 33 c).toNat = true then 1 else 0
  | 0, _ => by
    refine ⟨by show (0 : Int) ≤ 0 ∧ (0 : Int) < 1024; decide, fun c c0 c1 => ?_⟩
    rw [if_neg (by omega)]
    show bAnd (bShr 0 c) 1 = 0
    obtain ⟨m, rfl⟩ := Int.eq_ofNat_of_zero_le c0
    have : ∀ m : Nat, m < 10 → bAnd (bShr 0 (m : Int)) 1 = 0 := by decide +kernel
    exact this m (by omega)
  | n + 1, h => by
    obtain ⟨i1, i2⟩ := cut_b (A := A) (B := B) (r := r) n (by omega)
    obtain ⟨b1, b2, b3⟩ := bset (n := 10) (x := cutN A B r n) (s := (n : Int)) (by decide) i1.1 i1.2 (by omega) (by omega)
    unfold cutN
    by_cases hl : lt (B 32 r) (A 33 (n : Int)).toNat = true
    · rw [if_pos hl]
      refine ⟨⟨b1, b2⟩, fun c c0 c1 => ?_⟩
      rw [b3 c c0 c1]
      by_cases hc : c = n
      · subst hc
        rw [if_pos rfl, if_pos ⟨by omega, hl⟩]
      · rw [if_neg hc, i2 c c0 c1]
        by_cases h2 : c < n ∧ lt (B 32 r) (A 33 c).toNat = true
        · rw [if_pos h2, if_pos ⟨by omega, h2.2⟩]
        · rw [if_neg h2, if_neg (fun h3 => h2 ⟨by omega, h3.2⟩)]
    · rw [if_neg hl]
      refine ⟨i1, fun c c0 c1 => ?_⟩
      rw [i2 c c0 c1]
      by_cases h2 : c < n ∧ lt (B 32 r) (A 33 c).toNat = true
      · rw [if_pos h2, if_pos ⟨by omega, h2.2⟩]
      · rw [if_neg h2, if_neg (fun h3 => ?_)]
        by_cases hc : c = n
        · subst hc
          exact hl h3.2
        · exact h2 ⟨by omega, h3.2⟩
theorem and10 {x y : Int} (hx : 0 ≤ x ∧ x < 1024) (hy : 0 ≤ y ∧ y < 1024) : bAnd x y = 0 ↔ ∀ c : Int, 0 ≤ c → c < 10 → ¬ (bAnd (bShr x c) 1 = 1 ∧ bAnd (bShr y c) 1 = 1) := by
  obtain ⟨m, rfl⟩ := Int.eq_ofNat_of_zero_le hx.1
  obtain ⟨n, rfl⟩ := Int.eq_ofNat_of_zero_le hy.1
  have bz : ∀ (m : Nat) (c : Nat), m < 1024 → c < 10 → (bAnd (bShr (m : Int) (c : Int)) 1 = 1 ↔ m.testBit c = true) := fun m c h h2 => by
    rw [bit32 (by omega), bt_nat (by omega)]
    split
    · rename_i q
      rw [q]
      exact ⟨fun _ => rfl, fun _ => rfl⟩
    · rename_i q
      exact ⟨fun h => by omega, fun h => absurd h q⟩
  rw [bAnd_nat (by omega) (by omega)]
  constructor
  · intro h c c0 c1 hh
    obtain ⟨c, rfl⟩ := Int.eq_ofNat_of_zero_le c0
    rw [bz m c (by omega) (by omega), bz n c (by omega) (by omega)] at hh
    have h0 : m &&& n = 0 := by omega
    have := congrArg (fun v => Nat.testBit v c) h0
    rw [Nat.testBit_and, hh.1, hh.2, Nat.zero_testBit] at this
    cases this
  · intro h
    have : m &&& n = 0 := by
      refine Nat.eq_of_testBit_eq fun i => ?_
      rw [Nat.zero_testBit, Nat.testBit_and]
      by_cases hi : i < 10
      · have h2 := h (i : Int) (by omega) (by omega)
        rw [bz m i (by omega) hi, bz n i (by omega) hi] at h2
        cases hm : m.testBit i <;> cases hn : n.testBit i <;> simp_all
      · rw [Nat.testBit_lt_two_pow (x := m) (i := i) (Nat.lt_of_lt_of_le (show m < 2 ^ 10 by omega) (Nat.pow_le_pow_right (by decide) (by omega)))]
        rfl
    rw [this]
    rfl
/-- a told ring is as the set says -/
theorem cut_dn {A B : aI} {S : Int → Int} {r set : Int} (hF : RelF A S) (hW : RelW A B S) (r0 : 0 ≤ r) (r1 : r < S 4) (hs : 0 ≤ set ∧ set < 1024) : bAnd (cutN A B r (A 31 2).toNat) set = 0 ↔ ∀ c, onW A (S (1832 + (3 * r))) (S ((1832 + (3 * r)) + 1)) c → dnN A set c (A 31 2).toNat = false := by
  have f5 := hW.2.1
  have g5 := hW.2.2.2.2.2
  have f0 := hF.1
  obtain ⟨e1, e2, e3, e4, e5⟩ := hW.2.2.2.1 r r0 r1
  obtain ⟨cb, cc⟩ := cut_b (A := A) (B := B) (r := r) (A 31 2).toNat (by omega)
  rw [and10 cb hs]
  constructor
  · intro h c hc
    cases hd : dnN A set c (A 31 2).toNat
    · rfl
    · exfalso
      obtain ⟨k, k0, k1, k2, k3⟩ := (dn_ex _).1 hd
      have hk := (g5 k k0 (by omega)).2
      have hlt : lt (B 32 r) (A 33 k).toNat = true := by
        rw [e1, way_bit hF (by omega) (by omega) (by omega), show (((A 33 k).toNat : Nat) : Int) = c by omega]
        exact hc
      refine h k k0 (by omega) ⟨?_, k2⟩
      rw [cc k k0 (by omega), if_pos ⟨k1, hlt⟩]
  · intro h c c0 c1 hh
    rw [cc c c0 c1] at hh
    split at hh
    · rename_i q
      have hk := (g5 c c0 (by omega)).2
      have hq := q.2
      rw [e1, way_bit hF (by omega) (by omega) (by omega), show (((A 33 c).toNat : Nat) : Int) = A 33 c by omega] at hq
      have := h _ hq
      rw [(dn_ex (A := A) (set := set) (c := A 33 c) (A 31 2).toNat).2 ⟨c, c0, q.1, hh.2, rfl⟩] at this
      cases this
    · omega
theorem ex_no {A B : aI} {set : Int} : ∀ (n y : Nat), y < n → okR A B set (y : Int) = false → exN A B set n = false
  | 0, y, h, _ => by omega
  | n + 1, y, h, hk => by
    unfold exN
    by_cases hy : y = n
    · subst hy
      rw [hk, Bool.and_false]
    · rw [ex_no n y (by omega) hk, Bool.false_and]
theorem shl10 : ∀ m : Nat, m < 11 → 1 ≤ bShl 1 (m : Int) ∧ bShl 1 (m : Int) ≤ 1024 := by decide +kernel
section SM
variable {d : Nat} {b : Bool} {G : aG} {I J : aI} {Q : Option aV → aG → aI → aI → Prop}
theorem lp_exC {A : aI} {set : Int} (hG : GW b G) (h1 : I 31 1 = A 31 1) (h5 : I 31 5 = A 31 5) (hr : 0 ≤ A 31 1 ∧ A 31 1 ≤ 20) (hc : ∀ r, 0 ≤ r → r < A 31 1 → I 34 r = cutN A J r (A 31 2).toNat) (k : ∀ v, v = exN A J set (A 31 1).toNat → Q (some (vI (if v = true then 1 else 0))) G I J) : ∀ (j y : Nat) (u3 : Option aV), (y : Int) + j = A 31 1 → exN A J set y = true → At d 96 2 [some (vR 31), some (vI set), some (vI (y : Int)), u3] [] G I J Q
  | 0, y, u3, h, he => by
    have := k true (by rw [show (A 31 1).toNat = y by omega, he])
    exact b_X9_explains_2 hG (fun _ => b_X9_explains_55 hG this) (fun q => by omega)
  | j + 1, y, u3, h, he => by
    have e := hc y (by omega) (by omega)
    have bad : okR A J set y = false → ∀ u : Int, At d 96 47 [some (vR 31), some (vI set), some (vI (y : Int)), some (vI u)] [] G I J Q := fun hk u => by
      have := k false (ex_no _ y (by omega) hk).symm
      exact b_X9_explains_47 hG this
    have good : okR A J set y = true → ∀ u : Int, At d 96 49 [some (vR 31), some (vI set), some (vI (y : Int)), some (vI u)] [] G I J Q := fun hk u => by
      refine b_X9_explains_49 hG (by unfold ok32; omega) ?_
      have := lp_exC hG h1 h5 hr hc k j (y + 1) (some (vI u)) (by omega) (by
        unfold exN
        rw [he, hk]
        rfl)
      rw [Int.natCast_add] at this
      exact this
    unfold okR at bad good
    have hb := bit01x (x := A 31 5) (f := (y : Int)) (by omega)
    rw [← e, ← h5] at bad good
    rw [← h5] at hb
    refine b_X9_explains_2 hG (fun q => by omega) (fun _ => b_X9_explains_10 hG (by omega) (by omega) (fun q => b_X9_explains_25 hG (fun q2 => b_X9_explains_43 hG (fun _ => good ?_ _) (fun q3 => absurd rfl q3)) (fun q2 => b_X9_explains_39 hG (fun q3 => absurd q3 (by decide)) (fun _ => bad ?_ _))) (fun q => b_X9_explains_21 hG (fun q2 => b_X9_explains_43 hG (fun q3 => absurd q3 (by decide)) (fun _ => bad ?_ _)) (fun q2 => b_X9_explains_39 hG (fun _ => good ?_ _) (fun q3 => absurd rfl q3))))
    · rw [decide_eq_false q, q2]
      decide
    · rw [decide_eq_false q, hb.resolve_left q2]
      decide
    · rw [decide_eq_true q, q2]
      decide
    · rw [decide_eq_true q, hb.resolve_left q2]
      decide
theorem lp_cut {r : Int} (hG : GW b G) (hr : 0 ≤ I 31 2 ∧ I 31 2 ≤ 10) (h33 : ∀ k, 0 ≤ k → k < I 31 2 → 0 ≤ I 33 k ∧ I 33 k < 40) (r0 : 0 ≤ r) (r1 : r < 20) (k : Q (some (vI (cutN I J r (I 31 2).toNat))) G I J) : ∀ (j y : Nat), (y : Int) + j = I 31 2 → At d 95 4 [some (vR 31), some (vI r), some (vI (cutN I J r y)), some (vI (y : Int))] [] G I J Q
  | 0, y, h => by
    rw [show (I 31 2).toNat = y by omega] at k
    exact b_X9_cutsOf_4 hG (fun _ => b_X9_cutsOf_44 hG k) (fun q => by omega)
  | j + 1, y, h => by
    have h3 := h33 y (by omega) (by omega)
    have nx := lp_cut hG hr h33 r0 r1 k j (y + 1) (by omega)
    rw [Int.natCast_add] at nx
    unfold cutN at nx
    have hb := bit64 (x := J 32 r) (s := (I 33 (y : Int)).toNat) (by omega)
    rw [show (((I 33 (y : Int)).toNat : Nat) : Int) = I 33 (y : Int) by omega] at hb
    have hz : lAnd (lShr (J 32 r) (I 33 (y : Int))) 1 = 0 ∨ lAnd (lShr (J 32 r) (I 33 (y : Int))) 1 = 1 := by
      rw [hb]
      split
      · exact Or.inr rfl
      · exact Or.inl rfl
    have hc := cLcm01 hz
    refine b_X9_cutsOf_4 hG (fun q => by omega) (fun _ => b_X9_cutsOf_12 hG r0 r1 (by omega) (by omega) (fun q => b_X9_cutsOf_38 hG (by unfold ok32; omega) ?_) (fun q => b_X9_cutsOf_32 hG (by unfold ok32; omega) ?_))
    · rw [hc, hb] at q
      split at q
      · omega
      · rename_i q2
        rw [if_neg q2] at nx
        exact nx
    · rw [hc, hb] at q
      split at q
      · rename_i q2
        rw [if_pos q2] at nx
        exact nx
      · exact absurd rfl q
theorem cutN_kp {A A' B : aI} {r : Int} (h : A' 33 = A 33) : ∀ n : Nat, cutN A' B r n = cutN A B r n
  | 0 => rfl
  | n + 1 => by
    unfold cutN
    rw [cutN_kp h n, h]
theorem lp_fill {Io : aI} (hG : GW b G) (hr : 0 ≤ Io 31 1 ∧ Io 31 1 ≤ 20) (hm : 0 ≤ Io 31 2 ∧ Io 31 2 ≤ 10) (h33 : ∀ k, 0 ≤ k → k < Io 31 2 → 0 ≤ Io 33 k ∧ Io 33 k < 40) (k : ∀ I' x u2, Kp Io I' → (∀ r, 0 ≤ r → r < Io 31 1 → I' 34 r = cutN Io J r (Io 31 2).toNat) → At (d + 1) 94 27 [some (vR 31), some (vI x), u2] [] G I' J Q) : ∀ (j y : Nat) (I : aI) (u2 : Option aV), (y : Int) + j = Io 31 1 → Kp Io I → (∀ r, 0 ≤ r → r < (y : Int) → I 34 r = cutN Io J r (Io 31 2).toNat) → At (d + 1) 94 2 [some (vR 31), some (vI (y : Int)), u2] [] G I J Q
  | 0, y, I, u2, h, hK, hc => by
    have e1 : I 31 1 = Io 31 1 := hK 31 1 (by decide)
    exact b_X9_explain_2 hG (fun _ => k I _ _ hK (fun r r0 r1 => hc r r0 (by omega))) (fun q => by omega)
  | j + 1, y, I, u2, h, hK, hc => by
    have e1 : I 31 1 = Io 31 1 := hK 31 1 (by decide)
    have e2 : I 31 2 = Io 31 2 := hK 31 2 (by decide)
    have e33 : I 33 = Io 33 := hK.c (sc 33 (by decide))
    refine b_X9_explain_2 hG (fun q => by omega) (fun _ => b_X9_explain_10 hG (b_X9_cutsOf_0 hG (lp_cut hG (by omega) (fun k k0 k1 => by rw [e33]; exact h33 k k0 (by omega)) (by omega) (by omega) (b_X9_explain_20 hG (by omega) (by omega) (by unfold ok32; omega) ?_) (I 31 2).toNat 0 (by omega))))
    have := lp_fill hG hr hm h33 k j (y + 1) (mset I 34 (y : Int) (cutN I J (y : Int) (I 31 2).toNat)) u2 (by omega) (hK.set rfl) (fun r r0 r1 => ?_)
    · rw [Int.natCast_add] at this
      exact this
    · by_cases hh : r = y
      · subst hh
        rw [mset_at, e2, cutN_kp e33]
      · rw [mset_n hh]
        exact hc r r0 (by omega)
theorem stN_b {E : Int → Bool} : ∀ n : Nat, (0 ≤ (stN E n).2 ∧ (stN E n).2 ≤ n) ∧ (0 ≤ (stN E n).1 ∧ ((stN E n).1 < n ∨ (stN E n).2 = 0)) ∧ ((stN E n).2 = 0 → (stN E n).1 = 0)
  | 0 => by
    show (0 ≤ (0 : Int) ∧ (0 : Int) ≤ ((0 : Nat) : Int)) ∧ (0 ≤ (0 : Int) ∧ ((0 : Int) < ((0 : Nat) : Int) ∨ (0 : Int) = 0)) ∧ ((0 : Int) = 0 → (0 : Int) = 0)
    omega
  | n + 1 => by
    have ih := stN_b (E := E) n
    unfold stN
    split
    · omega
    · split
      · dsimp only
        omega
      · dsimp only
        omega
theorem stN_s {E : Int → Bool} {n : Nat} : stN E (n + 1) = if (0 < (stN E n).2 ∧ pop (stN E n).1 < pop (n : Int)) ∨ E (n : Int) = false then stN E n else if (stN E n).2 = 0 ∨ pop (n : Int) < pop (stN E n).1 then ((n : Int), 1) else ((stN E n).1, (stN E n).2 + 1) := rfl
theorem lp_stC {Io : aI} {R : Nat} (hG : GW b G) (hr : 0 ≤ Io 31 1 ∧ Io 31 1 ≤ 20) (hm : 0 ≤ Io 31 2 ∧ Io 31 2 ≤ 10) (hN : bShl 1 (Io 31 2) = (R : Int)) (k : ∀ I', Kp Io I' → I' 31 3 = (stN (fun s => exN Io J s (Io 31 1).toNat) R).1 → I' 31 4 = (stN (fun s => exN Io J s (Io 31 1).toNat) R).2 → Q none G I' J) : ∀ (j n : Nat) (I : aI) (u2 : Option aV), n + j = R → Kp Io I → (∀ r, 0 ≤ r → r < Io 31 1 → I 34 r = cutN Io J r (Io 31 2).toNat) → I 31 3 = (stN (fun s => exN Io J s (Io 31 1).toNat) n).1 → I 31 4 = (stN (fun s => exN Io J s (Io 31 1).toNat) n).2 → At (d + 1) 94 39 [some (vR 31), some (vI (n : Int)), u2] [] G I J Q
  | 0, n, I, u2, h, hK, hc, h3, h4 => by
    have e2 : I 31 2 = Io 31 2 := hK 31 2 (by decide)
    rw [show R = n by omega] at k
    refine b_X9_explain_39 hG (fun _ => b_X9_explain_121 hG (k I hK h3 h4)) (fun q => ?_)
    rw [e2, hN] at q
    omega
  | j + 1, n, I, u2, h, hK, hc, h3, h4 => by
    have e1 : I 31 1 = Io 31 1 := hK 31 1 (by decide)
    have e2 : I 31 2 = Io 31 2 := hK 31 2 (by decide)
    have e5 : I 31 5 = Io 31 5 := hK 31 5 (by decide)
    have hR : R ≤ 1024 := by
      obtain ⟨m, hm'⟩ := Int.eq_ofNat_of_zero_le hm.1
      have := shl10 m (by omega)
      rw [← hm'] at this
      omega
    have hb := stN_b (E := fun s => exN Io J s (Io 31 1).toNat) n
    have pn := pop_le (x := (n : Int))
    have pf := pop_le (x := I 31 3)
    generalize hE : (fun s => exN Io J s (Io 31 1).toNat) = E at *
    have stay : stN E (n + 1) = stN E n → ∀ u2, At (d + 1) 94 39 [some (vR 31), some (vI ((n : Int) + 1)), u2] [] G I J Q := fun he u2 => by
      have := lp_stC hG hr hm hN (by rw [hE]; exact k) j (n + 1) I u2 (by omega) hK hc (by rw [hE, he]; exact h3) (by rw [hE, he]; exact h4)
      rw [Int.natCast_add] at this
      exact this
    have move : ∀ a c, stN E (n + 1) = (a, c) → ∀ I2 u2, Kp Io I2 → I2 34 = I 34 → I2 31 3 = a → I2 31 4 = c → At (d + 1) 94 39 [some (vR 31), some (vI ((n : Int) + 1)), u2] [] G I2 J Q := fun a c he I2 u2 hK2 h34 h3' h4' => by
      have := lp_stC hG hr hm hN (by rw [hE]; exact k) j (n + 1) I2 u2 (by omega) hK2 (by rw [h34]; exact hc) (by rw [hE, he]; exact h3') (by rw [hE, he]; exact h4')
      rw [Int.natCast_add] at this
      exact this
    have hEn : E (n : Int) = exN Io J (n : Int) (Io 31 1).toNat := by rw [← hE]
    have c73 : ¬ (0 < (stN E n).2 ∧ pop (stN E n).1 < pop (n : Int)) → At (d + 1) 94 73 [some (vR 31), some (vI (n : Int)), some (vI (pop (n : Int) - pop (I 31 3)))] [] G I J Q := by
      intro hn
      refine b_X9_explain_73 hG (b_X9_explains_0 hG (lp_exC (A := Io) hG e1 e5 hr hc (fun v hv => ?_) (Io 31 1).toNat 0 none (by omega) rfl))
      cases v
      · refine b_X9_explain_78 hG (fun q => absurd rfl q) (fun _ => b_X9_explain_81 hG (by unfold ok32; omega) (stay ?_ _))
        rw [stN_s]
        rw [if_pos (Or.inr (hEn.trans hv.symm))]
      · have hno : ¬ ((0 < (stN E n).2 ∧ pop (stN E n).1 < pop (n : Int)) ∨ E (n : Int) = false) := by
          rintro (h | h)
          · exact hn h
          · rw [hEn, ← hv] at h
            cases h
        have newf : ((stN E n).2 = 0 ∨ pop (n : Int) < pop (stN E n).1) → At (d + 1) 94 95 [some (vR 31), some (vI (n : Int)), some (vI (pop (n : Int) - pop (I 31 3)))] [] G I J Q := by
          intro hq
          refine b_X9_explain_95 hG (by decide) (by unfold ok32; omega) (move n 1 ?_ _ _ (((hK.set (by decide +kernel)).set (by decide +kernel)).set (by decide +kernel)) ?_ ?_ ?_)
          · rw [stN_s]
            rw [if_neg hno, if_pos hq]
          · simp (disch := omega) only [mset_at, mset_n, mset_o, sset_at, sset_n]
          · simp (disch := omega) only [mset_at, mset_n, mset_o, sset_at, sset_n]
          · simp (disch := omega) only [mset_at, mset_n, mset_o, sset_at, sset_n]
            rfl
        refine b_X9_explain_78 hG (fun _ => b_X9_explain_84 hG (fun q => newf (Or.inl (by omega))) (fun q => b_X9_explain_91 hG (fun q2 => b_X9_explain_105 hG (by unfold ok32; omega) (by unfold ok32; omega) (move (stN E n).1 ((stN E n).2 + 1) ?_ _ _ (hK.set (by decide +kernel)) ?_ ?_ ?_)) (fun q2 => newf (Or.inr (by rw [← h3]; omega))))) (fun q => absurd q (by decide))
        · rw [stN_s]
          rw [if_neg hno, if_neg (by rw [← h3]; omega)]
        · simp (disch := omega) only [mset_at, mset_n, mset_o, sset_at, sset_n]
        · simp (disch := omega) only [mset_at, mset_n, mset_o, sset_at, sset_n]
          exact h3
        · rw [mset_at, h4]
    refine b_X9_explain_39 hG (fun q => ?_) (fun _ => b_X9_explain_49 hG (sp_J6 hG (by omega) (by omega) (b_X9_explain_53 hG (sp_J6 hG (by omega) (by omega) (b_X9_explain_60 hG (by unfold ok32; omega) (fun q => c73 (by omega)) (fun q => b_X9_explain_69 hG (fun q2 => b_X9_explain_115 hG (by unfold ok32; omega) (stay ?_ _)) (fun q2 => c73 (by rw [← h3]; omega))))))))
    · rw [e2, hN] at q
      omega
    · rw [stN_s]
      rw [if_pos (Or.inl (by rw [← h3]; omega))]
end SM
