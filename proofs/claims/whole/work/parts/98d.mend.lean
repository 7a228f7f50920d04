/-! minutes: lines as bits; calls that end -/
theorem bo16a : ∀ x : Nat, x < 16 → ∀ y : Nat, y < 16 → 0 ≤ bOr (x : Int) (y : Int) ∧ bOr (x : Int) (y : Int) < 16 := by decide +kernel
theorem bo16b : ∀ x : Nat, x < 16 → ∀ y : Nat, y < 16 → ∀ l : Nat, l < 4 → decide (bAnd (bShr (bOr (x : Int) (y : Int)) (l : Int)) 1 = 1) = (decide (bAnd (bShr (x : Int) (l : Int)) 1 = 1) || decide (bAnd (bShr (y : Int) (l : Int)) 1 = 1)) := by decide +kernel
theorem ba16 : ∀ x : Nat, x < 16 → ∀ y : Nat, y < 16 → decide (bAnd (x : Int) (y : Int) = 0) = !(((decide (bAnd (bShr (x : Int) 0) 1 = 1) && decide (bAnd (bShr (y : Int) 0) 1 = 1)) || (decide (bAnd (bShr (x : Int) 1) 1 = 1) && decide (bAnd (bShr (y : Int) 1) 1 = 1))) || ((decide (bAnd (bShr (x : Int) 2) 1 = 1) && decide (bAnd (bShr (y : Int) 2) 1 = 1)) || (decide (bAnd (bShr (x : Int) 3) 1 = 1) && decide (bAnd (bShr (y : Int) 3) 1 = 1)))) := by decide +kernel
theorem bo_i {x y : Int} (hx : 0 ≤ x ∧ x < 16) (hy : 0 ≤ y ∧ y < 16) : (0 ≤ bOr x y ∧ bOr x y < 16) ∧ ∀ l, 0 ≤ l → l ≤ 3 → (bAnd (bShr (bOr x y) l) 1 = 1 ↔ (bAnd (bShr x l) 1 = 1 ∨ bAnd (bShr y l) 1 = 1)) := by
  obtain ⟨m, rfl⟩ := Int.eq_ofNat_of_zero_le hx.1
  obtain ⟨n, rfl⟩ := Int.eq_ofNat_of_zero_le hy.1
  refine ⟨bo16a m (by omega) n (by omega), fun l l0 l1 => ?_⟩
  obtain ⟨k, rfl⟩ := Int.eq_ofNat_of_zero_le l0
  have h := bo16b m (by omega) n (by omega) k (by omega)
  rw [← decide_eq_true_iff (p := bAnd (bShr (bOr (m : Int) (n : Int)) (k : Int)) 1 = 1), h, Bool.or_eq_true, decide_eq_true_iff, decide_eq_true_iff]
theorem ba_i {x y : Int} (hx : 0 ≤ x ∧ x < 16) (hy : 0 ≤ y ∧ y < 16) : bAnd x y = 0 ↔ ∀ l, 0 ≤ l → l ≤ 3 → ¬ (bAnd (bShr x l) 1 = 1 ∧ bAnd (bShr y l) 1 = 1) := by
  obtain ⟨m, rfl⟩ := Int.eq_ofNat_of_zero_le hx.1
  obtain ⟨n, rfl⟩ := Int.eq_ofNat_of_zero_le hy.1
  have h := ba16 m (by omega) n (by omega)
  constructor
  · intro e l l0 l1 q
    rw [decide_eq_true e] at h
    have : l = 0 ∨ l = 1 ∨ l = 2 ∨ l = 3 := by omega
    rcases this with rfl | rfl | rfl | rfl <;> simp [q.1, q.2] at h
  · intro q
    have q0 := q 0 (by decide) (by decide)
    have q1 := q 1 (by decide) (by decide)
    have q2 := q 2 (by decide) (by decide)
    have q3 := q 3 (by decide) (by decide)
    refine of_decide_eq_true ?_
    rw [h, Bool.not_eq_true', Bool.or_eq_false_iff, Bool.or_eq_false_iff, Bool.or_eq_false_iff]
    refine ⟨⟨?_, ?_⟩, ?_, ?_⟩ <;> rw [Bool.and_eq_false_iff, decide_eq_false_iff_not, decide_eq_false_iff_not] <;> omega
theorem lb_b {A : aI} {S : Int → Int} {e : Int} (hF : RelF A S) : 0 ≤ lineBit A e ∧ lineBit A e < 16 := by
  by_cases h : 0 ≤ e ∧ e < A 2 0
  · rw [lineBit_i h]
    obtain ⟨_, g, _⟩ := farmF hF h.1 h.2
    obtain ⟨m, hm⟩ := Int.eq_ofNat_of_zero_le g.1
    rw [hm]
    obtain ⟨e1, e2⟩ := cg_shl (t := m) (by omega)
    rw [e1]
    exact ⟨Int.natCast_nonneg _, Int.ofNat_lt.2 (Nat.lt_of_le_of_lt e2 (by decide))⟩
  · unfold lineBit
    rw [if_neg h]
    decide
theorem ln_b {A B : aI} {S : Int → Int} {k : Int} (hF : RelF A S) (hC : RelC A B S) (k0 : 0 ≤ k) (k1 : k < S 2) : (0 ≤ A 24 k ∧ A 24 k < 16) ∧ ∀ l, 0 ≤ l → l ≤ 3 → (bAnd (bShr (A 24 k) l) 1 = 1 ↔ needF A k l) := by
  refine ⟨?_, fun l l0 l1 => ?_⟩
  · have e := (hC.2.1 k k0 k1).2.1.1
    rw [e]
    exact (bo_i (lb_b hF) (lb_b hF)).1
  · have h := nd_bit hF hC k0 k1 ⟨l0, l1⟩
    constructor
    · intro q
      exact Classical.byContradiction fun g => by
        have := (h.2 g).1
        omega
    · intro q
      exact (h.1 q).1
theorem dn_bit {A J : aI} {S : Int → Int} {c : Int} (hF : RelF A S) (hC : RelC A J S) (c0 : 0 ≤ c) (c1 : c < S 2) : cLcm (lAnd (J 25 c) (J 31 0)) 0 = 0 ↔ ¬ dnF A J c := by
  obtain ⟨_, h1, h2, _⟩ := cll hF hC c0 c1
  rw [(hC.2.1 c c0 c1).2.1.2]
  constructor
  · rintro q ⟨w, hw, hd⟩
    have hr := onW_r hF h2.1 h2.2.1 hw
    have : lAnd (wayF A (A 22 c) (A 23 c)) (J 31 0) = 0 := by
      unfold cLcm at q
      split at q
      · cases q
      · split at q
        · assumption
        · cases q
    refine land0.1 this w.toNat (by omega) ⟨(way_bit hF h2.1 h2.2.1 (by omega)).2 ?_, hd⟩
    rw [show ((w.toNat : Nat) : Int) = w by omega]
    exact hw
  · intro q
    have : lAnd (wayF A (A 22 c) (A 23 c)) (J 31 0) = 0 := land0.2 fun w hw hh => by
      refine q ⟨(w : Int), (way_bit hF h2.1 h2.2.1 hw).1 hh.1, ?_⟩
      rw [Int.toNat_natCast]
      exact hh.2
    rw [this]
    decide
theorem sumN_one {f g : Int → Int} {c : Nat} (h : ∀ k : Int, k ≠ c → f k = g k) : ∀ n : Nat, c < n → sumN f n = sumN g n + (f c - g c)
  | 0, h0 => absurd h0 (by omega)
  | n + 1, h0 => by
    show sumN f n + f (n : Int) = sumN g n + g (n : Int) + (f c - g c)
    by_cases e : c = n
    · subst e
      rw [sumN_c c (fun k k0 k1 => h k (by omega))]
      omega
    · rw [sumN_one h n (by omega), h n (by omega)]
      omega
theorem cuS_b {A : aI} {s : Int → Int} {k : Int} : 0 ≤ cuS A s k ∧ cuS A s k ≤ 1 := by
  unfold cuS
  rcases unF_01 (a := A 21 k) (o := 2) with h | h <;> rw [h] <;> split <;> omega
theorem cuS_on {A : aI} {s : Int → Int} {n c : Int} (c0 : 0 ≤ c) (c1 : c < n) (hs : ¬ s c = 1) : sumI (cuS A (sset s c 1)) n = sumI (cuS A s) n + unF (A 21 c) 2 := by
  obtain ⟨m, rfl⟩ := Int.eq_ofNat_of_zero_le c0
  unfold sumI
  rw [sumN_one (f := cuS A (sset s (m : Int) 1)) (g := cuS A s) (c := m) (fun k hk => by unfold cuS; rw [sset_n hk]) n.toNat (by omega)]
  unfold cuS
  rw [sset_at, if_pos rfl, if_neg hs]
  omega
/-- who talks, as the class keeps it -/
def EX (A : aI) (y : Int) (s : Int → Int) (I : aI) : Prop := (0 ≤ I 45 3 ∧ I 45 3 < 16) ∧ (∀ l, 0 ≤ l → l ≤ 3 → (bAnd (bShr (I 45 3) l) 1 = 1 ↔ ∃ k, 0 ≤ k ∧ k < y ∧ s k = 1 ∧ needF A k l)) ∧ I 45 4 = sumI (cuS A s) y ∧ 0 ≤ I 45 5 ∧ (I 45 5 = 0 → ∀ k, 0 ≤ k → k < y → s k ≠ 1)
theorem EX_fr {A : aI} {y : Int} {s : Int → Int} {I I' : aI} (h : EX A y s I) (h3 : I' 45 3 = I 45 3) (h4 : I' 45 4 = I 45 4) (h5 : I' 45 5 = I 45 5) : EX A y s I' := by
  unfold EX
  rw [h3, h4, h5]
  exact h
theorem EX_on {A : aI} {y y' : Int} {s s' : Int → Int} {I I' : aI} {c : Int} (h : EX A y s I) (c0 : 0 ≤ c) (c1 : c < y') (hy : y ≤ y') (hl : (0 ≤ A 24 c ∧ A 24 c < 16) ∧ ∀ l, 0 ≤ l → l ≤ 3 → (bAnd (bShr (A 24 c) l) 1 = 1 ↔ needF A c l)) (on : ∀ k, 0 ≤ k → k < y' → (s' k = 1 ↔ ((k < y ∧ s k = 1) ∨ k = c))) (hs : sumI (cuS A s') y' = sumI (cuS A s) y + unF (A 21 c) 2) (h3 : I' 45 3 = bOr (I 45 3) (A 24 c)) (h4 : I' 45 4 = I 45 4 + unF (A 21 c) 2) (h5 : I' 45 5 = I 45 5 + 1) : EX A y' s' I' := by
  obtain ⟨a1, a2, a3, a4, a5⟩ := h
  have b := bo_i a1 hl.1
  refine ⟨by rw [h3]; exact b.1, fun l l0 l1 => ?_, by rw [h4, hs, a3], by omega, fun q => by omega⟩
  rw [h3, b.2 l l0 l1, a2 l l0 l1, hl.2 l l0 l1]
  constructor
  · rintro (⟨k, k0, k1, k2, k3⟩ | q)
    · exact ⟨k, k0, by omega, (on k k0 (by omega)).2 (Or.inl ⟨k1, k2⟩), k3⟩
    · exact ⟨c, c0, c1, (on c c0 c1).2 (Or.inr rfl), q⟩
  · rintro ⟨k, k0, k1, k2, k3⟩
    rcases (on k k0 k1).1 k2 with q | q
    · exact Or.inl ⟨k, k0, q.1, q.2, k3⟩
    · rw [q] at k3
      exact Or.inr k3
theorem EX_no {A : aI} {y y' : Int} {s s' : Int → Int} {I : aI} (h : EX A y s I) (hy : y ≤ y') (on : ∀ k, 0 ≤ k → k < y' → (s' k = 1 ↔ (k < y ∧ s k = 1))) (hs : sumI (cuS A s') y' = sumI (cuS A s) y) : EX A y' s' I := by
  obtain ⟨a1, a2, a3, a4, a5⟩ := h
  refine ⟨a1, fun l l0 l1 => ?_, by rw [hs, a3], a4, fun q k k0 k1 g => ?_⟩
  · rw [a2 l l0 l1]
    constructor
    · rintro ⟨k, k0, k1, k2, k3⟩
      exact ⟨k, k0, by omega, (on k k0 (by omega)).2 ⟨k1, k2⟩, k3⟩
    · rintro ⟨k, k0, k1, k2, k3⟩
      exact ⟨k, k0, ((on k k0 k1).1 k2).1, ((on k k0 k1).1 k2).2, k3⟩
  · have := (on k k0 k1).1 g
    exact a5 q k k0 this.1 this.2
theorem cuS_c {A : aI} {y : Int} {s s' : Int → Int} (h : ∀ k, 0 ≤ k → k < y → (s' k = 1 ↔ s k = 1)) : sumI (cuS A s') y = sumI (cuS A s) y := sumI_c fun k k0 k1 => by
  unfold cuS
  by_cases e : s k = 1
  · rw [if_pos e, if_pos ((h k k0 k1).2 e)]
  · rw [if_neg e, if_neg (fun q => e ((h k k0 k1).1 q))]
theorem endS_at {A : aI} {y t : Int} {x : aT} : (endS A y t x).1 y = x.1 y := by
  show (if 0 ≤ y ∧ y < y ∧ x.1 y = 1 ∧ A 26 y ≤ t - x.2 y then 2 else x.1 y) = x.1 y
  rw [if_neg (by omega)]
theorem endS_y {A : aI} {y t : Int} {x : aT} (y0 : 0 ≤ y) (h : x.1 y = 1 ∧ A 26 y ≤ t - x.2 y) : endS A (y + 1) t x = (sset (endS A y t x).1 y 2, (endS A y t x).2) := by
  refine Prod.ext (funext fun k => ?_) rfl
  show (if 0 ≤ k ∧ k < y + 1 ∧ x.1 k = 1 ∧ A 26 k ≤ t - x.2 k then 2 else x.1 k) = sset (endS A y t x).1 y 2 k
  rw [sset_a]
  by_cases e : k = y
  · rw [if_pos e, e, if_pos ⟨y0, by omega, h⟩]
  · rw [if_neg e]
    show _ = (if 0 ≤ k ∧ k < y ∧ x.1 k = 1 ∧ A 26 k ≤ t - x.2 k then 2 else x.1 k)
    by_cases g : 0 ≤ k ∧ k < y ∧ x.1 k = 1 ∧ A 26 k ≤ t - x.2 k
    · rw [if_pos g, if_pos ⟨g.1, by omega, g.2.2⟩]
    · rw [if_neg g, if_neg (fun q => g ⟨q.1, by omega, q.2.2⟩)]
theorem endS_n {A : aI} {y t : Int} {x : aT} (h : ¬ (x.1 y = 1 ∧ A 26 y ≤ t - x.2 y)) : endS A (y + 1) t x = endS A y t x := by
  refine Prod.ext (funext fun k => ?_) rfl
  show (if 0 ≤ k ∧ k < y + 1 ∧ x.1 k = 1 ∧ A 26 k ≤ t - x.2 k then 2 else x.1 k) = (if 0 ≤ k ∧ k < y ∧ x.1 k = 1 ∧ A 26 k ≤ t - x.2 k then 2 else x.1 k)
  by_cases e : k = y
  · rw [e, if_neg (fun q => h q.2.2), if_neg (by omega)]
  · by_cases g : 0 ≤ k ∧ k < y ∧ x.1 k = 1 ∧ A 26 k ≤ t - x.2 k
    · rw [if_pos g, if_pos ⟨g.1, by omega, g.2.2⟩]
    · rw [if_neg g, if_neg (fun q => g ⟨q.1, by omega, q.2.2⟩)]
theorem endS_0 {A : aI} {y t k : Int} {x : aT} : (endS A y t x).1 k = 0 ↔ x.1 k = 0 := by
  show (if 0 ≤ k ∧ k < y ∧ x.1 k = 1 ∧ A 26 k ≤ t - x.2 k then 2 else x.1 k) = 0 ↔ _
  split <;> omega
def CI (A : aI) (t : Int) (x : aT) (I : aI) : Prop := (∀ a, a ≠ 1 → a ≠ 28 → a ≠ 29 → ¬ (45 ≤ a ∧ a ≤ 47) → I a = A a) ∧ I 1 0 = t ∧ (∀ j, j ≠ 0 → I 1 j = A 1 j) ∧ I 29 = x.1 ∧ I 28 = x.2
theorem CI_45 {A : aI} {t : Int} {x : aT} {I I' : aI} (h : CI A t x I) (hk : ∀ a, ¬ (45 ≤ a ∧ a ≤ 47) → I' a = I a) : CI A t x I' := by
  obtain ⟨h1, h2, h3, h4, h5⟩ := h
  refine ⟨fun a a1 a2 a3 a4 => by rw [hk a a4, h1 a a1 a2 a3 a4], by rw [hk 1 (by decide), h2], fun j hj => by rw [hk 1 (by decide), h3 j hj], by rw [hk 29 (by decide), h4], by rw [hk 28 (by decide), h5]⟩
theorem CI_29 {A : aI} {t c v : Int} {x : aT} {I : aI} (h : CI A t x I) : CI A t (sset x.1 c v, x.2) (mset I 29 c v) := by
  obtain ⟨h1, h2, h3, h4, h5⟩ := h
  refine ⟨fun a a1 a2 a3 a4 => by rw [mset_o a3, h1 a a1 a2 a3 a4], by rw [mset_o (by decide), h2], fun j hj => by rw [mset_o (by decide), h3 j hj], by rw [mset_s, h4], by rw [mset_o (by decide), h5]⟩
theorem CI_28 {A : aI} {t c v : Int} {x : aT} {I : aI} (h : CI A t x I) : CI A t (x.1, sset x.2 c v) (mset I 28 c v) := by
  obtain ⟨h1, h2, h3, h4, h5⟩ := h
  refine ⟨fun a a1 a2 a3 a4 => by rw [mset_o a2, h1 a a1 a2 a3 a4], by rw [mset_o (by decide), h2], fun j hj => by rw [mset_o (by decide), h3 j hj], by rw [mset_o (by decide), h4], by rw [mset_s, h5]⟩
section SM
variable {d : Nat} {b : Bool} {G : aG} {I J : aI} {Q : Option aV → aG → aI → aI → Prop} {A I0 : aI} {S : Int → Int} {t : Int}
theorem sp_cords' {x : Int} (hG : GW b G) (x0 : 0 ≤ x) (g : x < 60) (h1 : 1 ≤ I 21 x ∧ I 21 x ≤ 4) (k : Q (some (vI (unF (I 21 x) 2))) G I J) : At (d + 1) 10 0 [some (vR 20), some (vI x)] [] G I J Q := by
  refine b_X0_cords_0 hG x0 g (sp_isUnder hG (by omega) ?_)
  rcases unF_01 (a := I 21 x) (o := 2) with h | h
  · rw [h] at k ⊢
    exact b_X0_cords_10 hG (fun _ => b_X0_cords_17 hG k) (fun q => absurd rfl q)
  · rw [h] at k ⊢
    exact b_X0_cords_10 hG (fun q => absurd q (by decide)) (fun _ => b_X0_cords_13 hG k)
theorem sp_occupy {c : Int} (hG : GW b G) (x0 : 0 ≤ c) (g : c < 60) (h1 : 1 ≤ I 21 c ∧ I 21 c ≤ 4) (b4 : 0 ≤ I 45 4 ∧ I 45 4 ≤ 1000) (b5 : 0 ≤ I 45 5 ∧ I 45 5 ≤ 1000) (K : ∀ I', (∀ a, a ≠ 45 → I' a = I a) → (∀ j, j ≠ 3 → j ≠ 4 → j ≠ 5 → I' 45 j = I 45 j) → I' 45 3 = bOr (I 45 3) (I 24 c) → I' 45 4 = I 45 4 + unF (I 21 c) 2 → I' 45 5 = I 45 5 + 1 → Q none G I' J) : At (d + 2) 34 0 [some (vR 45), some (vR 20), some (vI c)] [] G I J Q := by
  have u := unF_01 (a := I 21 c) (o := 2)
  have e21 : (mset I 45 3 (bOr (I 45 3) (I 24 c))) 21 = I 21 := mset_o (by decide)
  refine b_X3_occupy_0 hG x0 g (sp_cords' hG x0 g (by rw [e21]; exact h1) ?_)
  rw [e21]
  refine b_X3_occupy_25 hG (by unfold ok32; omega) (by rw [mset_n (by decide)]; unfold ok32; omega) (K _ (fun a ha => ?_) (fun j j3 j4 j5 => ?_) ?_ ?_ ?_)
  · rw [mset_o ha, mset_o ha, mset_o ha]
  · rw [mset_n j5, mset_n j4, mset_n j3]
  · rw [mset_n (by decide), mset_n (by decide), mset_at]
  · rw [mset_n (by decide), mset_at]
  · rw [mset_at, mset_n (by decide)]
/-- calls that end -/
theorem lp_endC {x0 : aT} (hG : GW b G) (hF : RelF A S) (hC : RelC A J S) (hv : SV A (S 2) t x0) (ht : 0 ≤ t ∧ t ≤ 40100) (K : ∀ I', CI A t (endS A (S 2) t x0) I' → EX A (S 2) (endS A (S 2) t x0).1 I' → I' 45 5 ≤ 60 → (I' 46 = I0 46 ∧ I' 45 2 = I0 45 2) → Q none G I' J) : ∀ (j : Nat) (y : Int) (I : aI), 0 ≤ y → y + j = S 2 → CI A t (endS A y t x0) I → EX A y (endS A y t x0).1 I → I 45 5 ≤ y → (I 46 = I0 46 ∧ I 45 2 = I0 45 2) → At (d + 3) 33 17 [some (vR 45), some (vR 20), some (vI t), some (vI y)] [] G I J Q
  | 0, y, I, y0, y1, hI, hE, h5, h2 => by
    have c0 := hC.1
    have e20 : I 20 0 = S 2 := by rw [hI.1 20 (by decide) (by decide) (by decide) (by decide)]; exact c0.2.2
    have e : y = S 2 := by omega
    rw [e] at hI hE
    exact b_X3_endCalls_17 hG (fun _ => b_X3_endCalls_77 hG (K I hI hE (by omega) h2)) (fun g => absurd g (by omega))
  | j + 1, y, I, y0, y1, hI, hE, h5, h2 => by
    have c0 := hC.1
    have e20 : I 20 0 = S 2 := by rw [hI.1 20 (by decide) (by decide) (by decide) (by decide)]; exact c0.2.2
    obtain ⟨⟨g60, _⟩, h1, _⟩ := cll hF hC y0 (show y < S 2 by omega)
    have hm := (hC.2.1 y y0 (by omega)).2.2.2.2.2.2.2.2.1
    have e29 : I 29 y = x0.1 y := by rw [hI.2.2.2.1]; exact endS_at
    have e28 : I 28 y = x0.2 y := by rw [hI.2.2.2.2]; rfl
    have e26 : I 26 y = A 26 y := by rw [hI.1 26 (by decide) (by decide) (by decide) (by decide)]
    have e21 : I 21 = A 21 := hI.1 21 (by decide) (by decide) (by decide) (by decide)
    have e24 : I 24 = A 24 := hI.1 24 (by decide) (by decide) (by decide) (by decide)
    have hvy := hv y y0 (by omega)
    have sb := sumI_bd (f := cuS A (endS A y t x0).1) (B := 1) y0 (fun k _ _ => cuS_b)
    have hEx := hE
    obtain ⟨x1, x2, x3, x4, x5⟩ := hEx
    have ss := sumI_s (f := cuS A (endS A (y + 1) t x0).1) y0
    have nx : ∀ I', CI A t (endS A (y + 1) t x0) I' → EX A (y + 1) (endS A (y + 1) t x0).1 I' → I' 45 5 ≤ y + 1 → (I' 46 = I0 46 ∧ I' 45 2 = I0 45 2) → At (d + 3) 33 17 [some (vR 45), some (vR 20), some (vI t), some (vI (y + 1))] [] G I' J Q := fun I' q1 q2 q3 q4 => lp_endC hG hF hC hv ht K j (y + 1) I' (by omega) (by omega) q1 q2 q3 q4
    refine b_X3_endCalls_17 hG (fun g => absurd g (by omega)) (fun _ => b_X3_endCalls_25 hG y0 g60 (fun g => b_X3_endCalls_38 hG y0 g60 (by rw [e28]; unfold ok32; omega) (fun g2 => b_X3_endCalls_65 hG (sp_occupy hG y0 g60 (by rw [e21]; exact h1) (by omega) (by omega) (fun I1 q1 q2 q3 q4 q5 => b_X3_endCalls_71 hG (by unfold ok32; omega) (nx I1 ?_ ?_ ?_ ?_)))) (fun g2 => b_X3_endCalls_55 hG y0 g60 (by unfold ok32; omega) (nx _ ?_ ?_ ?_ ?_))) (fun g => b_X3_endCalls_35 hG (by unfold ok32; omega) (nx I ?_ ?_ ?_ h2)))
    · rw [endS_n (by omega)]
      exact CI_45 hI (fun a ha => q1 a (by omega))
    · rw [endS_n (by omega)] at ss ⊢
      refine EX_on hE y0 (by omega) (by omega) (ln_b hF hC y0 (by omega)) (fun k k0 k1 => ?_) ?_ (by rw [q3, e24]) (by rw [q4, e21]) q5
      · by_cases hk : k = y
        · rw [hk, endS_at]
          omega
        · exact ⟨fun z => Or.inl ⟨by omega, z⟩, fun z => by
            rcases z with z | z
            · exact z.2
            · exact absurd z hk⟩
      · rw [ss]
        unfold cuS
        rw [endS_at, if_pos (by omega)]
    · omega
    · exact ⟨by rw [q1 46 (by decide)]; exact h2.1, by rw [q2 2 (by decide) (by decide) (by decide)]; exact h2.2⟩
    · rw [endS_y y0 ⟨by omega, by omega⟩]
      exact CI_29 hI
    · rw [endS_y y0 ⟨by omega, by omega⟩] at ss ⊢
      refine EX_no (EX_fr hE (by rw [mset_o (by decide)]) (by rw [mset_o (by decide)]) (by rw [mset_o (by decide)])) (by omega) (fun k k0 k1 => ?_) ?_
      · show sset (endS A y t x0).1 y 2 k = 1 ↔ _
        rw [sset_a]
        split <;> omega
      · rw [ss]
        have z : cuS A (sset (endS A y t x0).1 y 2) y = 0 := by
          unfold cuS
          rw [sset_at]
          rfl
        show sumI (cuS A (sset (endS A y t x0).1 y 2)) y + cuS A (sset (endS A y t x0).1 y 2) y = _
        rw [z, cuS_c (s := (endS A y t x0).1) (fun k k0 k1 => by rw [sset_n (by omega)])]
        omega
    · rw [mset_o (by decide)]
      omega
    · rw [mset_o (by decide), mset_o (by decide)]
      exact h2
    · rw [endS_n (by omega)]
      exact hI
    · rw [endS_n (by omega)] at ss ⊢
      refine EX_no hE (by omega) (fun k k0 k1 => ?_) ?_
      · by_cases hk : k = y
        · rw [hk, endS_at]
          omega
        · exact ⟨fun z => ⟨by omega, z⟩, fun z => z.2⟩
      · rw [ss]
        unfold cuS
        rw [endS_at, if_neg (by omega)]
        omega
    · omega
end SM
