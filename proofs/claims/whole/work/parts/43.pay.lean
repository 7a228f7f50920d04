/-! the call pay; what was paid -/
def payF (A : aI) (f w k : Int) : Int := if A 36 k = f ∧ A 37 k = w then A 38 k else 0
def payM (S : Int → Int) (f w t k : Int) : Int := if S (1902 + (4 * k)) = f ∧ S ((1902 + (4 * k)) + 1) = w ∧ S ((1902 + (4 * k)) + 3) ≤ t then S ((1902 + (4 * k)) + 2) else 0
theorem sumI_b {f : Int → Int} {B : Int} (h : ∀ k, 0 ≤ f k ∧ f k ≤ B) : ∀ n : Nat, 0 ≤ sumN f n ∧ sumN f n ≤ B * n
  | 0 => by
    refine ⟨Int.le_refl 0, ?_⟩
    show (0 : Int) ≤ B * 0
    omega
  | n + 1 => by
    have h1 := sumI_b h n
    have h2 := h n
    unfold sumN
    rw [Int.natCast_add, Int.mul_add]
    omega
section SM
variable {d : Nat} {b : Bool} {G : aG} {I J : aI} {Q : Option aV → aG → aI → aI → Prop}
theorem lp_paidC {f w : Int} (hG : GW b G) (hr : 0 ≤ I 35 0 ∧ I 35 0 ≤ 60) (hm : ∀ k, 0 ≤ k → k < I 35 0 → 1 ≤ I 38 k ∧ I 38 k ≤ 999) (k : Q (some (vI (sumI (payF I f w) (I 35 0)))) G I J) : ∀ (j : Nat) (x y : Int), 0 ≤ y → y + j = I 35 0 → x = sumI (payF I f w) y → 0 ≤ x → x ≤ 999 * y → At d 54 5 [some (vR 35), some (vI f), some (vI w), some (vI x), some (vI y)] [] G I J Q
  | 0, x, y, h0, h1, hx, _, _ => by
    refine b_X5_paid_5 hG (fun _ => b_X5_paid_52 hG ?_) (fun h => ?_)
    · rw [hx, show y = I 35 0 by omega]
      exact k
    · omega
  | j + 1, x, y, h0, h1, hx, hx0, hx1 => by
    have hs := sumI_s (f := payF I f w) h0
    have h9 := hm y h0 (by omega)
    refine b_X5_paid_5 hG (fun h => ?_) (fun _ => ?_)
    · omega
    have go : ∀ x', x' = x + payF I f w y → At d 54 5 [some (vR 35), some (vI f), some (vI w), some (vI x'), some (vI (y + 1))] [] G I J Q := by
      intro x' hx'
      have : 0 ≤ payF I f w y ∧ payF I f w y ≤ 999 := by
        unfold payF
        split <;> omega
      exact lp_paidC hG hr hm k j x' (y + 1) (by omega) (by omega) (by omega) (by omega) (by omega)
    unfold payF at go
    repeat' first
      | intro _
      | refine go _ ?_
      | refine b_X5_paid_0 hG ?_
      | refine b_X5_paid_52 hG ?_
      | refine b_X5_paid_14 hG ?_ ?_ ?_ ?_
      | refine b_X5_paid_46 hG ?_ ?_
      | refine b_X5_paid_25 hG ?_ ?_ ?_ ?_
      | refine b_X5_paid_36 hG ?_ ?_ ?_ ?_ ?_
    all_goals first
      | omega
      | (unfold ok32; omega)
      | (split <;> omega)
theorem sp_paidC {f w : Int} (hG : GW b G) (hr : 0 ≤ I 35 0 ∧ I 35 0 ≤ 60) (hm : ∀ k, 0 ≤ k → k < I 35 0 → 1 ≤ I 38 k ∧ I 38 k ≤ 999) (k : Q (some (vI (sumI (payF I f w) (I 35 0)))) G I J) : At d 54 0 [some (vR 35), some (vI f), some (vI w), none, none] [] G I J Q :=
  b_X5_paid_0 hG (lp_paidC hG hr hm k (I 35 0).toNat 0 0 (by omega) (by omega) rfl (by omega) (by omega))
theorem lp_paidM {f w t : Int} (hG : GW b G) (hr : 0 ≤ I 57 6 ∧ I 57 6 ≤ 60) (hm : ∀ k, 0 ≤ k → k < I 57 6 → 1 ≤ I 57 ((1902 + (4 * k)) + 2) ∧ I 57 ((1902 + (4 * k)) + 2) ≤ 999) (k : Q (some (vI (sumI (payM (I 57) f w t) (I 57 6)))) G I J) : ∀ (j : Nat) (x y : Int) (u : Option aV), 0 ≤ y → y + j = I 57 6 → x = sumI (payM (I 57) f w t) y → 0 ≤ x → x ≤ 999 * y → At d 223 6 [some (vR 56), some (vI f), some (vI w), some (vI t), some (vI x), some (vI y), u] [] G I J Q
  | 0, x, y, u, h0, h1, hx, _, _ => by
    refine b_X12_paid_6 hG (fun _ => b_X12_paid_89 hG ?_) (fun h => ?_)
    · rw [hx, show y = I 57 6 by omega]
      exact k
    · omega
  | j + 1, x, y, u, h0, h1, hx, hx0, hx1 => by
    have hs := sumI_s (f := payM (I 57) f w t) h0
    have h9 := hm y h0 (by omega)
    refine b_X12_paid_6 hG (fun h => ?_) (fun _ => ?_)
    · omega
    have go : ∀ x' u, x' = x + payM (I 57) f w t y → At d 223 6 [some (vR 56), some (vI f), some (vI w), some (vI t), some (vI x'), some (vI (y + 1)), u] [] G I J Q := by
      intro x' u hx'
      have : 0 ≤ payM (I 57) f w t y ∧ payM (I 57) f w t y ≤ 999 := by
        unfold payM
        split <;> omega
      exact lp_paidM hG hr hm k j x' (y + 1) u (by omega) (by omega) (by omega) (by omega) (by omega)
    unfold payM at go
    repeat' first
      | intro _
      | refine go _ _ ?_
      | refine b_X12_paid_0 hG ?_
      | refine b_X12_paid_89 hG ?_
      | refine b_X12_paid_18 hG ?_ ?_ ?_ ?_ ?_ ?_
      | refine b_X12_paid_79 hG ?_ ?_ ?_
      | refine b_X12_paid_41 hG ?_ ?_ ?_ ?_ ?_
      | refine b_X12_paid_54 hG ?_ ?_ ?_ ?_ ?_
      | refine b_X12_paid_67 hG ?_ ?_ ?_ ?_ ?_ ?_
    all_goals first
      | omega
      | (unfold ok32; omega)
      | (split <;> omega)
theorem sp_paidM {f w t : Int} (hG : GW b G) (hr : 0 ≤ I 57 6 ∧ I 57 6 ≤ 60) (hm : ∀ k, 0 ≤ k → k < I 57 6 → 1 ≤ I 57 ((1902 + (4 * k)) + 2) ∧ I 57 ((1902 + (4 * k)) + 2) ≤ 999) (k : Q (some (vI (sumI (payM (I 57) f w t) (I 57 6)))) G I J) : At d 223 0 [some (vR 56), some (vI f), some (vI w), some (vI t), none, none, none] [] G I J Q :=
  b_X12_paid_0 hG (lp_paidM hG hr hm k (I 57 6).toNat 0 0 _ (by omega) (by omega) rfl (by omega) (by omega))
theorem payM_max {A : aI} {S : Int → Int} (h : RelL A S) {k : Int} (k0 : 0 ≤ k) (k1 : k < S 6) : 1 ≤ S ((1902 + (4 * k)) + 2) ∧ S ((1902 + (4 * k)) + 2) ≤ 999 := by
  obtain ⟨⟨_, _, e2, _⟩, _, _, e3, _⟩ := h.2 k k0 k1
  rw [← e2]
  exact e3
theorem payC_max {A : aI} {S : Int → Int} (h : RelL A S) {k : Int} (k0 : 0 ≤ k) (k1 : k < A 35 0) : 1 ≤ A 38 k ∧ A 38 k ≤ 999 := by
  rw [h.1.2.2] at k1
  obtain ⟨⟨_, _, e2, _⟩, _, _, e3, _⟩ := h.2 k k0 k1
  exact e3
theorem RelL.pay {A A' : aI} {S S' : Int → Int} {f w n t : Int} (h : RelL A S) (hn : S 6 < 60) (g1 : 0 ≤ f ∧ f < S 0) (g2 : w = 0 ∨ w = 1) (g3 : 1 ≤ n ∧ n ≤ 999) (g4 : A 7 f ≤ t ∧ 100 * t ≤ S 3)
    (hc : A' 7 = A 7) (h0 : A' 35 0 = S 6 + 1) (h1 : A' 36 = sset (A 36) (S 6) f) (h2 : A' 37 = sset (A 37) (S 6) w) (h3 : A' 38 = sset (A 38) (S 6) n) (h4 : A' 39 = sset (A 39) (S 6) t)
    (t0 : S' 6 = S 6 + 1) (hs : ∀ i, i ≠ 6 → (i < 1902 + 4 * S 6 ∨ 1902 + 4 * S 6 + 4 ≤ i) → S' i = S i)
    (e0 : S' (1902 + (4 * S 6)) = f) (e1 : S' ((1902 + (4 * S 6)) + 1) = w) (e2 : S' ((1902 + (4 * S 6)) + 2) = n) (e3 : S' ((1902 + (4 * S 6)) + 3) = t) : RelL A' S' := by
  obtain ⟨⟨a1, a2, a3⟩, p⟩ := h
  unfold RelL
  rw [t0, h0, hc, hs 0 (by omega) (by omega), hs 3 (by omega) (by omega)]
  refine ⟨⟨by omega, by omega, rfl⟩, fun k k0 k1 => ?_⟩
  by_cases hk : k = S 6
  · subst hk
    rw [h1, h2, h3, h4, sset_at, sset_at, sset_at, sset_at, e0, e1, e2, e3]
    exact ⟨⟨rfl, rfl, rfl, rfl⟩, g1, g2, g3, g4.1, g4.2⟩
  · rw [h1, h2, h3, h4, sset_n hk, sset_n hk, sset_n hk, sset_n hk, hs _ (by omega) (by omega), hs _ (by omega) (by omega), hs _ (by omega) (by omega), hs _ (by omega) (by omega)]
    exact p k k0 (by omega)
theorem paid_eq {A : aI} {S : Int → Int} {f w t : Int} (h : RelL A S) (ht : S 3 ≤ 100 * t + 99) : sumI (payF A f w) (A 35 0) = sumI (payM S f w t) (S 6) := by
  rw [h.1.2.2]
  refine sumI_c fun k h0 h1 => ?_
  obtain ⟨⟨c0, c1, c2, c3⟩, e1, e2, e3, e4, e5⟩ := h.2 k h0 h1
  unfold payF payM
  rw [c0, c1, c2]
  by_cases hh : S (1902 + (4 * k)) = f ∧ S ((1902 + (4 * k)) + 1) = w
  · rw [if_pos hh, if_pos ⟨hh.1, hh.2, by omega⟩]
  · rw [if_neg hh, if_neg (fun q => hh ⟨q.1, q.2.1⟩)]
theorem sp_X5_add {x y z w : Int} (hG : GW b G) (h0 : 0 ≤ I 35 0) (h1 : I 35 0 < 60) (k : ∀ I', (∀ a, a ≠ 35 → a ≠ 36 → a ≠ 37 → a ≠ 38 → a ≠ 39 → I' a = I a) → I' 35 0 = I 35 0 + 1 → I' 36 = sset (I 36) (I 35 0) x → I' 37 = sset (I 37) (I 35 0) y → I' 38 = sset (I 38) (I 35 0) z → I' 39 = sset (I 39) (I 35 0) w → Q none G I' J) : At d 53 0 [some (vR 35), some (vI x), some (vI y), some (vI z), some (vI w)] [] G I J Q := by
  repeat' first
    | intro _
    | refine b_X5_add_0 hG ?_ ?_
    | refine b_X5_add_10 hG ?_ ?_ ?_ ?_
    | refine b_X5_add_9 hG ?_
  · exact h0
  · exact h1
  · unfold ok32
    omega
  · refine k _ (fun a h0 h1 h2 h3 h4 => ?_) ?_ ?_ ?_ ?_ ?_
    · rw [mset_o h0, mset_o h4, mset_o h3, mset_o h2, mset_o h1]
    · rw [mset_at]
    · rw [mset_o (by decide), mset_o (by decide), mset_o (by decide), mset_o (by decide), mset_s]
    · rw [mset_o (by decide), mset_o (by decide), mset_o (by decide), mset_s, mset_o (by decide)]
    · rw [mset_o (by decide), mset_o (by decide), mset_s, mset_o (by decide), mset_o (by decide)]
    · rw [mset_o (by decide), mset_s, mset_o (by decide), mset_o (by decide), mset_o (by decide)]
  · omega
theorem mo_22 {x y z n : Int} (hG : GW b G) (m0 : 0 ≤ I 57 0 ∧ I 57 0 ≤ 12) (hx : 0 ≤ x ∧ x < I 57 0) (hy : 0 ≤ y ∧ y ≤ 1) (hz : 1 ≤ z ∧ z ≤ 999) (hn : I 57 6 = n) (h0 : 0 ≤ n) (h1 : n < 60) (h3 : 0 ≤ I 57 3) (hm : ∀ k, 0 ≤ k → k < n → 1 ≤ I 57 ((1902 + (4 * k)) + 2) ∧ I 57 ((1902 + (4 * k)) + 2) ≤ 999)
    (k : ∀ I', (∀ a, a ≠ 57 → I' a = I a) → I' 57 6 = n + 1 → (∀ i, i ≠ 6 → (i < 1902 + 4 * n ∨ 1902 + 4 * n + 4 ≤ i) → I' 57 i = I 57 i) → I' 57 (1902 + (4 * n)) = x → I' 57 ((1902 + (4 * n)) + 1) = y → I' 57 ((1902 + (4 * n)) + 2) = z → I' 57 ((1902 + (4 * n)) + 3) = I 57 3 / 100 → Q (some (vI (sumI (payM (I' 57) x y 400) (I' 57 6)))) G I' J) : At (d + 2) 222 0 [some (vR 56), some (vI x), some (vI y), some (vI z), none] [] G I J Q := by
  have fin : ∀ (D : Nat) (Q' : Option aV → aG → aI → aI → Prop) (I' : aI), (∀ a, a ≠ 57 → I' a = I a) → I' 57 6 = n + 1 → (∀ i, i ≠ 6 → (i < 1902 + 4 * n ∨ 1902 + 4 * n + 4 ≤ i) → I' 57 i = I 57 i) → I' 57 (1902 + (4 * n)) = x → I' 57 ((1902 + (4 * n)) + 1) = y → I' 57 ((1902 + (4 * n)) + 2) = z → I' 57 ((1902 + (4 * n)) + 3) = I 57 3 / 100 → (Q (some (vI (sumI (payM (I' 57) x y 400) (I' 57 6)))) G I' J → Q' (some (vI (sumI (payM (I' 57) x y 400) (I' 57 6)))) G I' J) → At D 223 0 [some (vR 56), some (vI x), some (vI y), some (vI 400), none, none, none] [] G I' J Q' := by
    intro D Q' I' c0 c1 c2 c3 c4 c5 c6 c7
    refine sp_paidM hG (by omega) (fun k k0 k1 => ?_) (c7 (k I' c0 c1 c2 c3 c4 c5 c6))
    by_cases hk : k = n
    · subst hk
      rw [c5]
      exact hz
    · rw [c2 _ (by omega) (by omega)]
      exact hm k k0 (by omega)
  repeat' first
    | intro _
    | refine sp_isFarm hG m0 ?_ ?_
    | refine sp_in hG ?_ ?_
    | refine b_X12_day_0 hG ?_ ?_
    | refine fin _ _ _ ?_ ?_ ?_ ?_ ?_ ?_ ?_ ?_
    | refine b_X12_pay_0 hG ?_
    | refine b_X12_pay_5 hG ?_ ?_
    | refine b_X12_pay_17 hG ?_
    | refine b_X12_pay_8 hG ?_
    | refine b_X12_pay_14 hG ?_ ?_
    | refine b_X12_pay_19 hG ?_
    | refine b_X12_pay_27 hG ?_ ?_
    | refine b_X12_pay_33 hG ?_ ?_
    | refine b_X12_pay_30 hG ?_
    | refine b_X12_pay_48 hG ?_ ?_ ?_ ?_ ?_ ?_ ?_ ?_ ?_ ?_ ?_ ?_
    | refine b_X12_pay_45 hG ?_
    | refine b_X12_pay_103 hG ?_ ?_ ?_ ?_
    | refine b_X12_pay_124 hG ?_
  all_goals try omega
  all_goals try (unfold ok32; omega)
  all_goals (try rw [hn])
  · simp (disch := omega) only [mset_at, mset_n, mset_o, sset_at, sset_n]
    exact h3
  · simp (disch := omega) only [mset_at, mset_n, mset_o, sset_at, sset_n]
    rw [hn]
    unfold ok32
    omega
  · simp (disch := omega) only [mset_at, mset_n, mset_o, sset_at, sset_n]
  · simp (disch := omega) only [mset_at, mset_n, mset_o, sset_at, sset_n]
    omega
  · simp (disch := omega) only [mset_at, mset_n, mset_o, sset_at, sset_n]
  all_goals simp (disch := omega) only [mset_at, mset_n, mset_o, sset_at, sset_n]
theorem cs_22 {x y z : Int} (hV : LV b G I J) : Cl (d + 5) 131 222 [some (vR 0), some (vI x), some (vI y), some (vI z)] [some (vR 56), some (vI x), some (vI y), some (vI z), none] G I J := by
  obtain ⟨hG, hRW, hc, hi, hk⟩ := id hV
  obtain ⟨hN, hF, hR, hT, hC, hW, hL, hM⟩ := id hRW
  have f1 := hL.1
  have f0 := hF.1
  have f3 : I 1 0 = I 57 3 ∧ 0 ≤ I 57 3 ∧ I 57 3 ≤ 40099 := hN
  have m0 : 0 ≤ I 57 0 ∧ I 57 0 ≤ 12 := ⟨f0.1, f0.2.1⟩
  unfold Cl
  repeat' first
    | intro _
    | refine sp_within hG ?_ ?_
    | refine sp_X4_has hG ?_ ?_
    | refine b_X10_today_0 hG ?_ ?_
    | refine sp_X5_add hG ?_ ?_ ?_
    | refine b_X11_pay_0 hG ?_
    | refine b_X11_pay_11 hG ?_ ?_
    | refine b_X11_pay_23 hG ?_
    | refine b_X11_pay_14 hG ?_
    | refine b_X11_pay_20 hG ?_ ?_
    | refine b_X11_pay_25 hG ?_
    | refine b_X11_pay_33 hG ?_ ?_
    | refine b_X11_pay_39 hG ?_ ?_
    | refine b_X11_pay_36 hG ?_
    | refine b_X11_pay_57 hG ?_
    | refine b_X11_pay_54 hG ?_
    | refine b_X11_pay_74 hG ?_
    | refine b_X11_pay_89 hG ?_
  all_goals try omega
  all_goals try (show 0 ≤ I 1 0; rw [hN.1]; exact hN.2.1)
  · rename_i I1 q0 q1 q2 q3 q4 q5
    have e57 : I1 57 = I 57 := q0 57 (by decide) (by decide) (by decide) (by decide) (by decide)
    have hm1 : ∀ k, 0 ≤ k → k < I1 35 0 → 1 ≤ I1 38 k ∧ I1 38 k ≤ 999 := by
      intro k k0 k1
      rw [q4]
      by_cases hh : k = I 35 0
      · subst hh
        rw [sset_at]
        omega
      · rw [sset_n hh]
        exact payC_max hL k0 (by omega)
    refine b_X11_pay_77 hG (sp_paidC hG (by omega) hm1 (b_X11_pay_89 hG ⟨_, b, rfl, hG, ⟨q0 1060 (by decide) (by decide) (by decide) (by decide) (by decide), q0 1061 (by decide) (by decide) (by decide) (by decide) (by decide)⟩, ?_⟩))
    unfold Md
    have u0 : I1 57 0 = I 57 0 := by rw [e57]
    have u3 : I1 57 3 = I 57 3 := by rw [e57]
    refine mo_22 (n := I 35 0) hG (by omega) (by omega) (by omega) (by omega) (by rw [e57]; omega) (by omega) (by omega) (by omega) (fun k k0 k1 => by rw [e57]; exact payM_max hL k0 (by omega)) ?_
    intro I2 c2 s0 sa s1 s2 s3 s4
    rw [e57] at sa
    have ec : ∀ a : Nat, a ≠ 57 → a ≠ 35 → a ≠ 36 → a ≠ 37 → a ≠ 38 → a ≠ 39 → I2 a = I a := fun a h h0 h1 h2 h3 h4 => (c2 a h).trans (q0 a h0 h1 h2 h3 h4)
    have hcame := (hF.2.1 x (by omega) (by omega)).2
    have hvs := hL.pay (A' := I2) (S' := I2 57) (f := x) (w := y) (n := z) (t := I 57 3 / 100) (by omega) (by omega) (by omega) (by omega) (by omega) (ec 7 (by decide) (by decide) (by decide) (by decide) (by decide) (by decide)) (by rw [c2 35 (by decide), q1]; omega) (by rw [c2 36 (by decide), q2, f1.2.2]) (by rw [c2 37 (by decide), q3, f1.2.2]) (by rw [c2 38 (by decide), q4, f1.2.2]) (by rw [c2 39 (by decide), q5, f1.2.2, hN.1]) (by omega) (by rw [← f1.2.2]; exact sa) (by rw [← f1.2.2]; exact s1) (by rw [← f1.2.2]; exact s2) (by rw [← f1.2.2]; exact s3) (by rw [← f1.2.2, s4, u3])
    have t3 : I2 57 3 = I 57 3 := sa 3 (by omega) (by omega)
    refine ⟨congrArg (fun z => some (vI z)) ?_, b, ?_⟩
    · rw [← paid_eq hvs (by omega)]
      unfold payF
      rw [c2 35 (by decide), c2 36 (by decide), c2 37 (by decide), c2 38 (by decide)]
    · have hfin := hV.of (J2 := J) (hRW.ofL (fun a ha h => ec a (by omega) (by omega) (by omega) (by omega) (by omega) (by omega)) (fun i hi => sa i (by omega) (by omega)) hvs) (fun a k ha hb' hs => by rw [ec a hb' (by omega) (by omega) (by omega) (by omega) (by omega)]) (fun _ _ => rfl)
      exact ⟨hfin.1, c2 1060 (by decide), c2 1061 (by decide)⟩
  all_goals refine ⟨_, _, rfl, hG, ⟨rfl, rfl⟩, ?_⟩
  all_goals unfold Md
  all_goals
    repeat' first
      | intro _
      | refine sp_isFarm hG m0 ?_ ?_
      | refine sp_in hG ?_ ?_
      | refine b_X12_pay_0 hG ?_
      | refine b_X12_pay_5 hG ?_ ?_
      | refine b_X12_pay_17 hG ?_
      | refine b_X12_pay_8 hG ?_
      | refine b_X12_pay_14 hG ?_ ?_
      | refine b_X12_pay_19 hG ?_
      | refine b_X12_pay_27 hG ?_ ?_
      | refine b_X12_pay_33 hG ?_ ?_
      | refine b_X12_pay_30 hG ?_
      | refine b_X12_pay_48 hG ?_ ?_ ?_ ?_ ?_ ?_ ?_ ?_ ?_ ?_ ?_ ?_
      | refine b_X12_pay_45 hG ?_
      | refine b_X12_pay_103 hG ?_ ?_ ?_ ?_
      | refine b_X12_pay_124 hG ?_
  all_goals first
    | omega
    | exact ⟨rfl, b, hV, rfl, rfl⟩
    | (unfold ok32; omega)
end SM
