/-! the calls maybe, quarrel, town, as -/
theorem RelW.maybe {A A' B : aI} {S S' : Int → Int} {v : Int} (h : RelW A B S) (hn : S 5 < 10) (hv : 0 ≤ v ∧ v < 40) (hc : ∀ a : Nat, a < 45 → a ≠ 31 → a ≠ 33 → A' a = A a) (h31 : A' 31 = sset (A 31) 2 (S 5 + 1)) (h33 : A' 33 = sset (A 33) (S 5) v) (hs : S' = sset (sset S (1892 + S 5) v) 5 (S 5 + 1)) : RelW A' B S' := by
  obtain ⟨⟨a1, a2, a3⟩, ⟨b1, b2, b3⟩, ⟨c1, c2, c3⟩, e, f, g⟩ := h
  have q : ∀ i, i ≠ 5 → i ≠ 1892 + S 5 → S' i = S i := fun i h h2 => by rw [hs, sset_n h, sset_n h2]
  have q5 : S' 5 = S 5 + 1 := by rw [hs, sset_at]
  unfold RelW
  rw [q5, q 4 (by omega) (by omega), q 0 (by omega) (by omega), h31, sset_at, sset_n (show (1 : Int) ≠ 2 by decide), sset_n (show (5 : Int) ≠ 2 by decide)]
  refine ⟨⟨a1, a2, a3⟩, ⟨by omega, by omega, rfl⟩, ⟨c1, c2, fun l w l0 l1 w0 w1 => ?_⟩, fun k k0 k1 => ?_, f, fun k k0 k1 => ?_⟩
  · rw [q _ (by omega) (by omega)]
    exact c3 l w l0 l1 w0 w1
  · rw [q (1832 + (3 * k)) (by omega) (by omega), q ((1832 + (3 * k)) + 1) (by omega) (by omega), q ((1832 + (3 * k)) + 2) (by omega) (by omega), wayF_fr (A := A) (by rw [hc 2 (by decide) (by decide) (by decide)]) (hc 3 (by decide) (by decide) (by decide)) (hc 4 (by decide) (by decide) (by decide))]
    exact e k k0 k1
  · by_cases hk : k = S 5
    · subst hk
      rw [h33, sset_at, hs, sset_n (by omega), sset_at]
      exact ⟨rfl, hv.1, hv.2⟩
    · rw [h33, sset_n hk, q _ (by omega) (by omega)]
      exact g k k0 (by omega)
section SM
variable {d : Nat} {b : Bool} {G : aG} {I J : aI} {Q : Option aV → aG → aI → aI → Prop}
theorem lp_isMaybe {p : Int} (hG : GW b G) (hr : 0 ≤ I 31 2 ∧ I 31 2 ≤ 10) (k1 : ∀ k, 0 ≤ k → k < I 31 2 → I 33 k = p → Q (some (vI 1)) G I J) (k0 : (∀ k, 0 ≤ k → k < I 31 2 → ¬ I 33 k = p) → Q (some (vI 0)) G I J) : ∀ (j : Nat) (y : Int), 0 ≤ y → y + j = I 31 2 → (∀ k, 0 ≤ k → k < y → ¬ I 33 k = p) → At d 92 2 [some (vR 31), some (vI p), some (vI y)] [] G I J Q
  | 0, y, h0, h1, hn => b_X9_isMaybe_2 hG (fun _ => b_X9_isMaybe_28 hG (k0 (fun k k0 k1 => hn k k0 (by omega)))) (fun q => by omega)
  | j + 1, y, h0, h1, hn => by
    refine b_X9_isMaybe_2 hG (fun q => ?_) (fun _ => b_X9_isMaybe_10 hG h0 (by omega) (fun q => b_X9_isMaybe_22 hG (by unfold ok32; omega) (lp_isMaybe hG hr k1 k0 j (y + 1) (by omega) (by omega) (fun k z0 z1 => ?_))) (fun q => b_X9_isMaybe_20 hG (k1 y h0 (by omega) q)))
    · omega
    · by_cases hk : k = y
      · rw [hk]
        exact q
      · exact hn k z0 (by omega)
theorem lp_mayM {x y p : Int} (hG : GW b G) (hr : 0 ≤ I 57 5 ∧ I 57 5 ≤ 10) (hx : 0 ≤ x ∧ x ≤ 3) (hy : 0 ≤ y ∧ y ≤ 9) (hp : p = x * 10 + y) (k1 : ∀ k, 0 ≤ k → k < I 57 5 → I 57 (1892 + k) = p → Q (some (vI (-3))) G I J) (k0 : (∀ k, 0 ≤ k → k < I 57 5 → ¬ I 57 (1892 + k) = p) → ∀ u, At d 219 50 [some (vR 56), some (vI x), some (vI y), some (vI u)] [] G I J Q) : ∀ (j : Nat) (z : Int), 0 ≤ z → z + j = I 57 5 → (∀ k, 0 ≤ k → k < z → ¬ I 57 (1892 + k) = p) → At d 219 12 [some (vR 56), some (vI x), some (vI y), some (vI z)] [] G I J Q
  | 0, z, h0, h1, hn => b_X12_maybe_12 hG (fun _ => k0 (fun k k0 k1 => hn k k0 (by omega)) _) (fun q => by omega)
  | j + 1, z, h0, h1, hn => by
    refine b_X12_maybe_12 hG (fun q => ?_) (fun _ => b_X12_maybe_22 hG (by unfold ok32; omega) (by omega) (by omega) (by unfold ok32; omega) (by unfold ok32; omega) (fun q => b_X12_maybe_44 hG (by unfold ok32; omega) (lp_mayM hG hr hx hy hp k1 k0 j (z + 1) (by omega) (by omega) (fun k z0 z1 => ?_))) (fun q => b_X12_maybe_41 hG (k1 z h0 (by omega) (by omega))))
    · omega
    · by_cases hk : k = z
      · rw [hk]
        omega
      · exact hn k z0 (by omega)
theorem cs_20 {x y : Int} (hV : LV b G I J) : Cl (d + 5) 129 219 [some (vR 0), some (vI x), some (vI y)] [some (vR 56), some (vI x), some (vI y), none] G I J := by
  obtain ⟨hG, hRW, hc, hi, hk⟩ := id hV
  obtain ⟨hN, hF, hR, hT, hC, hW, hL, hM⟩ := id hRW
  have f5 := hW.2.1
  have g5 := hW.2.2.2.2.2
  have m5 : 0 ≤ I 57 5 ∧ I 57 5 ≤ 10 := ⟨f5.1, f5.2.1⟩
  have c5 : 0 ≤ I 31 2 ∧ I 31 2 ≤ 10 := by omega
  unfold Cl
  refine b_X11_maybe_0 hG (sp_isWireC hG (fun x0 x1 y0 y1 => b_X11_maybe_5 hG (fun _ => b_X11_maybe_10 hG (by unfold ok32; omega) (by unfold ok32; omega) (b_X9_isMaybe_0 hG (lp_isMaybe hG c5 (fun k k0 k1 q => b_X11_maybe_26 hG (fun q2 => absurd q2 (by decide)) (fun _ => b_X11_maybe_29 hG ⟨_, b, rfl, hG, ⟨rfl, rfl⟩, ?told⟩)) (fun hno => b_X11_maybe_26 hG (fun _ => b_X11_maybe_32 hG (fun q => b_X11_maybe_50 hG (by unfold ok32; omega) (by unfold ok32; omega) (b_X9_addMaybe_0 hG (fun _ => b_X9_addMaybe_12 hG c5.1 (by omega) (by unfold ok32; omega) (b_X11_maybe_66 hG ⟨_, b, rfl, hG, ⟨rfl, rfl⟩, ?good⟩)) (fun q2 => absurd q2 (by omega)))) (fun q => b_X11_maybe_47 hG ⟨_, b, rfl, hG, ⟨rfl, rfl⟩, ?full⟩)) (fun q2 => absurd rfl q2)) (I 31 2).toNat 0 (by omega) (by omega) (fun k k0 k1 => by omega)))) (fun q => absurd q (by decide))) (fun q => b_X11_maybe_5 hG (fun q2 => absurd rfl q2) (fun _ => b_X11_maybe_8 hG ⟨_, b, rfl, hG, ⟨rfl, rfl⟩, ?none⟩)))
  case told =>
    unfold Md
    have e := (g5 k k0 (by omega)).1
    refine b_X12_maybe_0 hG (sp_isWireM hG (fun _ _ _ _ => b_X12_maybe_5 hG (fun _ => b_X12_maybe_10 hG (lp_mayM hG m5 (by omega) (by omega) rfl (fun _ _ _ _ => ⟨rfl, b, hV, rfl, rfl⟩) (fun hno _ => absurd (e.symm.trans q) (hno k k0 (by omega))) (I 57 5).toNat 0 (by omega) (by omega) (fun k k0 k1 => by omega))) (fun q => absurd q (by decide))) (fun q => absurd q (by omega)))
  case good =>
    unfold Md
    generalize hX : mset (mset I 33 (I 31 2) (x * 10 + y)) 31 2 (I 31 2 + 1) = I1
    have e57 : I1 57 = I 57 := by rw [← hX]; rfl
    have u5 : I1 57 5 = I 57 5 := by rw [e57]
    refine b_X12_maybe_0 hG (sp_isWireM hG (fun _ _ _ _ => b_X12_maybe_5 hG (fun _ => b_X12_maybe_10 hG (lp_mayM hG (by omega) (by omega) (by omega) rfl (fun k k0 k1 q => ?a) (fun _ _ => b_X12_maybe_50 hG (fun _ => b_X12_maybe_64 hG (by unfold ok32; omega) (by unfold ok32; omega) (by unfold ok32; omega) (by omega) (by omega) ?bb ?cc) (fun q2 => absurd q2 (by omega))) (I1 57 5).toNat 0 (by omega) (by omega) (fun k k0 k1 => by omega))) (fun q => absurd q (by decide))) (fun q => absurd q (by omega)))
    case a =>
      rw [e57] at k1 q
      exact absurd ((g5 k k0 k1).1.trans q) (hno k k0 (by omega))
    case bb =>
      simp (disch := omega) only [mset_at, mset_n, mset_o, sset_at, sset_n]
      unfold ok32
      omega
    case cc =>
      refine ⟨?_, b, ?_⟩
      · simp (disch := omega) only [mset_at, mset_n, mset_o, sset_at, sset_n]
        rw [u5, f5.2.2]
      · subst hX
        refine hV.of (hRW.ofW (fun a ha h => ?_) (fun a ha h => rfl) (fun i hi => ?_) (hW.maybe (v := x * 10 + y) (by omega) (by omega) (fun a ha h h2 => ?_) ?_ ?_ ?_)) (fun a k ha hb' hs => ?_) (fun _ _ => rfl)
        · simp (disch := omega) only [mset_at, mset_n, mset_o, sset_at, sset_n]
        · simp (disch := omega) only [mset_at, mset_n, mset_o, sset_at, sset_n]
        · simp (disch := omega) only [mset_at, mset_n, mset_o, sset_at, sset_n]
        · funext j
          simp only [mset_o (show 31 ≠ 57 by decide), mset_s, f5.2.2, mset_o (show 31 ≠ 33 by decide)]
        · funext j
          simp only [mset_o (show 33 ≠ 57 by decide), mset_o (show 33 ≠ 31 by decide), mset_s, f5.2.2]
        · rw [mset_s, mset_s, mset_o (show 57 ≠ 31 by decide), mset_o (show 57 ≠ 33 by decide), show 10 * x + y = x * 10 + y by omega]
          rw [sset_n (by omega)]
        · simp (disch := omega) only [mset_at, mset_n, mset_o, sset_at, sset_n]
  case full =>
    unfold Md
    refine b_X12_maybe_0 hG (sp_isWireM hG (fun _ _ _ _ => b_X12_maybe_5 hG (fun _ => b_X12_maybe_10 hG (lp_mayM hG m5 (by omega) (by omega) rfl (fun k k0 k1 q2 => absurd ((g5 k k0 k1).1.trans q2) (hno k k0 (by omega))) (fun _ _ => b_X12_maybe_50 hG (fun q2 => absurd (show I 57 5 = 10 by omega) q2) (fun _ => b_X12_maybe_61 hG ⟨rfl, b, hV, rfl, rfl⟩)) (I 57 5).toNat 0 (by omega) (by omega) (fun k k0 k1 => by omega))) (fun q => absurd q (by decide))) (fun q => absurd q (by omega)))
  case none =>
    unfold Md
    refine b_X12_maybe_0 hG (sp_isWireM hG (fun _ _ _ _ => absurd q (by omega)) (fun _ => b_X12_maybe_5 hG (fun q2 => absurd rfl q2) (fun _ => b_X12_maybe_8 hG ⟨rfl, b, hV, rfl, rfl⟩)))
end SM
