/-! the call feed -/
section SM
variable {d : Nat} {b : Bool} {G : aG} {I J : aI} {Q : Option aV → aG → aI → aI → Prop}
theorem lp_take {w n s : Int} {I0 : aI} (hG : GW b G) (hn : 1 ≤ n ∧ n ≤ 8) (hs : 0 ≤ s ∧ s + n ≤ 120) (k : ∀ I', (∀ a, a ≠ 10 → a ≠ 12 → I' a = I0 a) → (∀ j, j ≠ 0 → I' 10 j = I0 10 j) → I' 10 0 = s + n → (∀ j, (j < s ∨ s + n ≤ j) → I' 12 j = I0 12 j) → (∀ i, 0 ≤ i → i < n → I' 12 (s + i) = cI2b (cL2i (lShr w (8 * (n - 1 - i))))) → Q (some (vI (s + n))) G I' J) : ∀ (j : Nat) (y : Int) (I : aI), 0 ≤ y → y + j = n → (∀ a, a ≠ 10 → a ≠ 12 → I a = I0 a) → (∀ j, j ≠ 0 → I 10 j = I0 10 j) → I 10 0 = s + y → (∀ j, (j < s ∨ s + y ≤ j) → I 12 j = I0 12 j) → (∀ i, 0 ≤ i → i < y → I 12 (s + i) = cI2b (cL2i (lShr w (8 * (n - 1 - i))))) → At d 75 5 [some (vR 10), some (vL w), none, some (vI n), some (vI (n - 1 - y))] [] G I J Q
  | 0, y, I, h0, h1, c1, c2, c3, c4, c5 => by
    rw [show n = y by omega] at k ⊢
    have e : y - 1 - y = -1 := by omega
    rw [e]
    refine b_X8_take_5 hG (fun _ => b_X8_take_53 hG ?_) (fun q => absurd q (by decide))
    rw [c3]
    rw [show n = y by omega] at c5
    exact k I c1 c2 c3 c4 c5
  | j + 1, y, I, h0, h1, c1, c2, c3, c4, c5 => by
    have nx := lp_take hG hn hs k j (y + 1) (mset (mset I 12 (s + y) (cI2b (cL2i (lShr w (8 * (n - 1 - y)))))) 10 0 (s + y + 1)) (by omega) (by omega) (fun a h10 h12 => by rw [mset_o h10, mset_o h12, c1 a h10 h12]) (fun j hj => by rw [mset_n hj, mset_o (by decide), c2 j hj]) (by rw [mset_at]; omega) (fun j hj => by rw [mset_o (by decide), mset_n (by omega), c4 j (by omega)]) (fun i i0 i1 => by
      rw [mset_o (by decide)]
      by_cases hi : i = y
      · rw [hi, mset_at]
      · rw [mset_n (by omega), c5 i i0 (by omega)])
    rw [show n - 1 - (y + 1) = n - 1 - y + -1 by omega] at nx
    refine b_X8_take_5 hG (fun q => by omega) (fun _ => b_X8_take_10 hG (fun q => by omega) (fun _ => b_X8_take_19 hG (by unfold ok32; omega) (by omega) (by omega) i2b_r (by unfold ok32; omega) (by unfold ok32; omega) ?_))
    rw [c3]
    exact nx
theorem lp_feedM {w n s : Int} {I0 : aI} (hG : GW b G) (hn : 1 ≤ n ∧ n ≤ 8) (hs : 0 ≤ s ∧ s + n ≤ 120) (k : ∀ I', (∀ a, a ≠ 57 → I' a = I0 a) → I' 57 8 = s + n → (∀ j, j ≠ 8 → (j < 2336 + s ∨ 2336 + s + n ≤ j) → I' 57 j = I0 57 j) → (∀ i, 0 ≤ i → i < n → I' 57 (2336 + (s + i)) = cL2i (lAnd (lShr w (8 * (n - 1 - i))) 255)) → Q (some (vI (s + n))) G I' J) : ∀ (j : Nat) (y : Int) (I : aI), 0 ≤ y → y + j = n → (∀ a, a ≠ 57 → I a = I0 a) → I 57 8 = s + y → (∀ j, j ≠ 8 → (j < 2336 + s ∨ 2336 + s + y ≤ j) → I 57 j = I0 57 j) → (∀ i, 0 ≤ i → i < y → I 57 (2336 + (s + i)) = cL2i (lAnd (lShr w (8 * (n - 1 - i))) 255)) → At d 177 35 [some (vR 56), some (vL w), none, some (vI n), some (vI (n - 1 - y))] [] G I J Q
  | 0, y, I, h0, h1, c1, c3, c4, c5 => by
    rw [show n = y by omega] at k ⊢
    have e : y - 1 - y = -1 := by omega
    rw [e]
    refine b_X12_feed_35 hG (fun _ => b_X12_feed_85 hG ?_) (fun q => absurd q (by decide))
    rw [c3]
    rw [show n = y by omega] at c5
    exact k I c1 c3 c4 c5
  | j + 1, y, I, h0, h1, c1, c3, c4, c5 => by
    have nx := lp_feedM hG hn hs k j (y + 1) (mset (mset I 57 (2336 + (s + y)) (cL2i (lAnd (lShr w (8 * (n - 1 - y))) 255))) 57 8 (s + y + 1)) (by omega) (by omega) (fun a h => by rw [mset_o h, mset_o h, c1 a h]) (by rw [mset_at]; omega) (fun j h8 hj => by rw [mset_n h8, mset_n (by omega), c4 j h8 (by omega)]) (fun i i0 i1 => by
      rw [mset_n (by omega)]
      by_cases hi : i = y
      · rw [hi, mset_at]
      · rw [mset_n (by omega), c5 i i0 (by omega)])
    rw [show n - 1 - (y + 1) = n - 1 - y + -1 by omega] at nx
    have e8 : (mset I 57 (2336 + (s + y)) (cL2i (lAnd (lShr w (8 * (n - 1 - y))) 255))) 57 8 = s + y := by rw [mset_n (by omega), c3]
    refine b_X12_feed_35 hG (fun q => by omega) (fun _ => b_X12_feed_40 hG (by unfold ok32; omega) (by unfold ok32; omega) (by omega) (by omega) (by rw [c3, e8]; unfold ok32; omega) (by unfold ok32; omega) ?_)
    rw [c3, e8]
    exact nx
theorem cs_5 {w n : Int} (hV : LV b G I J) : Cl (d + 5) 114 177 [some (vR 0), some (vL w), none, some (vI n)] [some (vR 56), some (vL w), none, some (vI n), none] G I J := by
  obtain ⟨hG, hRW, hc, hi, hk⟩ := id hV
  obtain ⟨hN, hF, hR, hT, hC, hW, hL, hM⟩ := id hRW
  have f8 := hT.1
  unfold Cl
  refine b_X11_feed_0 hG (sp_within hG (fun x0 x1 => b_X11_feed_7 hG (fun _ => b_X11_feed_13 hG (by unfold ok32; omega) (fun hle => b_X11_feed_36 hG (b_X8_take_0 hG (by unfold ok32; omega) ?go)) (fun hgt => b_X11_feed_33 hG ⟨_, b, rfl, hG, ⟨rfl, rfl⟩, ?full⟩)) (fun q => absurd q (by decide))) (fun q => b_X11_feed_7 hG (fun q => absurd rfl q) (fun _ => b_X11_feed_10 hG ⟨_, b, rfl, hG, ⟨rfl, rfl⟩, ?bad⟩)))
  case bad =>
    unfold Md
    exact b_X12_feed_0 hG (sp_in hG (fun _ _ => absurd q (by omega)) (fun _ => b_X12_feed_7 hG (fun q => absurd rfl q) (fun _ => b_X12_feed_10 hG ⟨rfl, b, hV, rfl, rfl⟩)))
  case full =>
    unfold Md
    exact b_X12_feed_0 hG (sp_in hG (fun _ _ => b_X12_feed_7 hG (fun _ => b_X12_feed_13 hG (by unfold ok32; omega) (fun q => absurd q (by omega)) (fun _ => b_X12_feed_27 hG ⟨rfl, b, hV, rfl, rfl⟩)) (fun q => absurd q (by decide))) (fun q => absurd q (by omega)))
  case go =>
    have e0 : n - 1 = n - 1 - 0 := by omega
    rw [e0]
    refine lp_take (s := I 10 0) (I0 := I) hG ⟨x0, x1⟩ (by omega) (fun I1 c1 c2 c3 c4 c5 => b_X11_feed_51 hG ⟨_, b, rfl, hG, ⟨c1 1060 (by decide) (by decide), c1 1061 (by decide) (by decide)⟩, ?_⟩) n.toNat 0 I (by decide) (by omega) (fun _ _ _ => rfl) (fun _ _ => rfl) (by omega) (fun _ _ => rfl) (fun i i0 i1 => by omega)
    have e57 : I1 57 = I 57 := c1 57 (by decide) (by decide)
    have u8 : I1 57 8 = I 10 0 := by rw [e57, f8.2.2]
    unfold Md
    refine b_X12_feed_0 hG (sp_in hG (fun _ _ => b_X12_feed_7 hG (fun _ => b_X12_feed_13 hG (by rw [u8]; unfold ok32; omega) (fun _ => b_X12_feed_30 hG (by unfold ok32; omega) ?_) (fun q => absurd hle (by rw [u8] at q; omega))) (fun q => absurd q (by decide))) (fun q => absurd q (by omega)))
    rw [e0]
    refine lp_feedM (s := I 10 0) (I0 := I1) hG ⟨x0, x1⟩ (by omega) (fun I2 k1 k2 k3 k4 => ⟨rfl, b, ?_⟩) n.toNat 0 I1 (by decide) (by omega) (fun _ _ => rfl) (by omega) (fun _ _ _ => rfl) (fun i i0 i1 => by omega)
    have hT2 : RelT I2 (I2 57) := by
      unfold RelT
      rw [k1 10 (by decide), k1 12 (by decide), k2, c3]
      refine ⟨⟨by omega, by omega, rfl⟩, fun k z0 z1 => ?_⟩
      by_cases hz : k < I 10 0
      · rw [c4 k (Or.inl hz), k3 (2336 + k) (by omega) (by omega), e57]
        exact hT.2 k z0 (by omega)
      · have e4 := k4 (k - I 10 0) (by omega) (by omega)
        have e5 := c5 (k - I 10 0) (by omega) (by omega)
        rw [show I 10 0 + (k - I 10 0) = k by omega] at e4 e5
        rw [e4, e5]
        exact byte_eq
    have hfin := hV.of (I2 := I2) (J2 := J) (hRW.ofT (fun a ha h => by rw [k1 a (by omega), c1 a h.1 h.2]) (fun i hi => by rw [k3 i hi.1 (by omega), e57]) hT2) (fun a k ha hb' hs => by rw [k1 a hb', c1 a (by omega) (by omega)]) (fun _ _ => rfl)
    exact ⟨hfin.1, k1 1060 (by decide), k1 1061 (by decide)⟩
end SM
