/-! the call told -/
theorem RelW.told {A A' B B' : aI} {S S' : Int → Int} {f t v : Int} (h : RelW A B S) (hn : S 4 < 20) (hf : 0 ≤ f ∧ f < S 0) (ht : t = 12 ∨ (0 ≤ t ∧ t < S 0)) (hv : v = 0 ∨ v = 1)
    (hc : ∀ a : Nat, a < 45 → a ≠ 31 → A' a = A a) (h1 : A' 31 1 = S 4 + 1) (h2 : A' 31 2 = A 31 2) (h50 : 0 ≤ A' 31 5) (h51 : A' 31 5 < 1048576) (h5 : ∀ c : Int, 0 ≤ c → c < 20 → bAnd (bShr (A' 31 5) c) 1 = if c = S 4 then v else bAnd (bShr (A 31 5) c) 1)
    (b31 : B' 31 0 = B 31 0) (b32 : B' 32 = sset (B 32) (S 4) (wayF A f t)) (t0 : S' 4 = S 4 + 1) (hs : ∀ i, i ≠ 4 → (i < 1832 + 3 * S 4 ∨ 1832 + 3 * S 4 + 3 ≤ i) → S' i = S i)
    (e0 : S' (1832 + (3 * S 4)) = f) (e1 : S' ((1832 + (3 * S 4)) + 1) = t) (e2 : S' ((1832 + (3 * S 4)) + 2) = v) : RelW A' B' S' := by
  obtain ⟨⟨a1, a2, a3⟩, ⟨b1, b2, b3⟩, ⟨c1, c2, c3⟩, e, ⟨g0, g1, g2⟩, g⟩ := h
  have wf : ∀ f t, wayF A' f t = wayF A f t := fun f t => wayF_fr (by rw [hc 2 (by decide) (by decide)]) (hc 3 (by decide) (by decide)) (hc 4 (by decide) (by decide))
  unfold RelW
  rw [t0, hs 5 (by omega) (by omega), hs 0 (by omega) (by omega), h1, h2, b31, hc 33 (by decide) (by decide)]
  refine ⟨⟨by omega, by omega, rfl⟩, ⟨b1, b2, b3⟩, ⟨c1, c2, fun l w l0 l1 w0 w1 => ?_⟩, fun k k0 k1 => ?_, ⟨h50, h51, fun k k0 k1 => ?_⟩, fun k k0 k1 => ?_⟩
  · rw [hs _ (by omega) (by omega)]
    exact c3 l w l0 l1 w0 w1
  · rw [h5 k k0 (by omega), b32]
    by_cases hk : k = S 4
    · subst hk
      rw [if_pos rfl, sset_at, e0, e1, e2, wf]
      exact ⟨rfl, hf, ht, hv, rfl⟩
    · rw [if_neg hk, sset_n hk, hs _ (by omega) (by omega), hs _ (by omega) (by omega), hs _ (by omega) (by omega), wf]
      exact e k k0 (by omega)
  · rw [h5 k (by omega) k1, if_neg (by omega)]
    exact g2 k (by omega) k1
  · rw [hs _ (by omega) (by omega)]
    exact g k k0 k1
section SM
variable {d : Nat} {b : Bool} {G : aG} {I J : aI} {Q : Option aV → aG → aI → aI → Prop}
theorem sp_addRing {w v : Int} (hG : GW b G) (hv : v = 0 ∨ v = 1) (h0 : 0 ≤ I 31 1) (h1 : I 31 1 < 20) (h50 : 0 ≤ I 31 5) (h51 : I 31 5 < 1048576) (hz : bAnd (bShr (I 31 5) (I 31 1)) 1 = 0) (k : ∀ I' J', (∀ a, a ≠ 31 → I' a = I a) → I' 31 1 = I 31 1 + 1 → I' 31 2 = I 31 2 → 0 ≤ I' 31 5 → I' 31 5 < 1048576 → (∀ c : Int, 0 ≤ c → c < 20 → bAnd (bShr (I' 31 5) c) 1 = if c = I 31 1 then v else bAnd (bShr (I 31 5) c) 1) → (∀ a, a ≠ 32 → J' a = J a) → J' 32 = sset (J 32) (I 31 1) w → Q (some (vI (I 31 1 + 1))) G I' J') : At d 91 0 [some (vR 31), some (vL w), none, some (vI v)] [] G I J Q := by
  obtain ⟨g1, g2, g3⟩ := bset (n := 20) (x := I 31 5) (s := I 31 1) (by decide) h50 h51 h0 h1
  refine b_X9_addRing_0 hG (fun _ => b_X9_addRing_12 hG h0 h1 (fun q => b_X9_addRing_41 hG (by unfold ok32; omega) (k _ _ (fun a ha => mset_o ha) mset_at (mset_n (by decide)) ?_ ?_ (fun c c0 c1 => ?_) (fun a ha => mset_o ha) mset_s)) (fun q => b_X9_addRing_26 hG (by unfold ok32; omega) (k _ _ (fun a ha => (mset_o ha).trans (mset_o ha)) mset_at ?_ ?_ ?_ (fun c c0 c1 => ?_) (fun a ha => mset_o ha) mset_s))) (fun q => by omega)
  · rw [mset_n (by decide)]
    exact h50
  · rw [mset_n (by decide)]
    exact h51
  · rw [mset_n (by decide), q]
    split
    · rename_i hh
      rw [hh, hz]
    · rfl
  · rw [mset_n (by decide), mset_n (by decide)]
  · rw [mset_n (by decide), mset_at]
    exact g1
  · rw [mset_n (by decide), mset_at]
    exact g2
  · rw [mset_n (by decide), mset_at, g3 c c0 c1, hv.resolve_left q]
theorem mo_19 {x y v n : Int} (hG : GW b G) (m0 : 0 ≤ I 57 0 ∧ I 57 0 ≤ 12) (hx : 0 ≤ x ∧ x < I 57 0) (hy : y = 12 ∨ (0 ≤ y ∧ y < I 57 0)) (hne : ¬ x = y) (hv : v = 0 ∨ v = 1) (hn : I 57 4 = n) (h0 : 0 ≤ n) (h1 : n < 20)
    (k : ∀ I', (∀ a, a ≠ 57 → I' a = I a) → I' 57 4 = n + 1 → (∀ i, i ≠ 4 → (i < 1832 + 3 * n ∨ 1832 + 3 * n + 3 ≤ i) → I' 57 i = I 57 i) → I' 57 (1832 + (3 * n)) = x → I' 57 ((1832 + (3 * n)) + 1) = y → I' 57 ((1832 + (3 * n)) + 2) = v → Q (some (vI (n + 1))) G I' J) : At (d + 3) 218 0 [some (vR 56), some (vI x), some (vI y), some (vI v), none] [] G I J Q := by
  subst hn
  have fin : ∀ w, w = v → Q (some (vI (I 57 4 + 1))) G (mset (mset (mset (mset I 57 (1832 + (3 * I 57 4)) x) 57 ((1832 + (3 * I 57 4)) + 1) y) 57 ((1832 + (3 * I 57 4)) + 2) w) 57 4 (I 57 4 + 1)) J := by
    intro w hw
    refine k _ (fun a ha => ?_) ?_ (fun i i0 i1 => ?_) ?_ ?_ ?_
    · simp (disch := omega) only [mset_at, mset_n, mset_o, sset_at, sset_n]
    · simp (disch := omega) only [mset_at, mset_n, mset_o, sset_at, sset_n]
    · simp (disch := omega) only [mset_at, mset_n, mset_o, sset_at, sset_n]
    · simp (disch := omega) only [mset_at, mset_n, mset_o, sset_at, sset_n]
    · simp (disch := omega) only [mset_at, mset_n, mset_o, sset_at, sset_n]
    · simp (disch := omega) only [mset_at, mset_n, mset_o, sset_at, sset_n]
      exact hw
  have e4 : ∀ w, (mset (mset (mset I 57 (1832 + (3 * I 57 4)) x) 57 ((1832 + (3 * I 57 4)) + 1) y) 57 ((1832 + (3 * I 57 4)) + 2) w) 57 4 = I 57 4 := fun w => by simp (disch := omega) only [mset_at, mset_n, mset_o, sset_at, sset_n]
  have f0 := fin 0
  have f1 := fin 1
  rw [← e4 0] at f0
  rw [← e4 1] at f1
  refine b_X12_told_0 hG (sp_isFarm hG m0 (fun _ _ => b_X12_told_5 hG (fun q => absurd q (by decide)) (fun _ => b_X12_told_8 hG (sp_isEndM (d := d) hG m0 (fun _ => b_X12_told_13 hG (fun _ => b_X12_told_18 hG (fun _ => b_X12_told_26 hG (fun _ => b_X12_told_40 hG (by unfold ok32; omega) (by unfold ok32; omega) (by omega) (by omega) (by unfold ok32; omega) (by omega) (by omega) (by unfold ok32; omega) (fun q => b_X12_told_88 hG (by omega) (by omega) (by rw [e4]; unfold ok32; omega) ?_) (fun q => b_X12_told_84 hG (by omega) (by omega) (by rw [e4]; unfold ok32; omega) ?_)) (fun q => absurd q (by omega))) (fun q => absurd q hne)) (fun q => absurd q (by decide))) (fun q => absurd hy q)))) (fun q => absurd q (by omega)))
  · have := fin 0 q.symm
    rw [e4]
    exact this
  · have := fin 1 (hv.resolve_left q).symm
    rw [e4]
    exact this
theorem cs_19 {x y v : Int} (hV : LV b G I J) (hv : v = 0 ∨ v = 1) : Cl (d + 6) 128 218 [some (vR 0), some (vI x), some (vI y), some (vI v)] [some (vR 56), some (vI x), some (vI y), some (vI v), none] G I J := by
  obtain ⟨hG, hRW, hc, hi, hk⟩ := id hV
  obtain ⟨hN, hF, hR, hT, hC, hW, hL, hM⟩ := id hRW
  have f0 := hF.1
  have f4 := hW.1
  obtain ⟨g50, g51, g5⟩ := hW.2.2.2.2.1
  have m0 : 0 ≤ I 57 0 ∧ I 57 0 ≤ 12 := ⟨f0.1, f0.2.1⟩
  unfold Cl
  refine b_X11_told_0 hG (sp_X4_has hG (fun x0 x1 => b_X11_told_11 hG (fun q => absurd q (by decide)) (fun _ => b_X11_told_14 hG (sp_isEndC hG (fun hy => b_X11_told_25 hG (fun _ => b_X11_told_30 hG (fun hne => b_X11_told_38 hG (fun hlt => b_X11_told_56 hG (sp_way hG hF x0 x1 (b_X11_told_75 hG (sp_addRing hG hv (by omega) hlt g50 g51 (g5 _ (by omega) hlt) (fun I1 J1 c1 c2 c3 c4 c5 c6 c7 c8 => b_X11_told_79 hG ⟨_, b, rfl, hG, ⟨c1 1060 (by decide), c1 1061 (by decide)⟩, ?ok⟩))))) (fun hlt => b_X11_told_53 hG ⟨_, b, rfl, hG, ⟨rfl, rfl⟩, ?full⟩)) (fun he => b_X11_told_35 hG ⟨_, b, rfl, hG, ⟨rfl, rfl⟩, ?same⟩)) (fun q => absurd q (by decide))) (fun hy => b_X11_told_25 hG (fun q => absurd rfl q) (fun _ => b_X11_told_28 hG ⟨_, b, rfl, hG, ⟨rfl, rfl⟩, ?n2⟩))))) (fun q => b_X11_told_11 hG (fun _ => b_X11_told_28 hG ⟨_, b, rfl, hG, ⟨rfl, rfl⟩, ?n1⟩) (fun q => absurd rfl q)))
  case ok =>
    have e57 : I1 57 = I 57 := c1 57 (by decide)
    unfold Md
    refine mo_19 (d := d + 3) (n := I 31 1) hG (by rw [e57]; exact m0) (by rw [e57]; omega) (by rw [e57]; omega) hne hv (by rw [e57]; omega) (by omega) hlt (fun I2 k1 k2 k3 k4 k5 k6 => ⟨rfl, b, ?_⟩)
    rw [e57] at k3
    have ec : ∀ a : Nat, a ≠ 57 → a ≠ 31 → I2 a = I a := fun a h h0 => (k1 a h).trans (c1 a h0)
    have e31 : I2 31 = I1 31 := k1 31 (by decide)
    have hvs := hW.told (A' := I2) (B' := J1) (S' := I2 57) (f := x) (t := y) (v := v) (by omega) (by omega) (by omega) hv (fun a ha h => ec a (by omega) h) (by rw [e31, c2]; omega) (by rw [e31, c3]) (by rw [e31]; exact c4) (by rw [e31]; exact c5) (by rw [e31, ← f4.2.2]; exact c6) (by rw [c7 31 (by decide)]) (by rw [c8, f4.2.2]) (by omega) (by rw [← f4.2.2]; exact k3) (by rw [← f4.2.2]; exact k4) (by rw [← f4.2.2]; exact k5) (by rw [← f4.2.2]; exact k6)
    have hfin := hV.of (J2 := J1) (hRW.ofW (fun a ha h => ec a (by omega) (by omega)) (fun a ha h => c7 a h.2) (fun i hi => k3 i (by omega) (by omega)) hvs) (fun a k ha hb' hs => by rw [ec a hb' (by omega)]) (fun a ha => c7 a (by omega))
    exact ⟨hfin.1, k1 1060 (by decide), k1 1061 (by decide)⟩
  case full =>
    unfold Md
    exact b_X12_told_0 hG (sp_isFarm hG m0 (fun _ _ => b_X12_told_5 hG (fun q => absurd q (by decide)) (fun _ => b_X12_told_8 hG (sp_isEndM (d := d + 3) hG m0 (fun _ => b_X12_told_13 hG (fun _ => b_X12_told_18 hG (fun _ => b_X12_told_26 hG (fun q => absurd (show I 57 4 = 20 by omega) q) (fun _ => b_X12_told_37 hG ⟨rfl, b, hV, rfl, rfl⟩)) (fun q => absurd q hne)) (fun q => absurd q (by decide))) (fun q => absurd hy (by omega))))) (fun q => absurd q (by omega)))
  case same =>
    unfold Md
    exact b_X12_told_0 hG (sp_isFarm hG m0 (fun _ _ => b_X12_told_5 hG (fun q => absurd q (by decide)) (fun _ => b_X12_told_8 hG (sp_isEndM (d := d + 3) hG m0 (fun _ => b_X12_told_13 hG (fun _ => b_X12_told_18 hG (fun q => absurd he q) (fun _ => b_X12_told_23 hG ⟨rfl, b, hV, rfl, rfl⟩)) (fun q => absurd q (by decide))) (fun q => absurd hy (by omega))))) (fun q => absurd q (by omega)))
  case n2 =>
    unfold Md
    exact b_X12_told_0 hG (sp_isFarm hG m0 (fun _ _ => b_X12_told_5 hG (fun q => absurd q (by decide)) (fun _ => b_X12_told_8 hG (sp_isEndM (d := d + 3) hG m0 (fun q => absurd hy (by omega)) (fun _ => b_X12_told_13 hG (fun q => absurd rfl q) (fun _ => b_X12_told_16 hG ⟨rfl, b, hV, rfl, rfl⟩))))) (fun q => absurd q (by omega)))
  case n1 =>
    unfold Md
    exact b_X12_told_0 hG (sp_isFarm hG m0 (fun _ _ => absurd q (by omega)) (fun _ => b_X12_told_5 hG (fun _ => b_X12_told_16 hG ⟨rfl, b, hV, rfl, rfl⟩) (fun q => absurd rfl q)))
end SM
