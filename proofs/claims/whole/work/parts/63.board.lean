/-! the calls board and listen -/
theorem RelC.tap {A A' B : aI} {S S' : Int → Int} {x v : Int} (h : RelC A B S) (hx : 0 ≤ x ∧ x < S 2) (hv : 0 ≤ v ∧ v < 4096) (hc : ∀ a : Nat, a < 45 → a ≠ 30 → A' a = A a) (h30 : A' 30 = sset (A 30) x v) (hs : S' = sset S ((1312 + (8 * x)) + 7) v) : RelC A' B S' := by
  obtain ⟨⟨a1, a2, a3⟩, p, c⟩ := h
  have q : ∀ i, i ≠ ((1312 + (8 * x)) + 7) → S' i = S i := fun i h1 => by rw [hs, sset_n h1]
  unfold RelC CallOk
  rw [q 2 (by omega), q 0 (by omega), q 3 (by omega), hc 20 (by decide) (by decide), hc 21 (by decide) (by decide), hc 22 (by decide) (by decide), hc 23 (by decide) (by decide), hc 24 (by decide) (by decide), hc 26 (by decide) (by decide), hc 27 (by decide) (by decide), hc 28 (by decide) (by decide), hc 29 (by decide) (by decide), hc 3 (by decide) (by decide)]
  refine ⟨⟨a1, a2, a3⟩, fun k k0 k1 => ?_, fun k k0 k1 => ?_⟩
  · rw [q ((1312 + (8 * k)) + 0) (by omega), q ((1312 + (8 * k)) + 1) (by omega), q ((1312 + (8 * k)) + 2) (by omega), q ((1312 + (8 * k)) + 3) (by omega), q ((1312 + (8 * k)) + 4) (by omega), q ((1312 + (8 * k)) + 5) (by omega), q ((1312 + (8 * k)) + 6) (by omega), lineBit_fr (A := A) (by rw [hc 2 (by decide) (by decide)]) (hc 3 (by decide) (by decide)), lineBit_fr (A := A) (by rw [hc 2 (by decide) (by decide)]) (hc 3 (by decide) (by decide)), wayF_fr (A := A) (by rw [hc 2 (by decide) (by decide)]) (hc 3 (by decide) (by decide)) (hc 4 (by decide) (by decide))]
    obtain ⟨⟨c1, c2, c3, c4, c5, c6, c7, c8⟩, e, o1, o2, o3, o4, o5, o6, o7, o8, o9, o10, o11, o12⟩ := p k k0 k1
    by_cases hk : k = x
    · subst hk
      rw [h30, sset_at, hs, sset_at]
      exact ⟨⟨c1, c2, c3, c4, c5, c6, c7, rfl⟩, e, o1, o2, o3, o4, o5, o6, o7, o8, o9, o10, o11, hv⟩
    · rw [h30, sset_n hk, q _ (by omega)]
      exact ⟨⟨c1, c2, c3, c4, c5, c6, c7, c8⟩, e, o1, o2, o3, o4, o5, o6, o7, o8, o9, o10, o11, o12⟩
  · rw [h30, sset_n (by omega)]
    exact c k k0 k1
section SM
variable {d : Nat} {b : Bool} {G : aG} {I J : aI} {Q : Option aV → aG → aI → aI → Prop}
theorem rdc {j x : Int} {D : Nat} {Q' : Option aV → aG → aI → aI → Prop} (hG : GW b G) (x0 : 0 ≤ x) (x1 : x < 60) (j0 : 0 ≤ j) (j1 : j ≤ 7) (k : Q' (some (vI (I 57 ((1312 + (8 * x)) + j)))) G I J) : At D 154 0 [some (vR 56), some (vI x), some (vI j)] [] G I J Q' :=
  b_X12_c_0 hG (by unfold ok32; omega) (by unfold ok32; omega) (by unfold ok32; omega) (by omega) (by omega) k
theorem rdf {j x : Int} {D : Nat} {Q' : Option aV → aG → aI → aI → Prop} (hG : GW b G) (x0 : 0 ≤ x) (x1 : x < 12) (j0 : 0 ≤ j) (j1 : j ≤ 4) (k : Q' (some (vI (I 57 ((32 + (5 * x)) + j)))) G I J) : At D 153 0 [some (vR 56), some (vI x), some (vI j)] [] G I J Q' :=
  b_X12_f_0 hG (by unfold ok32; omega) (by unfold ok32; omega) (by unfold ok32; omega) (by omega) (by omega) k
def cuF (A : aI) (k : Int) : Int := if A 29 k = 1 then unF (A 21 k) 2 else 0
theorem cuF_b {A : aI} {k : Int} : 0 ≤ cuF A k ∧ cuF A k ≤ 1 := by
  unfold cuF
  rcases unF_01 (a := A 21 k) (o := 2) with h | h <;> rw [h] <;> split <;> omega
theorem lp_cordsUsed (hG : GW b G) (hF : RelF I (I 57)) (hC : RelC I J (I 57)) (k : Q (some (vI (sumI (cuF I) (I 20 0)))) G I J) : ∀ (j : Nat) (x y : Int), 0 ≤ y → y + j = I 20 0 → x = sumI (cuF I) y → 0 ≤ x → x ≤ y → At (d + 2) 11 4 [some (vR 20), some (vI x), some (vI y)] [] G I J Q
  | 0, x, y, h0, h1, hx, _, _ => by
    refine b_X0_cordsUsed_4 hG (fun _ => b_X0_cordsUsed_36 hG ?_) (fun h => by omega)
    rw [hx, show y = I 20 0 by omega]
    exact k
  | j + 1, x, y, h0, h1, hx, hx0, hx1 => by
    have f2 := hC.1
    have hs := sumI_s (f := cuF I) h0
    have hb := cuF_b (A := I) (k := y)
    have nx : ∀ x', x' = x + cuF I y → At (d + 2) 11 4 [some (vR 20), some (vI x'), some (vI (y + 1))] [] G I J Q := fun x' hx' => lp_cordsUsed hG hF hC k j x' (y + 1) (by omega) (by omega) (by omega) (by omega) (by omega)
    unfold cuF at nx
    refine b_X0_cordsUsed_4 hG (fun q => by omega) (fun _ => b_X0_cordsUsed_12 hG h0 (by omega) (fun q => b_X0_cordsUsed_30 hG (by unfold ok32; omega) (nx x ?_)) (fun q => b_X0_cordsUsed_22 hG (sp_cords (d := d) hG hF hC h0 (by omega) ?_)))
    · rw [if_neg q]
      omega
    · unfold cuF at hb
      rw [if_pos q] at hb
      refine b_X0_cordsUsed_28 hG (by unfold ok32; omega) (by unfold ok32; omega) (nx _ ?_)
      rw [if_pos q]
theorem lp_callOn {l : Int} (hG : GW b G) (hF : RelF I (I 57)) (hC : RelC I J (I 57)) (hl : 0 ≤ l ∧ l ≤ 3) (k1 : ∀ y, 0 ≤ y → y < I 57 2 → I 29 y = 1 → needF I y l → (∀ k, 0 ≤ k → k < y → ¬ (I 29 k = 1 ∧ needF I k l)) → Q (some (vI y)) G I J) (k0 : (∀ k, 0 ≤ k → k < I 57 2 → ¬ (I 29 k = 1 ∧ needF I k l)) → Q (some (vI (-1))) G I J) : ∀ (j : Nat) (y : Int), 0 ≤ y → y + j = I 20 0 → (∀ k, 0 ≤ k → k < y → ¬ (I 29 k = 1 ∧ needF I k l)) → At d 12 2 [some (vR 20), some (vI l), some (vI y)] [] G I J Q
  | 0, y, h0, h1, hn => by
    have f2 := hC.1
    exact b_X0_callOn_2 hG (fun _ => b_X0_callOn_41 hG (k0 (fun k q0 q1 => hn k q0 (by omega)))) (fun h => by omega)
  | j + 1, y, h0, h1, hn => by
    have f2 := hC.1
    have hb := nd_bit hF hC h0 (by omega) hl
    have nx : ¬ (I 29 y = 1 ∧ needF I y l) → At d 12 35 [some (vR 20), some (vI l), some (vI y)] [] G I J Q := fun q => b_X0_callOn_35 hG (by unfold ok32; omega) (lp_callOn hG hF hC hl k1 k0 j (y + 1) (by omega) (by omega) (fun k z0 z1 => by
      by_cases hk : k = y
      · rw [hk]
        exact q
      · exact hn k z0 (by omega)))
    refine b_X0_callOn_2 hG (fun q => by omega) (fun _ => b_X0_callOn_10 hG h0 (by omega) (fun q => nx (fun h => q h.1)) (fun q => b_X0_callOn_20 hG h0 (by omega) (fun q2 => nx (fun h => ?_)) (fun q2 => b_X0_callOn_33 hG (k1 y h0 (by omega) q ?_ hn))))
    · have := (hb.1 h.2).1
      omega
    · exact Classical.byContradiction fun h => q2 (hb.2 h).1
/-- the model's board, of a line -/
theorem lp_boardM {l x2 : Int} (hG : GW b G) (hF : RelF I (I 57)) (hC : RelC I J (I 57)) (k1 : ∀ y, x2 = 0 → 0 ≤ y → y < I 57 2 → I 29 y = 1 → needF I y l → (∀ k, 0 ≤ k → k < y → ¬ (I 29 k = 1 ∧ needF I k l)) → Q (some (vI y)) G I J) (k0 : x2 = 0 → (∀ k, 0 ≤ k → k < I 57 2 → ¬ (I 29 k = 1 ∧ needF I k l)) → Q (some (vI (-1))) G I J) (k2 : ¬ x2 = 0 → Q (some (vI (sumI (cuF I) (I 57 2)))) G I J) : ∀ (j : Nat) (x y : Int), 0 ≤ y → y + j = I 57 2 → (¬ x2 = 0 → x = sumI (cuF I) y) → 0 ≤ x → x ≤ y → (x2 = 0 → ∀ k, 0 ≤ k → k < y → ¬ (I 29 k = 1 ∧ needF I k l)) → At (d + 3) 210 27 [some (vR 56), some (vI l), some (vI x2), some (vI x), some (vI y)] [] G I J Q
  | 0, x, y, h0, h1, hx, _, _, hn => by
    refine b_X12_board_27 hG (fun _ => b_X12_board_92 hG (fun q => b_X12_board_100 hG ?_) (fun q => b_X12_board_96 hG (k0 q (fun k z0 z1 => hn q k z0 (by omega))))) (fun h => by omega)
    rw [hx q, show y = I 57 2 by omega]
    exact k2 q
  | j + 1, x, y, h0, h1, hx, hx0, hx1, hn => by
    have f2 := hC.1
    have hs := sumI_s (f := cuF I) h0
    have hb := cuF_b (A := I) (k := y)
    obtain ⟨⟨g, e1, e2, e3, e4, e5, e6, e7, e8⟩, _⟩ := cll hF hC h0 (by omega)
    have nx : ∀ x', (¬ x2 = 0 → x' = x + cuF I y) → 0 ≤ x' → x' ≤ x + 1 → (x2 = 0 → ¬ (I 29 y = 1 ∧ needF I y l)) → At (d + 3) 210 27 [some (vR 56), some (vI l), some (vI x2), some (vI x'), some (vI (y + 1))] [] G I J Q := by
      intro x' hx' h0' h1' hy
      refine lp_boardM hG hF hC k1 k0 k2 j x' (y + 1) (by omega) (by omega) (fun q => ?_) h0' (by omega) (fun q k z0 z1 => ?_)
      · rw [hx' q, hx q, hs]
      · by_cases hk : k = y
        · rw [hk]
          exact hy q
        · exact hn q k z0 (by omega)
    have c69 : I 29 y = 1 → (x2 = 0 → ¬ needF I y l) → At (d + 3) 210 69 [some (vR 56), some (vI l), some (vI x2), some (vI x), some (vI y)] [] G I J Q := by
      intro q hy
      refine b_X12_board_69 hG (sp_byBoard (d := d + 1) hG hF hC h0 (by omega) ?_)
      unfold cuF at nx
      rcases unF_01 (a := I 21 y) (o := 2) with h | h
      · rw [h]
        refine b_X12_board_76 hG (fun _ => b_X12_board_83 hG (by unfold ok32; omega) (by unfold ok32; omega) (nx _ (fun _ => ?_) (by omega) (by omega) (fun z hh => hy z hh.2))) (fun q2 => absurd rfl q2)
        rw [if_pos q, h]
      · rw [h]
        refine b_X12_board_76 hG (fun q2 => absurd q2 (by decide)) (fun _ => b_X12_board_79 hG (by unfold ok32; omega) (by unfold ok32; omega) (nx _ (fun _ => ?_) (by omega) (by omega) (fun z hh => hy z hh.2)))
        rw [if_pos q, h]
    refine b_X12_board_27 hG (fun q => by omega) (fun _ => b_X12_board_38 hG (rdc hG h0 g (by decide) (by decide) (b_X12_board_45 hG (fun q => ?_) (fun q => ?_))))
    · rw [e6] at q
      refine b_X12_board_52 hG (fun q2 => c69 q (fun h => absurd h q2)) (fun q2 => b_X12_board_56 hG (sp_needs (d := d) hG hF hC h0 (by omega) (fun h => b_X12_board_63 hG (fun q3 => absurd q3 (by decide)) (fun _ => b_X12_board_66 hG (k1 y q2 h0 (by omega) q h (hn q2)))) (fun h => b_X12_board_63 hG (fun _ => c69 q (fun _ => h)) (fun q3 => absurd rfl q3))))
    · rw [e6] at q
      refine b_X12_board_49 hG (by unfold ok32; omega) (nx x (fun _ => ?_) hx0 (by omega) (fun _ h => q h.1))
      unfold cuF
      rw [if_neg q]
      omega
theorem cs_14 {x y : Int} (hV : LV b G I J) : Cl (d + 6) 123 210 [some (vR 0), some (vI x), some (vI y)] [some (vR 56), some (vI x), some (vI y), none, none] G I J := by
  obtain ⟨hG, hRW, hc, hi, hk⟩ := id hV
  obtain ⟨hN, hF, hR, hT, hC, hW, hL, hM⟩ := id hRW
  have f2 := hC.1
  unfold Cl
  refine b_X11_board_0 hG (fun q1 => b_X11_board_16 hG (fun q2 => b_X11_board_29 hG ⟨_, b, rfl, hG, ⟨rfl, rfl⟩, ?w⟩) (fun q2 => b_X11_board_20 hG (sp_within hG (fun x0 x1 => b_X11_board_26 hG (fun _ => b_X11_board_31 hG (b_X0_callOn_0 hG (lp_callOn hG hF hC ⟨x0, x1⟩ (fun z z0 z1 h1 h2 hz => b_X11_board_42 hG ⟨_, b, rfl, hG, ⟨rfl, rfl⟩, ?has⟩) (fun hz => b_X11_board_42 hG ⟨_, b, rfl, hG, ⟨rfl, rfl⟩, ?no⟩) (I 20 0).toNat 0 (by omega) (by omega) (fun k k0 k1 => by omega)))) (fun q => absurd q (by decide))) (fun q => b_X11_board_26 hG (fun q => absurd rfl q) (fun _ => b_X11_board_29 hG ⟨_, b, rfl, hG, ⟨rfl, rfl⟩, ?l⟩))))) (fun q1 => b_X11_board_5 hG (b_X0_cordsUsed_0 hG (lp_cordsUsed (d := d + 3) hG hF hC (b_X11_board_15 hG ⟨_, b, rfl, hG, ⟨rfl, rfl⟩, ?c⟩) (I 20 0).toNat 0 0 (by omega) (by omega) rfl (by omega) (by omega))))
  case w =>
    unfold Md
    exact b_X12_board_0 hG (sp_in hG (fun _ _ => absurd q2 (by omega)) (fun _ => b_X12_board_6 hG (fun _ => b_X12_board_20 hG ⟨rfl, b, hV, rfl, rfl⟩) (fun q => absurd rfl q)))
  case l =>
    unfold Md
    exact b_X12_board_0 hG (sp_in hG (fun _ _ => b_X12_board_6 hG (fun q => absurd q (by decide)) (fun _ => b_X12_board_9 hG (fun q3 => absurd q2 q3) (fun _ => b_X12_board_13 hG (sp_isLine hG (fun _ _ => absurd q (by omega)) (fun _ => b_X12_board_17 hG (fun q => absurd rfl q) (fun _ => b_X12_board_20 hG ⟨rfl, b, hV, rfl, rfl⟩)))))) (fun q => absurd q (by omega)))
  case c =>
    unfold Md
    refine b_X12_board_0 hG (sp_in hG (fun _ _ => b_X12_board_6 hG (fun q => absurd q (by decide)) (fun _ => b_X12_board_9 hG (fun _ => b_X12_board_22 hG (lp_boardM (d := d + 3) hG hF hC (fun _ h => absurd h (by omega)) (fun h => absurd h (by omega)) (fun _ => ⟨?_, b, hV, rfl, rfl⟩) (I 57 2).toNat 0 0 (by omega) (by omega) (fun _ => rfl) (by omega) (by omega) (fun h => absurd h (by omega)))) (fun q => absurd q (by omega)))) (fun q => absurd q (by omega)))
    rw [f2.2.2]
  case has =>
    unfold Md
    refine b_X12_board_0 hG (sp_in hG (fun _ _ => b_X12_board_6 hG (fun q => absurd q (by decide)) (fun _ => b_X12_board_9 hG (fun q3 => absurd q2 q3) (fun _ => b_X12_board_13 hG (sp_isLine hG (fun _ _ => b_X12_board_17 hG (fun _ => b_X12_board_22 hG (lp_boardM (d := d + 3) hG hF hC (fun z' _ z0' z1' h1' h2' hz' => ⟨?_, b, hV, rfl, rfl⟩) (fun _ hz' => absurd ⟨h1, h2⟩ (hz' z z0 z1)) (fun h => absurd q2 h) (I 57 2).toNat 0 0 (by omega) (by omega) (fun h => absurd q2 h) (by omega) (by omega) (fun _ k k0 k1 => by omega))) (fun q => absurd q (by decide))) (fun q => absurd q (by omega)))))) (fun q => absurd q (by omega)))
    have : z' = z := by
      by_cases h : z' < z
      · exact absurd ⟨h1', h2'⟩ (hz z' z0' h)
      · by_cases h' : z < z'
        · exact absurd ⟨h1, h2⟩ (hz' z z0 h')
        · omega
    rw [this]
  case no =>
    unfold Md
    exact b_X12_board_0 hG (sp_in hG (fun _ _ => b_X12_board_6 hG (fun q => absurd q (by decide)) (fun _ => b_X12_board_9 hG (fun q3 => absurd q2 q3) (fun _ => b_X12_board_13 hG (sp_isLine hG (fun _ _ => b_X12_board_17 hG (fun _ => b_X12_board_22 hG (lp_boardM (d := d + 3) hG hF hC (fun z' _ z0' z1' h1' h2' hz' => absurd ⟨h1', h2'⟩ (hz z' z0' z1')) (fun _ hz' => ⟨rfl, b, hV, rfl, rfl⟩) (fun h => absurd q2 h) (I 57 2).toNat 0 0 (by omega) (by omega) (fun h => absurd q2 h) (by omega) (by omega) (fun _ k k0 k1 => by omega))) (fun q => absurd q (by decide))) (fun q => absurd q (by omega)))))) (fun q => absurd q (by omega)))
theorem bit01x {x f : Int} (hf : 0 ≤ f ∧ f < 32) : bAnd (bShr x f) 1 = 0 ∨ bAnd (bShr x f) 1 = 1 := by
  obtain ⟨n, rfl⟩ := Int.eq_ofNat_of_zero_le hf.1
  rw [bit32 (by omega)]
  split
  · exact Or.inr rfl
  · exact Or.inl rfl
theorem sp_lineBit {x : Int} (hG : GW b G) (h0 : 0 ≤ x) (h1 : x < I 2 0) (h2 : x < 12) (k : Q (some (vI (bShl 1 (I 3 x)))) G I J) : At (d + 1) 43 0 [some (vR 2), some (vI x)] [] G I J Q :=
  b_X4_lineBit_0 hG (sp_X4_has hG (fun _ _ => b_X4_lineBit_5 hG (fun q => absurd q (by decide)) (fun _ => b_X4_lineBit_8 hG h0 h2 k)) (fun q => absurd q (by omega)))
theorem cs_15 {x y : Int} (hV : LV b G I J) : Cl (d + 6) 124 212 [some (vR 0), some (vI x), some (vI y)] [some (vR 56), some (vI x), some (vI y)] G I J := by
  obtain ⟨hG, hRW, hc, hi, hk⟩ := id hV
  obtain ⟨hN, hF, hR, hT, hC, hW, hL, hM⟩ := id hRW
  have f0 := hF.1
  have f2 := hC.1
  have m0 : 0 ≤ I 57 0 ∧ I 57 0 ≤ 12 := ⟨f0.1, f0.2.1⟩
  have m1 : 0 ≤ I 57 2 ∧ I 57 2 ≤ 60 := ⟨f2.1, f2.2.1⟩
  unfold Cl
  -- the model, where it may not be
  have no : (0 ≤ x ∧ x < I 57 0) → (0 ≤ y ∧ y < I 57 2) → ¬ (I 29 y = 1 ∧ needF I y (I 3 x) ∧ bAnd (bShr (bOr (inF I y) (I 30 y)) x) 1 = 0) → Md (d + 6) 212 [some (vR 56), some (vI x), some (vI y)] (-3) G I J := by
    intro hx hy hn
    obtain ⟨⟨g, e1, e2, e3, e4, e5, e6, e7, e8⟩, _⟩ := cll hF hC hy.1 hy.2
    have hb := bit01x (x := bOr (inF I y) (I 30 y)) (f := x) (by omega)
    have ef := (hF.2.1 x hx.1 hx.2).1.1
    unfold Md
    refine b_X12_listen_0 hG (sp_isFarm hG m0 (fun _ _ => b_X12_listen_5 hG (fun q => absurd q (by decide)) (fun _ => b_X12_listen_8 hG (sp_isCall hG m1 (fun _ _ => b_X12_listen_13 hG (fun _ => b_X12_listen_18 hG (rdc hG hy.1 g (by decide) (by decide) (b_X12_listen_24 hG (fun _ => b_X12_listen_63 hG ⟨rfl, b, hV, rfl, rfl⟩) (fun q => b_X12_listen_28 hG (sp_inCallM (d := d + 3) hG hF hC hy.1 hy.2 (b_X12_listen_33 hG (rdc hG hy.1 g (by decide) (by decide) (b_X12_listen_40 hG (fun _ => b_X12_listen_63 hG ⟨rfl, b, hV, rfl, rfl⟩) (fun q2 => b_X12_listen_49 hG (rdf hG hx.1 (by omega) (by decide) (by decide) (b_X12_listen_57 hG (sp_needs (d := d + 3) hG hF hC hy.1 hy.2 (fun h => ?_) (fun h => b_X12_listen_60 hG (fun q => absurd rfl q) (fun _ => b_X12_listen_63 hG ⟨rfl, b, hV, rfl, rfl⟩)))))))))))))) (fun q => absurd q (by decide))) (fun q => absurd q (by omega))))) (fun q => absurd q (by omega)))
    rw [e6] at q
    rw [e8] at q2
    rw [← ef] at h
    exact absurd ⟨q, h, hb.resolve_right q2⟩ hn
  refine b_X11_listen_0 hG (sp_X4_has hG (fun x0 x1 => b_X11_listen_11 hG (fun q => absurd q (by decide)) (fun _ => b_X11_listen_14 hG (sp_X0_has hG (fun y0 y1 => b_X11_listen_25 hG (fun _ => b_X11_listen_30 hG (b_X0_mayTakeUp_0 hG y0 (by omega) (fun q => b_X0_mayTakeUp_25 hG (b_X11_listen_49 hG (fun q => absurd rfl q) (fun _ => b_X11_listen_52 hG ⟨_, b, rfl, hG, ⟨rfl, rfl⟩, no ⟨x0, by omega⟩ ⟨y0, by omega⟩ (fun h => q h.1)⟩))) (fun q => b_X0_mayTakeUp_10 hG y0 (by omega) (sp_lineBit hG x0 x1 (by omega) (b_X0_mayTakeUp_21 hG (fun q2 => b_X0_mayTakeUp_27 hG (sp_inCall (d := d + 2) hG hF hC y0 (by omega) (b_X0_mayTakeUp_33 hG y0 (by omega) (fun q3 => b_X0_mayTakeUp_51 hG (b_X11_listen_49 hG (fun q => absurd rfl q) (fun _ => b_X11_listen_52 hG ⟨_, b, rfl, hG, ⟨rfl, rfl⟩, no ⟨x0, by omega⟩ ⟨y0, by omega⟩ (fun h => q3 h.2.2)⟩))) (fun q3 => b_X0_mayTakeUp_47 hG (b_X11_listen_49 hG (fun _ => b_X11_listen_55 hG y0 (by omega) ?up) (fun q => absurd q (by decide))))))) (fun q2 => b_X0_mayTakeUp_25 hG (b_X11_listen_49 hG (fun q => absurd rfl q) (fun _ => b_X11_listen_52 hG ⟨_, b, rfl, hG, ⟨rfl, rfl⟩, no ⟨x0, by omega⟩ ⟨y0, by omega⟩ (fun h => ?nn)⟩)))))))) (fun q => absurd q (by decide))) (fun q => b_X11_listen_25 hG (fun q => absurd rfl q) (fun _ => b_X11_listen_28 hG ⟨_, b, rfl, hG, ⟨rfl, rfl⟩, ?n2⟩))))) (fun q => b_X11_listen_11 hG (fun _ => b_X11_listen_28 hG ⟨_, b, rfl, hG, ⟨rfl, rfl⟩, ?n1⟩) (fun q => absurd rfl q)))
  case nn =>
    have hl := (hF.2.1 x x0 (by omega)).2
    exact ((nd_bit hF hC y0 (by omega) (l := I 3 x) (by omega)).1 h.2.1).2 q2
  case n2 =>
    unfold Md
    exact b_X12_listen_0 hG (sp_isFarm hG m0 (fun _ _ => b_X12_listen_5 hG (fun q => absurd q (by decide)) (fun _ => b_X12_listen_8 hG (sp_isCall hG m1 (fun _ _ => absurd q (by omega)) (fun _ => b_X12_listen_13 hG (fun q => absurd rfl q) (fun _ => b_X12_listen_16 hG ⟨rfl, b, hV, rfl, rfl⟩))))) (fun q => absurd q (by omega)))
  case n1 =>
    unfold Md
    exact b_X12_listen_0 hG (sp_isFarm hG m0 (fun _ _ => absurd q (by omega)) (fun _ => b_X12_listen_5 hG (fun _ => b_X12_listen_16 hG ⟨rfl, b, hV, rfl, rfl⟩) (fun q => absurd rfl q)))
  case up =>
    have hl := (hF.2.1 x x0 (by omega)).2
    have hnd : needF I y (I 3 x) := Classical.byContradiction fun h => q2 ((nd_bit hF hC y0 (by omega) (l := I 3 x) (by omega)).2 h).2
    obtain ⟨⟨g, e1, e2, e3, e4, e5, e6, e7, e8⟩, _, _, _, _, _, _, h7, _⟩ := cll hF hC y0 (by omega)
    have ef := (hF.2.1 x x0 (by omega)).1.1
    obtain ⟨b1, b2, b3⟩ := bset (n := 12) (x := I 30 y) (s := x) (by decide) h7.1 h7.2 x0 (by omega)
    generalize hv : bOr (I 30 y) (bShl 1 x) = v at *
    generalize hX : mset I 30 y v = I1
    have e30 : I1 30 y = v := by rw [← hX, mset_at]
    have e57 : I1 57 = I 57 := by rw [← hX]; rfl
    have hRC1 : RelC I1 J (sset (I 57) ((1312 + (8 * y)) + 7) v) := by
      refine hC.tap (v := v) ⟨y0, by omega⟩ ⟨b1, b2⟩ (fun a ha h => ?_) ?_ rfl
      · rw [← hX, mset_o h]
      · rw [← hX, mset_s]
    have u0 : I1 57 0 = I 57 0 := by rw [e57]
    have u2 : I1 57 2 = I 57 2 := by rw [e57]
    rw [e30]
    refine sp_J6 hG b1 b2 (b_X11_listen_88 hG ⟨_, b, rfl, hG, ?_, ?_⟩)
    · rw [← hX]
      exact ⟨rfl, rfl⟩
    unfold Md
    have hF1 : RelF I (I1 57) := by rw [e57]; exact hF
    have hC1 : RelC I J (I1 57) := by rw [e57]; exact hC
    have e57' := congrFun e57
    refine b_X12_listen_0 hG (sp_isFarm hG (by omega) (fun _ _ => b_X12_listen_5 hG (fun q => absurd q (by decide)) (fun _ => b_X12_listen_8 hG (sp_isCall hG (by omega) (fun _ _ => b_X12_listen_13 hG (fun _ => b_X12_listen_18 hG (rdc hG y0 g (by decide) (by decide) (b_X12_listen_24 hG (fun h => absurd (show I1 57 ((1312 + (8 * y)) + 5) = 1 by rw [e57, e6]; exact q) h) (fun _ => b_X12_listen_28 hG (sp_inCallM (d := d + 3) hG hF1 hC1 y0 (by omega) (b_X12_listen_33 hG (rdc hG y0 g (by decide) (by decide) (b_X12_listen_40 hG (fun h => ?_) (fun _ => b_X12_listen_49 hG (rdf hG x0 (by omega) (by decide) (by decide) (b_X12_listen_57 hG (sp_needs (d := d + 3) hG hF1 hC1 y0 (by omega) (fun _ => b_X12_listen_60 hG (fun _ => b_X12_listen_66 hG (by unfold ok32; omega) (by unfold ok32; omega) (by unfold ok32; omega) (by omega) (by omega) (rdc hG y0 g (by decide) (by decide) (b_X12_listen_95 hG ?_))) (fun q => absurd q (by decide))) (fun h => ?_))))))))))))) (fun q => absurd q (by decide))) (fun q => absurd q (by omega))))) (fun q => absurd q (by omega)))
    · rw [e57, e8] at h
      omega
    · rw [mset_at, e57, e8, hv]
      refine sp_bitsOf hG b1 b2 (b_X12_listen_98 hG ⟨rfl, b, ?_⟩)
      rw [← hX]
      have hfin := hV.of (I2 := mset (mset I 30 y v) 57 ((1312 + (8 * y)) + 7) v) (J2 := J) (hRW.ofC (fun a ha h => ?_) (fun a ha h => rfl) (fun i hi => ?_) (hC.tap (v := v) ⟨y0, by omega⟩ ⟨b1, b2⟩ (fun a ha h => ?_) ?_ ?_)) (fun a k ha hb' hs => ?_) (fun _ _ => rfl)
      · exact hfin
      · simp (disch := omega) only [mset_at, mset_n, mset_o, sset_at, sset_n]
      · simp (disch := omega) only [mset_at, mset_n, mset_o, sset_at, sset_n]
      · simp (disch := omega) only [mset_at, mset_n, mset_o, sset_at, sset_n]
      · rw [mset_o (show 30 ≠ 57 by decide), mset_s]
      · rw [mset_s, mset_o (show 57 ≠ 30 by decide)]
      · simp (disch := omega) only [mset_at, mset_n, mset_o, sset_at, sset_n]
    · rw [e57, ← ef] at h
      exact absurd hnd h
end SM
