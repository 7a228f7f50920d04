/-! the call divide -/
section SM
variable {d : Nat} {b : Bool} {G : aG} {I J : aI} {Q : Option aV → aG → aI → aI → Prop} {n m : Int} {I0 : aI}
/-- the class's cells while it fills in calls and foes -/
def DI (I0 : aI) (n m y z : Int) (I : aI) : Prop := (∀ a, a ≠ 51 → a ≠ 54 → a ≠ 55 → I a = I0 a) ∧ I 51 2 = n ∧ I 51 3 = m ∧ (∀ k, 0 ≤ k → (k < y ∨ (k = y ∧ 0 < z)) → I 55 k = I0 8 k) ∧ (∀ k i, 0 ≤ i → i < k → (k < y ∨ (k = y ∧ i < z - 1)) → I 54 (7 * k + i) = betN I0 k i)
theorem lp_dfill2 {y : Int} (hG : GW b G) (hr : 0 ≤ I0 20 0 ∧ I0 20 0 ≤ 60) (hn : 0 ≤ y ∧ y < n ∧ n ≤ 7) (K : ∀ I', DI I0 n m (y + 1) 0 I' → ∀ u, At (d + 1) 27 18 [some (vR 51), some (vR 1), some (vI n), some (vI m), some (vI (y + 1)), u] [] G I' J Q) : ∀ (j : Nat) (z : Int) (I : aI), 0 ≤ z → z + j = y → DI I0 n m y (z + 1) I → At (d + 1) 27 47 [some (vR 51), some (vR 1), some (vI n), some (vI m), some (vI y), some (vI z)] [] G I J Q
  | 0, z, I, h0, h1, hs => by
    refine b_X2_search_47 hG (fun _ => b_X2_search_84 hG (by unfold ok32; omega) (K I ⟨hs.1, hs.2.1, hs.2.2.1, fun k k0 k1 => hs.2.2.2.1 k k0 (by omega), fun k i i0 i1 k1 => hs.2.2.2.2 k i i0 i1 (by omega)⟩ _)) (fun q => absurd q (by omega))
  | j + 1, z, I, h0, h1, hs => by
    obtain ⟨s1, s2, s3, s4, s5⟩ := hs
    refine b_X2_search_47 hG (fun q => absurd q (by omega)) (fun _ => b_X2_search_54 hG (by unfold ok32; omega) (by unfold ok32; omega) (sp_between hG (by rw [s1 20 (by decide) (by decide) (by decide)]; exact hr) (b_X2_search_77 hG (by omega) (by omega) (by unfold ok32; omega) ?_)))
    have eb : betN I y z = betN I0 y z := by
      unfold betN betF
      rw [s1 20 (by decide) (by decide) (by decide), s1 22 (by decide) (by decide) (by decide), s1 23 (by decide) (by decide) (by decide)]
    rw [eb]
    refine lp_dfill2 hG hr hn K j (z + 1) _ (by omega) (by omega) ⟨fun a a1 a2 a3 => by rw [mset_o a2, s1 a a1 a2 a3], by rw [mset_o (by decide), s2], by rw [mset_o (by decide), s3], fun k k0 k1 => ?_, fun k i i0 i1 k1 => ?_⟩
    · rw [mset_o (by decide)]
      exact s4 k k0 (by omega)
    · by_cases e : k = y ∧ i = z
      · rw [e.1, e.2, mset_at]
      · rw [mset_n (by omega)]
        exact s5 k i i0 i1 (by omega)
theorem lp_dfill {u : Option aV} (hG : GW b G) (hr : 0 ≤ I0 20 0 ∧ I0 20 0 ≤ 60) (hn : 0 ≤ n ∧ n ≤ 7) (K : ∀ I', DI I0 n m n 0 I' → ∀ u, At (d + 1) 27 90 [some (vR 51), some (vR 1), some (vI n), some (vI m), some (vI n), u] [] G I' J Q) : ∀ (j : Nat) (y : Int) (I : aI) (u : Option aV), 0 ≤ y → y + j = n → DI I0 n m y 0 I → At (d + 1) 27 18 [some (vR 51), some (vR 1), some (vI n), some (vI m), some (vI y), u] [] G I J Q
  | 0, y, I, u, h0, h1, hs => by
    have e2 := hs.2.1
    have e : y = n := by omega
    rw [e] at hs ⊢
    exact b_X2_search_18 hG (fun _ => K I hs u) (fun q => absurd q (by omega))
  | j + 1, y, I, u, h0, h1, hs => by
    have e2 := hs.2.1
    refine b_X2_search_18 hG (fun q => absurd q (by omega)) (fun _ => b_X2_search_27 hG h0 (by omega) (by omega) (lp_dfill2 hG hr (by omega) (fun I' hs' u' => lp_dfill (u := u) hG hr hn K j (y + 1) I' u' (by omega) (by omega) hs') y.toNat 0 _ (by decide) (by omega) ?_))
    obtain ⟨s1, s2, s3, s4, s5⟩ := hs
    refine ⟨fun a a1 a2 a3 => by rw [mset_o a3, s1 a a1 a2 a3], by rw [mset_o (by decide), s2], by rw [mset_o (by decide), s3], fun k k0 k1 => ?_, fun k i i0 i1 k1 => ?_⟩
    · rw [mset_a, s1 8 (by decide) (by decide) (by decide)]
      split
      · rename_i e
        rw [e]
      · exact s4 k k0 (by omega)
    · rw [mset_o (by decide)]
      exact s5 k i i0 i1 (by omega)
def foeF (S : Int → Int) (i k : Int) : Int := S ((2142 + (12 * i)) + k)
theorem itL_le {g : Int → (Int × (Int → Int)) → Int × (Int → Int)} (h : ∀ l s, s.1 ≤ 100000 → (g l s).1 ≤ 100000) : ∀ (j : Nat) (l : Int) (s : Int × (Int → Int)), s.1 ≤ 100000 → (itL g j l s).1 ≤ 100000
  | 0, _, _, hs => hs
  | j + 1, l, s, hs => itL_le h j (l + 1) (g l s) (h l s hs)
theorem dv_le {W F : Int → Int → Int} {m : Int} : ∀ (f : Nat) (k : Int) (r : Int → Int) (w : Int) (s : Int × (Int → Int)), s.1 ≤ 100000 → (dv W F m f k r w s).1 ≤ 100000
  | 0, k, r, w, s, hs => by
    unfold dv
    split
    · exact hs
    · show w ≤ 100000
      omega
  | f + 1, k, r, w, s, hs => by
    unfold dv
    split
    · exact hs
    · refine itL_le (fun l s hs => ?_) _ _ _ hs
      split
      · exact hs
      · exact dv_le f _ _ _ _ hs
/-- the outcome of the search -/
noncomputable def dvE (A : aI) (S : Int → Int) (n m : Int) : Int × (Int → Int) := dv (betN A) (foeF S) m n.toNat 0 (fun _ => 0) 0 (100000, fun _ => 0)
theorem df_of {A B : aI} {S : Int → Int} (hF : RelF A S) (hC : RelC A B S) (hn : 1 ≤ n ∧ n ≤ 7) (hm : 0 ≤ m ∧ m ≤ 3) {I : aI} (h : DI A n m n 0 I) {I1 : aI} (h51 : ∀ j, j ≠ 0 → I1 51 j = I 51 j) (h1 : ∀ a, a ≠ 51 → I1 a = I a) : DF (betN A) (foeF S) n m I1 := by
  obtain ⟨s1, s2, s3, s4, s5⟩ := h
  refine ⟨by omega, by rw [h51 2 (by decide), s2], by rw [h51 3 (by decide), s3], fun i k => betN_r (by have := hC.1; omega), fun k i i0 i1 k1 => ⟨?_, ?_⟩⟩
  · rw [h1 54 (by decide), s5 k i i0 i1 (by omega), betN_c]
  · rw [h1 55 (by decide), s4 k (by omega) (by omega)]
    obtain ⟨e1, e2, e3⟩ := (hF.2.2.2 k (by omega) (by omega))
    obtain ⟨q1, q2, q3⟩ := e3 i (by omega) (by omega)
    unfold foeF
    rw [q2, q3]
theorem sp_search {B : aI} {S : Int → Int} (hG : GW b G) (hF : RelF I S) (hC : RelC I B S) (hn : 1 ≤ n ∧ n ≤ 7) (hm : 0 ≤ m ∧ m ≤ 3) (kn : ∀ I', (∀ a, a < 51 ∨ 55 < a → I' a = I a) → (dvE I S n m).1 = 100000 → Q (some (vI 0)) G I' J) (ky : ∀ I', (∀ a, a < 51 ∨ 55 < a → I' a = I a) → (dvE I S n m).1 < 100000 → I' 51 0 = (dvE I S n m).1 → (∀ i, 0 ≤ i → i < n → I' 52 i = (dvE I S n m).2 i) → Q (some (vI 1)) G I' J) : At (d + 15) 27 0 [some (vR 51), some (vR 1), some (vI n), some (vI m), none, none] [] G I J Q := by
  have f2 := hC.1
  refine b_X2_search_0 hG ?_
  rw [show min n 7 = n by omega]
  refine lp_dfill (I0 := I) (u := none) hG (by omega) (by omega) (fun I1 hs u => ?_) n.toNat 0 _ none (by decide) (by omega) ⟨fun a a1 a2 a3 => by rw [mset_o a1, mset_o a1], by rw [mset_n (by decide), mset_at], by rw [mset_at], fun k k0 k1 => by omega, fun k i i0 i1 k1 => by omega⟩
  refine b_X2_search_90 hG ?_
  have hD := df_of hF hC hn hm hs (I1 := mset I1 51 0 1000000) (fun j hj => mset_n hj) (fun a ha => mset_o ha)
  rw [show d + 14 = (d + (14 - 2 * n.toNat)) + 2 * n.toNat by omega]
  refine dc_choose hG hD n.toNat _ 0 0 (fun _ => 0) (100000, fun _ => 0) _ _ (by omega) (by decide) (by decide) (by decide) ⟨fun _ _ _ _ => rfl, fun _ _ => rfl, Or.inl ⟨mset_at, rfl⟩⟩ (fun i i0 i1 => by omega) (fun I' hs' hr' => ?_)
  rw [show (d + (14 - 2 * n.toNat)) + 2 * n.toNat + 1 = d + 15 by omega]
  have hk : ∀ a, a < 51 ∨ 55 < a → I' a = I a := fun a ha => by
    rw [hs'.1 a (by omega) (by omega) (by omega), mset_o (by omega), hs.1 a (by omega) (by omega) (by omega)]
  obtain ⟨e1, e2⟩ | ⟨e1, e2, e3⟩ := hs'.2.2
  · exact b_X2_search_102 hG (fun _ => b_X2_search_115 hG (kn I' hk e2)) (fun q => absurd q (by omega))
  · exact b_X2_search_102 hG (fun q => absurd q (by omega)) (fun _ => b_X2_search_111 hG (ky I' hk e2 e1 e3))
/-- the model's cells while it fills in what was asked -/
def MI (A I0 : aI) (n y z : Int) (I : aI) : Prop := (∀ a, a ≠ 62 → I a = I0 a) ∧ ∀ k i, 0 ≤ i → i < n → 0 ≤ k → (k < y ∨ (k = y ∧ i < z)) → I 62 (12 * k + i) = betN A k i
theorem lp_mfill2 {A B : aI} {x y : Int} (hG : GW b G) (hF : RelF A (I0 57)) (hC : RelC A B (I0 57)) (hn : 0 ≤ y ∧ y < n ∧ n ≤ 7) (K : ∀ I', MI A I0 n (y + 1) 0 I' → ∀ u, At (d + 2) 231 51 [some (vR 56), some (vI n), some (vI m), some (vI x), some (vI (y + 1)), u] [] G I' J Q) : ∀ (j : Nat) (z : Int) (I : aI), 0 ≤ z → z + j = n → MI A I0 n y z I → At (d + 2) 231 60 [some (vR 56), some (vI n), some (vI m), some (vI x), some (vI y), some (vI z)] [] G I J Q
  | 0, z, I, h0, h1, hs => b_X12_divide_60 hG (fun _ => b_X12_divide_93 hG (by unfold ok32; omega) (K I ⟨hs.1, fun k i i0 i1 k0 k1 => hs.2 k i i0 i1 k0 (by omega)⟩ _)) (fun q => absurd q (by omega))
  | j + 1, z, I, h0, h1, hs => by
    obtain ⟨s1, s2⟩ := hs
    have e57 := s1 57 (by decide)
    refine b_X12_divide_60 hG (fun q => absurd q (by omega)) (fun _ => b_X12_divide_66 hG (by unfold ok32; omega) (by unfold ok32; omega) (sp_asked (A := A) (B := B) hG (by rw [e57]; exact hF) (by rw [e57]; exact hC) (by omega) (by omega) (b_X12_divide_86 hG (by omega) (by omega) (by unfold ok32; omega) ?_)))
    refine lp_mfill2 hG hF hC hn K j (z + 1) _ (by omega) (by omega) ⟨fun a a1 => by rw [mset_o a1, s1 a a1], fun k i i0 i1 k0 k1 => ?_⟩
    by_cases e : k = y ∧ i = z
    · rw [e.1, e.2, mset_at]
    · rw [mset_n (by omega)]
      exact s2 k i i0 i1 k0 (by omega)
theorem lp_mfill {A B : aI} {x : Int} (hG : GW b G) (hF : RelF A (I0 57)) (hC : RelC A B (I0 57)) (hn : 0 ≤ n ∧ n ≤ 7) (K : ∀ I', MI A I0 n n 0 I' → ∀ u, At (d + 2) 231 99 [some (vR 56), some (vI n), some (vI m), some (vI x), some (vI n), u] [] G I' J Q) : ∀ (j : Nat) (y : Int) (I : aI) (u : Option aV), 0 ≤ y → y + j = n → MI A I0 n y 0 I → At (d + 2) 231 51 [some (vR 56), some (vI n), some (vI m), some (vI x), some (vI y), u] [] G I J Q
  | 0, y, I, u, h0, h1, hs => by
    have e : y = n := by omega
    rw [e] at hs ⊢
    exact b_X12_divide_51 hG (fun _ => K I hs u) (fun q => absurd q (by omega))
  | j + 1, y, I, u, h0, h1, hs => b_X12_divide_51 hG (fun q => absurd q (by omega)) (fun _ => b_X12_divide_57 hG (lp_mfill2 hG hF hC (by omega) (fun I' hs' u' => lp_mfill hG hF hC hn K j (y + 1) I' u' (by omega) (by omega) hs') n.toNat 0 I (by decide) (by omega) hs))
theorem sp_divM {A B : aI} {x : Int} (hG : GW b G) (hF : RelF A (I 57)) (hC : RelC A B (I 57)) (hn : 1 ≤ n ∧ n ≤ 7) (hm : 0 ≤ m ∧ m ≤ 3) (hx : x = -1 ∨ (0 ≤ x ∧ x < n)) {u : Option aV} (K : ∀ I', (∀ a, a ≠ 56 → a ≠ 58 → a ≠ 59 → a ≠ 62 → I' a = I a) → (∀ j, j ≠ 4 → I' 56 j = I 56 j) → Q (some (vI (if (dvE A (I 57) n m).1 = 100000 then -5 else if x = -1 then (dvE A (I 57) n m).1 else (dvE A (I 57) n m).2 x))) G I' J) : At (d + 15) 231 48 [some (vR 56), some (vI n), some (vI m), some (vI x), none, u] [] G I J Q := by
  refine b_X12_divide_48 hG (lp_mfill hG hF hC (by omega) (fun I1 hs u => b_X12_divide_99 hG ?_) n.toNat 0 I u (by decide) (by omega) ⟨fun _ _ => rfl, fun k i i0 i1 k0 k1 => by omega⟩)
  have hD : DFM (betN A) (foeF (I 57)) n m (mset I1 56 4 100000) := by
    refine ⟨by omega, fun i k => betN_r (by have := hC.1; omega), fun k i i0 i1 k1 => ⟨?_, ?_⟩⟩
    · rw [mset_o (by decide), hs.2 i k (by omega) (by omega) (by omega) (by omega)]
    · rw [mset_o (by decide), hs.1 57 (by decide)]
      rfl
  rw [show d + 14 = (d + (14 - n.toNat)) + n.toNat by omega]
  refine pm_part hG hD n.toNat _ 0 0 (fun _ => 0) (100000, fun _ => 0) _ _ (by omega) (by decide) (by decide) (by decide) ⟨fun _ _ _ _ => rfl, fun _ _ => rfl, mset_at, fun q => absurd q (by decide)⟩ (fun i i0 i1 => by omega) (fun I' hs' hr' => ?_)
  rw [show (d + (14 - n.toNat)) + n.toNat + 1 = d + 15 by omega]
  obtain ⟨t1, t2, t3, t4⟩ := hs'
  have K' := K I' (fun a a1 a2 a3 a4 => by rw [t1 a a1 a2 a3, mset_o a1, hs.1 a a4]) (fun j hj => by rw [t2 j hj, mset_n hj, hs.1 56 (by decide)])
  change I' 56 4 = (dvE A (I 57) n m).1 at t3
  change (dvE A (I 57) n m).1 < 100000 → ∀ i, 0 ≤ i → i < n → I' 59 i = (dvE A (I 57) n m).2 i at t4
  have tle : (dvE A (I 57) n m).1 ≤ 100000 := dv_le _ _ _ _ _ (by decide)
  refine b_X12_divide_113 hG (fun q => b_X12_divide_127 hG (fun q2 => b_X12_divide_139 hG (by omega) (by omega) ?_) (fun q2 => b_X12_divide_132 hG ?_)) (fun q => b_X12_divide_122 hG ?_)
  · rw [if_neg (by omega), if_neg q2, ← t4 (by omega) x (by omega) (by omega)] at K'
    exact K'
  · rw [if_neg (by omega), if_pos q2, ← t3] at K'
    exact K'
  · rw [if_pos (by omega)] at K'
    exact K'
theorem cs_27 {n m x : Int} (hV : LV b G I J) : Cl (d + 16) 136 231 [some (vR 0), some (vI n), some (vI m), some (vI x)] [some (vR 56), some (vI n), some (vI m), some (vI x), none, none] G I J := by
  obtain ⟨hG, hRW, hc, hi, hk⟩ := id hV
  obtain ⟨hN, hF, hR, hT, hC, hW, hL, hM⟩ := id hRW
  have f0 := hF.1
  unfold Cl
  have fine : (x = -1 ∨ (0 ≤ x ∧ x < n)) → At (d + 16) 136 16 [some (vR 0), some (vI n), some (vI m), some (vI x)] [] G I J (fun v G2 I2 J2 => ∃ x' b, v = some (vI x') ∧ GW b G2 ∧ Sc I I2 ∧ Md (d + 16) 231 [some (vR 56), some (vI n), some (vI m), some (vI x), none, none] x' G2 I2 J2) := fun hx => by
    have skip : ∀ (Q : Option aV → aG → aI → aI → Prop) (I : aI), At (d + 16) 231 16 [some (vR 56), some (vI n), some (vI m), some (vI x), none, none] [] G I J Q → At (d + 16) 231 0 [some (vR 56), some (vI n), some (vI m), some (vI x), none, none] [] G I J Q := fun Q I h => b_X12_divide_0 hG (fun _ => h) (fun q => b_X12_divide_5 hG (fun q2 => absurd q2 (by omega)) (fun q2 => b_X12_divide_9 hG (fun _ => h) (fun q3 => absurd q3 (by omega))))
    refine b_X11_divide_16 hG (sp_within hG (fun n0 n1 => b_X11_divide_36 hG (fun q => absurd q (by decide)) (fun _ => b_X11_divide_39 hG (sp_within hG (fun m0 m1 => b_X11_divide_45 hG (fun _ => b_X11_divide_51 hG ?go) (fun q => absurd q (by decide))) (fun qm => b_X11_divide_45 hG (fun q => absurd rfl q) (fun _ => b_X11_divide_48 hG ⟨_, b, rfl, hG, ⟨rfl, rfl⟩, ?badm⟩))))) (fun qn => b_X11_divide_36 hG (fun _ => b_X11_divide_48 hG ⟨_, b, rfl, hG, ⟨rfl, rfl⟩, ?badn⟩) (fun q => absurd rfl q)))
    case badn =>
      unfold Md
      refine skip _ _ (b_X12_divide_16 hG (sp_in hG (fun _ _ => b_X12_divide_23 hG (fun q => absurd q (by decide)) (fun _ => b_X12_divide_26 hG (fun _ => b_X12_divide_45 hG ⟨rfl, b, hV, rfl, rfl⟩) (fun q => absurd q (by omega)))) (fun _ => b_X12_divide_23 hG (fun _ => b_X12_divide_45 hG ⟨rfl, b, hV, rfl, rfl⟩) (fun q => absurd rfl q))))
    case badm =>
      unfold Md
      refine skip _ _ (b_X12_divide_16 hG (sp_in hG (fun _ _ => b_X12_divide_23 hG (fun q => absurd q (by decide)) (fun _ => b_X12_divide_26 hG (fun q => absurd q (by omega)) (fun _ => b_X12_divide_36 hG (sp_in hG (fun _ _ => absurd qm (by omega)) (fun _ => b_X12_divide_42 hG (fun q => absurd rfl q) (fun _ => b_X12_divide_45 hG ⟨rfl, b, hV, rfl, rfl⟩)))))) (fun _ => absurd n0 (by omega))))
    case go =>
      have model : ∀ (I1 : aI), (∀ a, a < 51 ∨ 55 < a → I1 a = I a) → ∀ v, v = (if (dvE I (I 57) n m).1 = 100000 then -5 else if x = -1 then (dvE I (I 57) n m).1 else (dvE I (I 57) n m).2 x) → Md (d + 16) 231 [some (vR 56), some (vI n), some (vI m), some (vI x), none, none] v G I1 J := fun I1 hk1 v hv => by
        have e57 := hk1 57 (by omega)
        unfold Md
        refine skip _ _ (b_X12_divide_16 hG (sp_in hG (fun _ _ => b_X12_divide_23 hG (fun q => absurd q (by decide)) (fun _ => b_X12_divide_26 hG (fun q => absurd q (by rw [e57]; omega)) (fun _ => b_X12_divide_36 hG (sp_in hG (fun _ _ => b_X12_divide_42 hG (fun _ => ?_) (fun q => absurd q (by decide))) (fun _ => absurd m0 (by omega)))))) (fun _ => absurd n0 (by omega))))
        refine sp_divM (A := I) (B := J) (d := d + 1) hG (by rw [e57]; exact hF) (by rw [e57]; exact hC) (by omega) (by omega) hx (fun I2 k1 k2 => ⟨?_, b, hV.kp (fun a k hs => ?_), ?_, ?_⟩)
        · rw [e57, hv]
        · by_cases h56 : a = 56
          · subst h56
            have : k = 19 := by
              unfold scr at hs
              simp at hs
              omega
            rw [k2 k (by omega), hk1 56 (by omega)]
          · have na : (a < 51 ∨ 55 < a) ∧ a ≠ 58 ∧ a ≠ 59 ∧ a ≠ 62 := by
              unfold scr at hs
              simp at hs
              omega
            rw [k1 a h56 na.2.1 na.2.2.1 na.2.2.2, hk1 a na.1]
        · rw [k1 1060 (by decide) (by decide) (by decide) (by decide)]
        · rw [k1 1061 (by decide) (by decide) (by decide) (by decide)]
      refine sp_search (d := d) (B := J) (S := I 57) hG hF hC (by omega) (by omega) (fun I1 hk1 e1 => b_X11_divide_64 hG (fun q => absurd rfl q) (fun _ => b_X11_divide_67 hG ⟨_, b, rfl, hG, ⟨hk1 1060 (by omega), hk1 1061 (by omega)⟩, model I1 hk1 _ ?_⟩)) (fun I1 hk1 e1 e2 e3 => b_X11_divide_64 hG (fun _ => b_X11_divide_70 hG (fun q => b_X11_divide_84 hG q (by omega) ⟨_, b, rfl, hG, ⟨hk1 1060 (by omega), hk1 1061 (by omega)⟩, model I1 hk1 _ ?_⟩) (fun q => b_X11_divide_74 hG ⟨_, b, rfl, hG, ⟨hk1 1060 (by omega), hk1 1061 (by omega)⟩, model I1 hk1 _ ?_⟩)) (fun q => absurd q (by decide)))
      · rw [if_pos e1]
      · rw [if_neg (by omega), if_neg (by omega)]
        exact e3 x q (by omega)
      · rw [if_neg (by omega), if_pos (by omega)]
        exact e2
  have bad : ¬ x = -1 → (x < 0 ∨ n ≤ x) → At (d + 16) 136 14 [some (vR 0), some (vI n), some (vI m), some (vI x)] [] G I J (fun v G2 I2 J2 => ∃ x' b, v = some (vI x') ∧ GW b G2 ∧ Sc I I2 ∧ Md (d + 16) 231 [some (vR 56), some (vI n), some (vI m), some (vI x), none, none] x' G2 I2 J2) := fun h1 h2 => by
    refine b_X11_divide_14 hG ⟨_, b, rfl, hG, ⟨rfl, rfl⟩, ?_⟩
    unfold Md
    exact b_X12_divide_0 hG (fun q => absurd q h1) (fun _ => b_X12_divide_5 hG (fun _ => b_X12_divide_14 hG ⟨rfl, b, hV, rfl, rfl⟩) (fun q => b_X12_divide_9 hG (fun q2 => absurd q2 (by omega)) (fun _ => b_X12_divide_14 hG ⟨rfl, b, hV, rfl, rfl⟩)))
  exact b_X11_divide_0 hG (fun e => fine (Or.inl e)) (fun e => b_X11_divide_5 hG (fun q => bad e (Or.inl q)) (fun q => b_X11_divide_9 hG (fun q2 => fine (Or.inr ⟨q, q2⟩)) (fun q2 => bad e (Or.inr q2))))
end SM
