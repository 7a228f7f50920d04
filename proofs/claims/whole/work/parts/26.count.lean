/-! sums over the first places; the call count -/
def sumN (f : Int → Int) : Nat → Int
  | 0 => 0
  | n + 1 => sumN f n + f n
def sumI (f : Int → Int) (n : Int) : Int := sumN f n.toNat
theorem sumI_0 {f : Int → Int} : sumI f 0 = 0 := rfl
theorem sumI_s {f : Int → Int} {n : Int} (h : 0 ≤ n) : sumI f (n + 1) = sumI f n + f n := by
  unfold sumI
  rw [show (n + 1).toNat = n.toNat + 1 by omega]
  show sumN f n.toNat + f (n.toNat : Int) = _
  rw [Int.toNat_of_nonneg h]
theorem sumN_c {f g : Int → Int} : ∀ n : Nat, (∀ k : Int, 0 ≤ k → k < n → f k = g k) → sumN f n = sumN g n
  | 0, _ => rfl
  | n + 1, h => by
    unfold sumN
    rw [sumN_c n (fun k h0 h1 => h k h0 (by omega)), h n (by omega) (by omega)]
theorem sumI_c {f g : Int → Int} {n : Int} (h : ∀ k, 0 ≤ k → k < n → f k = g k) : sumI f n = sumI g n := sumN_c n.toNat (fun k h0 h1 => h k h0 (by omega))
section SM
variable {d : Nat} {b : Bool} {G : aG} {I J : aI} {Q : Option aV → aG → aI → aI → Prop}
theorem sp_X0_has {x : Int} (hG : GW b G) (k1 : 0 ≤ x → x < I 20 0 → Q (some (vI 1)) G I J) (k0 : x < 0 ∨ I 20 0 ≤ x → Q (some (vI 0)) G I J) : At d 3 0 [some (vR 20), some (vI x)] [] G I J Q := by
  repeat' first
    | intro _
    | refine b_X0_has_0 hG ?_ ?_
    | refine b_X0_has_16 hG ?_
    | refine b_X0_has_4 hG ?_ ?_
    | refine b_X0_has_12 hG ?_
  · exact k0 (by omega)
  · exact k0 (by omega)
  · exact k1 (by omega) (by omega)
theorem sp_isCall {x : Int} (hG : GW b G) (hr : 0 ≤ I 57 2 ∧ I 57 2 ≤ 60) (k1 : 0 ≤ x → x < I 57 2 → Q (some (vI 1)) G I J) (k0 : x < 0 ∨ I 57 2 ≤ x → Q (some (vI 0)) G I J) : At (d + 1) 152 0 [some (vR 56), some (vI x)] [] G I J Q := by
  repeat' first
    | intro _
    | refine sp_in hG ?_ ?_
    | refine b_X12_isCall_0 hG ?_ ?_
    | refine b_X12_isCall_13 hG ?_ ?_
  · unfold ok32
    omega
  · exact Or.inr rfl
  · exact k1 (by omega) (by omega)
  · exact Or.inl rfl
  · exact k0 (by omega)
theorem sp_isLine {x : Int} (hG : GW b G) (k1 : 0 ≤ x → x ≤ 3 → Q (some (vI 1)) G I J) (k0 : x < 0 ∨ 3 < x → Q (some (vI 0)) G I J) : At (d + 1) 150 0 [some (vI x)] [] G I J Q := by
  repeat' first
    | intro _
    | refine sp_in hG ?_ ?_
    | refine b_X12_isLine_0 hG ?_
    | refine b_X12_isLine_6 hG ?_ ?_
  · exact Or.inr rfl
  · exact k1 (by omega) (by omega)
  · exact Or.inl rfl
  · exact k0 (by omega)
theorem sp_isDay {x : Int} (hG : GW b G) (k1 : 0 ≤ x → x ≤ 400 → Q (some (vI 1)) G I J) (k0 : x < 0 ∨ 400 < x → Q (some (vI 0)) G I J) : At (d + 1) 156 0 [some (vI x)] [] G I J Q := by
  repeat' first
    | intro _
    | refine sp_in hG ?_ ?_
    | refine b_X12_isDay_0 hG ?_
    | refine b_X12_isDay_8 hG ?_ ?_
  · exact Or.inr rfl
  · exact k1 (by omega) (by omega)
  · exact Or.inl rfl
  · exact k0 (by omega)
theorem lp_X0_inState {w : Int} (hG : GW b G) (hr : 0 ≤ I 20 0 ∧ I 20 0 ≤ 60) (k : Q (some (vI (sumI (fun k => if I 29 k = w then 1 else 0) (I 20 0)))) G I J) : ∀ (j : Nat) (x y : Int), 0 ≤ y → y + j = I 20 0 → x = sumI (fun k => if I 29 k = w then 1 else 0) y → 0 ≤ x → x ≤ y → At d 16 4 [some (vR 20), some (vI w), some (vI x), some (vI y)] [] G I J Q
  | 0, x, y, h0, h1, hx, _, _ => by
    refine b_X0_inState_4 hG (fun _ => b_X0_inState_31 hG ?_) (fun h => ?_)
    · rw [hx, show y = I 20 0 by omega]
      exact k
    · omega
  | j + 1, x, y, h0, h1, hx, hx0, hx1 => by
    have hs := sumI_s (f := fun k => if I 29 k = w then 1 else 0) h0
    refine b_X0_inState_4 hG (fun h => ?_) (fun h => b_X0_inState_12 hG h0 (by omega) (fun e => ?_) (fun e => ?_))
    · omega
    · refine b_X0_inState_25 hG (by unfold ok32; omega) (lp_X0_inState hG hr k j _ _ (by omega) (by omega) ?_ hx0 (by omega))
      rw [hs, if_neg e]
      omega
    · refine b_X0_inState_22 hG (by unfold ok32; omega) (by unfold ok32; omega) (lp_X0_inState hG hr k j _ _ (by omega) (by omega) ?_ (by omega) (by omega))
      rw [hs, if_pos e]
      omega
theorem sp_X0_inState {w : Int} (hG : GW b G) (hr : 0 ≤ I 20 0 ∧ I 20 0 ≤ 60) (k : Q (some (vI (sumI (fun k => if I 29 k = w then 1 else 0) (I 20 0)))) G I J) : At d 16 0 [some (vR 20), some (vI w), none, none] [] G I J Q :=
  b_X0_inState_0 hG (lp_X0_inState hG hr k (I 20 0).toNat 0 0 (by omega) (by omega) rfl (by omega) (by omega))
theorem lp_X12_inState {w : Int} (hG : GW b G) (hr : 0 ≤ I 57 2 ∧ I 57 2 ≤ 60) (k : Q (some (vI (sumI (fun k => if I 57 ((1312 + (8 * k)) + 5) = w then 1 else 0) (I 57 2)))) G I J) : ∀ (j : Nat) (x y : Int), 0 ≤ y → y + j = I 57 2 → x = sumI (fun k => if I 57 ((1312 + (8 * k)) + 5) = w then 1 else 0) y → 0 ≤ x → x ≤ y → At (d + 1) 239 4 [some (vR 56), some (vI w), some (vI x), some (vI y)] [] G I J Q
  | 0, x, y, h0, h1, hx, _, _ => by
    refine b_X12_inState_4 hG (fun _ => b_X12_inState_38 hG ?_) (fun h => ?_)
    · rw [hx, show y = I 57 2 by omega]
      exact k
    · omega
  | j + 1, x, y, h0, h1, hx, hx0, hx1 => by
    have hs := sumI_s (f := fun k => if I 57 ((1312 + (8 * k)) + 5) = w then 1 else 0) h0
    refine b_X12_inState_4 hG (fun h => ?_) (fun h => b_X12_inState_14 hG (b_X12_c_0 hG (by unfold ok32; omega) (by unfold ok32; omega) (by unfold ok32; omega) (by omega) (by omega) (b_X12_inState_21 hG (fun e => ?_) (fun e => ?_))))
    · omega
    · refine b_X12_inState_29 hG (by unfold ok32; omega) (by unfold ok32; omega) (lp_X12_inState hG hr k j _ _ (by omega) (by omega) ?_ (by omega) (by omega))
      rw [hs, if_neg e]
      omega
    · refine b_X12_inState_25 hG (by unfold ok32; omega) (by unfold ok32; omega) (lp_X12_inState hG hr k j _ _ (by omega) (by omega) ?_ (by omega) (by omega))
      rw [hs, if_pos e]
      omega
theorem sp_X12_inState {w : Int} (hG : GW b G) (hr : 0 ≤ I 57 2 ∧ I 57 2 ≤ 60) (k : Q (some (vI (sumI (fun k => if I 57 ((1312 + (8 * k)) + 5) = w then 1 else 0) (I 57 2)))) G I J) : At (d + 1) 239 0 [some (vR 56), some (vI w), none, none] [] G I J Q :=
  b_X12_inState_0 hG (lp_X12_inState hG hr k (I 57 2).toNat 0 0 (by omega) (by omega) rfl (by omega) (by omega))
theorem st_c {A B : aI} {S : Int → Int} {w : Int} (h : RelC A B S) : sumI (fun k => if A 29 k = w then 1 else 0) (A 20 0) = sumI (fun k => if S ((1312 + (8 * k)) + 5) = w then 1 else 0) (S 2) := by
  rw [h.1.2.2]
  refine sumI_c fun k h0 h1 => ?_
  rw [(h.2.1 k h0 h1).1.2.2.2.2.2.1]
theorem cs_34 {a : Int} (hV : LV b G I J) : Cl (d + 5) 143 240 [some (vR 0), some (vI a)] [some (vR 56), some (vI a)] G I J := by
  obtain ⟨hG, ⟨hN, hF, hR, hT, hC, hW, hL, hM⟩, hc, hi, hk⟩ := id hV
  have m0 : 0 ≤ I 20 0 ∧ I 20 0 ≤ 60 := by rw [hC.1.2.2]; exact ⟨hC.1.1, hC.1.2.1⟩
  have m1 : 0 ≤ I 57 2 ∧ I 57 2 ≤ 60 := ⟨hC.1.1, hC.1.2.1⟩
  have f1 := hF.1.2.2
  have f2 := hR.1.2.2
  have f3 := hC.1.2.2
  have f4 := hN.1
  have f5 := hT.1.2.2
  have f6 := hM.1.2.2
  have s0 := st_c (w := 0) hC
  have s1 := st_c (w := 1) hC
  have s3 := st_c (w := 3) hC
  unfold Cl
  repeat' first
    | intro _
    | refine sp_X0_inState hG m0 ?_
    | refine b_X11_count_0 hG ?_ ?_ ?_ ?_ ?_ ?_ ?_ ?_ ?_ ?_
    | refine b_X11_count_154 hG ?_
    | refine b_X11_count_52 hG ?_
    | refine b_X11_count_63 hG ?_
    | refine b_X11_count_74 hG ?_
    | refine b_X11_count_85 hG ?_
    | refine b_X11_count_93 hG ?_
    | refine b_X11_count_105 hG ?_
    | refine b_X11_count_117 hG ?_
    | refine b_X11_count_129 hG ?_
    | refine b_X11_count_143 hG ?_
    | refine b_X11_count_104 hG ?_
    | refine b_X11_count_116 hG ?_
    | refine b_X11_count_128 hG ?_
  all_goals refine ⟨_, _, rfl, hG, ⟨rfl, rfl⟩, ?_⟩
  all_goals unfold Md
  all_goals
    repeat' first
      | intro _
      | refine sp_X12_inState hG m1 ?_
      | refine b_X12_count_0 hG ?_ ?_ ?_ ?_ ?_ ?_ ?_ ?_ ?_ ?_
      | refine b_X12_count_114 hG ?_
      | refine b_X12_count_52 hG ?_
      | refine b_X12_count_59 hG ?_
      | refine b_X12_count_66 hG ?_
      | refine b_X12_count_73 hG ?_
      | refine b_X12_count_80 hG ?_
      | refine b_X12_count_86 hG ?_
      | refine b_X12_count_92 hG ?_
      | refine b_X12_count_98 hG ?_
      | refine b_X12_count_106 hG ?_
      | refine b_X12_count_85 hG ?_
      | refine b_X12_count_91 hG ?_
      | refine b_X12_count_97 hG ?_
  all_goals first
    | omega
    | (refine ⟨congrArg (fun z => some (vI z)) ?_, b, hV, rfl, rfl⟩; omega)
end SM
