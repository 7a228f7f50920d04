/-! the call minute -/
section SM
variable {d : Nat} {b : Bool} {G : aG} {I J : aI} {Q : Option aV → aG → aI → aI → Prop}
theorem cs_13 {nn : Int} (hV : LV b G I J) : Cl (d + 30) 122 209 [some (vR 0), some (vI nn)] [some (vR 56), some (vI nn), none] G I J := by
  obtain ⟨hG, hRW, hc, hi, hk⟩ := id hV
  obtain ⟨hN, hF, hR, hT, hC, hW, hL, hM⟩ := id hRW
  have n3 := hN.2
  have c2 := hC.1
  unfold Cl
  refine b_X11_minute_0 hG (sp_within hG (fun g0 g1 => b_X11_minute_8 hG (fun g => absurd g (by decide)) (fun _ => b_X11_minute_11 hG (by rw [hN.1]; unfold ok32; omega) (fun g2 => b_X11_minute_28 hG ?go) (fun g2 => b_X11_minute_25 hG ⟨_, b, rfl, hG, ⟨rfl, rfl⟩, ?bad2⟩))) (fun gn => b_X11_minute_8 hG (fun _ => b_X11_minute_25 hG ⟨_, b, rfl, hG, ⟨rfl, rfl⟩, ?bad1⟩) (fun g => absurd rfl g)))
  case bad1 =>
    unfold Md
    exact b_X12_minute_0 hG (sp_in hG (fun _ _ => absurd gn (by omega)) (fun _ => b_X12_minute_8 hG (fun _ => b_X12_minute_24 hG ⟨rfl, b, hV, rfl, rfl⟩) (fun g => absurd rfl g)))
  case bad2 =>
    rw [hN.1] at g2
    unfold Md
    exact b_X12_minute_0 hG (sp_in hG (fun _ _ => b_X12_minute_8 hG (fun g => absurd g (by decide)) (fun _ => b_X12_minute_11 hG (by unfold ok32; omega) (fun g => absurd g (by omega)) (fun _ => b_X12_minute_24 hG ⟨rfl, b, hV, rfl, rfl⟩))) (fun g => absurd g0 (by omega)))
  case go =>
    rw [hN.1] at g2
    refine b_X3_pass_0 hG (b_X3_lineUp_0 hG (lp_line (d := d + 23) (I0 := I) (rk := rkF (I 57)) (n := I 57 2) hV rfl rfl (fun q I1 hX q1 q2 q3 q4 q5 => b_X3_pass_5 hG ?_) (I 57 2).toNat 0 [] _ _ _ (by decide) (by omega) (fun a a1 a2 => mset_o (by omega)) List.Pairwise.nil (fun k => ⟨fun z => (by cases z), fun z => by omega⟩) (by rw [mset_at]; rfl) (by show ((0 : Nat) : Int) ≤ 0; decide) (fun i v hv => by cases hv) (fun i v hv => by cases hv)))
    have hV1 : LV b G I1 J := hV.kp hX.kp
    obtain ⟨hG1, hRW1, hc1, hi1, hk1⟩ := id hV1
    have e57 : I1 57 = I 57 := hX 57 (by decide) (by decide)
    rw [e57] at hRW1
    obtain ⟨hN1, hF1, hR1, hT1, hC1, hW1, hL1, hM1⟩ := id hRW1
    have hv1 : SV I1 (I 57 2) (I 57 3) (I1 29, I1 28) := fun k k0 k1 => by
      have h := (hC1.2.1 k k0 k1).2.2.2.2.2.2.2.2.2.2
      exact ⟨h.1, h.2.1, h.2.2.1⟩
    have hCI : CI I1 (I 57 3) (I1 29, I1 28) I1 := ⟨fun _ _ _ _ _ => rfl, hN1.1, fun _ _ => rfl, rfl, rfl⟩
    have hQI : QI (I 57) (I1 29, I1 28) I1 := ⟨q, q1, by
      show QM (I 57 2) (I1 29) q
      rw [hX 29 (by decide) (by decide)]
      exact q2, q3, q4, q5⟩
    have ej : ((nn.toNat : Nat) : Int) = nn := Int.toNat_of_nonneg (by omega)
    refine lp_pass (d := d + 23) (A := I1) (S := I 57) hG hF1 hC1 hR1 n3.1 g1 nn.toNat (I 57 3) 0 0 (I1 29, I1 28) I1 hCI hv1 (Int.le_refl _) (by omega) (by omega) (by decide) (Or.inl ⟨rfl, hQI⟩) (fun x' I2 hMN hCI2 hv2 => b_X11_minute_40 hG ?_)
    rw [ej] at hCI2 hv2
    obtain ⟨w1, w2, w3, w4, w5⟩ := id hCI2
    rw [w2]
    have k2 : ∀ a, a ≠ 1 → a ≠ 19 → a ≠ 28 → a ≠ 29 → ¬ (45 ≤ a ∧ a ≤ 47) → I2 a = I a := fun a a1 a2 a3 a4 a5 => by rw [w1 a a1 a3 a4 a5, hX a a2 a5]
    have e57' : I2 57 = I 57 := k2 57 (by decide) (by decide) (by decide) (by decide) (by decide)
    refine ⟨_, b, rfl, hG, ⟨k2 1060 (by decide) (by decide) (by decide) (by decide) (by decide), k2 1061 (by decide) (by decide) (by decide) (by decide) (by decide)⟩, ?_⟩
    unfold Md
    have hGI : GI (I 57) (I 57 2) (I 57 3) (I1 29, I1 28) I2 I2 := by
      refine ⟨fun _ _ _ _ _ => rfl, rfl, ?_⟩
      rw [e57']
      refine ⟨rfl, fun k k0 k1 => ?_, fun _ _ _ => rfl⟩
      have h := (hC1.2.1 k k0 k1).1
      exact ⟨h.2.2.2.2.2.1.symm, h.2.2.2.2.2.2.1.symm⟩
    refine b_X12_minute_0 hG (sp_in hG (fun _ _ => b_X12_minute_8 hG (fun g => absurd g (by decide)) (fun _ => b_X12_minute_11 hG (by rw [e57']; unfold ok32; omega) (fun _ => b_X12_minute_27 hG ?_) (fun g => absurd g (by rw [e57']; omega)))) (fun g => absurd g0 (by omega)))
    refine lp_minM (d := d + 3) (A := I1) (S := I 57) (I0 := I2) hG hRW1 g1 nn.toNat (I 57 3) 0 (I1 29, I1 28) I2 hMN hv1 (Int.le_refl _) (by omega) (by omega) (by decide) hGI (fun I3 hGI3 => ?_)
    rw [ej] at hGI3 ⊢
    obtain ⟨v1, v2, v3⟩ := hGI3
    have RG := RW_mn hRW1 hv2 (by omega) (by omega) v3
    have hRW3 : RW I3 J (I3 57) := RG.kp fun a k ha hs => by
      have na : a ≠ 19 := fun e => by
        subst e
        cases hs
      rw [v1 a (by omega) (by omega) (by omega) (by omega)]
      unfold gA
      by_cases e29 : a = 29
      · rw [if_pos e29, e29, w4]
      · rw [if_neg e29]
        by_cases e28 : a = 28
        · rw [if_pos e28, e28, w5]
        · rw [if_neg e28]
          by_cases e1 : a = 1
          · subst e1
            by_cases ek : k = 0
            · rw [if_pos ⟨rfl, ek⟩, ek, w2]
            · rw [if_neg (fun g => ek g.2), w3 k ek]
          · rw [if_neg (fun g => e1 g.1), w1 a e1 e28 e29 (by omega)]
    have fin := hV.of hRW3 (J2 := J) (fun a k ha h57 hs => ?_) (fun _ _ => rfl)
    · refine ⟨rfl, b, fin.1, ?_, ?_⟩
      · rw [v1 1060 (by decide) (by decide) (by decide) (by decide)]
      · rw [v1 1061 (by decide) (by decide) (by decide) (by decide)]
    · by_cases h56 : a = 56
      · subst h56
        have : k = 19 := by
          unfold scr at hs
          simp at hs
          omega
        rw [this, v2, k2 56 (by decide) (by decide) (by decide) (by decide) (by decide)]
      · have na : a ≠ 60 ∧ a ≠ 61 ∧ ¬ (45 ≤ a ∧ a ≤ 47) := by
          unfold scr at hs
          simp at hs
          omega
        rw [v1 a h56 h57 na.1 na.2.1, k2 a (by omega) (by omega) (by omega) (by omega) na.2.2]
end SM
theorem h_c4 : C4P := fun _ _ _ _ _ _ _ hV => cs_4 (d := 985) hV
theorem h_c13 : C13P := fun _ _ _ _ _ hV => cs_13 (d := 969) hV
