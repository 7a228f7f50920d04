/-! the law's loop; cases 4 and 13 as premises yet -/
section SM
variable {d : Nat} {b : Bool} {G : aG} {I J : aI} {Q : Option aV → aG → aI → aI → Prop}
def C4P : Prop := ∀ (b : Bool) (G : aG) (I J : aI) (l n i : Int), LV b G I J → Cl 999 113 164 [some (vR 0), some (vI l), some (vI n), some (vI i), none] [some (vR 56), some (vI l), some (vI n), some (vI i), none, none] G I J
def C13P : Prop := ∀ (b : Bool) (G : aG) (I J : aI) (x : Int), LV b G I J → Cl 999 122 209 [some (vR 0), some (vI x)] [some (vR 56), some (vI x), none] G I J
theorem lawc_17 {x3 : Int} (hG : GW b G) (h0 : 0 ≤ x3) (h1 : x3 + 3 < I 1061 0) (h2 : I 1061 0 ≤ 256) (h : ∀ v : Int, v = 0 ∨ v = 1 → Cl d 126 215 [some (vR 0), some (vI (I 1060 (x3 + 1))), some (vI (I 1060 (x3 + 2))), some (vI v)] [some (vR 56), some (vI (I 1060 (x3 + 1))), some (vI (I 1060 (x3 + 2))), some (vI v), none] G I J) (K : ∀ b2 G2 I2 J2, LV b2 G2 I2 J2 → Sc I I2 → At (d + 1) 0 1395 [some (vR 1060), some (vR 0), some (vR 56), some (vI x3)] [] G2 I2 J2 Q) : At (d + 1) 0 809 [some (vR 1060), some (vR 0), some (vR 56), some (vI x3)] [] G I J Q := by
  refine b_L_809 hG (by unfold ok32; omega) (by omega) (by omega) (by unfold ok32; omega) (by omega) (by omega) (by unfold ok32; omega) (by omega) (by omega) (fun q => ?_) (fun q => ?_)
  · refine b_L_832 hG (At.imp (h 0 (by decide)) ?_)
    rintro v G2 I2 J2 ⟨x, b2, rfl, hG2, hS, hM⟩
    have e2 := congrFun hS.2 0
    refine b_L_836 hG2 (by unfold ok32; omega) (by omega) (by omega) (by unfold ok32; omega) (by omega) (by omega) (by unfold ok32; omega) (by omega) (by omega) (fun q2 => ?_) (fun q2 => ?_)
    · rw [hS.1]
      refine b_L_859 hG2 (At.imp hM ?_)
      rintro v G3 I3 J3 ⟨rfl, b3, hV3, hS3⟩
      exact b_L_863 hV3.1 (fun _ => K b3 G3 I3 J3 hV3 ⟨hS3.1.trans hS.1, hS3.2.trans hS.2⟩) (fun q3 => absurd rfl q3)
    · rw [hS.1] at q2
      exact absurd q q2
  · refine b_L_828 hG (At.imp (h 1 (by decide)) ?_)
    rintro v G2 I2 J2 ⟨x, b2, rfl, hG2, hS, hM⟩
    have e2 := congrFun hS.2 0
    refine b_L_836 hG2 (by unfold ok32; omega) (by omega) (by omega) (by unfold ok32; omega) (by omega) (by omega) (by unfold ok32; omega) (by omega) (by omega) (fun q2 => ?_) (fun q2 => ?_)
    · rw [hS.1] at q2
      exact absurd q2 q
    · rw [hS.1]
      refine b_L_855 hG2 (At.imp hM ?_)
      rintro v G3 I3 J3 ⟨rfl, b3, hV3, hS3⟩
      exact b_L_863 hV3.1 (fun _ => K b3 G3 I3 J3 hV3 ⟨hS3.1.trans hS.1, hS3.2.trans hS.2⟩) (fun q3 => absurd rfl q3)
theorem lawc_19 {x3 : Int} (hG : GW b G) (h0 : 0 ≤ x3) (h1 : x3 + 3 < I 1061 0) (h2 : I 1061 0 ≤ 256) (h : ∀ v : Int, v = 0 ∨ v = 1 → Cl d 128 218 [some (vR 0), some (vI (I 1060 (x3 + 1))), some (vI (I 1060 (x3 + 2))), some (vI v)] [some (vR 56), some (vI (I 1060 (x3 + 1))), some (vI (I 1060 (x3 + 2))), some (vI v), none] G I J) (K : ∀ b2 G2 I2 J2, LV b2 G2 I2 J2 → Sc I I2 → At (d + 1) 0 1395 [some (vR 1060), some (vR 0), some (vR 56), some (vI x3)] [] G2 I2 J2 Q) : At (d + 1) 0 901 [some (vR 1060), some (vR 0), some (vR 56), some (vI x3)] [] G I J Q := by
  refine b_L_901 hG (by unfold ok32; omega) (by omega) (by omega) (by unfold ok32; omega) (by omega) (by omega) (by unfold ok32; omega) (by omega) (by omega) (fun q => ?_) (fun q => ?_)
  · refine b_L_924 hG (At.imp (h 0 (by decide)) ?_)
    rintro v G2 I2 J2 ⟨x, b2, rfl, hG2, hS, hM⟩
    have e2 := congrFun hS.2 0
    refine b_L_928 hG2 (by unfold ok32; omega) (by omega) (by omega) (by unfold ok32; omega) (by omega) (by omega) (by unfold ok32; omega) (by omega) (by omega) (fun q2 => ?_) (fun q2 => ?_)
    · rw [hS.1]
      refine b_L_951 hG2 (At.imp hM ?_)
      rintro v G3 I3 J3 ⟨rfl, b3, hV3, hS3⟩
      exact b_L_955 hV3.1 (fun _ => K b3 G3 I3 J3 hV3 ⟨hS3.1.trans hS.1, hS3.2.trans hS.2⟩) (fun q3 => absurd rfl q3)
    · rw [hS.1] at q2
      exact absurd q q2
  · refine b_L_920 hG (At.imp (h 1 (by decide)) ?_)
    rintro v G2 I2 J2 ⟨x, b2, rfl, hG2, hS, hM⟩
    have e2 := congrFun hS.2 0
    refine b_L_928 hG2 (by unfold ok32; omega) (by omega) (by omega) (by unfold ok32; omega) (by omega) (by omega) (by unfold ok32; omega) (by omega) (by omega) (fun q2 => ?_) (fun q2 => ?_)
    · rw [hS.1] at q2
      exact absurd q2 q
    · rw [hS.1]
      refine b_L_947 hG2 (At.imp hM ?_)
      rintro v G3 I3 J3 ⟨rfl, b3, hV3, hS3⟩
      exact b_L_955 hV3.1 (fun _ => K b3 G3 I3 J3 hV3 ⟨hS3.1.trans hS.1, hS3.2.trans hS.2⟩) (fun q3 => absurd rfl q3)
theorem lp_law (h4 : C4P) (h13 : C13P) : ∀ (j : Nat) (x3 : Int) (b : Bool) (G : aG) (I J : aI), LV b G I J → 0 ≤ I 1061 0 → I 1061 0 ≤ 256 → 0 ≤ x3 → x3 ≤ 300 → I 1061 0 - x3 ≤ 4 * j → At 1000 0 18 [some (vR 1060), some (vR 0), some (vR 56), some (vI x3)] [] G I J (fun v G' _ _ => v = some (vI 1) ∧ G'.1 ≤ 108)
  | 0, x3, b, G, I, J, hV, l0, h2, h0, hx, hj => by
    have hG := hV.1
    have g1 : G.1 ≤ 108 := by
      rw [hG.1]
      split <;> omega
    exact b_L_18 hG (by unfold ok32; omega) (fun _ => b_L_1401 hG ⟨rfl, g1⟩) (fun q => absurd q (by omega))
  | j + 1, x3, b, G, I, J, hV, l0, h2, h0, hx, hj => by
    have hG := hV.1
    have g1 : G.1 ≤ 108 := by
      rw [hG.1]
      split <;> omega
    have nx : x3 + 3 < I 1061 0 → ∀ b2 G2 I2 J2, LV b2 G2 I2 J2 → Sc I I2 → At 1000 0 1395 [some (vR 1060), some (vR 0), some (vR 56), some (vI x3)] [] G2 I2 J2 (fun v G' _ _ => v = some (vI 1) ∧ G'.1 ≤ 108) := fun h1 b2 G2 I2 J2 hV2 hS => by
      have e2 := congrFun hS.2 0
      exact b_L_1395 hV2.1 (by unfold ok32; omega) (lp_law h4 h13 j (x3 + 4) b2 G2 I2 J2 hV2 (by omega) (by omega) (by omega) (by omega) (by omega))
    refine b_L_18 hG (by unfold ok32; omega) (fun _ => b_L_1401 hG ⟨rfl, g1⟩) (fun q => ?_)
    have h1 : x3 + 3 < I 1061 0 := by omega
    have K := nx h1
    refine b_L_26 hG h0 (by omega) (fun _ => K b G I J hV ⟨rfl, rfl⟩)
      (fun _ => lawc_0 (d := 999) hG h0 h1 h2 (cs_0 (d := 994) hV) K)
      (fun _ => lawc_1 (d := 999) hG h0 h1 h2 (cs_1 (d := 994) hV) K)
      (fun _ => lawc_2 (d := 999) hG h0 h1 h2 (cs_2 (d := 994) hV) K)
      (fun _ => lawc_3 (d := 999) hG h0 h1 h2 (cs_3 (d := 994) hV) K)
      (fun _ => lawc_4 (d := 999) hG h0 h1 h2 (h4 _ _ _ _ _ _ _ hV) K)
      (fun _ => lawc_5 (d := 999) hG h0 h1 h2 (cs_5 (d := 994) hV) K)
      (fun _ => lawc_6 (d := 999) hG h0 h1 h2 (cs_6 (d := 959) hV) K)
      (fun _ => lawc_7 (d := 999) hG h0 h1 h2 (cs_7 (d := 959) hV) K)
      (fun _ => lawc_8 (d := 999) hG h0 h1 h2 (cs_8 (d := 959) hV) K)
      (fun _ => lawc_9 (d := 999) hG h0 h1 h2 (cs_9 (d := 959) hV) K)
      (fun _ => lawc_10 (d := 999) hG h0 h1 h2 (cs_10 (d := 959) hV) K)
      (fun _ => lawc_11 (d := 999) hG h0 h1 h2 (cs_11 (d := 959) hV) K)
      (fun _ => lawc_12 (d := 999) hG h0 h1 h2 (cs_12 (d := 994) hV) K)
      (fun _ => lawc_13 (d := 999) hG h0 h1 h2 (h13 _ _ _ _ _ hV) K)
      (fun _ => lawc_14 (d := 999) hG h0 h1 h2 (cs_14 (d := 993) hV) K)
      (fun _ => lawc_15 (d := 999) hG h0 h1 h2 (cs_15 (d := 993) hV) K)
      (fun _ => lawc_16 (d := 999) hG h0 h1 h2 (cs_16 (d := 993) hV) K)
      (fun _ => lawc_17 (d := 999) hG h0 h1 h2 (fun v hv => cs_17 (d := 994) hV hv) K)
      (fun _ => lawc_18 (d := 999) hG h0 h1 h2 (cs_18 (d := 993) hV) K)
      (fun _ => lawc_19 (d := 999) hG h0 h1 h2 (fun v hv => cs_19 (d := 993) hV hv) K)
      (fun _ => lawc_20 (d := 999) hG h0 h1 h2 (cs_20 (d := 994) hV) K)
      (fun _ => lawc_21 (d := 999) hG h0 h1 h2 (cs_21 (d := 992) hV) K)
      (fun _ => lawc_22 (d := 999) hG h0 h1 h2 (cs_22 (d := 994) hV) K)
      (fun _ => lawc_23 (d := 999) hG h0 h1 h2 (cs_23 (d := 959) hV) K)
      (fun _ => lawc_24 (d := 999) hG h0 h1 h2 (cs_24 (d := 959) hV) K)
      (fun _ => lawc_25 (d := 999) hG h0 h1 h2 (cs_25 (d := 994) hV) K)
      (fun _ => lawc_26 (d := 999) hG h0 h1 h2 (cs_26 (d := 994) hV) K)
      (fun _ => lawc_27 (d := 999) hG h0 h1 h2 (cs_27 (d := 983) hV) K)
      (fun _ => lawc_28 (d := 999) hG h0 h1 h2 (cs_28 (d := 994) hV) K)
      (fun _ => lawc_29 (d := 999) hG h0 h1 h2 (cs_29 (d := 994) hV) K)
      (fun _ => lawc_30 (d := 999) hG h0 h1 h2 (cs_30 (d := 994) hV) K)
      (fun _ => lawc_31 (d := 999) hG h0 h1 h2 (cs_31 (d := 959) hV) K)
      (fun _ => lawc_32 (d := 999) hG h0 h1 h2 (cs_32 (d := 991) hV) K)
      (fun _ => lawc_33 (d := 999) hG h0 h1 h2 (cs_33 (d := 994) hV) K)
      (fun _ => lawc_34 (d := 999) hG h0 h1 h2 (cs_34 (d := 994) hV) K)
end SM
