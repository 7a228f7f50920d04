/-! the call farm: both runs -/
section SM
variable {d : Nat} {b : Bool} {G : aG} {I J : aI} {Q : Option aV → aG → aI → aI → Prop}
theorem sp_add {x y z w : Int} (hG : GW b G) (h0 : 0 ≤ I 2 0) (h1 : I 2 0 < 12) (k : Q (some (vI (I 2 0))) G (mset (mset (mset (mset (mset I 3 (I 2 0) x) 4 (I 2 0) y) 5 (I 2 0) z) 7 (I 2 0) w) 2 0 ((I 2 0) + 1)) J) : At d 41 0 [some (vR 2), some (vI x), some (vI y), some (vI z), some (vI w)] [] G I J Q := by
  repeat' first
    | intro _
    | refine b_X4_add_0 hG ?_ ?_
    | refine b_X4_add_12 hG ?_ ?_ ?_ ?_
    | refine b_X4_add_9 hG ?_
  · exact h0
  · exact h1
  · unfold ok32
    omega
  · exact k
  · omega
/-- the model's farm where it adds -/
theorem mo_0 {x y z n : Int} (hG : GW b G) (hx : 0 ≤ x ∧ x ≤ 3) (hy : 0 ≤ y ∧ y ≤ 9) (hz : 0 ≤ z ∧ z ≤ 9) (hn : I 57 0 = n) (h0 : 0 ≤ n) (h1 : n < 12) (h3 : 0 ≤ I 57 3)
    (k : ∀ I', (∀ a, a ≠ 57 → I' a = I a) → I' 57 0 = n + 1 → (∀ i, i ≠ 0 → (i < 32 + 5 * n ∨ 32 + 5 * n + 5 ≤ i) → I' 57 i = I 57 i) → I' 57 ((32 + (5 * n)) + 0) = x → I' 57 ((32 + (5 * n)) + 1) = y → I' 57 ((32 + (5 * n)) + 2) = z → I' 57 ((32 + (5 * n)) + 3) = 0 → I' 57 ((32 + (5 * n)) + 4) = I 57 3 / 100 → Q (some (vI n)) G I' J) : At (d + 2) 157 0 [some (vR 56), some (vI x), some (vI y), some (vI z), none] [] G I J Q := by
  repeat' first
    | intro _
    | refine sp_isLine hG ?_ ?_
    | refine sp_in hG ?_ ?_
    | refine b_X12_day_0 hG ?_ ?_
    | refine b_X12_farm_0 hG ?_
    | refine b_X12_farm_4 hG ?_ ?_
    | refine b_X12_farm_17 hG ?_
    | refine b_X12_farm_7 hG ?_
    | refine b_X12_farm_14 hG ?_ ?_
    | refine b_X12_farm_19 hG ?_
    | refine b_X12_farm_26 hG ?_ ?_
    | refine b_X12_farm_32 hG ?_ ?_
    | refine b_X12_farm_29 hG ?_
    | refine b_X12_farm_46 hG ?_ ?_ ?_ ?_ ?_ ?_ ?_ ?_ ?_ ?_ ?_ ?_ ?_ ?_ ?_ ?_
    | refine b_X12_farm_43 hG ?_
    | refine b_X12_farm_111 hG ?_ ?_ ?_ ?_ ?_
  all_goals try omega
  all_goals try (unfold ok32; omega)
  all_goals (try rw [hn])
  · rw [mset_n (by omega), mset_n (by omega), mset_n (by omega), mset_n (by omega)]
    exact h3
  · (repeat rw [mset_n (by omega)])
    rw [hn]
    unfold ok32
    omega
  · (repeat rw [mset_n (by omega)])
    rw [hn]
    unfold ok32
    omega
  · (repeat rw [mset_n (by omega)])
    rw [hn, show n + 1 - 1 = n by omega]
    refine k _ (fun a ha => ?_) ?_ (fun i i0 i1 => ?_) ?_ ?_ ?_ ?_ ?_
    · repeat rw [mset_o ha]
    · rw [mset_at]
    · repeat rw [mset_n (by omega)]
    · (repeat rw [mset_n (by omega)])
      rw [mset_at]
    · (repeat rw [mset_n (by omega)])
      rw [mset_at]
    · (repeat rw [mset_n (by omega)])
      rw [mset_at]
    · (repeat rw [mset_n (by omega)])
      rw [mset_at]
    · (repeat rw [mset_n (by omega)])
      rw [mset_at]
theorem LV.scx {I I' : aI} (h : ∀ a, a ≠ 57 → I' a = I a) : Sc I I' := ⟨h 1060 (by decide), h 1061 (by decide)⟩
theorem cs_0 {x y z : Int} (hV : LV b G I J) : Cl (d + 5) 109 157 [some (vR 0), some (vI x), some (vI y), some (vI z)] [some (vR 56), some (vI x), some (vI y), some (vI z), none] G I J := by
  obtain ⟨hG, hRW, hc, hi, hk⟩ := id hV
  obtain ⟨hN, hF, hR, hT, hC, hW, hL, hM⟩ := id hRW
  have f1 := hF.1
  have f4 := hN
  unfold Cl
  repeat' first
    | intro _
    | refine sp_within hG ?_ ?_
    | refine b_X10_today_0 hG ?_ ?_
    | refine sp_add hG ?_ ?_ ?_
    | refine b_X11_farm_0 hG ?_
    | refine b_X11_farm_6 hG ?_ ?_
    | refine b_X11_farm_19 hG ?_
    | refine b_X11_farm_9 hG ?_
    | refine b_X11_farm_16 hG ?_ ?_
    | refine b_X11_farm_21 hG ?_
    | refine b_X11_farm_28 hG ?_ ?_
    | refine b_X11_farm_34 hG ?_ ?_
    | refine b_X11_farm_31 hG ?_
    | refine b_X11_farm_52 hG ?_
    | refine b_X11_farm_49 hG ?_
    | refine b_X11_farm_69 hG ?_
    | refine b_X11_farm_72 hG ?_
  all_goals first
    | omega
    | (show 0 ≤ I 1 0; rw [hN.1]; exact hN.2.1)
    | skip
  · generalize hX : mset (mset (mset (mset (mset I 3 (I 2 0) x) 4 (I 2 0) y) 5 (I 2 0) z) 7 (I 2 0) (I 1 0 / 100)) 2 0 (I 2 0 + 1) = I1
    have hc1 : ∀ a, a ≠ 2 → a ≠ 3 → a ≠ 4 → a ≠ 5 → a ≠ 7 → I1 a = I a := fun a h2 h3 h4 h5 h7 => by rw [← hX, mset_o h2, mset_o h7, mset_o h5, mset_o h4, mset_o h3]
    have e57 : I1 57 = I 57 := hc1 57 (by decide) (by decide) (by decide) (by decide) (by decide)
    refine ⟨_, _, rfl, hG, ⟨hc1 1060 (by decide) (by decide) (by decide) (by decide) (by decide), hc1 1061 (by decide) (by decide) (by decide) (by decide) (by decide)⟩, ?_⟩
    refine mo_0 (n := I 2 0) hG (by omega) (by omega) (by omega) (by rw [e57, f1.2.2]) (by omega) (by omega) (by rw [e57]; exact hN.2.1) ?_
    intro I2 c2 s0 sa s1 s2 s3 s4 s5
    rw [e57] at s5 sa
    refine ⟨rfl, b, ⟨hG, ?_, hc.fr (by rw [c2 48 (by decide), hc1 48 (by decide) (by decide) (by decide) (by decide) (by decide)]) (by rw [c2 49 (by decide), hc1 49 (by decide) (by decide) (by decide) (by decide) (by decide)]), by rw [c2 56 (by decide), hc1 56 (by decide) (by decide) (by decide) (by decide) (by decide)]; exact hi, fun hb => ?_⟩, LV.scx c2⟩
    · have hx : ∀ a, a ≠ 57 → I2 a = I1 a := c2
      rw [f1.2.2] at s0 sa s1 s2 s3 s4 s5
      refine hRW.add (x := x) (y := y) (z := z) (by omega) (by omega) (by omega) (by omega) (fun a ha h => by rw [c2 a (by omega), hc1 a (by omega) (by omega) (by omega) (by omega) (by omega)]) ?_ ?_ ?_ ?_ ?_ s0 sa s1 s2 s3 s4 s5
      · rw [c2 2 (by decide), ← hX, mset_at, f1.2.2]
      · rw [c2 3 (by decide), ← hX, mset_o (by decide), mset_o (by decide), mset_o (by decide), mset_o (by decide), mset_s, f1.2.2]
      · rw [c2 4 (by decide), ← hX, mset_o (by decide), mset_o (by decide), mset_o (by decide), mset_s, mset_o (by decide), f1.2.2]
      · rw [c2 5 (by decide), ← hX, mset_o (by decide), mset_o (by decide), mset_s, mset_o (by decide), mset_o (by decide), f1.2.2]
      · rw [c2 7 (by decide), ← hX, mset_o (by decide), mset_s, mset_o (by decide), mset_o (by decide), mset_o (by decide), f1.2.2, hN.1]
    · have e63 : I2 63 = I 63 := by rw [c2 63 (by decide), hc1 63 (by decide) (by decide) (by decide) (by decide) (by decide)]
      rw [e63]
      exact (hk hb).kp fun a k ha _ => by
        show I2 (a + 63) k = I (a + 63) k
        rw [c2 _ (by omega), hc1 _ (by omega) (by omega) (by omega) (by omega) (by omega)]
  all_goals refine ⟨_, _, rfl, hG, ⟨rfl, rfl⟩, ?_⟩
  all_goals unfold Md
  all_goals
    repeat' first
      | intro _
      | refine sp_isLine hG ?_ ?_
      | refine sp_in hG ?_ ?_
      | refine b_X12_day_0 hG ?_ ?_
      | refine b_X12_farm_0 hG ?_
      | refine b_X12_farm_4 hG ?_ ?_
      | refine b_X12_farm_17 hG ?_
      | refine b_X12_farm_7 hG ?_
      | refine b_X12_farm_14 hG ?_ ?_
      | refine b_X12_farm_19 hG ?_
      | refine b_X12_farm_26 hG ?_ ?_
      | refine b_X12_farm_32 hG ?_ ?_
      | refine b_X12_farm_29 hG ?_
      | refine b_X12_farm_46 hG ?_ ?_ ?_ ?_ ?_ ?_ ?_ ?_ ?_ ?_ ?_ ?_ ?_ ?_ ?_ ?_
      | refine b_X12_farm_43 hG ?_
      | refine b_X12_farm_111 hG ?_ ?_ ?_ ?_ ?_
  all_goals first
    | omega
    | exact ⟨rfl, b, hV, rfl, rfl⟩
end SM
