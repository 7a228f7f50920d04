/-! the call down -/
theorem RelW.down {A B B' : aI} {S S' : Int → Int} {l w v : Int} (h : RelW A B S) (hl : 0 ≤ l ∧ l ≤ 3) (hw : 0 ≤ w ∧ w ≤ 9) (hv : v = 0 ∨ v = 1) (h32 : B' 32 = B 32)
    (h0 : 0 ≤ B' 31 0) (h1 : B' 31 0 < 1099511627776) (hb : ∀ c : Int, 0 ≤ c → c < 40 → lAnd (lShr (B' 31 0) c) 1 = if c = l * 10 + w then v else lAnd (lShr (B 31 0) c) 1) (hs : S' = sset S ((1792 + (10 * l)) + w) v) : RelW A B' S' := by
  obtain ⟨a, e, ⟨c1, c2, c3⟩, f, g, k⟩ := h
  have q : ∀ i, i ≠ ((1792 + (10 * l)) + w) → S' i = S i := fun i hi => by rw [hs, sset_n hi]
  unfold RelW
  rw [q 4 (by omega), q 5 (by omega), q 0 (by omega), h32]
  refine ⟨a, e, ⟨h0, h1, fun l2 w2 l0 l1 w0 w1 => ?_⟩, fun k k0 k1 => ?_, g, fun i i0 i1 => ?_⟩
  · rw [hb _ (by omega) (by omega)]
    by_cases hh : (1792 + (10 * l2)) + w2 = (1792 + (10 * l)) + w
    · rw [hh, hs, sset_at, if_pos (by omega)]
      exact ⟨hv, rfl⟩
    · rw [q _ hh, if_neg (by omega)]
      exact c3 l2 w2 l0 l1 w0 w1
  · rw [q (1832 + (3 * k)) (by omega), q ((1832 + (3 * k)) + 1) (by omega), q ((1832 + (3 * k)) + 2) (by omega)]
    exact f k k0 k1
  · rw [q _ (by omega)]
    exact k i i0 i1
section SM
variable {d : Nat} {b : Bool} {G : aG} {I J : aI} {Q : Option aV → aG → aI → aI → Prop}
theorem sp_turn {x v : Int} (hG : GW b G) (hx : 0 ≤ x ∧ x < 40) (hv : v = 0 ∨ v = 1) (h0 : 0 ≤ J 31 0) (h1 : J 31 0 < 1099511627776) (k : ∀ J', (∀ a, a ≠ 31 → J' a = J a) → 0 ≤ J' 31 0 → J' 31 0 < 1099511627776 → (∀ c : Int, 0 ≤ c → c < 40 → lAnd (lShr (J' 31 0) c) 1 = if c = x then v else lAnd (lShr (J 31 0) c) 1) → Q (some (vI (lAnd (lShr (J 31 0) x) 1))) G I J') : At d 90 0 [some (vR 31), some (vI x), some (vI v), none] [] G I J Q := by
  have hz : lAnd (lShr (J 31 0) x) 1 = 0 ∨ lAnd (lShr (J 31 0) x) 1 = 1 := by
    obtain ⟨u, rfl⟩ := Int.eq_ofNat_of_zero_le hx.1
    rw [bit64 (by omega)]
    split
    · exact Or.inr rfl
    · exact Or.inl rfl
  have hc := cLcm01 hz
  have hS := lset (n := 40) (x := J 31 0) (s := x) (by decide) h0 h1 hx.1 hx.2
  have hR := lclr (n := 40) (x := J 31 0) (s := x) (by decide) h0 h1 hx.1 hx.2
  repeat' first
    | intro _
    | refine b_X9_turn_0 hG ?_ ?_
    | refine b_X9_turn_17 hG ?_ ?_
    | refine b_X9_turn_13 hG ?_ ?_
    | refine b_X9_turn_35 hG ?_ ?_
    | refine b_X9_turn_24 hG ?_ ?_
  all_goals try (first | exact Or.inl rfl | exact Or.inr rfl)
  all_goals (rename_i p q; rw [hc] at p)
  all_goals first
    | (have r := k (mset J 31 0 (lAnd (J 31 0) (lXor (lShl 1 x) (-1)))) (fun a h => mset_o h) (by rw [mset_at]; exact hR.1) (by rw [mset_at]; exact hR.2.1) (fun c c0 c1 => by rw [mset_at, hR.2.2 c c0 c1, q])
       first
         | (rw [p] at r; exact r)
         | (rw [hz.resolve_left p] at r; exact r))
    | (have r := k (mset J 31 0 (lOr (J 31 0) (lShl 1 x))) (fun a h => mset_o h) (by rw [mset_at]; exact hS.1) (by rw [mset_at]; exact hS.2.1) (fun c c0 c1 => by rw [mset_at, hS.2.2 c c0 c1, hv.resolve_left q])
       first
         | (rw [p] at r; exact r)
         | (rw [hz.resolve_left p] at r; exact r))
theorem cs_17 {x y v : Int} (hV : LV b G I J) (hv : v = 0 ∨ v = 1) : Cl (d + 5) 126 215 [some (vR 0), some (vI x), some (vI y), some (vI v)] [some (vR 56), some (vI x), some (vI y), some (vI v), none] G I J := by
  obtain ⟨hG, hRW, hc, hi, hk⟩ := id hV
  obtain ⟨hN, hF, hR, hT, hC, hW, hL, hM⟩ := id hRW
  obtain ⟨d0, d1, d2⟩ := hW.2.2.1
  have wr : ∀ (v : Int) (J' : aI), (v = 0 ∨ v = 1) → 0 ≤ x → x ≤ 3 → 0 ≤ y → y ≤ 9 → (∀ a, a ≠ 31 → J' a = J a) → 0 ≤ J' 31 0 → J' 31 0 < 1099511627776 → (∀ c : Int, 0 ≤ c → c < 40 → lAnd (lShr (J' 31 0) c) 1 = if c = (x * 10) + y then v else lAnd (lShr (J 31 0) c) 1) → LV b G (mset I 57 ((1792 + (10 * x)) + y) v) J' ∧ Sc I (mset I 57 ((1792 + (10 * x)) + y) v) := by
    intro v J' hv x0 x1 y0 y1 q0 q1 q2 q3
    refine hV.of (hRW.ofW (fun a ha h => mset_o (by omega)) (fun a ha h => q0 a h.1) (fun i hi => ?_) ((hW.down (B' := J') (l := x) (w := y) ⟨x0, x1⟩ ⟨y0, y1⟩ hv (q0 32 (by decide)) q1 q2 q3 mset_s).fr rfl rfl rfl rfl rfl rfl rfl rfl rfl (fun _ _ => rfl))) (fun a k ha hb' hs => by rw [mset_o hb']) (fun a ha => q0 a (by omega))
    rw [mset_n (by omega)]
  unfold Cl
  repeat' first
    | intro _
    | refine sp_isWireC hG ?_ ?_
    | refine sp_turn hG ?_ hv d0 d1 ?_
    | refine b_X11_down_0 hG ?_
    | refine b_X11_down_5 hG ?_ ?_
    | refine b_X11_down_10 hG ?_ ?_ ?_
    | refine b_X11_down_8 hG ?_
    | refine b_X11_down_27 hG ?_ ?_
    | refine b_X11_down_34 hG ?_
    | refine b_X11_down_30 hG ?_
  all_goals try omega
  all_goals try (unfold ok32; omega)
  all_goals refine ⟨_, _, rfl, hG, ⟨rfl, rfl⟩, ?_⟩
  all_goals unfold Md
  · rename_i J' q0 q1 q2 q3 p
    have hb := d2 x y (by omega) (by omega) (by omega) (by omega)
    repeat' first
      | intro _
      | refine sp_isWireM hG ?_ ?_
      | refine b_X12_down_0 hG ?_
      | refine b_X12_down_5 hG ?_ ?_
      | refine b_X12_down_10 hG ?_ ?_ ?_ ?_ ?_ ?_ ?_
      | refine b_X12_down_8 hG ?_
      | refine b_X12_down_49 hG ?_ ?_ ?_
      | refine b_X12_down_45 hG ?_ ?_ ?_
    all_goals try omega
    all_goals try (unfold ok32; omega)
    · refine ⟨congrArg (fun z => some (vI z)) (by omega), b, wr 0 J' (by decide) (by omega) (by omega) (by omega) (by omega) q0 q1 q2 ?_⟩
      rename_i hv0
      rw [hv0] at q3
      exact q3
    · refine ⟨congrArg (fun z => some (vI z)) (by omega), b, wr 1 J' (by decide) (by omega) (by omega) (by omega) (by omega) q0 q1 q2 ?_⟩
      rename_i hv0
      rw [hv.resolve_left hv0] at q3
      exact q3
  · rename_i J' q0 q1 q2 q3 p
    have hb := d2 x y (by omega) (by omega) (by omega) (by omega)
    repeat' first
      | intro _
      | refine sp_isWireM hG ?_ ?_
      | refine b_X12_down_0 hG ?_
      | refine b_X12_down_5 hG ?_ ?_
      | refine b_X12_down_10 hG ?_ ?_ ?_ ?_ ?_ ?_ ?_
      | refine b_X12_down_8 hG ?_
      | refine b_X12_down_49 hG ?_ ?_ ?_
      | refine b_X12_down_45 hG ?_ ?_ ?_
    all_goals try omega
    all_goals try (unfold ok32; omega)
    · refine ⟨congrArg (fun z => some (vI z)) (by omega), b, wr 0 J' (by decide) (by omega) (by omega) (by omega) (by omega) q0 q1 q2 ?_⟩
      rename_i hv0
      rw [hv0] at q3
      exact q3
    · refine ⟨congrArg (fun z => some (vI z)) (by omega), b, wr 1 J' (by decide) (by omega) (by omega) (by omega) (by omega) q0 q1 q2 ?_⟩
      rename_i hv0
      rw [hv.resolve_left hv0] at q3
      exact q3
  · repeat' first
      | intro _
      | refine sp_isWireM hG ?_ ?_
      | refine b_X12_down_0 hG ?_
      | refine b_X12_down_5 hG ?_ ?_
      | refine b_X12_down_10 hG ?_ ?_ ?_ ?_ ?_ ?_ ?_
      | refine b_X12_down_8 hG ?_
      | refine b_X12_down_49 hG ?_ ?_ ?_
      | refine b_X12_down_45 hG ?_ ?_ ?_
    all_goals first
      | omega
      | exact ⟨rfl, b, hV, rfl, rfl⟩
end SM
