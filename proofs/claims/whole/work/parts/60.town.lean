/-! the calls town and as -/
def twF (A : aI) (f a z k : Int) : Int := if A 21 k = 3 ∧ A 22 k = f ∧ (A 29 k = 1 ∨ A 29 k = 2) ∧ a ≤ A 27 k / 100 ∧ A 27 k / 100 ≤ z then A 26 k else 0
def twM (S : Int → Int) (f a z k : Int) : Int := if S ((1312 + (8 * k)) + 0) = 3 ∧ S ((1312 + (8 * k)) + 1) = f ∧ (S ((1312 + (8 * k)) + 5) = 1 ∨ S ((1312 + (8 * k)) + 5) = 2) ∧ a ≤ S ((1312 + (8 * k)) + 4) / 100 ∧ S ((1312 + (8 * k)) + 4) / 100 ≤ z then S ((1312 + (8 * k)) + 3) else 0
section SM
variable {d : Nat} {b : Bool} {G : aG} {I J : aI} {Q : Option aV → aG → aI → aI → Prop} {f a z : Int}
theorem lp_townC (hG : GW b G) (hr : 0 ≤ I 20 0 ∧ I 20 0 ≤ 60) (hm : ∀ k, 0 ≤ k → k < I 20 0 → (1 ≤ I 26 k ∧ I 26 k ≤ 20) ∧ 0 ≤ I 27 k) (k : Q (some (vI (sumI (twF I f a z) (I 20 0)))) G I J) : ∀ (j : Nat) (x y : Int) (u v : Option aV), 0 ≤ y → y + j = I 20 0 → x = sumI (twF I f a z) y → 0 ≤ x → x ≤ 20 * y → At d 17 6 [some (vR 20), some (vI f), some (vI a), some (vI z), some (vI x), some (vI y), u, v] [] G I J Q
  | 0, x, y, u, v, h0, h1, hx, _, _ => by
    refine b_X0_townMinutes_6 hG (fun _ => b_X0_townMinutes_113 hG ?_) (fun h => ?_)
    · rw [hx, show y = I 20 0 by omega]
      exact k
    · omega
  | j + 1, x, y, u, v, h0, h1, hx, hx0, hx1 => by
    have hs := sumI_s (f := twF I f a z) h0
    have h9 := hm y h0 (by omega)
    refine b_X0_townMinutes_6 hG (fun h => ?_) (fun _ => ?_)
    · omega
    have go : ∀ x' u v, x' = x + twF I f a z y → At d 17 6 [some (vR 20), some (vI f), some (vI a), some (vI z), some (vI x'), some (vI (y + 1)), u, v] [] G I J Q := by
      intro x' u v hx'
      have : 0 ≤ twF I f a z y ∧ twF I f a z y ≤ 20 := by
        unfold twF
        split <;> omega
      exact lp_townC hG hr hm k j x' (y + 1) u v (by omega) (by omega) (by omega) (by omega) (by omega)
    unfold twF at go
    repeat' first
      | intro _
      | refine go _ _ _ ?_
      | refine b_X0_townMinutes_0 hG ?_
      | refine b_X0_townMinutes_113 hG ?_
      | refine b_X0_townMinutes_15 hG ?_ ?_ ?_ ?_ ?_
      | refine b_X0_townMinutes_49 hG ?_ ?_ ?_ ?_
      | refine b_X0_townMinutes_38 hG ?_ ?_ ?_ ?_
      | refine b_X0_townMinutes_107 hG ?_ ?_
      | refine b_X0_townMinutes_67 hG ?_ ?_ ?_ ?_
      | refine b_X0_townMinutes_53 hG ?_ ?_ ?_ ?_
      | refine b_X0_townMinutes_78 hG ?_ ?_
      | refine b_X0_townMinutes_83 hG ?_ ?_
      | refine b_X0_townMinutes_89 hG ?_ ?_
      | refine b_X0_townMinutes_95 hG ?_ ?_ ?_ ?_ ?_
    all_goals first
      | omega
      | (unfold ok32; omega)
      | (split <;> omega)
theorem lp_townM (hG : GW b G) (hr : 0 ≤ I 57 2 ∧ I 57 2 ≤ 60) (hm : ∀ k, 0 ≤ k → k < I 57 2 → (1 ≤ I 57 ((1312 + (8 * k)) + 3) ∧ I 57 ((1312 + (8 * k)) + 3) ≤ 20) ∧ 0 ≤ I 57 ((1312 + (8 * k)) + 4)) (k : ∀ y u, At (d + 1) 227 145 [some (vR 56), some (vI f), some (vI a), some (vI z), some (vI (sumI (twM (I 57) f a z) (I 57 2))), some (vI y), u] [] G I J Q) : ∀ (j : Nat) (x y : Int) (u : Option aV), 0 ≤ y → y + j = I 57 2 → x = sumI (twM (I 57) f a z) y → 0 ≤ x → x ≤ 20 * y → At (d + 1) 227 38 [some (vR 56), some (vI f), some (vI a), some (vI z), some (vI x), some (vI y), u] [] G I J Q
  | 0, x, y, u, h0, h1, hx, _, _ => by
    refine b_X12_town_38 hG (fun _ => ?_) (fun h => ?_)
    · rw [hx, show y = I 57 2 by omega]
      exact k _ _
    · omega
  | j + 1, x, y, u, h0, h1, hx, hx0, hx1 => by
    have hs := sumI_s (f := twM (I 57) f a z) h0
    have h9 := hm y h0 (by omega)
    refine b_X12_town_38 hG (fun h => ?_) (fun _ => ?_)
    · omega
    have go : ∀ x' u, x' = x + twM (I 57) f a z y → At (d + 1) 227 38 [some (vR 56), some (vI f), some (vI a), some (vI z), some (vI x'), some (vI (y + 1)), u] [] G I J Q := by
      intro x' u hx'
      have : 0 ≤ twM (I 57) f a z y ∧ twM (I 57) f a z y ≤ 20 := by
        unfold twM
        split <;> omega
      exact lp_townM hG hr hm k j x' (y + 1) u (by omega) (by omega) (by omega) (by omega) (by omega)
    unfold twM at go
    repeat' first
      | intro _
      | refine go _ _ ?_
      | refine b_X12_c_0 hG ?_ ?_ ?_ ?_ ?_ ?_
      | refine sp_in hG ?_ ?_
      | refine b_X12_town_0 hG ?_
      | refine b_X12_town_5 hG ?_ ?_
      | refine b_X12_town_10 hG ?_
      | refine b_X12_town_8 hG ?_
      | refine b_X12_town_14 hG ?_ ?_
      | refine b_X12_town_29 hG ?_
      | refine b_X12_town_17 hG ?_
      | refine b_X12_town_21 hG ?_ ?_
      | refine b_X12_town_24 hG ?_ ?_
      | refine b_X12_town_32 hG ?_
      | refine b_X12_town_49 hG ?_
      | refine b_X12_town_56 hG ?_ ?_
      | refine b_X12_town_71 hG ?_
      | refine b_X12_town_60 hG ?_
      | refine b_X12_town_87 hG ?_ ?_
      | refine b_X12_town_67 hG ?_ ?_
      | refine b_X12_town_135 hG ?_ ?_ ?_
      | refine b_X12_town_91 hG ?_
      | refine b_X12_town_75 hG ?_
      | refine b_X12_town_98 hG ?_ ?_
      | refine b_X12_town_102 hG ?_ ?_
      | refine b_X12_town_107 hG ?_
      | refine b_X12_town_114 hG ?_ ?_
      | refine b_X12_town_122 hG ?_ ?_
      | refine b_X12_town_125 hG ?_
      | refine b_X12_town_132 hG ?_ ?_ ?_
    all_goals first
      | omega
      | (unfold ok32; omega)
      | (split <;> omega)
theorem tw_eq {A B : aI} {S : Int → Int} (h : RelC A B S) : sumI (twF A f a z) (A 20 0) = sumI (twM S f a z) (S 2) := by
  rw [h.1.2.2]
  refine sumI_c fun k h0 h1 => ?_
  obtain ⟨⟨c1, c2, c3, c4, c5, c6, c7, c8⟩, _⟩ := h.2.1 k h0 h1
  unfold twF twM
  rw [c1, c2, c4, c5, c6]
theorem cs_25 {x y w : Int} (hV : LV b G I J) : Cl (d + 5) 134 227 [some (vR 0), some (vI x), some (vI y), some (vI w), none] [some (vR 56), some (vI x), some (vI y), some (vI w), none, none, none] G I J := by
  obtain ⟨hG, hRW, hc, hi, hk⟩ := id hV
  obtain ⟨hN, hF, hR, hT, hC, hW, hL, hM⟩ := id hRW
  have f0 := hF.1
  have f2 := hC.1
  have m0 : 0 ≤ I 57 0 ∧ I 57 0 ≤ 12 := ⟨f0.1, f0.2.1⟩
  have mm : ∀ k, 0 ≤ k → k < I 57 2 → ((1 ≤ I 26 k ∧ I 26 k ≤ 20) ∧ 0 ≤ I 27 k) ∧ ((1 ≤ I 57 ((1312 + (8 * k)) + 3) ∧ I 57 ((1312 + (8 * k)) + 3) ≤ 20) ∧ 0 ≤ I 57 ((1312 + (8 * k)) + 4)) := fun k h0 h1 => by
    obtain ⟨⟨c1, c2, c3, c4, c5, c6, c7, c8⟩, _, o1, o2, o3, o4, o5, o6, o7, o8, _⟩ := hC.2.1 k h0 h1
    omega
  have he := tw_eq (f := x) (a := y) (z := w) hC
  have hb := sumI_bd (f := twM (I 57) x y w) (B := 20) (n := I 57 2) f2.1 (fun k k0 k1 => by
    have := (mm k k0 k1).2
    unfold twM
    split <;> omega)
  unfold Cl
  have go : ∀ (D : Nat) (Q' : Option aV → aG → aI → aI → Prop), Q' (some (vI (sumI (twF I x y w) (I 20 0)))) G I J → At D 17 0 [some (vR 20), some (vI x), some (vI y), some (vI w), none, none, none, none] [] G I J Q' := fun D Q' k => b_X0_townMinutes_0 hG (lp_townC hG (by omega) (fun k k0 k1 => (mm k k0 (by omega)).1) k (I 20 0).toNat 0 0 _ _ (by omega) (by omega) rfl (by omega) (by omega))
  rw [he] at go
  repeat' first
    | intro _
    | refine sp_within hG ?_ ?_
    | refine sp_X4_has hG ?_ ?_
    | refine go _ _ ?_
    | refine b_X11_town_0 hG ?_
    | refine b_X11_town_11 hG ?_ ?_
    | refine b_X11_town_16 hG ?_
    | refine b_X11_town_14 hG ?_
    | refine b_X11_town_24 hG ?_ ?_
    | refine b_X11_town_38 hG ?_
    | refine b_X11_town_27 hG ?_
    | refine b_X11_town_35 hG ?_ ?_
    | refine b_X11_town_41 hG ?_
    | refine b_X11_town_54 hG ?_ ?_ ?_ ?_
  all_goals try omega
  all_goals try (unfold ok32; omega)
  · refine ⟨_, b, rfl, hG, ⟨rfl, rfl⟩, ?_⟩
    unfold Md
    have fin : ∀ y' u, At (d + 4 + 1) 227 145 [some (vR 56), some (vI x), some (vI y), some (vI w), some (vI (sumI (twM (I 57) x y w) (I 57 2))), some (vI y'), u] [] G I J (fun v G2 I2 J2 => v = some (vI (2 * (sumI (twM (I 57) x y w) (I 57 2)) + min (sumI (twM (I 57) x y w) (I 57 2)) 10 + min (sumI (twM (I 57) x y w) (I 57 2)) 20)) ∧ ∃ b, LV b G2 I2 J2 ∧ Sc I I2) := by
      intro y' u
      repeat' first
        | intro _
        | refine b_X12_town_145 hG ?_ ?_
        | refine b_X12_town_159 hG ?_ ?_
        | refine b_X12_town_152 hG ?_ ?_
        | refine b_X12_town_179 hG ?_ ?_ ?_ ?_
        | refine b_X12_town_166 hG ?_ ?_ ?_ ?_
      all_goals first
        | (unfold ok32; omega)
        | exact ⟨congrArg (fun z => some (vI z)) (by omega), b, hV, rfl, rfl⟩
    have lp := lp_townM (d := d + 4) hG (by omega) (fun k k0 k1 => (mm k k0 k1).2) fin (I 57 2).toNat 0 0 none (by omega) (by omega) rfl (by omega) (by omega)
    repeat' first
      | intro _
      | refine sp_isFarm hG m0 ?_ ?_
      | refine sp_isDay hG ?_ ?_
      | refine lp
      | refine b_X12_town_0 hG ?_
      | refine b_X12_town_5 hG ?_ ?_
      | refine b_X12_town_10 hG ?_
      | refine b_X12_town_8 hG ?_
      | refine b_X12_town_14 hG ?_ ?_
      | refine b_X12_town_29 hG ?_
      | refine b_X12_town_17 hG ?_
      | refine b_X12_town_21 hG ?_ ?_
      | refine b_X12_town_24 hG ?_ ?_
      | refine b_X12_town_32 hG ?_
      | refine b_X12_town_145 hG ?_ ?_
      | refine b_X12_town_49 hG ?_
      | refine b_X12_town_159 hG ?_ ?_
      | refine b_X12_town_152 hG ?_ ?_
      | refine b_X12_town_56 hG ?_ ?_
      | refine b_X12_town_179 hG ?_ ?_ ?_ ?_
      | refine b_X12_town_166 hG ?_ ?_ ?_ ?_
      | refine b_X12_town_71 hG ?_
      | refine b_X12_town_60 hG ?_
      | refine b_X12_town_87 hG ?_ ?_
      | refine b_X12_town_67 hG ?_ ?_
      | refine b_X12_town_135 hG ?_ ?_ ?_
      | refine b_X12_town_91 hG ?_
      | refine b_X12_town_75 hG ?_
      | refine b_X12_town_98 hG ?_ ?_
      | refine b_X12_town_102 hG ?_ ?_
      | refine b_X12_town_107 hG ?_
      | refine b_X12_town_114 hG ?_ ?_
      | refine b_X12_town_122 hG ?_ ?_
      | refine b_X12_town_125 hG ?_
      | refine b_X12_town_132 hG ?_ ?_ ?_
    all_goals omega
  all_goals refine ⟨_, _, rfl, hG, ⟨rfl, rfl⟩, ?_⟩
  all_goals unfold Md
  all_goals
    repeat' first
      | intro _
      | refine sp_isFarm hG m0 ?_ ?_
      | refine sp_isDay hG ?_ ?_
      | refine b_X12_town_0 hG ?_
      | refine b_X12_town_5 hG ?_ ?_
      | refine b_X12_town_10 hG ?_
      | refine b_X12_town_8 hG ?_
      | refine b_X12_town_14 hG ?_ ?_
      | refine b_X12_town_29 hG ?_
      | refine b_X12_town_17 hG ?_
      | refine b_X12_town_21 hG ?_ ?_
      | refine b_X12_town_24 hG ?_ ?_
      | refine b_X12_town_32 hG ?_
      | refine b_X12_town_145 hG ?_ ?_
      | refine b_X12_town_49 hG ?_
      | refine b_X12_town_159 hG ?_ ?_
      | refine b_X12_town_152 hG ?_ ?_
      | refine b_X12_town_56 hG ?_ ?_
      | refine b_X12_town_179 hG ?_ ?_ ?_ ?_
      | refine b_X12_town_166 hG ?_ ?_ ?_ ?_
      | refine b_X12_town_71 hG ?_
      | refine b_X12_town_60 hG ?_
      | refine b_X12_town_87 hG ?_ ?_
      | refine b_X12_town_67 hG ?_ ?_
      | refine b_X12_town_135 hG ?_ ?_ ?_
      | refine b_X12_town_91 hG ?_
      | refine b_X12_town_75 hG ?_
      | refine b_X12_town_98 hG ?_ ?_
      | refine b_X12_town_102 hG ?_ ?_
      | refine b_X12_town_107 hG ?_
      | refine b_X12_town_114 hG ?_ ?_
      | refine b_X12_town_122 hG ?_ ?_
      | refine b_X12_town_125 hG ?_
      | refine b_X12_town_132 hG ?_ ?_ ?_
  all_goals first
    | omega
    | exact ⟨rfl, b, hV, rfl, rfl⟩
def unF (a o : Int) : Int := if a = o then 1 else if a = 1 ∨ a = 2 then (if o = 0 then 1 else 0) else if a = 3 then (if o = 2 ∨ o = 0 then 1 else 0) else if a = 4 then (if o = 1 ∨ o = 0 then 1 else 0) else 0
theorem un_step {x o c i : Int} (hG : GW b G) (hc : 0 ≤ c ∧ c ≤ 4) (hi : 0 ≤ i ∧ i ≤ 3) (k1 : c = o → Q (some (vI 1)) G I J) (k0 : ¬ c = o → At d 5 4 [some (vI x), some (vI o), some (vI (KI 1001 c)), some (vI (i + 1))] [] G I J Q) : At d 5 4 [some (vI x), some (vI o), some (vI c), some (vI i)] [] G I J Q :=
  b_X0_isUnder_4 hG (fun q => absurd q (by omega)) (fun _ => b_X0_isUnder_9 hG (fun q => absurd q (by omega)) (fun _ => b_X0_isUnder_13 hG (fun q => absurd q (by omega)) (fun _ => b_X0_isUnder_18 hG (fun q => b_X0_isUnder_25 hG hc.1 (by omega) (by unfold ok32; omega) (k0 q)) (fun q => b_X0_isUnder_23 hG (k1 q)))))
theorem un_end {x o i : Int} (hG : GW b G) (k : Q (some (vI 0)) G I J) : At d 5 4 [some (vI x), some (vI o), some (vI (-1)), some (vI i)] [] G I J Q :=
  b_X0_isUnder_4 hG (fun _ => b_X0_isUnder_37 hG k) (fun _ => b_X0_isUnder_9 hG (fun _ => b_X0_isUnder_37 hG k) (fun q => absurd q (by decide)))
theorem sp_isUnder {x o : Int} (hG : GW b G) (hx : 0 ≤ x ∧ x ≤ 4) (k : Q (some (vI (unF x o))) G I J) : At d 5 0 [some (vI x), some (vI o), none, none] [] G I J Q := by
  have z : x = 0 ∨ x = 1 ∨ x = 2 ∨ x = 3 ∨ x = 4 := by omega
  have e0 : KI 1001 0 = -1 := by decide
  have e1 : KI 1001 1 = 0 := by decide
  have e2 : KI 1001 2 = 0 := by decide
  have e3 : KI 1001 3 = 2 := by decide
  have e4 : KI 1001 4 = 1 := by decide
  refine b_X0_isUnder_0 hG ?_
  have y1 : unF x o = 1 → Q (some (vI 1)) G I J := fun q => by rw [q] at k; exact k
  have y0 : unF x o = 0 → Q (some (vI 0)) G I J := fun q => by rw [q] at k; exact k
  unfold unF at y1 y0
  rcases z with rfl | rfl | rfl | rfl | rfl
  · refine un_step hG (by decide) (by decide) (fun q => y1 ?_) (fun q => ?_)
    · rw [if_pos q]
    · rw [e0]
      refine un_end hG (y0 ?_)
      rw [if_neg q]
      rfl
  · refine un_step hG (by decide) (by decide) (fun q => y1 ?_) (fun q => ?_)
    · rw [if_pos q]
    · rw [e1]
      refine un_step hG (by decide) (by decide) (fun q2 => y1 ?_) (fun q2 => ?_)
      · simp [q, ← q2]
      · rw [e0]
        refine un_end hG (y0 ?_)
        simp [q, Ne.symm q2]
  · refine un_step hG (by decide) (by decide) (fun q => y1 ?_) (fun q => ?_)
    · rw [if_pos q]
    · rw [e2]
      refine un_step hG (by decide) (by decide) (fun q2 => y1 ?_) (fun q2 => ?_)
      · simp [q, ← q2]
      · rw [e0]
        refine un_end hG (y0 ?_)
        simp [q, Ne.symm q2]
  · refine un_step hG (by decide) (by decide) (fun q => y1 ?_) (fun q => ?_)
    · rw [if_pos q]
    · rw [e3]
      refine un_step hG (by decide) (by decide) (fun q2 => y1 ?_) (fun q2 => ?_)
      · simp [q, ← q2]
      · rw [e2]
        refine un_step hG (by decide) (by decide) (fun q3 => y1 ?_) (fun q3 => ?_)
        · simp [q, q2, ← q3]
        · rw [e0]
          refine un_end hG (y0 ?_)
          simp [q, Ne.symm q2, Ne.symm q3]
  · refine un_step hG (by decide) (by decide) (fun q => y1 ?_) (fun q => ?_)
    · rw [if_pos q]
    · rw [e4]
      refine un_step hG (by decide) (by decide) (fun q2 => y1 ?_) (fun q2 => ?_)
      · simp [q, ← q2]
      · rw [e1]
        refine un_step hG (by decide) (by decide) (fun q3 => y1 ?_) (fun q3 => ?_)
        · simp [q, q2, ← q3]
        · rw [e0]
          refine un_end hG (y0 ?_)
          simp [q, Ne.symm q2, Ne.symm q3]
theorem sp_over {x : Int} (hG : GW b G) (k : Q (some (vI (if x = 0 then -1 else if x = 3 then 2 else if x = 4 then 1 else 0))) G I J) : At d 199 0 [some (vI x)] [] G I J Q := by
  repeat' first
    | intro _
    | refine b_X12_over_0 hG ?_ ?_
    | refine b_X12_over_8 hG ?_ ?_
    | refine b_X12_over_4 hG ?_
    | refine b_X12_over_17 hG ?_ ?_
    | refine b_X12_over_13 hG ?_
    | refine b_X12_over_26 hG ?_
    | refine b_X12_over_22 hG ?_
  all_goals simp [*] at k
  all_goals exact k
theorem as_step {x y n : Int} (hG : GW b G) (hx : 0 ≤ x ∧ x < 60) (hy : 0 ≤ y) (hn : ¬ n = -1) (k1 : n = y → Q (some (vI (I 57 ((1312 + (8 * x)) + 3)))) G I J) (k0 : ¬ n = y → At (d + 1) 200 26 [some (vR 56), some (vI x), some (vI y), some (vI (if n = 0 then -1 else if n = 3 then 2 else if n = 4 then 1 else 0))] [] G I J Q) : At (d + 1) 200 26 [some (vR 56), some (vI x), some (vI y), some (vI n)] [] G I J Q :=
  b_X12_as_26 hG (fun q => absurd q hn) (fun _ => b_X12_as_31 hG (fun q => b_X12_as_44 hG (fun q2 => absurd q q2) (fun _ => b_X12_as_49 hG (b_X12_c_0 hG (by unfold ok32; omega) (by unfold ok32; omega) (by unfold ok32; omega) (by omega) (by omega) (b_X12_as_55 hG (k1 q))))) (fun q => b_X12_as_36 hG (sp_over hG (b_X12_as_40 hG (k0 q)))))
theorem as_end {x y : Int} (hG : GW b G) (hy : 0 ≤ y) (k : Q (some (vI (-6))) G I J) : At (d + 1) 200 26 [some (vR 56), some (vI x), some (vI y), some (vI (-1))] [] G I J Q :=
  b_X12_as_26 hG (fun _ => b_X12_as_44 hG (fun _ => b_X12_as_58 hG k) (fun q => absurd q (by omega))) (fun q => absurd rfl q)
theorem sp_asM {x y n : Int} (hG : GW b G) (hx : 0 ≤ x ∧ x < 60) (hy : 0 ≤ y) (hn : 0 ≤ n ∧ n ≤ 4) (y1 : unF n y = 1 → Q (some (vI (I 57 ((1312 + (8 * x)) + 3)))) G I J) (y0 : unF n y = 0 → Q (some (vI (-6))) G I J) : At (d + 1) 200 26 [some (vR 56), some (vI x), some (vI y), some (vI n)] [] G I J Q := by
  have z : n = 0 ∨ n = 1 ∨ n = 2 ∨ n = 3 ∨ n = 4 := by omega
  rcases z with rfl | rfl | rfl | rfl | rfl
  · refine as_step hG hx hy (by decide) (fun q0 => y1 ?_) (fun q0 => ?_)
    · simp [unF, ← q0]
    · rw [show (if (0 : Int) = 0 then (-1 : Int) else if (0 : Int) = 3 then 2 else if (0 : Int) = 4 then 1 else 0) = -1 by decide]
      refine as_end hG hy (y0 ?_)
      simp [unF, q0, Ne.symm q0]
  · refine as_step hG hx hy (by decide) (fun q0 => y1 ?_) (fun q0 => ?_)
    · simp [unF, ← q0]
    · rw [show (if (1 : Int) = 0 then (-1 : Int) else if (1 : Int) = 3 then 2 else if (1 : Int) = 4 then 1 else 0) = 0 by decide]
      refine as_step hG hx hy (by decide) (fun q1 => y1 ?_) (fun q1 => ?_)
      · simp [q0, unF, ← q1]
      · rw [show (if (0 : Int) = 0 then (-1 : Int) else if (0 : Int) = 3 then 2 else if (0 : Int) = 4 then 1 else 0) = -1 by decide]
        refine as_end hG hy (y0 ?_)
        simp [unF, q0, Ne.symm q0, q1, Ne.symm q1]
  · refine as_step hG hx hy (by decide) (fun q0 => y1 ?_) (fun q0 => ?_)
    · simp [unF, ← q0]
    · rw [show (if (2 : Int) = 0 then (-1 : Int) else if (2 : Int) = 3 then 2 else if (2 : Int) = 4 then 1 else 0) = 0 by decide]
      refine as_step hG hx hy (by decide) (fun q1 => y1 ?_) (fun q1 => ?_)
      · simp [q0, unF, ← q1]
      · rw [show (if (0 : Int) = 0 then (-1 : Int) else if (0 : Int) = 3 then 2 else if (0 : Int) = 4 then 1 else 0) = -1 by decide]
        refine as_end hG hy (y0 ?_)
        simp [unF, q0, Ne.symm q0, q1, Ne.symm q1]
  · refine as_step hG hx hy (by decide) (fun q0 => y1 ?_) (fun q0 => ?_)
    · simp [unF, ← q0]
    · rw [show (if (3 : Int) = 0 then (-1 : Int) else if (3 : Int) = 3 then 2 else if (3 : Int) = 4 then 1 else 0) = 2 by decide]
      refine as_step hG hx hy (by decide) (fun q1 => y1 ?_) (fun q1 => ?_)
      · simp [q0, unF, ← q1]
      · rw [show (if (2 : Int) = 0 then (-1 : Int) else if (2 : Int) = 3 then 2 else if (2 : Int) = 4 then 1 else 0) = 0 by decide]
        refine as_step hG hx hy (by decide) (fun q2 => y1 ?_) (fun q2 => ?_)
        · simp [q0, q1, Ne.symm q1, unF, ← q2]
        · rw [show (if (0 : Int) = 0 then (-1 : Int) else if (0 : Int) = 3 then 2 else if (0 : Int) = 4 then 1 else 0) = -1 by decide]
          refine as_end hG hy (y0 ?_)
          simp [unF, q0, Ne.symm q0, q1, Ne.symm q1, q2, Ne.symm q2]
  · refine as_step hG hx hy (by decide) (fun q0 => y1 ?_) (fun q0 => ?_)
    · simp [unF, ← q0]
    · rw [show (if (4 : Int) = 0 then (-1 : Int) else if (4 : Int) = 3 then 2 else if (4 : Int) = 4 then 1 else 0) = 1 by decide]
      refine as_step hG hx hy (by decide) (fun q1 => y1 ?_) (fun q1 => ?_)
      · simp [q0, unF, ← q1]
      · rw [show (if (1 : Int) = 0 then (-1 : Int) else if (1 : Int) = 3 then 2 else if (1 : Int) = 4 then 1 else 0) = 0 by decide]
        refine as_step hG hx hy (by decide) (fun q2 => y1 ?_) (fun q2 => ?_)
        · simp [q0, q1, Ne.symm q1, unF, ← q2]
        · rw [show (if (0 : Int) = 0 then (-1 : Int) else if (0 : Int) = 3 then 2 else if (0 : Int) = 4 then 1 else 0) = -1 by decide]
          refine as_end hG hy (y0 ?_)
          simp [unF, q0, Ne.symm q0, q1, Ne.symm q1, q2, Ne.symm q2]
theorem unF_01 {a o : Int} : unF a o = 0 ∨ unF a o = 1 := by
  unfold unF
  (repeat' split) <;> first | exact Or.inl rfl | exact Or.inr rfl
theorem cs_12 {x y : Int} (hV : LV b G I J) : Cl (d + 5) 121 200 [some (vR 0), some (vI x), some (vI y)] [some (vR 56), some (vI x), some (vI y), none] G I J := by
  obtain ⟨hG, hRW, hc, hi, hk⟩ := id hV
  obtain ⟨hN, hF, hR, hT, hC, hW, hL, hM⟩ := id hRW
  have f2 := hC.1
  have m1 : 0 ≤ I 57 2 ∧ I 57 2 ≤ 60 := ⟨f2.1, f2.2.1⟩
  unfold Cl
  refine b_X11_as_0 hG (sp_X0_has hG (fun x0 x1 => b_X11_as_11 hG (fun q => absurd q (by decide)) (fun _ => b_X11_as_14 hG (sp_within hG (fun y0 y1 => b_X11_as_20 hG (fun _ => b_X11_as_25 hG x0 (by omega) ?is) (fun q => absurd q (by decide))) (fun q => b_X11_as_20 hG (fun q2 => absurd rfl q2) (fun _ => b_X11_as_23 hG ⟨_, b, rfl, hG, ⟨rfl, rfl⟩, ?n2⟩))))) (fun q => b_X11_as_11 hG (fun _ => b_X11_as_23 hG ⟨_, b, rfl, hG, ⟨rfl, rfl⟩, ?n1⟩) (fun q2 => absurd rfl q2)))
  case is =>
    obtain ⟨⟨c1, c2, c3, c4, c5, c6, c7, c8⟩, _, o1, _⟩ := hC.2.1 x x0 (by omega)
    have fin : ∀ w, (unF (I 21 x) y = 1 → w = I 26 x) → (unF (I 21 x) y = 0 → w = -6) → Md (d + 5) 200 [some (vR 56), some (vI x), some (vI y), none] w G I J := by
      intro w h1 h0
      unfold Md
      refine b_X12_as_0 hG (sp_isCall hG m1 (fun _ _ => b_X12_as_5 hG (fun q => absurd q (by decide)) (fun _ => b_X12_as_8 hG (sp_in hG (fun _ _ => b_X12_as_14 hG (fun _ => b_X12_as_19 hG (b_X12_c_0 hG (by unfold ok32; omega) (by unfold ok32; omega) (by unfold ok32; omega) (by omega) (by omega) (b_X12_as_25 hG ?_))) (fun q => absurd q (by decide))) (fun q => absurd q (by omega))))) (fun q => absurd q (by omega)))
      rw [← c1]
      refine sp_asM (d := d + 4) hG (by omega) y0 (by omega) (fun q => ⟨?_, b, hV, rfl, rfl⟩) (fun q => ⟨?_, b, hV, rfl, rfl⟩)
      · rw [h1 q, c4]
      · rw [h0 q]
    refine sp_isUnder hG (by omega) ?_
    rcases unF_01 (a := I 21 x) (o := y) with h | h
    · rw [h]
      exact b_X11_as_41 hG (fun _ => b_X11_as_59 hG ⟨_, b, rfl, hG, ⟨rfl, rfl⟩, fin _ (fun q => by omega) (fun _ => rfl)⟩) (fun q => absurd rfl q)
    · rw [h]
      exact b_X11_as_41 hG (fun q => absurd q (by decide)) (fun _ => b_X11_as_44 hG x0 (by omega) ⟨_, b, rfl, hG, ⟨rfl, rfl⟩, fin _ (fun _ => rfl) (fun q => by omega)⟩)
  case n2 =>
    unfold Md
    exact b_X12_as_0 hG (sp_isCall hG m1 (fun _ _ => b_X12_as_5 hG (fun q => absurd q (by decide)) (fun _ => b_X12_as_8 hG (sp_in hG (fun _ _ => absurd q (by omega)) (fun _ => b_X12_as_14 hG (fun q2 => absurd rfl q2) (fun _ => b_X12_as_17 hG ⟨rfl, b, hV, rfl, rfl⟩))))) (fun q => absurd q (by omega)))
  case n1 =>
    unfold Md
    exact b_X12_as_0 hG (sp_isCall hG m1 (fun _ _ => absurd q (by omega)) (fun _ => b_X12_as_5 hG (fun _ => b_X12_as_17 hG ⟨rfl, b, hV, rfl, rfl⟩) (fun q => absurd rfl q)))
end SM
