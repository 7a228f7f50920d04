/-! the calls like and mistakes -/
def shR (a b : Int) : Nat → Int → Int
  | 0, _ => 0
  | f + 1, i => if a / 16 ≤ i then 0 else if bOr (bAnd (bAnd a 15) ((bShl 1 i) - 1)) (bShl (bShr (bAnd a 15) (i + 1)) i) = bAnd b 15 then 1 else shR a b f (i + 1)
def mistF (a b : Int) : Int := if a / 16 = 0 then 0 else if b / 16 = 0 then 0 else if a = b then 9 else if a / 16 = b / 16 then max 0 (3 - pop (bXor a b)) else if a / 16 = b / 16 + 1 then 2 * shR a b 5 0 else if b / 16 = a / 16 + 1 then 2 * shR b a 5 0 else 0
def alR (m l s : Int) : Nat → Int → Int
  | 0, _ => 0
  | f + 1, i => if s ≤ i then 0 else if bOr (bAnd m ((bShl 1 i) - 1)) (bAnd (bShr m 1) (bXor ((bShl 1 i) - 1) (-1))) = l then 2 else alR m l s f (i + 1)
def alikeF (a b : Int) : Int := if a / 16 = 0 then 0 else if b / 16 = 0 then 0 else if a / 16 = b / 16 then (if pop (bAnd (bXor a b) 15) = 0 then 9 else if pop (bAnd (bXor a b) 15) ≤ 3 then 3 - pop (bAnd (bXor a b) 15) else 0) else if a / 16 = b / 16 + 1 ∨ b / 16 = a / 16 + 1 then (if a / 16 ≤ b / 16 then alR (b % 16) (a % 16) (b / 16) 5 0 else alR (a % 16) (b % 16) (a / 16) 5 0) else 0
theorem mist_eq0 : ∀ a : Nat, a < 80 → ∀ c : Nat, c < 80 → mistF (a : Int) (c : Int) = alikeF (a : Int) (c : Int) ∧ 0 ≤ mistF (a : Int) (c : Int) ∧ mistF (a : Int) (c : Int) ≤ 9 := by decide +kernel
theorem mist_eq {a c : Int} (ha : 0 ≤ a ∧ a < 80) (hc : 0 ≤ c ∧ c < 80) : mistF a c = alikeF a c ∧ 0 ≤ mistF a c ∧ mistF a c ≤ 9 := by
  obtain ⟨m, rfl⟩ := Int.eq_ofNat_of_zero_le ha.1
  obtain ⟨n, rfl⟩ := Int.eq_ofNat_of_zero_le hc.1
  exact mist_eq0 m (by omega) n (by omega)
theorem xorb {a c : Int} (ha : 0 ≤ a ∧ a < 80) (hc : 0 ≤ c ∧ c < 80) : 0 ≤ bXor a c ∧ bXor a c < 128 := by
  obtain ⟨m, rfl⟩ := Int.eq_ofNat_of_zero_le ha.1
  obtain ⟨n, rfl⟩ := Int.eq_ofNat_of_zero_le hc.1
  rw [bXor_nat (by omega) (by omega)]
  have := Nat.xor_lt_two_pow (n := 7) (x := m) (y := n) (by omega) (by omega)
  omega
theorem and15 {a : Int} (ha : 0 ≤ a ∧ a < 128) : 0 ≤ bAnd a 15 ∧ bAnd a 15 ≤ 15 := by
  obtain ⟨m, rfl⟩ := Int.eq_ofNat_of_zero_le ha.1
  rw [show (15 : Int) = ((15 : Nat) : Int) from rfl, bAnd_nat (by omega) (by decide)]
  have : m &&& 15 ≤ 15 := Nat.and_le_right
  omega
theorem shr4 {a : Int} (ha : 0 ≤ a ∧ a < 80) : bShr a 4 = a / 16 := by
  obtain ⟨m, rfl⟩ := Int.eq_ofNat_of_zero_le ha.1
  rw [show (4 : Int) = ((4 : Nat) : Int) from rfl, bShr_nat (by omega) (by decide), Nat.shiftRight_eq_div_pow]
  omega
section SM
variable {d : Nat} {b : Bool} {G : aG} {I J : aI} {Q : Option aV → aG → aI → aI → Prop}
theorem lp_shortens {a c : Int} (hG : GW b G) (ha : 0 ≤ a ∧ a < 80) : ∀ (f : Nat) (i : Int) (u4 u5 : Option aV), 0 ≤ i → i + f = 5 → Q (some (vI (shR a c f i))) G I J → At d 21 7 [some (vI a), some (vI c), some (vI (bAnd a 15)), some (vI i), u4, u5] [] G I J Q
  | 0, i, u4, u5, h0, h1, k => by
    have := shr4 ha
    exact b_X1_shortens_7 hG (fun _ => b_X1_shortens_52 hG k) (fun q => by omega)
  | f + 1, i, u4, u5, h0, h1, k => by
    have e := shr4 ha
    have hs := shl4 (y := i) (by omega)
    unfold shR at k
    refine b_X1_shortens_7 hG (fun q => b_X1_shortens_52 hG ?_) (fun q => b_X1_shortens_14 hG (by unfold ok32; omega) (by unfold ok32; omega) (fun q2 => b_X1_shortens_46 hG (by unfold ok32; omega) (lp_shortens hG ha f (i + 1) _ _ (by omega) (by omega) ?_)) (fun q2 => b_X1_shortens_44 hG ?_))
    · rw [if_pos (by omega)] at k
      exact k
    · rw [if_neg (by omega), if_neg q2] at k
      exact k
    · rw [if_neg (by omega), if_pos q2] at k
      exact k
theorem sh01 {a c : Int} : ∀ (f : Nat) (i : Int), shR a c f i = 0 ∨ shR a c f i = 1
  | 0, _ => Or.inl rfl
  | f + 1, i => by
    unfold shR
    split
    · exact Or.inl rfl
    · split
      · exact Or.inr rfl
      · exact sh01 f (i + 1)
theorem sp_mistaken {a c : Int} (hG : GW b G) (ha : 0 ≤ a ∧ a < 80) (hc : 0 ≤ c ∧ c < 80) (k : Q (some (vI (mistF a c))) G I J) : At (d + 1) 20 0 [some (vI a), some (vI c), none, none] [] G I J Q := by
  have ea := shr4 ha
  have ec := shr4 hc
  have hx := xorb ha hc
  have hp := pop_le (x := bXor a c)
  unfold mistF at k
  refine b_X1_mistaken_0 hG (fun q => b_X1_mistaken_16 hG ?_) (fun q => b_X1_mistaken_12 hG (fun q1 => b_X1_mistaken_18 hG (fun q2 => b_X1_mistaken_26 hG (fun q3 => b_X1_mistaken_44 hG (by unfold ok32; omega) (fun q4 => b_X1_mistaken_65 hG (by unfold ok32; omega) (fun q5 => b_X1_mistaken_86 hG ?_) (fun q5 => b_X1_mistaken_72 hG (b_X1_shortens_0 hG (lp_shortens hG hc 5 0 _ _ (by decide) (by decide) ?_)))) (fun q4 => b_X1_mistaken_51 hG (b_X1_shortens_0 hG (lp_shortens hG ha 5 0 _ _ (by decide) (by decide) ?_)))) (fun q3 => b_X1_mistaken_31 hG (sp_J6 hG hx.1 (by omega) (b_X1_mistaken_39 hG (by unfold ok32; omega) ?_)))) (fun q2 => b_X1_mistaken_23 hG ?_)) (fun q1 => b_X1_mistaken_16 hG ?_))
  all_goals (try rw [ea] at *)
  all_goals (try rw [ec] at *)
  · rw [if_pos q] at k
    exact k
  · rw [if_neg q, if_neg q1, if_neg q2, if_neg q3, if_neg q4, if_neg q5] at k
    exact k
  · rw [if_neg q, if_neg q1, if_neg q2, if_neg q3, if_neg q4, if_pos q5] at k
    rcases sh01 (a := c) (c := a) 5 0 with h | h
    · rw [h] at k ⊢
      exact b_X1_mistaken_77 hG (fun _ => b_X1_mistaken_84 hG k) (fun q => absurd rfl q)
    · rw [h] at k ⊢
      exact b_X1_mistaken_77 hG (fun q => absurd q (by decide)) (fun _ => b_X1_mistaken_80 hG k)
  · rw [if_neg q, if_neg q1, if_neg q2, if_neg q3, if_pos q4] at k
    rcases sh01 (a := a) (c := c) 5 0 with h | h
    · rw [h] at k ⊢
      exact b_X1_mistaken_56 hG (fun _ => b_X1_mistaken_63 hG k) (fun q => absurd rfl q)
    · rw [h] at k ⊢
      exact b_X1_mistaken_56 hG (fun q => absurd q (by decide)) (fun _ => b_X1_mistaken_59 hG k)
  · rw [if_neg q, if_neg q1, if_neg q2, if_pos q3] at k
    exact k
  · rw [if_neg q, if_neg q1, if_pos q2] at k
    exact k
  · rw [if_neg q, if_pos q1] at k
    exact k
theorem lp_alike {x0 x1 x2 x3 m l s : Int} (hG : GW b G) (hs : s ≤ 4) : ∀ (f : Nat) (i : Int) (u8 : Option aV), 0 ≤ i → i + f = 5 → Q (some (vI (alR m l s f i))) G I J → At d 160 128 [some (vI x0), some (vI x1), some (vI x2), some (vI x3), some (vI m), some (vI l), some (vI s), some (vI i), u8] [] G I J Q
  | 0, i, u8, h0, h1, k => b_X12_alike_128 hG (fun _ => b_X12_alike_171 hG k) (fun q => by omega)
  | f + 1, i, u8, h0, h1, k => by
    have hs := shl4 (y := i) (by omega)
    unfold alR at k
    refine b_X12_alike_128 hG (fun q => b_X12_alike_171 hG ?_) (fun q => b_X12_alike_135 hG (by unfold ok32; omega) (fun q2 => b_X12_alike_165 hG (by unfold ok32; omega) (lp_alike hG ‹_› f (i + 1) _ (by omega) (by omega) ?_)) (fun q2 => b_X12_alike_163 hG ?_))
    · rw [if_pos q] at k
      exact k
    · rw [if_neg (by omega), if_neg q2] at k
      exact k
    · rw [if_neg (by omega), if_pos q2] at k
      exact k
theorem sp_alike {a c : Int} (hG : GW b G) (ha : 0 ≤ a ∧ a < 80) (hc : 0 ≤ c ∧ c < 80) (k : Q (some (vI (mistF a c))) G I J) : At (d + 1) 160 0 [some (vI a), some (vI c), none, none, none, none, none, none, none] [] G I J Q := by
  rw [(mist_eq ha hc).1] at k
  have hx := xorb ha hc
  have h15 := and15 (a := bXor a c) hx
  have hp := pop_le (x := bAnd (bXor a c) 15)
  unfold alikeF at k
  have tl : ¬ a / 16 = 0 → ¬ c / 16 = 0 → ¬ a / 16 = c / 16 → (a / 16 = c / 16 + 1 ∨ c / 16 = a / 16 + 1) → At (d + 1) 160 77 [some (vI a), some (vI c), some (vI (a / 16)), some (vI (c / 16)), none, none, none, none, none] [] G I J Q := by
    intro q q1 q2 q3
    rw [if_neg q, if_neg q1, if_neg q2, if_pos q3] at k
    refine b_X12_alike_77 hG (fun q4 => b_X12_alike_89 hG hc.1 (fun _ => b_X12_alike_107 hG ha.1 (fun _ => b_X12_alike_122 hG (lp_alike hG (by omega) 5 0 _ (by decide) (by decide) ?_)) (fun q5 => by omega)) (fun q5 => by omega)) (fun q4 => b_X12_alike_82 hG ha.1 (fun q5 => by omega) (fun _ => b_X12_alike_100 hG hc.1 (fun q5 => by omega) (fun _ => b_X12_alike_118 hG (lp_alike hG (by omega) 5 0 _ (by decide) (by decide) ?_))))
    · rw [if_pos q4] at k
      exact k
    · rw [if_neg (by omega)] at k
      exact k
  refine b_X12_alike_0 hG ha.1 hc.1 (fun q => b_X12_alike_18 hG ?_) (fun q => b_X12_alike_14 hG (fun q1 => b_X12_alike_20 hG (fun q2 => b_X12_alike_61 hG (by unfold ok32; omega) (fun q3 => tl q q1 q2 (Or.inl q3)) (fun q3 => b_X12_alike_68 hG (by unfold ok32; omega) (fun q4 => tl q q1 q2 (Or.inr q4)) (fun q4 => b_X12_alike_75 hG ?_))) (fun q2 => b_X12_alike_25 hG (sp_bitsOf hG h15.1 (by omega) (b_X12_alike_34 hG (fun q3 => b_X12_alike_46 hG (fun q4 => b_X12_alike_56 hG (by unfold ok32; omega) ?_) (fun q4 => b_X12_alike_52 hG ?_)) (fun q3 => b_X12_alike_41 hG ?_))))) (fun q1 => b_X12_alike_18 hG ?_))
  · rw [if_pos q] at k
    exact k
  · rw [if_neg q, if_neg q1, if_neg q2, if_neg (fun h => by omega)] at k
    exact k
  · rw [if_neg q, if_neg q1, if_pos q2, if_neg q3, if_pos q4] at k
    exact k
  · rw [if_neg q, if_neg q1, if_pos q2, if_neg q3, if_neg (by omega)] at k
    exact k
  · rw [if_neg q, if_neg q1, if_pos q2, if_pos q3] at k
    exact k
  · rw [if_neg q, if_pos q1] at k
    exact k
theorem cs_2 {x y : Int} (hV : LV b G I J) : Cl (d + 5) 111 161 [some (vR 0), some (vI x), some (vI y)] [some (vR 56), some (vI x), some (vI y)] G I J := by
  obtain ⟨hG, hRW, hc, hi, hk⟩ := id hV
  obtain ⟨hN, hF, hR, hT, hC, hW, hL, hM⟩ := id hRW
  have f0 := hF.1
  have m0 : 0 ≤ I 57 0 ∧ I 57 0 ≤ 12 := ⟨f0.1, f0.2.1⟩
  have fm : ∀ x, 0 ≤ x → x < I 57 0 → 0 ≤ I 6 x ∧ I 6 x < 80 := fun x h0 h1 => by
    have := (hF.2.1 x h0 h1).2
    omega
  have fe : ∀ x, 0 ≤ x → x < I 57 0 → I 57 (32 + 5 * x + 3) = I 6 x := fun x h0 h1 => (hF.2.1 x h0 h1).1.2.2.2.1.symm
  unfold Cl
  refine b_X11_like_0 hG (sp_X4_has hG (fun x0 x1 => b_X11_like_11 hG (fun q => absurd q (by decide)) (fun _ => b_X11_like_14 hG (sp_X4_has hG (fun y0 y1 => b_X11_like_25 hG (fun _ => b_X11_like_30 hG (fun hne => b_X11_like_38 hG x0 (by omega) y0 (by omega) (sp_mistaken hG (fm x x0 (by omega)) (fm y y0 (by omega)) (b_X11_like_65 hG ⟨_, b, rfl, hG, ⟨rfl, rfl⟩, ?is⟩))) (fun he => b_X11_like_35 hG ⟨_, b, rfl, hG, ⟨rfl, rfl⟩, ?same⟩)) (fun q => absurd q (by decide))) (fun q => b_X11_like_25 hG (fun q => absurd rfl q) (fun _ => b_X11_like_28 hG ⟨_, b, rfl, hG, ⟨rfl, rfl⟩, ?n2⟩))))) (fun q => b_X11_like_11 hG (fun _ => b_X11_like_28 hG ⟨_, b, rfl, hG, ⟨rfl, rfl⟩, ?n1⟩) (fun q => absurd rfl q)))
  case is =>
    unfold Md
    refine b_X12_like_0 hG (sp_isFarm hG m0 (fun _ _ => b_X12_like_5 hG (fun q => absurd q (by decide)) (fun _ => b_X12_like_8 hG (sp_isFarm hG m0 (fun _ _ => b_X12_like_13 hG (fun _ => b_X12_like_18 hG (fun _ => b_X12_like_28 hG (b_X12_f_0 hG (by unfold ok32; omega) (by unfold ok32; omega) (by unfold ok32; omega) (by omega) (by omega) (b_X12_like_34 hG (b_X12_f_0 hG (by unfold ok32; omega) (by unfold ok32; omega) (by unfold ok32; omega) (by omega) (by omega) (b_X12_like_40 hG ?_))))) (fun q => absurd q hne)) (fun q => absurd q (by decide))) (fun q => absurd q (by omega))))) (fun q => absurd q (by omega)))
    rw [fe x x0 (by omega), fe y y0 (by omega)]
    exact sp_alike hG (fm x x0 (by omega)) (fm y y0 (by omega)) (b_X12_like_43 hG ⟨rfl, b, hV, rfl, rfl⟩)
  case same =>
    unfold Md
    exact b_X12_like_0 hG (sp_isFarm hG m0 (fun _ _ => b_X12_like_5 hG (fun q => absurd q (by decide)) (fun _ => b_X12_like_8 hG (sp_isFarm hG m0 (fun _ _ => b_X12_like_13 hG (fun _ => b_X12_like_18 hG (fun q => absurd he q) (fun _ => b_X12_like_23 hG ⟨rfl, b, hV, rfl, rfl⟩)) (fun q => absurd q (by decide))) (fun q => absurd q (by omega))))) (fun q => absurd q (by omega)))
  case n2 =>
    unfold Md
    exact b_X12_like_0 hG (sp_isFarm hG m0 (fun _ _ => b_X12_like_5 hG (fun q => absurd q (by decide)) (fun _ => b_X12_like_8 hG (sp_isFarm hG m0 (fun _ _ => absurd q (by omega)) (fun _ => b_X12_like_13 hG (fun q => absurd rfl q) (fun _ => b_X12_like_16 hG ⟨rfl, b, hV, rfl, rfl⟩))))) (fun q => absurd q (by omega)))
  case n1 =>
    unfold Md
    exact b_X12_like_0 hG (sp_isFarm hG m0 (fun _ _ => absurd q (by omega)) (fun _ => b_X12_like_5 hG (fun _ => b_X12_like_16 hG ⟨rfl, b, hV, rfl, rfl⟩) (fun q => absurd rfl q)))
/-! the mistakes of a line -/
def msF (A : aI) (l a c : Int) : Int := if A 3 a = l ∧ A 3 c = l then mistF (A 6 a) (A 6 c) else 0
theorem sumI_z {f : Int → Int} {n : Int} (h : ∀ k, 0 ≤ k → k < n → f k = 0) : sumI f n = 0 := by
  have : ∀ m : Nat, (∀ k : Int, 0 ≤ k → k < m → f k = 0) → sumN f m = 0 := by
    intro m
    induction m with
    | zero => exact fun _ => rfl
    | succ m ih =>
      intro hk
      unfold sumN
      rw [ih (fun k k0 k1 => hk k k0 (by omega)), hk m (by omega) (by omega)]
      rfl
  exact this n.toNat (fun k k0 k1 => h k k0 (by omega))
section ML
variable {l a s0 : Int} (fm : ∀ x, 0 ≤ x → x < I 2 0 → 0 ≤ I 6 x ∧ I 6 x < 80)
theorem ms_b (fm : ∀ x, 0 ≤ x → x < I 2 0 → 0 ≤ I 6 x ∧ I 6 x < 80) {c : Int} (ha : 0 ≤ a ∧ a < I 2 0) (hc : 0 ≤ c ∧ c < I 2 0) : 0 ≤ msF I l a c ∧ msF I l a c ≤ 9 := by
  have := (mist_eq (fm a ha.1 ha.2) (fm c hc.1 hc.2)).2
  unfold msF
  split <;> omega
theorem lp_ms1 (fm : ∀ x, 0 ≤ x → x < I 2 0 → 0 ≤ I 6 x ∧ I 6 x < 80) (hG : GW b G) (hr : 0 ≤ I 2 0 ∧ I 2 0 ≤ 12) (ha : 0 ≤ a ∧ a < I 2 0) (hl : I 3 a = l) (hs : 0 ≤ s0 ∧ s0 ≤ 2000) (k : ∀ y, At (d + 2) 22 70 [some (vR 2), some (vI l), some (vI (s0 + sumI (msF I l a) a)), some (vI a), some (vI y)] [] G I J Q) : ∀ (j : Nat) (x y : Int), 0 ≤ y → y + j = a → x = s0 + sumI (msF I l a) y → At (d + 2) 22 28 [some (vR 2), some (vI l), some (vI x), some (vI a), some (vI y)] [] G I J Q
  | 0, x, y, h0, h1, hx => by
    refine b_X1_mistakenOnLine_28 hG (fun _ => ?_) (fun q => by omega)
    rw [hx, show y = a by omega]
    exact k a
  | j + 1, x, y, h0, h1, hx => by
    have hb := ms_b (l := l) fm ha (c := y) (by omega)
    have hss := sumI_s (f := msF I l a) h0
    have hsb := sumI_bd (f := msF I l a) (B := 9) h0 (fun k k0 k1 => ms_b fm ha (by omega))
    refine b_X1_mistakenOnLine_28 hG (fun q => by omega) (fun _ => b_X1_mistakenOnLine_34 hG h0 (by omega) (fun q => b_X1_mistakenOnLine_64 hG (by unfold ok32; omega) (lp_ms1 fm hG hr ha hl hs k j x (y + 1) (by omega) (by omega) ?_)) (fun q => b_X1_mistakenOnLine_45 hG ha.1 (by omega) h0 (by omega) (sp_mistaken (d := d) hG (fm a ha.1 ha.2) (fm y h0 (by omega)) ?_)))
    · have z : msF I l a y = 0 := by
        unfold msF
        rw [if_neg (fun h => q h.2)]
      rw [hss, z]
      omega
    · have e : msF I l a y = mistF (I 6 a) (I 6 y) := by
        unfold msF
        rw [if_pos ⟨hl, q⟩]
      rw [e] at hb hss
      exact b_X1_mistakenOnLine_62 hG (by unfold ok32; omega) (by unfold ok32; omega) (lp_ms1 fm hG hr ha hl hs k j _ (y + 1) (by omega) (by omega) (by omega))
theorem lp_ms (fm : ∀ x, 0 ≤ x → x < I 2 0 → 0 ≤ I 6 x ∧ I 6 x < 80) (hG : GW b G) (hr : 0 ≤ I 2 0 ∧ I 2 0 ≤ 12) (k : Q (some (vI (sumI (fun a => sumI (msF I l a) a) (I 2 0)))) G I J) : ∀ (j : Nat) (x y : Int) (u : Option aV), 0 ≤ y → y + j = I 2 0 → x = sumI (fun a => sumI (msF I l a) a) y → At (d + 2) 22 4 [some (vR 2), some (vI l), some (vI x), some (vI y), u] [] G I J Q
  | 0, x, y, u, h0, h1, hx => by
    refine b_X1_mistakenOnLine_4 hG (fun _ => b_X1_mistakenOnLine_76 hG ?_) (fun q => by omega)
    rw [hx, show y = I 2 0 by omega]
    exact k
  | j + 1, x, y, u, h0, h1, hx => by
    have hss := sumI_s (f := fun a => sumI (msF I l a) a) h0
    have hin : ∀ y, 0 ≤ y → y < I 2 0 → 0 ≤ sumI (msF I l y) y ∧ sumI (msF I l y) y ≤ 108 := fun y h0 h1 => by
      have := sumI_bd (f := msF I l y) (B := 9) h0 (fun k k0 k1 => ms_b fm ⟨h0, h1⟩ (by omega))
      omega
    have hsb := sumI_bd (f := fun a => sumI (msF I l a) a) (B := 108) h0 (fun k k0 k1 => hin k k0 (by omega))
    refine b_X1_mistakenOnLine_4 hG (fun q => by omega) (fun _ => b_X1_mistakenOnLine_12 hG h0 (by omega) (fun q => b_X1_mistakenOnLine_25 hG (lp_ms1 (s0 := x) fm hG hr ⟨h0, by omega⟩ q (by omega) (fun z => b_X1_mistakenOnLine_70 hG (by unfold ok32; omega) (lp_ms fm hG hr k j _ (y + 1) _ (by omega) (by omega) (by rw [hss, hx]))) y.toNat x 0 (by omega) (by omega) ?_)) (fun q => b_X1_mistakenOnLine_22 hG (by unfold ok32; omega) (lp_ms fm hG hr k j x (y + 1) _ (by omega) (by omega) ?_)))
    · show x = x + 0
      omega
    · have z : sumI (msF I l y) y = 0 := sumI_z fun k k0 k1 => by
        unfold msF
        rw [if_neg (fun h => q h.1)]
      rw [hss, hx, z]
      omega
theorem lp_mm1 (fm : ∀ x, 0 ≤ x → x < I 2 0 → 0 ≤ I 6 x ∧ I 6 x < 80) (hG : GW b G) (hr : 0 ≤ I 2 0 ∧ I 2 0 ≤ 12) (h57 : ∀ x, 0 ≤ x → x < I 2 0 → I 57 (32 + 5 * x + 0) = I 3 x ∧ I 57 (32 + 5 * x + 3) = I 6 x) (ha : 0 ≤ a ∧ a < I 2 0) (hs : 0 ≤ s0 ∧ s0 ≤ 2000) (k : ∀ y, At (d + 2) 162 82 [some (vR 56), some (vI l), some (vI (s0 + sumI (msF I l a) a)), some (vI a), some (vI y)] [] G I J Q) : ∀ (j : Nat) (x y : Int), 0 ≤ y → y + j = a → x = s0 + sumI (msF I l a) y → At (d + 2) 162 26 [some (vR 56), some (vI l), some (vI x), some (vI a), some (vI y)] [] G I J Q
  | 0, x, y, h0, h1, hx => by
    refine b_X12_mistakes_26 hG (fun _ => ?_) (fun q => by omega)
    rw [hx, show y = a by omega]
    exact k a
  | j + 1, x, y, h0, h1, hx => by
    have hb := ms_b (l := l) fm ha (c := y) (by omega)
    have hss := sumI_s (f := msF I l a) h0
    have hsb := sumI_bd (f := msF I l a) (B := 9) h0 (fun k k0 k1 => ms_b fm ha (by omega))
    have ea := h57 a ha.1 ha.2
    have ey := h57 y h0 (by omega)
    have nx : ∀ x', x' = s0 + sumI (msF I l a) y + msF I l a y → At (d + 2) 162 26 [some (vR 56), some (vI l), some (vI x'), some (vI a), some (vI (y + 1))] [] G I J Q := fun x' hx' => lp_mm1 fm hG hr h57 ha hs k j x' (y + 1) (by omega) (by omega) (by omega)
    unfold msF at nx
    refine b_X12_mistakes_26 hG (fun q => by omega) (fun _ => b_X12_mistakes_32 hG (b_X12_f_0 hG (by unfold ok32; omega) (by unfold ok32; omega) (by unfold ok32; omega) (by omega) (by omega) (b_X12_mistakes_39 hG (fun q => b_X12_mistakes_73 hG (by unfold ok32; omega) (by unfold ok32; omega) (nx _ ?_)) (fun q => b_X12_mistakes_43 hG (b_X12_f_0 hG (by unfold ok32; omega) (by unfold ok32; omega) (by unfold ok32; omega) (by omega) (by omega) (b_X12_mistakes_50 hG (fun q2 => b_X12_mistakes_73 hG (by unfold ok32; omega) (by unfold ok32; omega) (nx _ ?_)) (fun q2 => b_X12_mistakes_54 hG (b_X12_f_0 hG (by unfold ok32; omega) (by unfold ok32; omega) (by unfold ok32; omega) (by omega) (by omega) (b_X12_mistakes_60 hG (b_X12_f_0 hG (by unfold ok32; omega) (by unfold ok32; omega) (by unfold ok32; omega) (by omega) (by omega) (b_X12_mistakes_67 hG ?_)))))))))))
    · rw [if_neg (fun h => q (ea.1.trans h.1)), hx]
      unfold msF
      omega
    · rw [if_neg (fun h => q2 (ey.1.trans h.2)), hx]
      unfold msF
      omega
    · rw [ea.2, ey.2]
      have e : msF I l a y = mistF (I 6 a) (I 6 y) := by
        unfold msF
        rw [if_pos ⟨ea.1.symm.trans q, ey.1.symm.trans q2⟩]
      rw [e] at hb
      refine sp_alike hG (fm a ha.1 ha.2) (fm y h0 (by omega)) (b_X12_mistakes_70 hG (by unfold ok32; omega) (by unfold ok32; omega) (nx _ ?_))
      rw [if_pos ⟨ea.1.symm.trans q, ey.1.symm.trans q2⟩, hx]
      unfold msF
      rfl
theorem lp_mm (fm : ∀ x, 0 ≤ x → x < I 2 0 → 0 ≤ I 6 x ∧ I 6 x < 80) (hG : GW b G) (hr : 0 ≤ I 2 0 ∧ I 2 0 ≤ 12) (he : I 57 0 = I 2 0) (h57 : ∀ x, 0 ≤ x → x < I 2 0 → I 57 (32 + 5 * x + 0) = I 3 x ∧ I 57 (32 + 5 * x + 3) = I 6 x) (k : Q (some (vI (sumI (fun a => sumI (msF I l a) a) (I 2 0)))) G I J) : ∀ (j : Nat) (x y : Int) (u : Option aV), 0 ≤ y → y + j = I 2 0 → x = sumI (fun a => sumI (msF I l a) a) y → At (d + 2) 162 13 [some (vR 56), some (vI l), some (vI x), some (vI y), u] [] G I J Q
  | 0, x, y, u, h0, h1, hx => by
    refine b_X12_mistakes_13 hG (fun _ => b_X12_mistakes_88 hG ?_) (fun q => by omega)
    rw [hx, show y = I 2 0 by omega]
    exact k
  | j + 1, x, y, u, h0, h1, hx => by
    have hss := sumI_s (f := fun a => sumI (msF I l a) a) h0
    have hin : ∀ y, 0 ≤ y → y < I 2 0 → 0 ≤ sumI (msF I l y) y ∧ sumI (msF I l y) y ≤ 108 := fun y h0 h1 => by
      have := sumI_bd (f := msF I l y) (B := 9) h0 (fun k k0 k1 => ms_b fm ⟨h0, h1⟩ (by omega))
      omega
    have hsb := sumI_bd (f := fun a => sumI (msF I l a) a) (B := 108) h0 (fun k k0 k1 => hin k k0 (by omega))
    refine b_X12_mistakes_13 hG (fun q => by omega) (fun _ => b_X12_mistakes_23 hG (lp_mm1 (s0 := x) fm hG hr h57 ⟨h0, by omega⟩ (by omega) (fun z => b_X12_mistakes_82 hG (by unfold ok32; omega) (lp_mm fm hG hr he h57 k j _ (y + 1) _ (by omega) (by omega) (by rw [hss, hx]))) y.toNat x 0 (by omega) (by omega) ?_))
    show x = x + 0
    omega
end ML
theorem cs_3 {x : Int} (hV : LV b G I J) : Cl (d + 5) 112 162 [some (vR 0), some (vI x)] [some (vR 56), some (vI x), none, none, none] G I J := by
  obtain ⟨hG, hRW, hc, hi, hk⟩ := id hV
  obtain ⟨hN, hF, hR, hT, hC, hW, hL, hM⟩ := id hRW
  have f0 := hF.1
  have m0 : 0 ≤ I 2 0 ∧ I 2 0 ≤ 12 := by omega
  have fm : ∀ x, 0 ≤ x → x < I 2 0 → 0 ≤ I 6 x ∧ I 6 x < 80 := fun x h0 h1 => by
    have := (hF.2.1 x h0 (by omega)).2
    omega
  have fe : ∀ x, 0 ≤ x → x < I 2 0 → I 57 (32 + 5 * x + 0) = I 3 x ∧ I 57 (32 + 5 * x + 3) = I 6 x := fun x h0 h1 => by
    have := (hF.2.1 x h0 (by omega)).1
    exact ⟨this.1.symm, this.2.2.2.1.symm⟩
  unfold Cl
  refine b_X11_mistakes_0 hG (sp_within hG (fun x0 x1 => b_X11_mistakes_6 hG (fun _ => b_X11_mistakes_11 hG (b_X1_mistakenOnLine_0 hG (lp_ms fm hG m0 (b_X11_mistakes_22 hG ⟨_, b, rfl, hG, ⟨rfl, rfl⟩, ?is⟩) (I 2 0).toNat 0 0 _ (by omega) (by omega) rfl))) (fun q => absurd q (by decide))) (fun q => b_X11_mistakes_6 hG (fun q => absurd rfl q) (fun _ => b_X11_mistakes_9 hG ⟨_, b, rfl, hG, ⟨rfl, rfl⟩, ?n1⟩)))
  case is =>
    unfold Md
    exact b_X12_mistakes_0 hG (sp_isLine hG (fun _ _ => b_X12_mistakes_4 hG (fun _ => b_X12_mistakes_9 hG (lp_mm fm hG m0 f0.2.2.symm fe ⟨rfl, b, hV, rfl, rfl⟩ (I 2 0).toNat 0 0 _ (by omega) (by omega) rfl)) (fun q => absurd q (by decide))) (fun q => absurd q (by omega)))
  case n1 =>
    unfold Md
    exact b_X12_mistakes_0 hG (sp_isLine hG (fun _ _ => absurd q (by omega)) (fun _ => b_X12_mistakes_4 hG (fun q => absurd rfl q) (fun _ => b_X12_mistakes_7 hG ⟨rfl, b, hV, rfl, rfl⟩)))
end SM
