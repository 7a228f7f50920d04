/-! the call best -/
def cntL (A : aI) (l : Int) : Nat → Nat
  | 0 => 0
  | n + 1 => if A 3 (n : Int) = l then cntL A l n + 1 else cntL A l n
theorem pop_or : ∀ n : Nat, n < 12 → ∀ x : Nat, x < 2 ^ n → popN 12 (x ||| 2 ^ n) = popN 12 x + 1 := by decide +kernel
theorem onL_cnt {A : aI} {l : Int} : ∀ n : Nat, n ≤ 12 → ∃ x : Nat, onL A l n = (x : Int) ∧ x < 2 ^ n ∧ popN 12 x = cntL A l n
  | 0, _ => ⟨0, rfl, by decide, rfl⟩
  | n + 1, h => by
    obtain ⟨x, e, hx, hp⟩ := onL_cnt (A := A) (l := l) n (by omega)
    have h2 : (2 : Nat) ^ n ≤ 2 ^ 11 := Nat.pow_le_pow_right (by decide) (by omega)
    have h3 : (2 : Nat) ^ (n + 1) = 2 * 2 ^ n := by
      rw [Nat.pow_succ]
      omega
    unfold onL cntL
    split
    · refine ⟨x ||| 2 ^ n, ?_, ?_, ?_⟩
      · have es : bShl 1 (n : Int) = ((2 ^ n : Nat) : Int) := by
          have := bShl_nat (m := 1) (s := n) (by rw [Nat.one_shiftLeft]; omega) (by omega)
          rw [Nat.one_shiftLeft] at this
          exact this
        rw [e, es, bOr_nat (by omega) (by omega)]
      · rw [h3]
        exact Nat.or_lt_two_pow (n := n + 1) (by omega) (by omega) |> fun z => by rwa [h3] at z
      · rw [pop_or n (by omega) x hx, hp]
    · exact ⟨x, e, by omega, hp⟩
theorem pop_onL {A : aI} {l : Int} {n : Nat} (h : n ≤ 12) : pop (onL A l n) = (cntL A l n : Int) := by
  obtain ⟨x, e, _, hp⟩ := onL_cnt (A := A) (l := l) n h
  unfold pop
  rw [e, Int.toNat_natCast, hp]
section SM
variable {d : Nat} {b : Bool} {G : aG} {I J : aI} {Q : Option aV → aG → aI → aI → Prop}
theorem lp_many {A : aI} {l n i : Int} (hG : GW b G) (hF : RelF A (I 57)) (hl : 0 ≤ l ∧ l ≤ 3) (K : At (d + 2) 164 57 [some (vR 56), some (vI l), some (vI n), some (vI i), some (vI (min 5 (cntL A l (A 2 0).toNat) : Nat)), some (vI (A 2 0))] [] G I J Q) : ∀ (j y : Nat), (y : Int) + j = A 2 0 → At (d + 2) 164 6 [some (vR 56), some (vI l), some (vI n), some (vI i), some (vI (min 5 (cntL A l y) : Nat)), some (vI (y : Int))] [] G I J Q
  | 0, y, h => by
    have f0 := hF.1
    rw [show (A 2 0).toNat = y by omega, show A 2 0 = (y : Int) by omega] at K
    exact b_X12_best_6 hG (fun _ => K) (fun g => absurd g (by omega))
  | j + 1, y, h => by
    have f0 := hF.1
    have e := (hF.2.1 y (by omega) (by omega)).1.1
    have nx := lp_many hG hF hl K j (y + 1) (by omega)
    unfold cntL at nx
    refine b_X12_best_6 hG (fun g => absurd g (by omega)) (fun _ => b_X12_best_17 hG (sp_isLine hG (fun _ _ => b_X12_best_23 hG (fun g => absurd g (by decide)) (fun _ => b_X12_best_26 hG (b_X12_f_0 hG (by unfold ok32; omega) (by unfold ok32; omega) (by unfold ok32; omega) (by omega) (by omega) (b_X12_best_33 hG (fun g => ?_) (fun g => ?_))))) (fun g => absurd g (by omega))))
    · rw [← e] at g
      rw [if_neg g] at nx
      refine b_X12_best_47 hG (by unfold ok32; omega) (by unfold ok32; omega) ?_
      rw [Int.add_zero]
      exact nx
    · rw [← e] at g
      rw [if_pos g] at nx
      refine b_X12_best_37 hG (fun g2 => b_X12_best_47 hG (by unfold ok32; omega) (by unfold ok32; omega) ?_) (fun g2 => b_X12_best_43 hG (by unfold ok32; omega) (by unfold ok32; omega) ?_)
      · rw [show ((min 5 (cntL A l y) : Nat) : Int) + 0 = ((min 5 (cntL A l y + 1) : Nat) : Int) by omega]
        exact nx
      · rw [show ((min 5 (cntL A l y) : Nat) : Int) + 1 = ((min 5 (cntL A l y + 1) : Nat) : Int) by omega]
        exact nx
theorem lp_manyN {A : aI} {l n i : Int} (hG : GW b G) (hF : RelF A (I 57)) (hl : l < 0 ∨ 3 < l) (K : Q (some (vI (-1))) G I J) : ∀ (j y : Nat), (y : Int) + j = A 2 0 → At (d + 2) 164 6 [some (vR 56), some (vI l), some (vI n), some (vI i), some (vI 0), some (vI (y : Int))] [] G I J Q
  | 0, y, h => by
    have f0 := hF.1
    exact b_X12_best_6 hG (fun _ => b_X12_best_57 hG (sp_isLine hG (fun _ _ => absurd hl (by omega)) (fun _ => b_X12_best_61 hG (fun _ => b_X12_best_76 hG K) (fun g => absurd rfl g)))) (fun g => absurd g (by omega))
  | j + 1, y, h => by
    have f0 := hF.1
    have nx := lp_manyN (n := n) (i := i) hG hF hl K j (y + 1) (by omega)
    exact b_X12_best_6 hG (fun g => absurd g (by omega)) (fun _ => b_X12_best_17 hG (sp_isLine hG (fun _ _ => absurd hl (by omega)) (fun _ => b_X12_best_23 hG (fun _ => b_X12_best_47 hG (by unfold ok32; omega) (by unfold ok32; omega) nx) (fun g => absurd rfl g))))
theorem mo_best0 {A : aI} {l n i : Int} (hG : GW b G) (hF : RelF A (I 57)) (hl : 0 ≤ l ∧ l ≤ 3) (K : At (d + 2) 164 64 [some (vR 56), some (vI l), some (vI n), some (vI i), some (vI (min 5 (cntL A l (A 2 0).toNat) : Nat)), some (vI (A 2 0))] [] G I J Q) : At (d + 2) 164 0 [some (vR 56), some (vI l), some (vI n), some (vI i), none, none] [] G I J Q := by
  have f0 := hF.1
  exact b_X12_best_0 hG (lp_many hG hF hl (b_X12_best_57 hG (sp_isLine hG (fun _ _ => b_X12_best_61 hG (fun g => absurd g (by decide)) (fun _ => K)) (fun g => absurd g (by omega)))) (A 2 0).toNat 0 (by omega))
/-- the model's search out of its start -/
theorem sp_give {m n : Nat} (hG : GW b G) (hn : 1 ≤ n ∧ n ≤ 3) (hm : m ≤ 5) (h : m + 2 ≤ 2 ^ (n + 1)) (h4 : I 56 4 = 1000) (h5 : I 56 5 = 1000) (K : ∀ I', (∀ a, a ≠ 56 → a ≠ 58 → a ≠ 59 → I' a = I a) → (∀ j, j ≠ 4 → j ≠ 5 → I' 56 j = I 56 j) → I' 56 4 = ((fnd n m).2.1 : Int) → (∀ i : Nat, ∀ x : Nat, (fnd n m).1.reverse[i]? = some x → I' 59 i = (x : Int)) → Q none G I' J) : At (d + 6) 163 0 [some (vR 56), some (vI 0), some (vI (m : Int)), some (vI (n : Int)), some (vI 0), some (vI 0), none, none, none, none, none, none] [] G I J Q := by
  rw [show d + 6 = (d + (5 - m)) + 1 + m by omega]
  refine gm_give (n := n) (m := m) (I0 := I) hG hn hm m _ 1025000 0 0 [] I _ (by show 0 + m = m; omega) (by decide) (by decide) (fun a ha => by cases ha) ⟨fun _ _ _ _ => rfl, fun _ _ _ => rfl, Or.inl ⟨h4, h5, rfl⟩⟩ (fun i y hy => by cases hy) (fun I' hs' hr' => ?_)
  change BM _ m (gN (codN n) m 0 0 0 0 1025000) I' at hs'
  rw [gN_f hn hm h] at hs'
  obtain ⟨s1, s2, s3⟩ := hs'
  rcases s3 with ⟨_, _, s3⟩ | ⟨l, w, q, s3, s4, s5, s6, s7, s8, s9, s10⟩
  · exact absurd s3 (fn_no hn hm h)
  · obtain ⟨rfl, rfl⟩ := fn_row hn hm h s3 s4 s5 s6 s7
    exact K I' s1 s2 s8 s10
theorem LV.best {I' : aI} (hV : LV b G I J) (hC : Cache I') (h : ∀ a, a ≠ 48 → a ≠ 49 → a ≠ 50 → I' a = I a) : LV b G I' J := by
  obtain ⟨h1, h2, h3, h4, h5⟩ := hV
  refine ⟨h1, ?_, hC, ?_, fun hb => ?_⟩
  · rw [h 57 (by decide) (by decide) (by decide)]
    exact h2.kp fun a k ha _ => by rw [h a (by omega) (by omega) (by omega)]
  · rw [h 56 (by decide) (by decide) (by decide)]
    exact h4
  · rw [h 63 (by decide) (by decide) (by decide)]
    refine (h5 hb).kp fun a k ha _ => ?_
    show I' (a + 63) k = I (a + 63) k
    rw [h (a + 63) (by omega) (by omega) (by omega)]
theorem cs_4 {l n i : Int} (hV : LV b G I J) : Cl (d + 14) 113 164 [some (vR 0), some (vI l), some (vI n), some (vI i), none] [some (vR 56), some (vI l), some (vI n), some (vI i), none, none] G I J := by
  obtain ⟨hG, hRW, hc, hi, hk⟩ := id hV
  obtain ⟨hN, hF, hR, hT, hC, hW, hL, hM⟩ := id hRW
  have f0 := hF.1
  unfold Cl
  refine b_X11_best_0 hG (sp_within hG (fun l0 l1 => b_X11_best_6 hG (fun _ => b_X11_best_11 hG (sp_onLine hG (by omega) (b_X11_best_23 hG ?_))) (fun g => absurd g (by decide))) (fun g => b_X11_best_6 hG (fun g => absurd rfl g) (fun _ => b_X11_best_9 hG ⟨_, b, rfl, hG, ⟨rfl, rfl⟩, ?_⟩)))
  · have ob := onL_b (A := I) (l := l) (I 2 0).toNat (by omega)
    refine sp_J6 hG ob.1 ob.2 ?_
    rw [pop_onL (by omega)]
    generalize hm : min 5 (cntL I l (I 2 0).toNat) = m
    have m5 : m ≤ 5 := by omega
    have em : min 5 (cntL I l (I 2 0).toNat : Int) = (m : Int) := by omega
    refine b_X11_best_26 hG (by rw [em]; unfold ok32; omega) ?_
    rw [em]
    have model : ∀ (I1 : aI) (Q : Option aV → aG → aI → aI → Prop), I1 57 = I 57 → At (d + 14) 164 64 [some (vR 56), some (vI l), some (vI n), some (vI i), some (vI (m : Int)), some (vI (I 2 0))] [] G I1 J Q → At (d + 14) 164 0 [some (vR 56), some (vI l), some (vI n), some (vI i), none, none] [] G I1 J Q := fun I1 Q e K => by
      refine mo_best0 (A := I) (d := d + 12) hG (by rw [e]; exact hF) (by omega) ?_
      rw [hm]
      exact K
    refine sp_within hG (fun i0 i1 => b_X11_best_40 hG (fun _ => b_X11_best_45 hG (sp_within hG (fun n0 n1 => b_X11_best_51 hG (fun _ => b_X11_best_57 hG ?go) (fun g => absurd g (by decide))) (fun g => b_X11_best_51 hG (fun g => absurd rfl g) (fun _ => b_X11_best_54 hG ⟨_, b, rfl, hG, ⟨rfl, rfl⟩, ?badn⟩)))) (fun g => absurd g (by decide))) (fun g => b_X11_best_40 hG (fun g => absurd rfl g) (fun _ => b_X11_best_43 hG ⟨_, b, rfl, hG, ⟨rfl, rfl⟩, ?badi⟩))
    case badi =>
      unfold Md
      exact model _ _ rfl (b_X12_best_64 hG (by unfold ok32; omega) (sp_in hG (fun _ _ => absurd g (by omega)) (fun _ => b_X12_best_73 hG (fun g => absurd rfl g) (fun _ => b_X12_best_76 hG ⟨rfl, b, hV, rfl, rfl⟩))))
    case badn =>
      unfold Md
      exact model _ _ rfl (b_X12_best_64 hG (by unfold ok32; omega) (sp_in hG (fun _ _ => b_X12_best_73 hG (fun _ => b_X12_best_78 hG (sp_in hG (fun _ _ => absurd g (by omega)) (fun _ => b_X12_best_84 hG (fun g => absurd rfl g) (fun _ => b_X12_best_87 hG ⟨rfl, b, hV, rfl, rfl⟩)))) (fun g => absurd g (by decide))) (fun g => absurd g (by omega))))
    case go =>
      obtain ⟨k, rfl⟩ := Int.eq_ofNat_of_zero_le (show 0 ≤ n by omega)
      obtain ⟨u1, u2, u3, u4, u5, u6, u7, u8⟩ := up_e (n := k) (by omega)
      have model2 : ∀ (I1 : aI) (Q : Option aV → aG → aI → aI → Prop), I1 57 = I 57 → At (d + 14) 164 90 [some (vR 56), some (vI l), some (vI (k : Int)), some (vI i), some (vI (m : Int)), some (vI (I 2 0))] [] G I1 J Q → At (d + 14) 164 0 [some (vR 56), some (vI l), some (vI (k : Int)), some (vI i), none, none] [] G I1 J Q := fun I1 Q e K => model I1 Q e (b_X12_best_64 hG (by unfold ok32; omega) (sp_in hG (fun _ _ => b_X12_best_73 hG (fun _ => b_X12_best_78 hG (sp_in hG (fun _ _ => b_X12_best_84 hG (fun _ => K) (fun g => absurd g (by decide))) (fun g => absurd g (by omega)))) (fun g => absurd g (by decide))) (fun g => absurd g (by omega))))
      refine sp_csearch (d := d + 1) hG (by omega) m5 hc (fun hh => b_X11_best_67 hG (fun g => absurd rfl g) (fun _ => b_X11_best_70 hG ⟨_, b, rfl, hG, ⟨rfl, rfl⟩, ?no⟩)) (fun hh I1 c1 c2 c3 c4 => b_X11_best_67 hG (fun _ => ?yes) (fun g => absurd g (by decide)))
      case no =>
        unfold Md
        refine model2 _ _ rfl (b_X12_best_90 hG (by rw [u4]; unfold ok32; omega) (fun g => absurd g (by rw [u4]; omega)) (fun _ => b_X12_best_100 hG ⟨rfl, b, hV, rfl, rfl⟩))
      case yes =>
        have hV1 : LV b G I1 J := hV.best c2 c1
        have e57 : I1 57 = I 57 := c1 57 (by decide) (by decide) (by decide)
        have S1 : Sc I I1 := ⟨c1 1060 (by decide) (by decide) (by decide), c1 1061 (by decide) (by decide) (by decide)⟩
        have fl := (fnd_ok k (by omega) (by omega) m (by omega) hh).1
        have answer : ∀ v : Int, (i = -1 → v = ((fnd k m).2.1 : Int)) → (∀ x : Nat, 0 ≤ i → (fnd k m).1.reverse[i.toNat]? = some x → v = (x : Int)) → Md (d + 14) 164 [some (vR 56), some (vI l), some (vI (k : Int)), some (vI i), none, none] v G I1 J := fun v v1 v2 => by
          unfold Md
          refine model2 _ _ e57 (b_X12_best_90 hG (by rw [u4]; unfold ok32; omega) (fun _ => b_X12_best_103 hG ?_) (fun g => absurd g (by rw [u4]; omega)))
          refine sp_give (d := d + 7) hG (by omega) m5 hh (by rw [mset_n (by decide), mset_at]) (by rw [mset_at]) (fun I2 k1 k2 k3 k4 => ?_)
          have hV2 : LV b G I2 J := hV1.kp fun a j hs => by
            by_cases h56 : a = 56
            · subst h56
              have : j = 19 := by
                unfold scr at hs
                simp at hs
                omega
              rw [k2 j (by omega) (by omega), mset_n (by omega), mset_n (by omega)]
            · have na : a ≠ 58 ∧ a ≠ 59 := by
                unfold scr at hs
                simp at hs
                omega
              rw [k1 a h56 na.1 na.2, mset_o h56, mset_o h56]
          have S2 : Sc I1 I2 := ⟨by rw [k1 1060 (by decide) (by decide) (by decide)]; rfl, by rw [k1 1061 (by decide) (by decide) (by decide)]; rfl⟩
          refine b_X12_best_127 hG (fun g => b_X12_best_139 hG (by omega) (by omega) ⟨?_, b, hV2, S2⟩) (fun g => b_X12_best_132 hG ⟨?_, b, hV2, S2⟩)
          · obtain ⟨x, hx⟩ : ∃ x, (fnd k m).1.reverse[i.toNat]? = some x := ⟨(fnd k m).1.reverse[i.toNat]'(by rw [List.length_reverse]; omega), List.getElem?_eq_getElem _⟩
            have q1 := k4 _ x hx
            rw [Int.toNat_of_nonneg (by omega)] at q1
            rw [q1, v2 x (by omega) hx]
          · rw [k3, v1 g]
        refine b_X11_best_73 hG (fun g => b_X11_best_87 hG g (by omega) ⟨_, b, rfl, hG, S1, answer _ (fun h => absurd h (by omega)) (fun x _ hx => ?_)⟩) (fun g => b_X11_best_77 hG ⟨_, b, rfl, hG, S1, answer _ (fun _ => c3) (fun x h _ => absurd h (by omega))⟩)
        have q1 := c4 _ x hx
        rw [Int.toNat_of_nonneg g] at q1
        exact q1
  · unfold Md
    exact b_X12_best_0 hG (lp_manyN (d := d + 12) hG hF g ⟨rfl, b, hV, rfl, rfl⟩ (I 2 0).toNat 0 (by omega))
end SM
