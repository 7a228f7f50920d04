/-! minutes: one minute of the model -/
theorem lostS_y {A : aI} {y t : Int} {x : aT} (y0 : 0 ≤ y) (h : x.1 y = 0 ∧ 30 ≤ t - A 27 y) : lostS A (y + 1) t x = (sset (lostS A y t x).1 y 3, (lostS A y t x).2) := by
  refine Prod.ext (funext fun k => ?_) rfl
  show (if 0 ≤ k ∧ k < y + 1 ∧ x.1 k = 0 ∧ 30 ≤ t - A 27 k then 3 else x.1 k) = sset (lostS A y t x).1 y 3 k
  rw [sset_a]
  by_cases e : k = y
  · rw [if_pos e, e, if_pos ⟨y0, by omega, h⟩]
  · rw [if_neg e]
    show _ = (if 0 ≤ k ∧ k < y ∧ x.1 k = 0 ∧ 30 ≤ t - A 27 k then 3 else x.1 k)
    by_cases g : 0 ≤ k ∧ k < y ∧ x.1 k = 0 ∧ 30 ≤ t - A 27 k
    · rw [if_pos g, if_pos ⟨g.1, by omega, g.2.2⟩]
    · rw [if_neg g, if_neg (fun q => g ⟨q.1, by omega, q.2.2⟩)]
theorem lostS_n {A : aI} {y t : Int} {x : aT} (h : ¬ (x.1 y = 0 ∧ 30 ≤ t - A 27 y)) : lostS A (y + 1) t x = lostS A y t x := by
  refine Prod.ext (funext fun k => ?_) rfl
  show (if 0 ≤ k ∧ k < y + 1 ∧ x.1 k = 0 ∧ 30 ≤ t - A 27 k then 3 else x.1 k) = (if 0 ≤ k ∧ k < y ∧ x.1 k = 0 ∧ 30 ≤ t - A 27 k then 3 else x.1 k)
  by_cases e : k = y
  · rw [e, if_neg (fun q => h q.2.2), if_neg (by omega)]
  · by_cases g : 0 ≤ k ∧ k < y ∧ x.1 k = 0 ∧ 30 ≤ t - A 27 k
    · rw [if_pos g, if_pos ⟨g.1, by omega, g.2.2⟩]
    · rw [if_neg g, if_neg (fun q => g ⟨q.1, by omega, q.2.2⟩)]
theorem lostS_at {A : aI} {y t : Int} {x : aT} : (lostS A y t x).1 y = x.1 y := by
  show (if 0 ≤ y ∧ y < y ∧ x.1 y = 0 ∧ 30 ≤ t - A 27 y then 3 else x.1 y) = x.1 y
  rw [if_neg (by omega)]
theorem lostS_z {A : aI} {t : Int} {x : aT} : lostS A 0 t x = x := by
  refine Prod.ext (funext fun k => ?_) rfl
  show (if 0 ≤ k ∧ k < 0 ∧ x.1 k = 0 ∧ 30 ≤ t - A 27 k then 3 else x.1 k) = x.1 k
  rw [if_neg (by omega)]
section SM
variable {d : Nat} {b : Bool} {G : aG} {I J : aI} {Q : Option aV → aG → aI → aI → Prop} {A I0 : aI} {S : Int → Int} {t : Int}
theorem cfacts {k : Int} (hF : RelF A S) (hC : RelC A J S) (k0 : 0 ≤ k) (k1 : k < S 2) : (k < 60 ∧ 0 ≤ S ((1312 + (8 * k)) + 1) ∧ S ((1312 + (8 * k)) + 1) < 12) ∧ S ((1312 + (8 * k)) + 3) = A 26 k ∧ S ((1312 + (8 * k)) + 4) = A 27 k ∧ (0 ≤ A 27 k ∧ A 27 k ≤ S 3) ∧ (1 ≤ A 26 k ∧ A 26 k ≤ 20) := by
  obtain ⟨⟨g60, e0, e1, e2, e3, e4, _⟩, h1, h2, _⟩ := cll hF hC k0 k1
  have h := (hC.2.1 k k0 k1).2.2.2.2.2.2.2.2
  exact ⟨⟨g60, by omega, by omega⟩, e3, e4, h.2.1, h.1⟩
/-- calls end; the ranks -/
theorem lp_g1 {x0 : aT} (hG : GW b G) (hRW : RW A J S) (hv : SV A (S 2) t x0) (h3 : S 3 ≤ t) (ht : t ≤ 40099) (K : ∀ I' u2, GI S (S 2) t (endS A (S 2) t x0) I0 I' → (∀ k, 0 ≤ k → k < S 2 → (I' 60 k = 0 ↔ x0.1 k = 0)) → (∀ k, 0 ≤ k → k < S 2 → x0.1 k = 0 → I' 61 k = rkF S k) → At (d + 26) 207 111 [some (vR 56), some (vI (S 2)), u2] [] G I' J Q) : ∀ (j : Nat) (y : Int) (I : aI) (u2 : Option aV), 0 ≤ y → y + j = S 2 → GI S (S 2) t (endS A y t x0) I0 I → (∀ k, 0 ≤ k → k < y → (I 60 k = 0 ↔ x0.1 k = 0)) → (∀ k, 0 ≤ k → k < y → x0.1 k = 0 → I 61 k = rkF S k) → At (d + 26) 207 2 [some (vR 56), some (vI y), u2] [] G I J Q
  | 0, y, I, u2, y0, y1, hI, h60, h61 => by
    have e2 : I 57 2 = S 2 := hI.2.2.2.2 2 (by decide) (by decide)
    rw [show y = S 2 by omega] at hI h60 h61 ⊢
    exact b_X12_goesBy_2 hG (fun _ => K I u2 hI h60 h61) (fun g => absurd g (by omega))
  | j + 1, y, I, u2, y0, y1, hI, h60, h61 => by
    obtain ⟨hN, hF, hR, hT, hC, hW, hL, hMe⟩ := id hRW
    have r1 : 0 ≤ S 1 ∧ S 1 ≤ 10 := ⟨hR.1.1, hR.1.2.1⟩
    have c2 := hC.1
    obtain ⟨⟨g60, f0, f1⟩, e3, e4, h27, h26⟩ := cfacts hF hC y0 (show y < S 2 by omega)
    have hM := hI.2.2
    have e2 : I 57 2 = S 2 := hM.2.2 2 (by decide) (by decide)
    have m5 : I 57 ((1312 + (8 * y)) + 5) = x0.1 y := by rw [(hM.2.1 y y0 (by omega)).1, endS_at]
    have m6 : I 57 ((1312 + (8 * y)) + 6) = x0.2 y := (hM.2.1 y y0 (by omega)).2
    have m3 : I 57 ((1312 + (8 * y)) + 3) = A 26 y := by rw [hM.2.2 _ (by omega) (by omega)]; exact e3
    have m0 : I 57 3 = t := hM.1
    have hvy := hv y y0 (by omega)
    have n3 := hN.2
    have tl : ∀ I2, GI S (S 2) t (endS A (y + 1) t x0) I0 I2 → (∀ k, 0 ≤ k → k < y → (I2 60 k = 0 ↔ x0.1 k = 0)) → (∀ k, 0 ≤ k → k < y → x0.1 k = 0 → I2 61 k = rkF S k) → At (d + 26) 207 72 [some (vR 56), some (vI y), u2] [vI (I2 57 ((1312 + (8 * y)) + 5)), vI y, vR 60] G I2 J Q := fun I2 hI2 q60 q61 => by
      have hM2 := hI2.2.2
      have m52 : I2 57 ((1312 + (8 * y)) + 5) = 0 ↔ x0.1 y = 0 := by rw [(hM2.2.1 y y0 (by omega)).1, endS_0]
      have nx : ∀ I3, GI S (S 2) t (endS A (y + 1) t x0) I0 I3 → (∀ k, 0 ≤ k → k < y + 1 → (I3 60 k = 0 ↔ x0.1 k = 0)) → (∀ k, 0 ≤ k → k < y + 1 → x0.1 k = 0 → I3 61 k = rkF S k) → At (d + 26) 207 2 [some (vR 56), some (vI (y + 1)), u2] [] G I3 J Q := fun I3 a1 a2 a3 => lp_g1 hG hRW hv h3 ht K j (y + 1) I3 u2 (by omega) (by omega) a1 a2 a3
      refine b_X12_goesBy_72 hG (fun g => ?_) (fun g => ?_)
      · have hx := m52.1 g
        refine b_X12_goesBy_79 hG y0 g60 y0 g60 (fun _ => b_X12_goesBy_99 hG ?_) (fun q => absurd mset_at q)
        have e57 : (mset I2 60 y 0) 57 = I2 57 := mset_o (by decide)
        have RG := RW_mn hRW (SV_end (y := y + 1) hv) h3 ht hM2
        obtain ⟨gN, gF, gR, gT, gC, gW, gL, gM⟩ := id RG
        have ey2 : y < I2 57 2 := by
          rw [hM2.2.2 2 (by decide) (by decide)]
          omega
        refine sp_rankOfF (d := d) (A := gA A t (endS A (y + 1) t x0)) hG (by rw [e57]; exact gR) (by rw [e57]; exact cllV gF gC y0 ey2) y0 g60 (by rw [e57, hM2.2.2 _ (by omega) (by omega)]; omega) (fun I3 k3 => ?_)
        rw [e57, rk_fr hM2 r1 ⟨y0, g60, f0, f1⟩]
        refine b_X12_goesBy_104 hG y0 g60 (by unfold ok32; omega) (nx _ (GI_60 (GI_FR (GI_60 hI2 (Or.inl rfl)) k3) (Or.inr rfl)) (fun k k0 k1 => ?_) (fun k k0 k1 hk => ?_))
        · rw [mset_o (by decide), k3.1 60 (by decide), mset_a]
          by_cases e : k = y
          · rw [if_pos e, e, hx]
          · rw [if_neg e]
            exact q60 k k0 (by omega)
        · rw [mset_a]
          by_cases e : k = y
          · rw [if_pos e, e]
          · rw [if_neg e, k3.1 61 (by decide), mset_o (by decide)]
            exact q61 k k0 (by omega) hk
      · have hx : ¬ x0.1 y = 0 := fun q => g (m52.2 q)
        refine b_X12_goesBy_75 hG y0 g60 y0 g60 (fun q => absurd q (by rw [mset_at]; decide)) (fun _ => b_X12_goesBy_95 hG y0 g60 (by unfold ok32; omega) (nx _ (GI_60 (GI_60 hI2 (Or.inl rfl)) (Or.inr rfl)) (fun k k0 k1 => ?_) (fun k k0 k1 hk => ?_)))
        · rw [mset_o (by decide), mset_a]
          by_cases e : k = y
          · rw [if_pos e, e]
            exact ⟨fun q => absurd q (by decide), fun q => absurd q hx⟩
          · rw [if_neg e]
            exact q60 k k0 (by omega)
        · by_cases e : k = y
          · rw [e] at hk
            exact absurd hk hx
          · rw [mset_n e, mset_o (by decide)]
            exact q61 k k0 (by omega) hk
    have stay : ¬ (x0.1 y = 1 ∧ A 26 y ≤ t - x0.2 y) → At (d + 26) 207 61 [some (vR 56), some (vI y), u2] [] G I J Q := fun h => b_X12_goesBy_61 hG (rdc hG y0 g60 (by decide) (by decide) (tl I (by rw [endS_n h]; exact hI) h60 h61))
    refine b_X12_goesBy_2 hG (fun g => absurd g (by omega)) (fun _ => b_X12_goesBy_12 hG (rdc hG y0 g60 (by decide) (by decide) ?_))
    rw [m5]
    refine b_X12_goesBy_18 hG (fun g => stay (fun q => g q.1)) (fun g => b_X12_goesBy_22 hG (rdc hG y0 g60 (by decide) (by decide) ?_))
    rw [m6, m0]
    refine b_X12_goesBy_35 hG (rdc hG y0 g60 (by decide) (by decide) ?_)
    rw [m3]
    refine b_X12_goesBy_41 hG (by unfold ok32; omega) (fun g2 => stay (fun q => by omega)) (fun g2 => b_X12_goesBy_45 hG (by unfold ok32; omega) (by unfold ok32; omega) (by unfold ok32; omega) (by omega) (by omega) (rdc hG y0 g60 (by decide) (by decide) (tl _ ?_ (fun k k0 k1 => ?_) (fun k k0 k1 hk => ?_))))
    · rw [endS_y y0 ⟨g, by omega⟩]
      exact GI_57 hI (MS_set hM ⟨y0, g60⟩)
    · rw [mset_o (by decide)]
      exact h60 k k0 k1
    · rw [mset_o (by decide)]
      exact h61 k k0 k1 hk
/-- the calls that wait, one by one -/
theorem lp_g2 {R : aT} (hG : GW b G) (hRW : RW A J S) (h3 : S 3 ≤ t) (ht : t ≤ 40099) (K : ∀ I' u2, GI S (S 2) t R I0 I' → SV A (S 2) t R → At (d + 26) 207 221 [some (vR 56), some (vI (-1)), u2] [] G I' J Q) : ∀ (r : List Int) (x : aT) (I : aI) (u2 : Option aV), SV A (S 2) t x → GI S (S 2) t x I0 I → QO (rkF S) r → (∀ k ∈ r, 0 ≤ k ∧ k < S 2) → (∀ k ∈ r, I 61 k = rkF S k) → (∀ k, 0 ≤ k → k < S 2 → (I 60 k = 0 ↔ k ∈ r)) → runL A J (S 2) (mstF S t) t false r x = R → At (d + 26) 207 116 [some (vR 56), some (vI (hd1 r)), u2] [] G I J Q
  | [], x, I, u2, hv, hI, hq, hr, h61, h60, hR => by
    have e : x = R := hR
    rw [e] at hI hv
    exact b_X12_goesBy_116 hG (fun _ => K I u2 hI hv) (fun g => absurd rfl g)
  | c :: r, x, I, u2, hv, hI, hq, hr, h61, h60, hR => by
    obtain ⟨hN, hF, hRr, hT, hC, hW, hL, hMe⟩ := id hRW
    have r1 : 0 ≤ S 1 ∧ S 1 ≤ 10 := ⟨hRr.1.1, hRr.1.2.1⟩
    have c2 := hC.1
    have n3 := hN.2
    obtain ⟨c0, c1⟩ := hr c List.mem_cons_self
    obtain ⟨⟨g60, f0, f1⟩, e3, e4, h27, h26⟩ := cfacts hF hC c0 c1
    obtain ⟨⟨_, s0, s1, s2, _⟩, _, hfr, hto, _⟩ := cll hF hC c0 c1
    have nd := List.nodup_cons.1 hq.nd
    have hM := hI.2.2
    have i57 : (mset I 60 c 1) 57 = I 57 := mset_o (by decide)
    have a1 : (mset I 60 c 1) 57 ((1312 + (8 * c)) + 1) = A 22 c := by rw [i57, hM.2.2 _ (by omega) (by omega), s1]
    have a2 : (mset I 60 c 1) 57 ((1312 + (8 * c)) + 2) = A 23 c := by rw [i57, hM.2.2 _ (by omega) (by omega), s2]
    have RG : RW (gA A t x) J ((mset I 60 c 1) 57) := by
      rw [i57]
      exact RW_mn hRW hv h3 ht hM
    obtain ⟨gN, gF, gR, gT, gC, gW, gL, gM⟩ := id RG
    have hM1 : MS S (S 2) t x ((mset I 60 c 1) 57) := by
      rw [i57]
      exact hM
    have hI1 : GI S (S 2) t x I0 (mset I 60 c 1) := GI_60 hI (Or.inl rfl)
    have m60 : ∀ k, 0 ≤ k → k < S 2 → ((mset I 60 c 1) 60 k = 0 ↔ k ∈ r) := fun k k0 k1 => by
      rw [mset_a]
      by_cases e : k = c
      · rw [if_pos e, e]
        exact ⟨fun q => absurd q (by decide), fun q => absurd q nd.1⟩
      · rw [if_neg e, h60 k k0 k1, List.mem_cons]
        exact ⟨fun q => q.resolve_left e, Or.inr⟩
    have m61 : ∀ k ∈ r, (mset I 60 c 1) 61 k = rkF S k := fun k hk => by
      rw [mset_o (by decide)]
      exact h61 k (List.mem_cons_of_mem _ hk)
    have hr' : ∀ k ∈ r, 0 ≤ k ∧ k < S 2 := fun k hk => hr k (List.mem_cons_of_mem _ hk)
    have hq' := (List.pairwise_cons.1 hq).2
    have hv' : SV A (S 2) t (stB A J (S 2) (mstF S t) t false c x) := SV_st hv (by omega)
    have nx : ∀ I', I' 60 = (mset I 60 c 1) 60 → I' 61 = (mset I 60 c 1) 61 → GI S (S 2) t (stB A J (S 2) (mstF S t) t false c x) I0 I' → At (d + 25) 208 0 [some (vR 56), none, none] [] G I' J (fun v G2 I2 J2 => At (d + 26) 207 217 [some (vR 56), some (vI c), u2] (v.toList ++ []) G2 I2 J2 Q) := fun I' b60 b61 hI' => by
      have b61' : ∀ k ∈ r, I' 61 k = rkF S k := fun k hk => by rw [b61]; exact m61 k hk
      have b60' : ∀ k, 0 ≤ k → k < S 2 → (I' 60 k = 0 ↔ k ∈ r) := fun k k0 k1 => by rw [b60]; exact m60 k k0 k1
      exact sp_nextW (rk := rkF S) (r := r) hG (hI'.2.2.2.2 2 (by decide) (by decide)) c2.1 c2.2.1 b60' hr' b61' hq' (b_X12_goesBy_217 hG (lp_g2 hG hRW h3 ht K r _ I' u2 hv' hI' hq' hr' b61' b60' hR))
    have gT2 : (gA A t x) 2 0 = A 2 0 := congrFun (gA_o (by decide)) 0
    change At (d + 26) 207 116 [some (vR 56), some (vI c), u2] [] G I J Q
    refine b_X12_goesBy_116 hG (fun g => absurd g (by omega)) (fun _ => b_X12_goesBy_121 hG c0 g60 (rdc hG c0 g60 (by decide) (by decide) ?_))
    rw [a1]
    refine b_X12_goesBy_136 hG (rdc hG c0 g60 (by decide) (by decide) ?_)
    rw [a2]
    have onW_g : ∀ f t' w, onW (gA A t x) f t' w ↔ onW A f t' w := fun f t' w => by
      unfold onW
      rw [gT2, gA_o (a := 3) (by decide), gA_o (a := 4) (by decide)]
    refine b_X12_goesBy_142 hG (sp_reaches (d := d + 22) (A := gA A t x) hG gF (isD0 hG gW) hfr.1 (by rw [gT2]; exact hfr.2.1) (by rw [gT2]; omega) (fun h => b_X12_goesBy_145 hG (fun _ => b_X12_goesBy_167 hG ?_) (fun g => absurd g (by decide))) (fun w hw hd => b_X12_goesBy_145 hG (fun g => absurd rfl g) (fun _ => ?_)))
    · have hnd : ¬ dnF A J c := fun ⟨w, hw, hd⟩ => by
        have := h w ((onW_g _ _ _).2 hw)
        have hd2 : lt (J 31 0) w.toNat = false := this
        rw [hd] at hd2
        cases hd2
      refine sp_free (d := d) hG RG hM1 r1 c2.2.1 c0 c1 (fun I2 k2 ho => b_X12_goesBy_172 hG (fun g => absurd g (by decide)) (fun _ => ?_)) (fun I2 k2 ho => b_X12_goesBy_172 hG (fun _ => b_X12_goesBy_213 hG (nx I2 (k2.1 60 (by decide)) (k2.1 61 (by decide)) ?_)) (fun g => absurd rfl g))
      · have hI2 : GI S (S 2) t x I0 I2 := GI_FR hI1 k2
        have hM2 := hI2.2.2
        have t3 : (mset I2 57 ((1312 + (8 * c)) + 5) 1) 57 3 = t := by
          rw [mset_n (by omega)]
          exact hM2.1
        refine b_X12_goesBy_175 hG (by unfold ok32; omega) (by unfold ok32; omega) (by unfold ok32; omega) (by omega) (by omega) (by unfold ok32; omega) (by omega) (by omega) (nx _ ?_ ?_ ?_)
        · rw [mset_o (by decide), mset_o (by decide)]
          exact k2.1 60 (by decide)
        · rw [mset_o (by decide), mset_o (by decide)]
          exact k2.1 61 (by decide)
        · rw [t3, stB_k hnd ho]
          have h5 := GI_57 (k := (1312 + (8 * c)) + 5) (v := 1) hI2 (MS_set (v := 1) hM2 ⟨c0, g60⟩)
          exact GI_57 h5 (MS_set6 (v := t) h5.2.2 ⟨c0, g60⟩)
      · rw [stB_f hnd ho]
        exact GI_FR hI1 k2
    · have hdn : dnF A J c := ⟨w, (onW_g _ _ _).1 hw, hd⟩
      refine b_X12_goesBy_148 hG (by unfold ok32; omega) (by unfold ok32; omega) (by unfold ok32; omega) (by omega) (by omega) (nx _ ?_ ?_ ?_)
      · rw [mset_o (by decide)]
      · rw [mset_o (by decide)]
      · rw [stB_d hdn]
        exact GI_57 hI1 (MS_set hM1 ⟨c0, g60⟩)
/-- those that waited long -/
theorem lp_g3 {x : aT} {x1 : Int} (hG : GW b G) (hF : RelF A S) (hC : RelC A J S) (h30 : 0 ≤ S 3) (h3 : S 3 ≤ t) (ht : t ≤ 40099) (K : ∀ I', GI S (S 2) t (lostS A (S 2) t x) I0 I' → At (d + 26) 207 282 [some (vR 56), some (vI x1), some (vI (S 2))] [] G I' J Q) : ∀ (j : Nat) (y : Int) (I : aI), 0 ≤ y → y + j = S 2 → GI S (S 2) t (lostS A y t x) I0 I → At (d + 26) 207 223 [some (vR 56), some (vI x1), some (vI y)] [] G I J Q
  | 0, y, I, y0, y1, hI => by
    have e2 : I 57 2 = S 2 := hI.2.2.2.2 2 (by decide) (by decide)
    rw [show y = S 2 by omega] at hI ⊢
    exact b_X12_goesBy_223 hG (fun _ => K I hI) (fun g => absurd g (by omega))
  | j + 1, y, I, y0, y1, hI => by
    have e2 : I 57 2 = S 2 := hI.2.2.2.2 2 (by decide) (by decide)
    obtain ⟨⟨g60, f0, f1⟩, e3, e4, h27, h26⟩ := cfacts hF hC y0 (show y < S 2 by omega)
    have hM := hI.2.2
    have m5 : I 57 ((1312 + (8 * y)) + 5) = x.1 y := by rw [(hM.2.1 y y0 (by omega)).1, lostS_at]
    have m4 : I 57 ((1312 + (8 * y)) + 4) = A 27 y := by rw [hM.2.2 _ (by omega) (by omega)]; exact e4
    have m0 : I 57 3 = t := hM.1
    have stay : ¬ (x.1 y = 0 ∧ 30 ≤ t - A 27 y) → At (d + 26) 207 276 [some (vR 56), some (vI x1), some (vI y)] [] G I J Q := fun h => b_X12_goesBy_276 hG (by unfold ok32; omega) (lp_g3 hG hF hC h30 h3 ht K j (y + 1) I (by omega) (by omega) (by rw [lostS_n h]; exact hI))
    refine b_X12_goesBy_223 hG (fun g => absurd g (by omega)) (fun _ => b_X12_goesBy_233 hG (rdc hG y0 g60 (by decide) (by decide) ?_))
    rw [m5]
    refine b_X12_goesBy_239 hG (fun g => stay (fun q => g q.1)) (fun g => b_X12_goesBy_242 hG (rdc hG y0 g60 (by decide) (by decide) ?_))
    rw [m4, m0]
    refine b_X12_goesBy_254 hG (by unfold ok32; omega) (fun g2 => stay (fun q => by omega)) (fun g2 => b_X12_goesBy_260 hG (by unfold ok32; omega) (by unfold ok32; omega) (by unfold ok32; omega) (by omega) (by omega) (by unfold ok32; omega) (lp_g3 hG hF hC h30 h3 ht K j (y + 1) _ (by omega) (by omega) ?_))
    rw [lostS_y y0 ⟨g, g2⟩]
    exact GI_57 hI (MS_set hM ⟨y0, g60⟩)
/-- one minute of the model -/
theorem sp_minM {x : aT} {q : List Int} (hG : GW b G) (hRW : RW A J S) (hv : SV A (S 2) t x) (h3 : S 3 ≤ t) (ht : t ≤ 40099) (hq : QO (rkF S) q) (hm : QM (S 2) x.1 q) (hI : GI S (S 2) t x I0 I) (K : ∀ I', GI S (S 2) (t + 1) (runL A J (S 2) (mstF S t) t true q (endS A (S 2) t x)) I0 I' → Q none G I' J) : At (d + 26) 207 0 [some (vR 56), none, none] [] G I J Q := by
  obtain ⟨hN, hF, hRr, hT, hC, hW, hL, hMe⟩ := id hRW
  have c2 := hC.1
  have n3 := hN.2
  have qm2 : QM (S 2) (endS A (S 2) t x).1 q := fun k => by rw [hm k, endS_0]
  refine b_X12_goesBy_0 hG (lp_g1 (d := d) (I0 := I0) (x0 := x) hG hRW hv h3 ht (fun I1 u2 hI1 h60 h61 => b_X12_goesBy_111 hG ?_) (S 2).toNat 0 I none (by decide) (by omega) (by rw [endS_z]; exact hI) (fun k k0 k1 => by omega) (fun k k0 k1 => by omega))
  have hr : ∀ k ∈ q, 0 ≤ k ∧ k < S 2 := fun k hk => ⟨((hm k).1 hk).1, ((hm k).1 hk).2.1⟩
  have h60' : ∀ k, 0 ≤ k → k < S 2 → (I1 60 k = 0 ↔ k ∈ q) := fun k k0 k1 => by
    rw [h60 k k0 k1, hm k]
    exact ⟨fun z => ⟨k0, k1, z⟩, fun z => z.2.2⟩
  have h61' : ∀ k ∈ q, I1 61 k = rkF S k := fun k hk => h61 k (hr k hk).1 (hr k hk).2 ((hm k).1 hk).2.2
  refine sp_nextW (rk := rkF S) (r := q) hG (hI1.2.2.2.2 2 (by decide) (by decide)) c2.1 c2.2.1 h60' hr h61' hq (b_X12_goesBy_115 hG ?_)
  refine lp_g2 (d := d) (I0 := I0) (R := runL A J (S 2) (mstF S t) t false q (endS A (S 2) t x)) hG hRW h3 ht (fun I2 u hI2 hv2 => b_X12_goesBy_221 hG ?_) q _ I1 u2 (SV_end hv) hI1 hq hr h61' h60' rfl
  refine lp_g3 (d := d) (I0 := I0) (x := runL A J (S 2) (mstF S t) t false q (endS A (S 2) t x)) hG hF hC n3.1 h3 ht (fun I3 hI3 => ?_) (S 2).toNat 0 I2 (by decide) (by omega) (by rw [lostS_z]; exact hI2)
  have m0 : I3 57 3 = t := hI3.2.2.1
  refine b_X12_goesBy_282 hG (by rw [m0]; unfold ok32; omega) (K _ ?_)
  rw [mn_two hq qm2, m0]
  exact GI_57 hI3 (MS_t hI3.2.2 c2.2.1)
theorem lp_minM {nn : Int} (hG : GW b G) (hRW : RW A J S) (hnn : nn ≤ 200) {x' : aT} : ∀ (j : Nat) (t k : Int) (x : aT) (I : aI), MNs A J S j t x x' → SV A (S 2) t x → S 3 ≤ t → t + j ≤ 40099 → k + j = nn → 0 ≤ k → GI S (S 2) t x I0 I → (∀ I', GI S (S 2) (t + j) x' I0 I' → Q (some (vI (t + j))) G I' J) → At (d + 27) 209 29 [some (vR 56), some (vI nn), some (vI k)] [] G I J Q
  | 0, t, k, x, I, hM, hv, h3, ht, hk, k0, hI, K => by
    have e : t + ((0 : Nat) : Int) = t := by omega
    have ex : x' = x := hM
    rw [e, ex] at K
    have m0 : I 57 3 = t := hI.2.2.1
    refine b_X12_minute_29 hG (fun _ => b_X12_minute_44 hG ?_) (fun g => absurd g (by omega))
    rw [m0]
    exact K I hI
  | j + 1, t, k, x, I, hM, hv, h3, ht, hk, k0, hI, K => by
    have e : t + ((j + 1 : Nat) : Int) = t + 1 + (j : Int) := by omega
    rw [e] at K ht
    obtain ⟨x1, ⟨q, q1, q2, q3⟩, hM2⟩ := hM
    obtain ⟨hN, hF, hRr, hT, hC, hW, hL, hMe⟩ := id hRW
    have q27 : ∀ c ∈ q, 0 ≤ A 27 c ∧ A 27 c ≤ t := fun c hc => by
      have := (cfacts hF hC ((q2 c).1 hc).1 ((q2 c).1 hc).2.1).2.2.2.1
      omega
    refine b_X12_minute_29 hG (fun g => absurd g (by omega)) (fun _ => b_X12_minute_34 hG (sp_minM (d := d) (I0 := I0) hG hRW hv h3 (by omega) q1 q2 hI (fun I1 hI1 => b_X12_minute_38 hG (by unfold ok32; omega) ?_)))
    rw [← q3] at hI1
    exact lp_minM hG hRW hnn j (t + 1) (k + 1) x1 I1 hM2 (by rw [q3]; exact SV_up (SV_run q _ (SV_end hv) q27) (by omega)) (by omega) ht (by omega) (by omega) hI1 K
end SM
