/-! the call storm: the model -/
section SM
variable {d : Nat} {b : Bool} {G : aG} {I J : aI} {Q : Option aV → aG → aI → aI → Prop}
theorem lp_isD {A B : aI} {set l w y : Int} (hG : GW b G) (hW : RelW A B (I 57)) (hs : 0 ≤ set ∧ set < 1024) (hl : 0 ≤ l ∧ l ≤ 3) (hw : 0 ≤ w ∧ w ≤ 9) (k : Q (some (vI (if dnN A set (10 * l + w) (A 31 2).toNat = true then 1 else 0))) G I J) : ∀ (j : Nat) (y : Int), 0 ≤ y → y + j = I 57 5 → (∀ k, 0 ≤ k → k < y → ¬ (bAnd (bShr set k) 1 = 1 ∧ A 33 k = 10 * l + w)) → At d 201 32 [some (vR 56), some (vI set), some (vI l), some (vI w), some (vI y)] [] G I J Q
  | 0, y, h0, h1, hz => by
    have f5 := hW.2.1
    refine b_X12_isDown_32 hG (fun _ => b_X12_isDown_81 hG ?_) (fun q => by omega)
    cases hd : dnN A set (10 * l + w) (A 31 2).toNat
    · rw [hd] at k
      exact k
    · obtain ⟨k', k0, k1, k2, k3⟩ := (dn_ex _).1 hd
      exact absurd ⟨k2, k3⟩ (hz k' k0 (by omega))
  | j + 1, y, h0, h1, hz => by
    have f5 := hW.2.1
    have e := hW.2.2.2.2.2 y h0 (by omega)
    have nx : ¬ (bAnd (bShr set y) 1 = 1 ∧ A 33 y = 10 * l + w) → At d 201 75 [some (vR 56), some (vI set), some (vI l), some (vI w), some (vI y)] [] G I J Q := fun q => b_X12_isDown_75 hG (by unfold ok32; omega) (lp_isD (y := y) hG hW hs hl hw k j (y + 1) (by omega) (by omega) (fun k' z0 z1 => by
      by_cases hk : k' = y
      · rw [hk]
        exact q
      · exact hz k' z0 (by omega)))
    refine b_X12_isDown_32 hG (fun q => by omega) (fun _ => b_X12_isDown_43 hG (fun q => nx (fun h => q h.1)) (fun q => b_X12_isDown_53 hG (by unfold ok32; omega) (by omega) (by omega) (by unfold ok32; omega) (by unfold ok32; omega) (fun q2 => nx (fun h => q2 (by rw [← e.1]; exact h.2))) (fun q2 => b_X12_isDown_73 hG ?_)))
    have hd : dnN A set (10 * l + w) (A 31 2).toNat = true := (dn_ex _).2 ⟨y, h0, by omega, q, by rw [e.1]; exact q2⟩
    rw [hd] at k
    exact k
theorem isDS {A B : aI} {set : Int} (hG : GW b G) (hW : RelW A B (I 57)) (hs : 0 ≤ set ∧ set < 1024) : IsD b G I J set (fun c => dnN A set c (A 31 2).toNat) := by
  intro D Q' l w l0 l1 w0 w1 k
  have f5 := hW.2.1
  exact b_X12_isDown_0 hG (fun _ => b_X12_isDown_29 hG (lp_isD (y := 0) hG hW hs ⟨l0, l1⟩ ⟨w0, w1⟩ k (I 57 5).toNat 0 (by omega) (by omega) (fun k k0 k1 => by omega))) (fun q => by omega)
theorem lp_exM {set : Int} (hG : GW b G) (hF : RelF I (I 57)) (hW : RelW I J (I 57)) (hs : 0 ≤ set ∧ set < 1024) (k : ∀ v, v = exN I J set (I 31 1).toNat → Q (some (vI (if v = true then 1 else 0))) G I J) : ∀ (j y : Nat) (u3 : Option aV), (y : Int) + j = I 57 4 → exN I J set y = true → At (d + 4) 220 2 [some (vR 56), some (vI set), some (vI (y : Int)), u3] [] G I J Q
  | 0, y, u3, h, he => by
    have f4 := hW.1
    have := k true (by rw [show (I 31 1).toNat = y by omega, he])
    exact b_X12_explains_2 hG (fun _ => b_X12_explains_67 hG this) (fun q => by omega)
  | j + 1, y, u3, h, he => by
    have f4 := hW.1
    have f0 := hF.1
    obtain ⟨e1, e2, e3, e4, e5⟩ := hW.2.2.2.1 (y : Int) (by omega) (by omega)
    have hc := cut_dn (r := (y : Int)) (set := set) hF hW (by omega) (by omega) hs
    have bad : okR I J set y = false → ∀ u : Int, At (d + 4) 220 59 [some (vR 56), some (vI set), some (vI (y : Int)), some (vI u)] [] G I J Q := fun hk u => by
      have := k false (ex_no _ y (by omega) hk).symm
      exact b_X12_explains_59 hG this
    have good : okR I J set y = true → ∀ u : Int, At (d + 4) 220 61 [some (vR 56), some (vI set), some (vI (y : Int)), some (vI u)] [] G I J Q := fun hk u => by
      refine b_X12_explains_61 hG (by unfold ok32; omega) ?_
      have := lp_exM hG hF hW hs k j (y + 1) (some (vI u)) (by omega) (by unfold exN; rw [he, hk]; rfl)
      rw [Int.natCast_add] at this
      exact this
    unfold okR at bad good
    rw [e5] at bad good
    have tl : ∀ v, (v = 1 → bAnd (cutN I J (y : Int) (I 31 2).toNat) set = 0) → (v = 0 → ¬ bAnd (cutN I J (y : Int) (I 31 2).toNat) set = 0) → (v = 0 ∨ v = 1) → At (d + 4) 220 39 [some (vR 56), some (vI set), some (vI (y : Int)), some (vI (1832 + (3 * (y : Int))))] [vI v] G I J Q := by
      intro v h1 h0 hv
      refine b_X12_explains_39 hG (by unfold ok32; omega) (by omega) (by omega) (fun q => b_X12_explains_55 hG (fun q2 => good ?_ _) (fun q2 => bad ?_ _)) (fun q => b_X12_explains_51 hG (fun q2 => good ?_ _) (fun q2 => bad ?_ _))
      · rw [decide_eq_false (h0 q2), decide_eq_false q]
        rfl
      · rw [decide_eq_true (h1 (hv.resolve_left q2)), decide_eq_false q]
        rfl
      · rw [decide_eq_true (h1 q2), decide_eq_true q]
        rfl
      · rw [decide_eq_false (h0 (by omega)), decide_eq_true q]
        rfl
    refine b_X12_explains_2 hG (fun q => by omega) (fun _ => b_X12_explains_12 hG (by unfold ok32; omega) (by unfold ok32; omega) (by omega) (by omega) (by unfold ok32; omega) (by omega) (by omega) (sp_reaches (d := d) hG hF (isDS hG hW hs) e2.1 (by omega) (by omega) (fun h => tl 1 (fun _ => hc.2 h) (fun q => by omega) (Or.inr rfl)) (fun c hc' hd => tl 0 (fun q => by omega) (fun _ hz => ?_) (Or.inl rfl))))
    have := hc.1 hz c hc'
    rw [hd] at this
    cases this
def xF (p : Int × Int) : Int := if p.2 = 0 then -1 else p.1
theorem lp_stM {R : Nat} {x1 : Int} (hG : GW b G) (hF : RelF I (I 57)) (hW : RelW I J (I 57)) (hN : bShl 1 (I 57 5) = (R : Int)) (hR : R ≤ 1024) (k : ∀ y, At (d + 5) 221 91 [some (vR 56), some (vI x1), some (vI (xF (stN (fun s => exN I J s (I 31 1).toNat) R))), some (vI (stN (fun s => exN I J s (I 31 1).toNat) R).2), some (vI y)] [] G I J Q) : ∀ (j n : Nat), n + j = R → At (d + 5) 221 18 [some (vR 56), some (vI x1), some (vI (xF (stN (fun s => exN I J s (I 31 1).toNat) n))), some (vI (stN (fun s => exN I J s (I 31 1).toNat) n).2), some (vI (n : Int))] [] G I J Q
  | 0, n, h => by
    rw [show R = n by omega] at k hN
    exact b_X12_storm_18 hG (fun _ => k _) (fun q => by omega)
  | j + 1, n, h => by
    have f4 := hW.1
    have ih := lp_stM hG hF hW hN hR k j (n + 1) (by omega)
    have hb := stN_b (E := fun s => exN I J s (I 31 1).toNat) n
    have hEn : (fun s => exN I J s (I 31 1).toNat) (n : Int) = exN I J (n : Int) (I 31 1).toNat := rfl
    generalize hE : (fun s => exN I J s (I 31 1).toNat) = E at *
    rw [Int.natCast_add, stN_s] at ih
    have pn := pop_le (x := (n : Int))
    have hx : xF (stN E n) = -1 ↔ (stN E n).2 = 0 := by
      unfold xF
      split
      · rename_i q
        exact ⟨fun _ => q, fun _ => rfl⟩
      · rename_i q
        exact ⟨fun h => by omega, fun h => absurd h q⟩
    have hx2 : ¬ (stN E n).2 = 0 → xF (stN E n) = (stN E n).1 := fun q => by
      unfold xF
      rw [if_neg q]
    have stay : ((0 < (stN E n).2 ∧ pop (stN E n).1 < pop (n : Int)) ∨ E (n : Int) = false) → At (d + 5) 221 18 [some (vR 56), some (vI x1), some (vI (xF (stN E n))), some (vI (stN E n).2), some (vI ((n : Int) + 1))] [] G I J Q := fun q => by
      rw [if_pos q] at ih
      exact ih
    have c48 : ¬ (0 < (stN E n).2 ∧ pop (stN E n).1 < pop (n : Int)) → At (d + 5) 221 48 [some (vR 56), some (vI x1), some (vI (xF (stN E n))), some (vI (stN E n).2), some (vI (n : Int))] [] G I J Q := by
      intro hn
      refine b_X12_storm_48 hG (b_X12_explains_0 hG (lp_exM (d := d) hG hF hW ⟨by omega, by omega⟩ (fun v hv => ?_) (I 57 4).toNat 0 none (by omega) rfl))
      cases v
      · exact b_X12_storm_54 hG (fun q => absurd rfl q) (fun _ => b_X12_storm_57 hG (by unfold ok32; omega) (stay (Or.inr (hEn.trans hv.symm))))
      · have hno : ¬ ((0 < (stN E n).2 ∧ pop (stN E n).1 < pop (n : Int)) ∨ E (n : Int) = false) := by
          rintro (h | h)
          · exact hn h
          · rw [hEn, ← hv] at h
            cases h
        rw [if_neg hno] at ih
        have c77 : ((stN E n).2 = 0 ∨ pop (n : Int) < pop (stN E n).1) → At (d + 5) 221 77 [some (vR 56), some (vI x1), some (vI (xF (stN E n))), some (vI (stN E n).2), some (vI (n : Int))] [] G I J Q := fun q => by
          rw [if_pos q] at ih
          exact b_X12_storm_77 hG (by decide) (by unfold ok32; omega) ih
        refine b_X12_storm_54 hG (fun _ => b_X12_storm_60 hG (fun q => c77 (Or.inl (hx.1 q))) (fun q => ?_)) (fun q => absurd q (by decide))
        have hz : ¬ (stN E n).2 = 0 := fun h => q (hx.2 h)
        have e := hx2 hz
        refine b_X12_storm_65 hG (sp_bitsOf hG (by omega) (by omega) (b_X12_storm_70 hG (sp_bitsOf hG (by omega) (by omega) (b_X12_storm_74 hG (fun q2 => b_X12_storm_82 hG (by unfold ok32; omega) (by unfold ok32; omega) ?_) (fun q2 => c77 (Or.inr (by rw [← e]; exact q2)))))))
        rw [if_neg (by rw [← e]; omega)] at ih
        rw [e]
        unfold xF at ih
        rw [if_neg (show ¬ (stN E n).2 + 1 = 0 by omega)] at ih
        exact ih
    refine b_X12_storm_18 hG (fun q => by omega) (fun _ => b_X12_storm_31 hG (fun q => c48 (fun h => by have := hx.1 q; omega)) (fun q => ?_))
    have hz : ¬ (stN E n).2 = 0 := fun h => q (hx.2 h)
    have e := hx2 hz
    refine b_X12_storm_36 hG (sp_bitsOf hG (by omega) (by omega) (b_X12_storm_41 hG (sp_bitsOf hG (by omega) (by omega) (b_X12_storm_45 hG (fun q2 => b_X12_storm_85 hG (by unfold ok32; omega) (stay (Or.inl ⟨by omega, by rw [← e]; exact q2⟩))) (fun q2 => c48 (by rw [← e]; omega))))))
theorem exN_kp {A A' B : aI} {set : Int} (h : Kp A A') : ∀ n : Nat, exN A' B set n = exN A B set n
  | 0 => rfl
  | n + 1 => by
    unfold exN okR
    rw [exN_kp h n, cutN_kp (h.c (sc 33 (by decide))), h 31 2 (by decide), h 31 5 (by decide)]
theorem cs_21 {x : Int} (hV : LV b G I J) : Cl (d + 7) 130 221 [some (vR 0), some (vI x)] [some (vR 56), some (vI x), none, none, none] G I J := by
  obtain ⟨hG, hRW, hc, hi, hk⟩ := id hV
  obtain ⟨hN, hF, hR, hT, hC, hW, hL, hM⟩ := id hRW
  have f4 := hW.1
  have f5 := hW.2.1
  have g5 := hW.2.2.2.2.2
  obtain ⟨R, hRR⟩ : ∃ R : Nat, bShl 1 (I 57 5) = (R : Int) ∧ R ≤ 1024 := by
    obtain ⟨m, hm⟩ := Int.eq_ofNat_of_zero_le f5.1
    have := shl10 m (by omega)
    rw [hm]
    exact ⟨(bShl 1 (m : Int)).toNat, by omega, by omega⟩
  unfold Cl
  -- what the model answers
  have fin : ∀ I1 w, LV b G I1 J → Kp I I1 → I1 57 = I 57 → (0 ≤ x ∧ x ≤ 1) → w = (if (stN (fun s => exN I J s (I 31 1).toNat) R).2 = 0 then -5 else if x = 0 then (stN (fun s => exN I J s (I 31 1).toNat) R).1 else (stN (fun s => exN I J s (I 31 1).toNat) R).2) → Md (d + 7) 221 [some (vR 56), some (vI x), none, none, none] w G I1 J := by
    intro I1 w hV1 k1 e1 hx hw
    obtain ⟨hG1, ⟨_, hF1, _, _, _, hW1, _, _⟩, _⟩ := id hV1
    have hst : stN (fun s => exN I1 J s (I1 31 1).toNat) R = stN (fun s => exN I J s (I 31 1).toNat) R := by
      have : (fun s => exN I1 J s (I1 31 1).toNat) = (fun s => exN I J s (I 31 1).toNat) := by
        funext s
        rw [k1 31 1 (by decide), exN_kp k1]
      rw [this]
    unfold Md
    refine b_X12_storm_0 hG (sp_in hG (fun _ _ => b_X12_storm_6 hG (fun _ => b_X12_storm_11 hG (lp_stM (d := d + 2) (R := R) hG hF1 hW1 (by rw [e1]; exact hRR.1) hRR.2 (fun y => ?_) R 0 (by omega))) (fun q => absurd q (by decide))) (fun q => absurd hx (by omega)))
    rw [hst]
    have hb := stN_b (E := fun s => exN I J s (I 31 1).toNat) R
    generalize stN (fun s => exN I J s (I 31 1).toNat) R = p at hw hb ⊢
    refine b_X12_storm_91 hG (fun q => ?_) (fun q => ?_)
    · have hz : ¬ p.2 = 0 := fun h => q (by unfold xF; rw [if_pos h])
      have e : xF p = p.1 := by unfold xF; rw [if_neg hz]
      rw [if_neg hz] at hw
      refine b_X12_storm_101 hG (fun q2 => b_X12_storm_109 hG ⟨?_, b, hV1, rfl, rfl⟩) (fun q2 => b_X12_storm_105 hG ⟨?_, b, hV1, rfl, rfl⟩)
      · rw [hw, if_neg q2]
      · rw [hw, if_pos q2, e]
    · by_cases hz : p.2 = 0
      · rw [if_pos hz] at hw
        exact b_X12_storm_96 hG ⟨by rw [hw], b, hV1, rfl, rfl⟩
      · exfalso
        unfold xF at q
        rw [if_neg hz] at q
        omega
  refine b_X11_storm_0 hG (sp_within hG (fun x0 x1 => b_X11_storm_6 hG (fun _ => b_X11_storm_11 hG (b_X9_explain_0 hG (lp_fill (Io := I) hG (by omega) (by omega) (fun k k0 k1 => (g5 k k0 (by omega)).2) (fun I1 y u2 k1 hc1 => ?_) (I 31 1).toNat 0 I none (by omega) Kp.rfl' (fun r r0 r1 => by omega)))) (fun q => absurd q (by decide))) (fun q => b_X11_storm_6 hG (fun q => absurd rfl q) (fun _ => b_X11_storm_9 hG ⟨_, b, rfl, hG, ⟨rfl, rfl⟩, ?n⟩)))
  case n =>
    unfold Md
    exact b_X12_storm_0 hG (sp_in hG (fun _ _ => absurd q (by omega)) (fun _ => b_X12_storm_6 hG (fun q => absurd rfl q) (fun _ => b_X12_storm_9 hG ⟨rfl, b, hV, rfl, rfl⟩)))
  refine b_X9_explain_27 hG (lp_stC (Io := I) (R := R) hG (by omega) (by omega) (by rw [f5.2.2]; exact hRR.1) (fun I2 k2 h3 h4 => ?_) R 0 _ u2 (by omega) ((k1.set (by decide +kernel)).set (by decide +kernel)) (fun r r0 r1 => ?_) ?_ ?_)
  · have e2 : I2 57 = I 57 := k2.c (sc 57 (by decide))
    refine b_X11_storm_21 hG (fun q => b_X11_storm_37 hG (fun q2 => b_X11_storm_54 hG ⟨_, b, rfl, hG, Sc.kp k2, fin I2 _ (hV.kp k2) k2 e2 ⟨x0, x1⟩ ?_⟩) (fun q2 => b_X11_storm_41 hG ⟨_, b, rfl, hG, Sc.kp k2, fin I2 _ (hV.kp k2) k2 e2 ⟨x0, x1⟩ ?_⟩)) (fun q => b_X11_storm_34 hG ⟨_, b, rfl, hG, Sc.kp k2, fin I2 _ (hV.kp k2) k2 e2 ⟨x0, x1⟩ ?_⟩)
    · rw [h4] at q ⊢
      rw [if_neg q, if_neg q2]
    · rw [h4] at q
      rw [if_neg q, if_pos q2, h3]
    · rw [h4] at q
      rw [if_pos q]
  · rw [mset_o (by decide), mset_o (by decide)]
    exact hc1 r r0 r1
  · rw [mset_n (by decide), mset_at]
    rfl
  · rw [mset_at]
    rfl
end SM
