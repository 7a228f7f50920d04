/-! ways and wires that are down: the calls reach and told -/
theorem seg0 : ∀ a : Nat, a < 11 → ∀ c : Nat, c < 11 → c ≤ a → ∀ k : Nat, k < 64 → lt ((lShl 1 (a : Int)) - (lShl 1 (c : Int))) k = decide (c ≤ k ∧ k < a) := by decide +kernel
theorem sok0 : ∀ a : Nat, a < 11 → 1 ≤ lShl 1 (a : Int) ∧ lShl 1 (a : Int) ≤ 1024 := by decide +kernel
def seg (l n f c : Int) : Prop := 10 * l + n < c ∧ c ≤ 10 * l + f
theorem wires_bit {w n f : Int} (hw : 0 ≤ w ∧ w ≤ 3) (hn : -1 ≤ n) (hnf : n ≤ f) (hf : f ≤ 9) {c : Nat} (hc : c < 64) : lt (wiresF w n f) c = true ↔ seg w n f c := by
  obtain ⟨a, ha⟩ := Int.eq_ofNat_of_zero_le (show 0 ≤ f + 1 by omega)
  obtain ⟨e, he⟩ := Int.eq_ofNat_of_zero_le (show 0 ≤ n + 1 by omega)
  obtain ⟨s, hs⟩ := Int.eq_ofNat_of_zero_le (show 0 ≤ w * 10 by omega)
  unfold wiresF seg
  rw [ha, he, hs, lt_shl (by omega), seg0 a (by omega) e (by omega) (by omega) (c - s) (by omega)]
  simp only [Bool.and_eq_true, decide_eq_true_eq, Bool.not_eq_true', decide_eq_false_iff_not]
  omega
def onW (A : aI) (f t c : Int) : Prop := if 0 ≤ t ∧ t < A 2 0 then (if A 3 f = A 3 t then seg (A 3 f) (min (A 4 f) (A 4 t)) (max (A 4 f) (A 4 t)) c else (seg (A 3 f) (-1) (A 4 f) c ∨ seg (A 3 t) (-1) (A 4 t) c)) else seg (A 3 f) (-1) (A 4 f) c
theorem farmF {A : aI} {S : Int → Int} (hF : RelF A S) {x : Int} (h0 : 0 ≤ x) (h1 : x < A 2 0) : (S (32 + (5 * x) + 0) = A 3 x ∧ S (32 + (5 * x) + 1) = A 4 x ∧ S (32 + (5 * x) + 2) = A 5 x) ∧ (0 ≤ A 3 x ∧ A 3 x ≤ 3) ∧ (0 ≤ A 4 x ∧ A 4 x ≤ 9) ∧ (0 ≤ A 5 x ∧ A 5 x ≤ 9) := by
  have f0 := hF.1
  have := hF.2.1 x h0 (by omega)
  exact ⟨⟨this.1.1.symm, this.1.2.1.symm, this.1.2.2.1.symm⟩, by omega, by omega, by omega⟩
theorem way_bit {A : aI} {S : Int → Int} (hF : RelF A S) {f t : Int} (f0 : 0 ≤ f) (f1 : f < A 2 0) {c : Nat} (hc : c < 64) : lt (wayF A f t) c = true ↔ onW A f t c := by
  obtain ⟨_, g1, g2, _⟩ := farmF hF f0 f1
  unfold wayF onW
  rw [if_neg (show ¬ ¬ (0 ≤ f ∧ f < A 2 0) by omega)]
  by_cases ht : 0 ≤ t ∧ t < A 2 0
  · obtain ⟨_, g3, g4, _⟩ := farmF hF ht.1 ht.2
    rw [if_neg (show ¬ ¬ (0 ≤ t ∧ t < A 2 0) by omega), if_pos ht]
    by_cases hl : A 3 f = A 3 t
    · rw [if_pos hl, if_pos hl]
      exact wires_bit g1 (by omega) (by omega) (by omega) hc
    · rw [if_neg hl, if_neg hl, lt_or, Bool.or_eq_true, wires_bit g1 (by omega) (by omega) (by omega) hc, wires_bit g3 (by omega) (by omega) (by omega) hc]
  · rw [if_pos ht, if_neg ht]
    exact wires_bit g1 (by omega) (by omega) (by omega) hc
theorem onW_r {A : aI} {S : Int → Int} (hF : RelF A S) {f t c : Int} (f0 : 0 ≤ f) (f1 : f < A 2 0) (h : onW A f t c) : 0 ≤ c ∧ c < 40 := by
  obtain ⟨_, g1, g2, _⟩ := farmF hF f0 f1
  unfold onW seg at h
  split at h
  · rename_i ht
    obtain ⟨_, g3, g4, _⟩ := farmF hF ht.1 ht.2
    split at h <;> omega
  · omega
theorem land0 {x y : Int} : lAnd x y = 0 ↔ ∀ c : Nat, c < 64 → ¬ (lt x c = true ∧ lt y c = true) := by
  have z : ∀ c, lt 0 c = false := fun c => by
    show lt ((0 : Nat) : Int) c = _
    rw [lt_nat (by decide), Nat.zero_testBit]
  constructor
  · intro h c hc hh
    have := congrArg (fun v => lt v c) h

    rw [lt_and, hh.1, hh.2, z] at this
    cases this
  · intro h
    refine lt_ext (n_r64 _) (by decide) fun k hk => ?_
    rw [lt_and, z]
    have := h k hk
    cases h1 : lt x k <;> cases h2 : lt y k <;> simp_all
section SM
variable {d : Nat} {b : Bool} {G : aG} {I J : aI} {Q : Option aV → aG → aI → aI → Prop}
theorem sp_wires {w n f : Int} (hG : GW b G) (hw : 0 ≤ w ∧ w ≤ 3) (hn : -1 ≤ n ∧ n ≤ 9) (hf : -1 ≤ f ∧ f ≤ 9) (k : Q (some (vL (wiresF w n f))) G I J) : At d 48 0 [some (vI w), some (vI n), some (vI f)] [] G I J Q := by
  obtain ⟨a, ha⟩ := Int.eq_ofNat_of_zero_le (show 0 ≤ f + 1 by omega)
  obtain ⟨e, he⟩ := Int.eq_ofNat_of_zero_le (show 0 ≤ n + 1 by omega)
  have h1 := sok0 a (by omega)
  have h2 := sok0 e (by omega)
  exact b_X4_wires_0 hG (by unfold ok32; omega) (by unfold ok32; omega) (by rw [ha, he]; unfold ok64; omega) (by unfold ok32; omega) k
theorem sp_way {f t : Int} (hG : GW b G) (hF : RelF I (I 57)) (f0 : 0 ≤ f) (f1 : f < I 2 0) (k : Q (some (vL (wayF I f t))) G I J) : At (d + 1) 46 0 [some (vR 2), some (vI f), some (vI t)] [] G I J Q := by
  obtain ⟨_, g1, g2, _⟩ := farmF hF f0 f1
  have h0 := hF.1
  unfold wayF at k
  rw [if_neg (show ¬ ¬ (0 ≤ f ∧ f < I 2 0) by omega)] at k
  refine b_X4_way_0 hG (sp_X4_has hG (fun _ _ => b_X4_way_5 hG (fun _ => b_X4_way_10 hG (sp_X4_has hG (fun t0 t1 => b_X4_way_15 hG (fun _ => ?_) (fun q => absurd q (by decide))) (fun q => b_X4_way_15 hG (fun q => absurd rfl q) (fun _ => b_X4_way_18 hG f0 (by omega) (sp_wires hG g1 (by omega) (by omega) (b_X4_way_34 hG ?_)))))) (fun q => absurd q (by decide))) (fun q => absurd q (by omega)))
  · obtain ⟨_, g3, g4, _⟩ := farmF hF t0 t1
    rw [if_neg (show ¬ ¬ (0 ≤ t ∧ t < I 2 0) by omega)] at k
    refine b_X4_way_35 hG f0 (by omega) t0 (by omega) (fun q => b_X4_way_90 hG f0 (by omega) (sp_wires hG g1 (by omega) (by omega) (b_X4_way_106 hG t0 (by omega) (sp_wires hG g3 (by omega) (by omega) (b_X4_way_122 hG ?_))))) (fun q => b_X4_way_50 hG f0 (by omega) t0 (by omega) (sp_wires hG g1 (by omega) (by omega) (b_X4_way_89 hG ?_)))
    · rw [if_neg q] at k
      exact k
    · rw [if_pos q] at k
      exact k
  · rw [if_pos (by omega)] at k
    exact k
theorem sp_isEndC {x : Int} (hG : GW b G) (k1 : x = 12 ∨ (0 ≤ x ∧ x < I 2 0) → Q (some (vI 1)) G I J) (k0 : ¬ (x = 12 ∨ (0 ≤ x ∧ x < I 2 0)) → Q (some (vI 0)) G I J) : At (d + 1) 40 0 [some (vR 2), some (vI x)] [] G I J Q :=
  b_X4_isEnd_0 hG (fun q => b_X4_isEnd_14 hG (k1 (Or.inl q))) (fun q => b_X4_isEnd_6 hG (sp_X4_has hG (fun a c => b_X4_isEnd_11 hG (fun q => absurd q (by decide)) (fun _ => b_X4_isEnd_14 hG (k1 (Or.inr ⟨a, c⟩)))) (fun a => b_X4_isEnd_11 hG (fun _ => b_X4_isEnd_18 hG (k0 (by omega))) (fun q => absurd rfl q))))
theorem sp_isEndM {x : Int} (hG : GW b G) (hr : 0 ≤ I 57 0 ∧ I 57 0 ≤ 12) (k1 : x = 12 ∨ (0 ≤ x ∧ x < I 57 0) → Q (some (vI 1)) G I J) (k0 : ¬ (x = 12 ∨ (0 ≤ x ∧ x < I 57 0)) → Q (some (vI 0)) G I J) : At (d + 2) 216 0 [some (vR 56), some (vI x)] [] G I J Q :=
  b_X12_isEnd_0 hG (sp_isFarm hG hr (fun a c => b_X12_isEnd_5 hG (fun _ => b_X12_isEnd_14 hG (k1 (Or.inr ⟨a, c⟩))) (fun q => absurd q (by decide))) (fun a => b_X12_isEnd_5 hG (fun q => absurd rfl q) (fun _ => b_X12_isEnd_8 hG (fun q => b_X12_isEnd_18 hG (k0 (by omega))) (fun q => b_X12_isEnd_14 hG (k1 (Or.inl q))))))
/-- how the model tells of a set which wires are down -/
def IsD (b : Bool) (G : aG) (I J : aI) (set : Int) (dn : Int → Bool) : Prop := ∀ (D : Nat) (Q' : Option aV → aG → aI → aI → Prop) (l w : Int), 0 ≤ l → l ≤ 3 → 0 ≤ w → w ≤ 9 → Q' (some (vI (if dn (10 * l + w) = true then 1 else 0))) G I J → At D 201 0 [some (vR 56), some (vI set), some (vI l), some (vI w), none] [] G I J Q'
theorem lp_isUp {set l n f : Int} {dn : Int → Bool} (hG : GW b G) (hD : IsD b G I J set dn) (hl : 0 ≤ l ∧ l ≤ 3) (hn : 0 ≤ n) (hf : f ≤ 9) (k1 : (∀ c, seg l (n - 1) f c → dn c = false) → Q (some (vI 1)) G I J) (k0 : ∀ c, seg l (n - 1) f c → dn c = true → Q (some (vI 0)) G I J) : ∀ (j : Nat) (y : Int), n ≤ y → y + j = f + 1 → (∀ c, seg l (n - 1) (y - 1) c → dn c = false) → At (d + 1) 202 3 [some (vR 56), some (vI set), some (vI l), some (vI n), some (vI f), some (vI y)] [] G I J Q
  | 0, y, h0, h1, hz => by
    refine b_X12_isUp_3 hG (fun _ => b_X12_isUp_29 hG (k1 ?_)) (fun q => by omega)
    rw [show y - 1 = f by omega] at hz
    exact hz
  | j + 1, y, h0, h1, hz => by
    refine b_X12_isUp_3 hG (fun q => by omega) (fun _ => b_X12_isUp_10 hG (hD d _ l y hl.1 hl.2 (by omega) (by omega) ?_))
    cases hd : dn (10 * l + y)
    · refine b_X12_isUp_18 hG (fun _ => b_X12_isUp_23 hG (by unfold ok32; omega) (lp_isUp hG hD hl hn hf k1 k0 j (y + 1) (by omega) (by omega) (fun c hc => ?_))) (fun q => absurd rfl q)
      unfold seg at hz hc
      by_cases hh : c = 10 * l + y
      · rw [hh]
        exact hd
      · exact hz c (by omega)
    · exact b_X12_isUp_18 hG (fun q => absurd q (by decide)) (fun _ => b_X12_isUp_21 hG (k0 (10 * l + y) (by unfold seg; omega) hd))
theorem sp_isUp {set l n f : Int} {dn : Int → Bool} (hG : GW b G) (hD : IsD b G I J set dn) (hl : 0 ≤ l ∧ l ≤ 3) (hn : 0 ≤ n) (hnf : n ≤ f + 1) (hf : f ≤ 9) (k1 : (∀ c, seg l (n - 1) f c → dn c = false) → Q (some (vI 1)) G I J) (k0 : ∀ c, seg l (n - 1) f c → dn c = true → Q (some (vI 0)) G I J) : At (d + 1) 202 0 [some (vR 56), some (vI set), some (vI l), some (vI n), some (vI f), none] [] G I J Q :=
  b_X12_isUp_0 hG (lp_isUp hG hD hl hn hf k1 k0 (f + 1 - n).toNat n (by omega) (by omega) (fun c hc => by unfold seg at hc; omega))
theorem sp_toBoard {set x : Int} {dn : Int → Bool} {A : aI} (hG : GW b G) (hF : RelF A (I 57)) (hD : IsD b G I J set dn) (x0 : 0 ≤ x) (x1 : x < A 2 0) (k1 : (∀ c, seg (A 3 x) (-1) (A 4 x) c → dn c = false) → Q (some (vI 1)) G I J) (k0 : ∀ c, seg (A 3 x) (-1) (A 4 x) c → dn c = true → Q (some (vI 0)) G I J) : At (d + 2) 203 0 [some (vR 56), some (vI set), some (vI x)] [] G I J Q := by
  obtain ⟨⟨e0, e1, _⟩, g1, g2, _⟩ := farmF hF x0 x1
  have h0 := hF.1
  refine b_X12_toBoard_0 hG (rdf hG x0 (by omega) (by decide) (by decide) (b_X12_toBoard_8 hG (rdf hG x0 (by omega) (by decide) (by decide) (b_X12_toBoard_15 hG ?_))))
  rw [e0, e1]
  exact sp_isUp hG hD g1 (Int.le_refl 0) (by omega) (by omega) (fun h => b_X12_toBoard_18 hG (Or.inr rfl) (k1 h)) (fun c hc hd => b_X12_toBoard_18 hG (Or.inl rfl) (k0 c hc hd))
theorem sp_reaches {set f t : Int} {dn : Int → Bool} {A : aI} (hG : GW b G) (hF : RelF A (I 57)) (hD : IsD b G I J set dn) (f0 : 0 ≤ f) (f1 : f < A 2 0) (ht : t = 12 ∨ (0 ≤ t ∧ t < A 2 0)) (k1 : (∀ c, onW A f t c → dn c = false) → Q (some (vI 1)) G I J) (k0 : ∀ c, onW A f t c → dn c = true → Q (some (vI 0)) G I J) : At (d + 3) 205 0 [some (vR 56), some (vI set), some (vI f), some (vI t)] [] G I J Q := by
  obtain ⟨⟨e0, e1, _⟩, g1, g2, _⟩ := farmF hF f0 f1
  have h0 := hF.1
  unfold onW at k1 k0
  refine b_X12_reaches_0 hG (fun q => ?_) (fun q => ?_)
  · have ht := ht.resolve_left q
    obtain ⟨⟨e2, e3, _⟩, g3, g4, _⟩ := farmF hF ht.1 ht.2
    simp only [if_pos ht] at k1 k0
    refine b_X12_reaches_13 hG (rdf hG f0 (by omega) (by decide) (by decide) (b_X12_reaches_19 hG (rdf hG ht.1 (by omega) (by decide) (by decide) (b_X12_reaches_25 hG (fun q2 => ?_) (fun q2 => ?_)))))
    · rw [e0, e2] at q2
      simp only [if_neg q2] at k1 k0
      refine b_X12_reaches_38 hG (sp_toBoard (d := d) hG hF hD f0 f1 (fun h1 => b_X12_reaches_44 hG (fun q => absurd q (by decide)) (fun _ => b_X12_reaches_47 hG (sp_toBoard (d := d) hG hF hD ht.1 ht.2 (fun h2 => b_X12_reaches_53 hG (fun q => absurd q (by decide)) (fun _ => b_X12_reaches_56 hG (k1 (fun c hc => ?_)))) (fun c hc hd => b_X12_reaches_53 hG (fun _ => b_X12_reaches_60 hG (k0 c (Or.inr hc) hd)) (fun q => absurd rfl q))))) (fun c hc hd => b_X12_reaches_44 hG (fun _ => b_X12_reaches_60 hG (k0 c (Or.inl hc) hd)) (fun q => absurd rfl q)))
      rcases hc with hc | hc
      · exact h1 c hc
      · exact h2 c hc
    · rw [e0, e2] at q2
      simp only [if_pos q2] at k1 k0
      have lo : ∀ {n m : Int}, n = min (A 4 f) (A 4 t) + 1 → m = max (A 4 f) (A 4 t) → At (d + 1) 202 0 [some (vR 56), some (vI set), some (vI (A 3 f)), some (vI n), some (vI m), none] [] G I J (fun v G' I' J' => At (d + 1 + 1) 204 57 [some (vR 56), some (vI set), some (vI f), some (vI t), some (vI (A 4 f)), some (vI (A 4 t))] (v.toList ++ []) G' I' J' (fun v G' I' J' => At (d + 2 + 1) 205 35 [some (vR 56), some (vI set), some (vI f), some (vI t)] (v.toList ++ []) G' I' J' Q)) := by
        intro n m hn hm
        refine sp_isUp hG hD g1 (by omega) (by omega) (by omega) (fun h => b_X12_between_57 hG (Or.inr rfl) (b_X12_reaches_35 hG (Or.inr rfl) (k1 ?_))) (fun c hc hd => b_X12_between_57 hG (Or.inl rfl) (b_X12_reaches_35 hG (Or.inl rfl) (k0 c ?_ hd)))
        · rw [hm, show n - 1 = min (A 4 f) (A 4 t) by omega] at h
          exact h
        · rw [hm, show n - 1 = min (A 4 f) (A 4 t) by omega] at hc
          exact hc
      refine b_X12_reaches_28 hG (b_X12_between_0 hG (rdf hG f0 (by omega) (by decide) (by decide) (b_X12_between_6 hG (rdf hG ht.1 (by omega) (by decide) (by decide) (b_X12_between_14 hG (rdf hG f0 (by omega) (by decide) (by decide) ?_))))))
      rw [e0, e1, e3]
      exact b_X12_between_24 hG (fun q => b_X12_between_36 hG (by unfold ok32; omega) (fun q2 => b_X12_between_52 hG (lo (by omega) (by omega))) (fun q2 => by omega)) (fun q => b_X12_between_31 hG (by unfold ok32; omega) (fun q2 => by omega) (fun q2 => b_X12_between_47 hG (lo (by omega) (by omega))))
  · have hn : ¬ (0 ≤ t ∧ t < A 2 0) := by omega
    simp only [if_neg hn] at k1 k0
    exact b_X12_reaches_6 hG (sp_toBoard (d := d) hG hF hD f0 f1 (fun h => b_X12_reaches_12 hG (Or.inr rfl) (k1 h)) (fun c hc hd => b_X12_reaches_12 hG (Or.inl rfl) (k0 c hc hd)))
/-- the wires that are down now -/
theorem isD0 {A B : aI} (hG : GW b G) (hW : RelW A B (I 57)) : IsD b G I J (-1) (fun c => lt (B 31 0) c.toNat) := by
  intro D Q' l w l0 l1 w0 w1 k
  obtain ⟨d0, d1, d2⟩ := hW.2.2.1
  have e := d2 l w l0 l1 w0 w1
  have hb := bit64 (x := B 31 0) (s := (10 * l + w).toNat) (by omega)
  rw [show (((10 * l + w).toNat : Nat) : Int) = l * 10 + w by omega] at hb
  have k : Q' (some (vI (if lt (B 31 0) (10 * l + w).toNat = true then 1 else 0))) G I J := k
  refine b_X12_isDown_0 hG (fun q => absurd q (by decide)) (fun _ => b_X12_isDown_4 hG (by unfold ok32; omega) (by unfold ok32; omega) (by unfold ok32; omega) (by omega) (by omega) (fun q => b_X12_isDown_27 hG ?_) (fun q => b_X12_isDown_23 hG ?_))
  · cases hh : lt (B 31 0) (10 * l + w).toNat
    · rw [hh] at k
      exact k
    · rw [hh, if_pos rfl] at hb
      omega
  · cases hh : lt (B 31 0) (10 * l + w).toNat
    · rw [hh, if_neg (by decide)] at hb
      omega
    · rw [hh] at k
      exact k
theorem cs_18 {x y : Int} (hV : LV b G I J) : Cl (d + 6) 127 217 [some (vR 0), some (vI x), some (vI y)] [some (vR 56), some (vI x), some (vI y)] G I J := by
  obtain ⟨hG, hRW, hc, hi, hk⟩ := id hV
  obtain ⟨hN, hF, hR, hT, hC, hW, hL, hM⟩ := id hRW
  have f0 := hF.1
  have m0 : 0 ≤ I 57 0 ∧ I 57 0 ≤ 12 := ⟨f0.1, f0.2.1⟩
  unfold Cl
  have fin : ∀ w, (0 ≤ x ∧ x < I 2 0) → (y = 12 ∨ (0 ≤ y ∧ y < I 2 0)) → ((∀ c, onW I x y c → lt (J 31 0) c.toNat = false) → w = 1) → (∀ c, onW I x y c → lt (J 31 0) c.toNat = true → w = 0) → Md (d + 6) 217 [some (vR 56), some (vI x), some (vI y)] w G I J := by
    intro w hx hy h1 h0
    unfold Md
    exact b_X12_reach_0 hG (sp_isFarm hG m0 (fun _ _ => b_X12_reach_5 hG (fun q => absurd q (by decide)) (fun _ => b_X12_reach_8 hG (sp_isEndM (d := d + 3) hG m0 (fun _ => b_X12_reach_13 hG (fun q => absurd q (by decide)) (fun _ => b_X12_reach_16 hG (sp_reaches (d := d + 2) hG hF (isD0 hG hW) hx.1 hx.2 hy (fun h => b_X12_reach_23 hG (fun q => absurd q (by decide)) (fun _ => b_X12_reach_26 hG ⟨by rw [h1 h], b, hV, rfl, rfl⟩)) (fun c hc hd => b_X12_reach_23 hG (fun _ => b_X12_reach_30 hG ⟨by rw [h0 c hc hd], b, hV, rfl, rfl⟩) (fun q => absurd rfl q))))) (fun q => absurd hy (by omega))))) (fun q => absurd q (by omega)))
  refine b_X11_reach_0 hG (sp_X4_has hG (fun x0 x1 => b_X11_reach_11 hG (fun q => absurd q (by decide)) (fun _ => b_X11_reach_14 hG (sp_isEndC hG (fun hy => b_X11_reach_25 hG (fun _ => b_X11_reach_30 hG (sp_way hG hF x0 x1 (b_X11_reach_42 hG (fun q => b_X11_reach_62 hG ⟨_, b, rfl, hG, ⟨rfl, rfl⟩, fin _ ⟨x0, x1⟩ hy (fun h => ?a) (fun _ _ _ => rfl)⟩) (fun q => b_X11_reach_58 hG ⟨_, b, rfl, hG, ⟨rfl, rfl⟩, fin _ ⟨x0, x1⟩ hy (fun _ => rfl) (fun c hc hd => ?bb)⟩)))) (fun q => absurd q (by decide))) (fun hy => b_X11_reach_25 hG (fun q => absurd rfl q) (fun _ => b_X11_reach_28 hG ⟨_, b, rfl, hG, ⟨rfl, rfl⟩, ?n2⟩))))) (fun q => b_X11_reach_11 hG (fun _ => b_X11_reach_28 hG ⟨_, b, rfl, hG, ⟨rfl, rfl⟩, ?n1⟩) (fun q => absurd rfl q)))
  case a =>
    exfalso
    apply q
    have : lAnd (wayF I x y) (J 31 0) = 0 := land0.2 fun c hc hh => by
      have h2 := h (c : Int) ((way_bit hF x0 x1 hc).1 hh.1)
      rw [Int.toNat_natCast] at h2
      rw [hh.2] at h2
      cases h2
    rw [this]
    decide
  case bb =>
    exfalso
    have hr := onW_r hF x0 x1 hc
    have : lAnd (wayF I x y) (J 31 0) = 0 := by
      unfold cLcm at q
      split at q
      · cases q
      · split at q
        · assumption
        · cases q
    refine land0.1 this c.toNat (by omega) ⟨(way_bit hF x0 x1 (by omega)).2 ?_, hd⟩
    rw [show ((c.toNat : Nat) : Int) = c by omega]
    exact hc
  case n2 =>
    unfold Md
    exact b_X12_reach_0 hG (sp_isFarm hG m0 (fun _ _ => b_X12_reach_5 hG (fun q => absurd q (by decide)) (fun _ => b_X12_reach_8 hG (sp_isEndM (d := d + 3) hG m0 (fun q => absurd hy (by omega)) (fun _ => b_X12_reach_13 hG (fun _ => b_X12_reach_34 hG ⟨rfl, b, hV, rfl, rfl⟩) (fun q => absurd rfl q))))) (fun q => absurd q (by omega)))
  case n1 =>
    unfold Md
    exact b_X12_reach_0 hG (sp_isFarm hG m0 (fun _ _ => absurd q (by omega)) (fun _ => b_X12_reach_5 hG (fun _ => b_X12_reach_34 hG ⟨rfl, b, hV, rfl, rfl⟩) (fun q => absurd rfl q)))
end SM
