/-! the call of -/
theorem wayN {A : aI} {S : Int → Int} (hF : RelF A S) {f t : Int} (f0 : 0 ≤ f) (f1 : f < A 2 0) : 0 ≤ wayF A f t ∧ wayF A f t < 1099511627776 ∧ ((bcL (wayF A f t).toNat : Nat) : Int) = if 0 ≤ t ∧ t < A 2 0 then (if A 3 f = A 3 t then max (A 4 f) (A 4 t) - min (A 4 f) (A 4 t) else A 4 f + A 4 t + 2) else A 4 f + 1 := by
  obtain ⟨_, g1, g2, _⟩ := farmF hF f0 f1
  have one : ∀ {w p : Int}, 0 ≤ w ∧ w ≤ 3 → 0 ≤ p ∧ p ≤ 9 → wiresF w (-1) p = ((((1 <<< (p.toNat + 1)) - 1) <<< (10 * w.toNat) : Nat) : Int) := fun {w p} hw hp => by
    rw [wnat hw (by decide) (by omega) hp.2, show (p + 1).toNat = p.toNat + 1 by omega, show (10 * w).toNat = 10 * w.toNat by omega]
    rfl
  unfold wayF
  rw [if_neg (show ¬ ¬ (0 ≤ f ∧ f < A 2 0) by omega)]
  by_cases ht : 0 ≤ t ∧ t < A 2 0
  · obtain ⟨_, g3, g4, _⟩ := farmF hF ht.1 ht.2
    rw [if_neg (show ¬ ¬ (0 ≤ t ∧ t < A 2 0) by omega), if_pos ht]
    by_cases hl : A 3 f = A 3 t
    · rw [if_pos hl, if_pos hl, wnat g1 (by omega) (by omega) (by omega)]
      have h := wcnt1 (A 3 f).toNat (by omega) (min (A 4 f) (A 4 t) + 1).toNat (by omega) (max (A 4 f) (A 4 t) + 1).toNat (by omega) (by omega)
      rw [show (10 * A 3 f).toNat = 10 * (A 3 f).toNat by omega, Int.toNat_natCast, h.1]
      exact ⟨Int.natCast_nonneg _, Int.ofNat_lt.2 h.2, by clear h; omega⟩
    · rw [if_neg hl, if_neg hl, one g1 g2, one g3 g4]
      have h1 := wcnt1 (A 3 f).toNat (by omega) 0 (by decide) ((A 4 f).toNat + 1) (by omega) (by omega)
      have h2 := wcnt1 (A 3 t).toNat (by omega) 0 (by decide) ((A 4 t).toNat + 1) (by omega) (by omega)
      have h3 := wcnt2 (A 3 f).toNat (by omega) (A 3 t).toNat (by omega) (A 4 f).toNat (by omega) (A 4 t).toNat (by omega) (by omega)
      have b1 : ((1 <<< ((A 4 f).toNat + 1)) - 1) <<< (10 * (A 3 f).toNat) < 1099511627776 := h1.2
      have b2 : ((1 <<< ((A 4 t).toNat + 1)) - 1) <<< (10 * (A 3 t).toNat) < 1099511627776 := h2.2
      rw [lOr_nat (by omega) (by omega), Int.toNat_natCast, h3]
      have := Nat.or_lt_two_pow (n := 40) b1 b2
      omega
  · rw [if_pos ht, if_neg ht, one g1 g2]
    have h1 := wcnt1 (A 3 f).toNat (by omega) 0 (by decide) ((A 4 f).toNat + 1) (by omega) (by omega)
    have b1 : ((1 <<< ((A 4 f).toNat + 1)) - 1) <<< (10 * (A 3 f).toNat) < 1099511627776 := h1.2
    have c1 : bcL (((1 <<< ((A 4 f).toNat + 1)) - 1) <<< (10 * (A 3 f).toNat)) = (A 4 f).toNat + 1 - 0 := h1.1
    rw [Int.toNat_natCast, c1]
    exact ⟨Int.natCast_nonneg _, Int.ofNat_lt.2 b1, by clear b1 c1 h1; omega⟩
def offF (x y : Int) : Int := if x < y then y - x else x - y
def farN (A : aI) (f : Int) : Nat → Int
  | 0 => 0
  | n + 1 => if A 3 (n : Int) = A 3 f then max (farN A f n) (offF (A 4 (n : Int)) (A 4 f)) else farN A f n
def postF (A : aI) (k : Int) : Int := if A 21 k = 4 then farN A (A 22 k) (A 2 0).toNat else if A 21 k = 1 then offF (A 4 (A 22 k)) (A 4 (A 23 k)) else if A 21 k = 2 then A 4 (A 22 k) + A 4 (A 23 k) + 2 else A 4 (A 22 k) + 1
def earF (A : aI) (k : Int) : Int := if A 23 k = 12 then 0 else A 5 (A 23 k)
def loudF (A : aI) (k : Int) : Int := max 0 (100 - 4 * postF A k - 7 * pop (A 30 k) + earF A k)
theorem farN_b {A : aI} {S : Int → Int} (hF : RelF A S) {f : Int} (f0 : 0 ≤ f) (f1 : f < A 2 0) : ∀ n : Nat, (n : Int) ≤ A 2 0 → 0 ≤ farN A f n ∧ farN A f n ≤ 9
  | 0, _ => by
    show (0 : Int) ≤ 0 ∧ (0 : Int) ≤ 9
    decide
  | n + 1, h => by
    have ih := farN_b hF f0 f1 n (by omega)
    obtain ⟨_, _, g2, _⟩ := farmF hF f0 f1
    obtain ⟨_, _, g4, _⟩ := farmF hF (x := (n : Int)) (by omega) (by omega)
    unfold farN offF
    split
    · split <;> omega
    · exact ih
section SM
variable {d : Nat} {b : Bool} {G : aG} {I J : aI} {Q : Option aV → aG → aI → aI → Prop}
theorem lp_far {f : Int} (hG : GW b G) (hF : RelF I (I 57)) (f0 : 0 ≤ f) (f1 : f < I 2 0) (k : Q (some (vI (farN I f (I 2 0).toNat))) G I J) : ∀ (j y : Nat), (y : Int) + j = I 2 0 → At (d + 2) 47 4 [some (vR 2), some (vI f), some (vI (farN I f y)), some (vI (y : Int))] [] G I J Q
  | 0, y, h => by
    rw [show (I 2 0).toNat = y by omega] at k
    exact b_X4_farthest_4 hG (fun _ => b_X4_farthest_46 hG k) (fun q => by omega)
  | j + 1, y, h => by
    have h0 := hF.1
    have nx := lp_far hG hF f0 f1 k j (y + 1) (by omega)
    rw [Int.natCast_add] at nx
    unfold farN at nx
    obtain ⟨_, _, g2, _⟩ := farmF hF f0 f1
    obtain ⟨_, _, g4, _⟩ := farmF hF (x := (y : Int)) (by omega) (by omega)
    refine b_X4_farthest_4 hG (fun q => by omega) (fun _ => b_X4_farthest_12 hG (by omega) (by omega) (sp_lineOf hG f0 f1 (by omega) (b_X4_farthest_23 hG (fun q => b_X4_farthest_40 hG (by unfold ok32; omega) ?_) (fun q => b_X4_farthest_26 hG (sp_way hG hF f0 f1 (b_X4_farthest_33 hG ?_))))))
    · rw [if_neg q] at nx
      exact nx
    · rw [if_pos q] at nx
      obtain ⟨w0, w1, w2⟩ := wayN hF f0 f1 (t := (y : Int))
      refine sp_J13 hG w0 w1 (b_X4_farthest_36 hG (by unfold ok32; omega) ?_)
      rw [w2, if_pos (by omega), if_pos q.symm]
      have e : max (I 4 f) (I 4 (y : Int)) - min (I 4 f) (I 4 (y : Int)) = offF (I 4 (y : Int)) (I 4 f) := by
        unfold offF
        split <;> omega
      rw [e]
      exact nx
theorem sp_loud {x : Int} (hG : GW b G) (hF : RelF I (I 57)) (hC : RelC I J (I 57)) (x0 : 0 ≤ x) (x1 : x < I 57 2) (k : Q (some (vI (loudF I x))) G I J) : At (d + 3) 9 0 [some (vR 20), some (vI x), some (vR 2), none] [] G I J Q := by
  obtain ⟨⟨g, _⟩, h1, h2, h3, h4, h5, h6, h7, h8, h9, h10, h11, h12⟩ := cll hF hC x0 x1
  have h0 := hF.1
  have pb := pop_le (x := I 30 x)
  have fb := farN_b hF h2.1 h2.2.1 (I 2 0).toNat (by omega)
  obtain ⟨_, _, p1, _⟩ := farmF hF h2.1 h2.2.1
  obtain ⟨w0, w1, w2⟩ := wayN hF h2.1 h2.2.1 (t := I 23 x)
  have e25 := (hC.2.1 x x0 x1).2.1.2
  have tl : ∀ s x3, s = postF I x → 0 ≤ s → s ≤ 20 → At (d + 3) 9 51 [some (vR 20), some (vI x), some (vR 2), some (vI x3)] [vI (pop (I 30 x)), vI 7, vI (100 - 4 * s), vI 0] G I J Q := by
    intro s x3 hs s0 s1
    unfold loudF at k
    rw [← hs] at k
    have c : 7 * pop (I 30 x) = pop (I 30 x) * 7 := Int.mul_comm _ _
    refine b_X0_loud_51 hG (by unfold ok32; omega) (by unfold ok32; omega) x0 g ?_
    refine b_X4_earsOf_0 hG (sp_X4_has hG (fun q0 q1 => b_X4_earsOf_5 hG (fun q => absurd q (by decide)) (fun _ => b_X4_earsOf_8 hG q0 (by omega) ?_)) (fun q => b_X4_earsOf_5 hG (fun _ => b_X4_earsOf_17 hG ?_) (fun q => absurd rfl q)))
    · obtain ⟨_, _, _, p2⟩ := farmF hF q0 q1
      unfold earF at k
      rw [if_neg (by omega)] at k
      exact b_X0_loud_63 hG (by unfold ok32; omega) k
    · unfold earF at k
      rw [if_pos (by omega)] at k
      exact b_X0_loud_63 hG (by unfold ok32; omega) k
  refine b_X0_loud_0 hG x0 g (fun q => b_X0_loud_23 hG x0 g ?_) (fun q => b_X0_loud_10 hG x0 g (b_X4_farthest_0 hG (lp_far (d := d) hG hF h2.1 h2.2.1 (b_X0_loud_20 hG (by unfold ok32; omega) (by unfold ok32; omega) x0 g (sp_J6 hG h7.1 h7.2 (tl _ _ ?_ fb.1 (by omega)))) (I 2 0).toNat 0 (by omega))))
  · have hp : ((bcL (wayF I (I 22 x) (I 23 x)).toNat : Nat) : Int) = postF I x := by
      rw [w2]
      unfold postF
      rw [if_neg q]
      by_cases h2k : I 21 x ≤ 2
      · have h4' := h4 h2k
        rw [if_pos (by omega)]
        by_cases h1k : I 21 x = 1
        · rw [if_pos h1k, if_pos (h6 h1k)]
          unfold offF
          split <;> omega
        · rw [if_neg h1k, if_pos (show I 21 x = 2 by omega), if_neg ((hC.2.1 x x0 x1).2.2.2.2.2.2.1 (by omega))]
      · rw [if_neg (by have := h5 (by omega); omega), if_neg (by omega), if_neg (by omega)]
    have hb : 0 ≤ postF I x ∧ postF I x ≤ 20 := by
      unfold postF offF
      rw [if_neg q]
      by_cases h2k : I 21 x ≤ 2
      · have h4' := h4 h2k
        obtain ⟨_, _, p2, _⟩ := farmF hF h4'.1 h4'.2.1
        (repeat' split) <;> omega
      · (repeat' split) <;> omega
    rw [e25]
    refine sp_J13 hG w0 w1 ?_
    rw [hp]
    exact b_X0_loud_32 hG (by unfold ok32; omega) (by unfold ok32; omega) x0 g (sp_J6 hG h7.1 h7.2 (tl _ _ rfl hb.1 hb.2))
  · unfold postF
    rw [if_pos q]
theorem sp_off {x y : Int} (hG : GW b G) (hx : 0 ≤ x ∧ x ≤ 9) (hy : 0 ≤ y ∧ y ≤ 9) (k : Q (some (vI (offF x y))) G I J) : At d 196 0 [some (vI x), some (vI y)] [] G I J Q := by
  unfold offF at k
  refine b_X12_off_0 hG (fun q => b_X12_off_11 hG (by unfold ok32; omega) ?_) (fun q => b_X12_off_5 hG (by unfold ok32; omega) ?_)
  · rw [if_neg (by omega)] at k
    exact k
  · rw [if_pos q] at k
    exact k
theorem sp_lineOfM {x : Int} (hG : GW b G) (hF : RelF I (I 57)) (hC : RelC I J (I 57)) (x0 : 0 ≤ x) (x1 : x < I 57 2) (k : Q (some (vI (I 3 (I 22 x)))) G I J) : At (d + 1) 192 0 [some (vR 56), some (vI x)] [] G I J Q := by
  obtain ⟨⟨g, e1, e2, _⟩, h1, h2, h3, h4, h5, h6, h7, h8, h9, h10, h11, h12⟩ := cll hF hC x0 x1
  refine b_X12_lineOf_0 hG (rdc hG x0 g (by decide) (by decide) (b_X12_lineOf_7 hG ?_))
  rw [e2]
  refine rdf hG h2.1 h2.2.2 (by decide) (by decide) (b_X12_lineOf_11 hG ?_)
  rw [h11.1]
  exact k
theorem lp_farM {x x3 : Int} (hG : GW b G) (hF : RelF I (I 57)) (hC : RelC I J (I 57)) (x0 : 0 ≤ x) (x1 : x < I 57 2) (k : ∀ y u, At (d + 2) 197 194 [some (vR 56), some (vI x), some (vI (I 22 x)), some (vI x3), some (vI (farN I (I 22 x) (I 2 0).toNat)), some (vI 0), some (vI y), u] [] G I J Q) : ∀ (j y : Nat) (u : Option aV), (y : Int) + j = I 2 0 → At (d + 2) 197 124 [some (vR 56), some (vI x), some (vI (I 22 x)), some (vI x3), some (vI (farN I (I 22 x) y)), some (vI 0), some (vI (y : Int)), u] [] G I J Q
  | 0, y, u, h => by
    have h0 := hF.1
    rw [show (I 2 0).toNat = y by omega] at k
    exact b_X12_loudOf_124 hG (fun _ => k _ _) (fun q => by omega)
  | j + 1, y, u, h => by
    obtain ⟨⟨g, e1, e2, _⟩, h1, h2, h3, h4, h5, h6, h7, h8, h9, h10, h11, h12⟩ := cll hF hC x0 x1
    have h0 := hF.1
    have fb := farN_b hF h2.1 h2.2.1 y (by omega)
    have nx := fun u => lp_farM hG hF hC x0 x1 k j (y + 1) u (by omega)
    rw [Int.natCast_add] at nx
    unfold farN at nx
    obtain ⟨⟨_, q1, _⟩, _, g2, _⟩ := farmF hF h2.1 h2.2.1
    obtain ⟨⟨r0, r1, _⟩, _, g4, _⟩ := farmF hF (x := (y : Int)) (by omega) (by omega)
    refine b_X12_loudOf_124 hG (fun q => by omega) (fun _ => b_X12_loudOf_135 hG (rdf hG (by omega) (by omega) (by decide) (by decide) (b_X12_loudOf_142 hG (sp_lineOfM hG hF hC x0 x1 (b_X12_loudOf_147 hG (fun q => b_X12_loudOf_169 hG (fun _ => b_X12_loudOf_184 hG (by unfold ok32; omega) ?_) (fun q2 => by omega)) (fun q => b_X12_loudOf_150 hG (rdf hG (by omega) (by omega) (by decide) (by decide) (b_X12_loudOf_157 hG (rdf hG h2.1 h2.2.2 (by decide) (by decide) (b_X12_loudOf_163 hG ?_))))))))))
    · rw [r0] at q
      simp only [if_neg q] at nx
      exact nx _
    · rw [r0] at q
      simp only [if_pos q] at nx
      rw [r1, q1]
      refine sp_off hG g4 g2 (b_X12_loudOf_166 hG (fun q2 => b_X12_loudOf_184 hG (by unfold ok32; omega) ?_) (fun q2 => b_X12_loudOf_179 hG (by unfold ok32; omega) ?_))
      · have := nx (some (vI (offF (I 4 (y : Int)) (I 4 (I 22 x)))))
        rw [show max (farN I (I 22 x) y) (offF (I 4 (y : Int)) (I 4 (I 22 x))) = farN I (I 22 x) y by omega] at this
        exact this
      · have := nx (some (vI (offF (I 4 (y : Int)) (I 4 (I 22 x)))))
        rw [show max (farN I (I 22 x) y) (offF (I 4 (y : Int)) (I 4 (I 22 x))) = offF (I 4 (y : Int)) (I 4 (I 22 x)) by omega] at this
        exact this
theorem sp_loudM {x : Int} (hG : GW b G) (hF : RelF I (I 57)) (hC : RelC I J (I 57)) (x0 : 0 ≤ x) (x1 : x < I 57 2) (k : Q (some (vI (loudF I x))) G I J) : At (d + 3) 197 0 [some (vR 56), some (vI x), none, none, none, none, none, none] [] G I J Q := by
  obtain ⟨⟨g, e1, e2, e3, e4, e5, e6, e7, e8⟩, h1, h2, h3, h4, h5, h6, h7, h8, h9, h10, h11, h12⟩ := cll hF hC x0 x1
  have h0 := hF.1
  have pb := pop_le (x := I 30 x)
  have fb := farN_b hF h2.1 h2.2.1 (I 2 0).toNat (by omega)
  obtain ⟨⟨_, q1, _⟩, _, p1, _⟩ := farmF hF h2.1 h2.2.1
  have tl : ∀ s ea x6 u, s = postF I x → ea = earF I x → 0 ≤ s → s ≤ 20 → 0 ≤ ea → ea ≤ 9 → At (d + 3) 197 210 [some (vR 56), some (vI x), some (vI (I 22 x)), some (vI (I 23 x)), some (vI s), some (vI ea), x6, u] [vI (I 30 x), vI 7, vI (100 - 4 * s)] G I J Q := by
    intro s ea x6 u hs he s0 s1 a0 a1
    unfold loudF at k
    rw [← hs, ← he] at k
    have c : 7 * pop (I 30 x) = pop (I 30 x) * 7 := Int.mul_comm _ _
    refine b_X12_loudOf_210 hG (sp_bitsOf hG h7.1 h7.2 (b_X12_loudOf_213 hG (by unfold ok32; omega) (by unfold ok32; omega) (by unfold ok32; omega) (fun q => b_X12_loudOf_229 hG ?_) (fun q => b_X12_loudOf_225 hG ?_)))
    · rw [show max 0 (100 - 4 * s - 7 * pop (I 30 x) + ea) = 100 - 4 * s - 7 * pop (I 30 x) + ea by omega] at k
      exact k
    · rw [show max 0 (100 - 4 * s - 7 * pop (I 30 x) + ea) = 0 by omega] at k
      exact k
  refine b_X12_loudOf_0 hG (rdc hG x0 g (by decide) (by decide) (b_X12_loudOf_6 hG (rdc hG x0 g (by decide) (by decide) (b_X12_loudOf_13 hG (rdc hG x0 g (by decide) (by decide) ?_)))))
  rw [e1, e2, e3]
  refine b_X12_loudOf_26 hG (fun q => ?_) (fun q => ?_) (fun q => ?_) (fun q => ?_)
  · have q4 : I 21 x = 4 := by omega
    have t12 := h5 (by omega)
    refine b_X12_loudOf_121 hG (lp_farM (d := d + 1) hG hF hC x0 x1 (fun y u => b_X12_loudOf_194 hG (by unfold ok32; omega) (by unfold ok32; omega) (rdc hG x0 g (by decide) (by decide) ?_)) (I 2 0).toNat 0 _ (by omega))
    rw [e8]
    exact tl _ _ _ _ (by unfold postF; rw [if_pos q4]) (by unfold earF; rw [if_pos t12]) fb.1 (by omega) (by decide) (by decide)
  · have h4' := h4 (by omega)
    obtain ⟨⟨_, r1, r2⟩, _, p2, p3⟩ := farmF hF h4'.1 h4'.2.1
    have ob : 0 ≤ offF (I 4 (I 22 x)) (I 4 (I 23 x)) ∧ offF (I 4 (I 22 x)) (I 4 (I 23 x)) ≤ 9 := by
      unfold offF
      split <;> omega
    refine b_X12_loudOf_52 hG (rdf hG h2.1 h2.2.2 (by decide) (by decide) (b_X12_loudOf_58 hG (rdf hG h4'.1 h4'.2.2 (by decide) (by decide) (b_X12_loudOf_64 hG ?_))))
    rw [q1, r1]
    refine sp_off hG p1 p2 (b_X12_loudOf_67 hG (rdf hG h4'.1 h4'.2.2 (by decide) (by decide) (b_X12_loudOf_75 hG (by unfold ok32; omega) (by unfold ok32; omega) (rdc hG x0 g (by decide) (by decide) ?_))))
    rw [r2, e8]
    exact tl _ _ _ _ (by unfold postF; rw [if_neg (by omega), if_pos q]) (by unfold earF; rw [if_neg (by omega)]) ob.1 (by omega) p3.1 p3.2
  · have h4' := h4 (by omega)
    obtain ⟨⟨_, r1, r2⟩, _, p2, p3⟩ := farmF hF h4'.1 h4'.2.1
    refine b_X12_loudOf_80 hG (rdf hG h2.1 h2.2.2 (by decide) (by decide) (b_X12_loudOf_86 hG (rdf hG h4'.1 h4'.2.2 (by decide) (by decide) ?_)))
    rw [q1, r1]
    refine b_X12_loudOf_92 hG (by unfold ok32; omega) (by unfold ok32; omega) (rdf hG h4'.1 h4'.2.2 (by decide) (by decide) (b_X12_loudOf_103 hG (by unfold ok32; omega) (by unfold ok32; omega) (rdc hG x0 g (by decide) (by decide) ?_)))
    rw [r2, e8]
    exact tl _ _ _ _ (by unfold postF; rw [if_neg (by omega), if_neg (by omega), if_pos q]) (by unfold earF; rw [if_neg (by omega)]) (by omega) (by omega) p3.1 p3.2
  · have t12 := h5 (by omega)
    refine b_X12_loudOf_108 hG (rdf hG h2.1 h2.2.2 (by decide) (by decide) ?_)
    rw [q1]
    refine b_X12_loudOf_114 hG (by unfold ok32; omega) (by unfold ok32; omega) (by unfold ok32; omega) (rdc hG x0 g (by decide) (by decide) ?_)
    rw [e8]
    exact tl _ _ _ _ (by unfold postF; rw [if_neg (by omega), if_neg (by omega), if_neg (by omega)]) (by unfold earF; rw [if_pos t12]) (by omega) (by omega) (by decide) (by decide)
def shiftF (S : Int → Int) (x r : Int) : Int := if S ((1312 + (8 * x)) + 0) = 4 then r - 20 else if S ((1312 + (8 * x)) + 0) = 3 then r + 5 else r
def rankF (S : Int → Int) (x day : Int) : Int := shiftF S x (ruleF S (VM S x) 0 day)
theorem sp_rankOn {x day : Int} (hV : LV b G I J) (x0 : 0 ≤ x) (x1 : x < I 57 2) (k : ∀ I', LV b G I' J → Kp I I' → I' 57 = I 57 → Q (some (vI (rankF (I 57) x day))) G I' J) : At (d + 4) 102 0 [some (vR 1), some (vI x), some (vI day), none, none] [] G I J Q := by
  obtain ⟨hG, ⟨hN, hF, hR, hT, hC, hW, hL, hM⟩, _⟩ := id hV
  obtain ⟨⟨g, e1, _⟩, _⟩ := cll hF hC x0 x1
  have rb := ruleF_b (V := VM (I 57) x) (w := 0) (on := day) (by decide) hR
  unfold rankF shiftF at k
  rw [e1] at k
  refine b_X10_rankOn_0 hG (ru (d := d) (cM := x) hV rfl (by decide) (fun _ => ⟨⟨x0, x1⟩, rfl⟩) (fun I1 hV1 k1 e => ?_))
  have k2 := k I1 hV1 k1 e
  have e21 : I1 21 x = I 21 x := by rw [k1.c (sc 21 (by decide))]
  refine b_X10_rankOn_7 hG x0 g (fun q => b_X10_rankOn_30 hG (fun q2 => b_X10_rankOn_42 hG ?_) (fun q2 => b_X10_rankOn_36 hG (by unfold ok32; omega) ?_)) (fun q => b_X10_rankOn_25 hG (by unfold ok32; omega) ?_)
  · rw [e21] at q q2
    rw [if_neg q, if_neg q2] at k2
    exact k2
  · rw [e21] at q q2
    rw [if_neg q, if_pos q2] at k2
    exact k2
  · rw [e21] at q
    rw [if_pos q] at k2
    exact k2
theorem sp_shifted {x r : Int} (hG : GW b G) (x0 : 0 ≤ x) (x1 : x < 60) (hr : 0 ≤ r ∧ r ≤ 999) (k : Q (some (vI (shiftF (I 57) x r))) G I J) : At (d + 1) 189 0 [some (vR 56), some (vI x), some (vI r)] [] G I J Q := by
  unfold shiftF at k
  refine b_X12_shifted_0 hG (rdc hG x0 x1 (by decide) (by decide) (b_X12_shifted_6 hG (fun q => b_X12_shifted_17 hG (rdc hG x0 x1 (by decide) (by decide) (b_X12_shifted_23 hG (fun q2 => b_X12_shifted_33 hG ?_) (fun q2 => b_X12_shifted_27 hG (by unfold ok32; omega) ?_)))) (fun q => b_X12_shifted_10 hG (by unfold ok32; omega) ?_)))
  · rw [if_neg q, if_neg q2] at k
    exact k
  · rw [if_neg q, if_pos q2] at k
    exact k
  · rw [if_pos q] at k
    exact k
theorem sp_rankOf {x : Int} {A : aI} (hG : GW b G) (hR : RelR A (I 57)) (hc : CallV (I 57) x) (x0 : 0 ≤ x) (x1 : x < 60) (hk : 0 ≤ I 57 ((1312 + (8 * x)) + 4)) (k : ∀ I', Kp I I' → Q (some (vI (rankF (I 57) x (I 57 ((1312 + (8 * x)) + 4) / 100)))) G I' J) : At (d + 25) 190 0 [some (vR 56), some (vI x)] [] G I J Q := by
  have h1 := hR.1
  refine b_X12_rankOf_0 hG (rdc hG x0 x1 (by decide) (by decide) (b_X12_rankOf_11 hG hk (sp_saysM (d := d) hG ⟨h1.1, h1.2.1⟩ hR.mr hc (fun I1 k1 => b_X12_rankOf_17 hG ?_))))
  have e57 : I1 57 = I 57 := k1.c (sc 57 (by decide))
  have rb := ruleF_b (V := VM (I 57) x) (w := 0) (on := I 57 ((1312 + (8 * x)) + 4) / 100) (by decide) hR
  refine sp_shifted (d := d + 23) hG x0 x1 rb (b_X12_rankOf_20 hG ?_)
  rw [e57]
  exact k I1 k1
theorem sp_costs {x : Int} (hG : GW b G) (hF : RelF I (I 57)) (hC : RelC I J (I 57)) (x0 : 0 ≤ x) (x1 : x < I 57 2) (k1 : ∀ v, v = (if I 21 x = 2 then I 26 x + 2 else if I 21 x = 3 then 3 * (I 26 x + 2) else if I 21 x = 4 then 0 else I 26 x) → Q (some (vI v)) G I J) : At d 6 0 [some (vR 20), some (vI x)] [] G I J Q ∧ At (d + 1) 191 0 [some (vR 56), some (vI x), none] [] G I J Q := by
  obtain ⟨⟨g, e1, e2, e3, e4, e5, e6, e7, e8⟩, h1, _⟩ := cll hF hC x0 x1
  have hm := (hC.2.1 x x0 x1).2.2.2.2.2.2.2.2.1
  have t2 : I 21 x = 2 → Q (some (vI (I 26 x + 2))) G I J := fun q => k1 _ (by rw [if_pos q])
  have t3 : I 21 x = 3 → Q (some (vI (3 * (I 26 x + 2)))) G I J := fun q => k1 _ (by rw [if_neg (by omega), if_pos q])
  have t4 : I 21 x = 4 → Q (some (vI 0)) G I J := fun q => k1 _ (by rw [if_neg (by omega), if_neg (by omega), if_pos q])
  have t1 : (I 21 x < 2 ∨ 4 < I 21 x) → Q (some (vI (I 26 x))) G I J := fun q => k1 _ (by rw [if_neg (by omega), if_neg (by omega), if_neg (by omega)])
  refine ⟨b_X0_costs_0 hG x0 g (fun q => b_X0_costs_54 hG x0 g (t1 q)) (fun q => b_X0_costs_32 hG x0 g (by unfold ok32; omega) (t2 q)) (fun q => b_X0_costs_41 hG x0 g (by unfold ok32; omega) (by unfold ok32; omega) (t3 q)) (fun q => b_X0_costs_52 hG (t4 q)), b_X12_costOf_0 hG (rdc hG x0 g (by decide) (by decide) (b_X12_costOf_6 hG (rdc hG x0 g (by decide) (by decide) ?_)))⟩
  rw [e1, e4]
  exact b_X12_costOf_13 hG (fun q => b_X12_costOf_52 hG (t1 q)) (fun q => b_X12_costOf_40 hG (by unfold ok32; omega) (t2 q)) (fun q => b_X12_costOf_44 hG (by unfold ok32; omega) (by unfold ok32; omega) (t3 q)) (fun q => b_X12_costOf_50 hG (t4 q))
theorem inF_b {x : Int} (hF : RelF I (I 57)) (hC : RelC I J (I 57)) (x0 : 0 ≤ x) (x1 : x < I 57 2) (h4 : I 21 x = 4) : inF I x = onL I (I 3 (I 22 x)) (I 2 0).toNat ∧ 0 ≤ inF I x ∧ inF I x < 4096 := by
  have h0 := hF.1
  have := onL_b (A := I) (l := I 3 (I 22 x)) (I 2 0).toNat (by omega)
  unfold inF
  rw [if_pos h4]
  exact ⟨rfl, this.1, this.2⟩
theorem cs_11 {x y : Int} (hV : LV b G I J) : Cl (d + 40) 120 198 [some (vR 0), some (vI x), some (vI y)] [some (vR 56), some (vI x), some (vI y)] G I J := by
  obtain ⟨hG, hRW, hc, hi, hk⟩ := id hV
  obtain ⟨hN, hF, hR, hT, hC, hW, hL, hM⟩ := id hRW
  have f2 := hC.1
  have f3 : I 1 0 = I 57 3 ∧ 0 ≤ I 57 3 ∧ I 57 3 ≤ 40099 := hN
  have m1 : 0 ≤ I 57 2 ∧ I 57 2 ≤ 60 := ⟨f2.1, f2.2.1⟩
  unfold Cl
  -- the model to its switch
  have sw : ∀ (I1 : aI) (w : Int), I1 57 = I 57 → (0 ≤ x ∧ x < I 57 2) → At (d + 40) 198 10 [some (vR 56), some (vI x), some (vI y)] [] G I1 J (fun v G2 I2 J2 => v = some (vI w) ∧ ∃ b, LV b G2 I2 J2 ∧ Sc I1 I2) → Md (d + 40) 198 [some (vR 56), some (vI x), some (vI y)] w G I1 J := by
    intro I1 w e1 hx k
    unfold Md
    exact b_X12_of_0 hG (sp_isCall hG (by rw [e1]; exact m1) (fun _ _ => b_X12_of_5 hG (fun _ => k) (fun q => absurd q (by decide))) (fun q => absurd hx (by rw [e1] at q; omega)))
  refine b_X11_of_0 hG (sp_X0_has hG (fun x0 x1 => b_X11_of_11 hG (fun _ => ?is) (fun q => absurd q (by decide))) (fun q => b_X11_of_11 hG (fun q => absurd rfl q) (fun _ => b_X11_of_14 hG ⟨_, b, rfl, hG, ⟨rfl, rfl⟩, ?n⟩)))
  case n =>
    unfold Md
    exact b_X12_of_0 hG (sp_isCall hG m1 (fun _ _ => absurd q (by omega)) (fun _ => b_X12_of_5 hG (fun q => absurd rfl q) (fun _ => b_X12_of_8 hG ⟨rfl, b, hV, rfl, rfl⟩)))
  case is =>
    have hx : 0 ≤ x ∧ x < I 57 2 := ⟨x0, by omega⟩
    obtain ⟨⟨g, e1, e2, e3, e4, e5, e6, e7, e8⟩, h1, h2, h3, h4, h5, h6, h7, h8, h9, h10, h11, h12⟩ := cll hF hC hx.1 hx.2
    have o10 := (hC.2.1 x hx.1 hx.2).2.2.2.2.2.2.2.2.2.2.2.1
    have o8 := (hC.2.1 x hx.1 hx.2).2.2.2.2.2.2.2.2.2.1
    have ft := (fun (y : Int) (P : Prop) (q : y < 0 ∨ 7 < y) (h : 0 ≤ y ∧ y ≤ 7) => (absurd h (by omega) : P))
    refine b_X11_of_16 hG (fun q => b_X11_of_200 hG ⟨_, b, rfl, hG, ⟨rfl, rfl⟩, sw I _ rfl hx (b_X12_of_10 hG (fun _ => b_X12_of_192 hG ⟨rfl, b, hV, rfl, rfl⟩) ?_ ?_ ?_ ?_ ?_ ?_ ?_ ?_)⟩) (fun q => b_X11_of_64 hG x0 g ⟨_, b, rfl, hG, ⟨rfl, rfl⟩, sw I _ rfl hx (b_X12_of_10 hG ?_ (fun _ => b_X12_of_56 hG (rdc hG x0 g (by decide) (by decide) (b_X12_of_62 hG ⟨by rw [e1], b, hV, rfl, rfl⟩))) ?_ ?_ ?_ ?_ ?_ ?_ ?_)⟩) (fun q => b_X11_of_77 hG x0 g ⟨_, b, rfl, hG, ⟨rfl, rfl⟩, sw I _ rfl hx (b_X12_of_10 hG ?_ ?_ (fun _ => b_X12_of_63 hG (rdc hG x0 g (by decide) (by decide) (b_X12_of_69 hG ⟨by rw [e6], b, hV, rfl, rfl⟩))) ?_ ?_ ?_ ?_ ?_ ?_)⟩) (fun q => ?rank) (fun q => ?cost) (fun q => ?hold) (fun q => ?wait) (fun q => ?loud) (fun q => ?faint)
    case rank =>
      refine b_X11_of_90 hG x0 g h8 (sp_rankOn (d := d + 35) hV hx.1 hx.2 (fun I1 hV1 k1 u => b_X11_of_113 hG ⟨_, b, rfl, hG, Sc.kp k1, sw I1 _ u hx (b_X12_of_10 hG ?_ ?_ ?_ (fun _ => b_X12_of_70 hG (sp_rankOf (d := d + 14) (A := I) hG (by rw [u]; exact hR) (by rw [u]; exact cllV hF hC hx.1 hx.2) x0 g (by rw [u, e5]; exact h8) (fun I2 k2 => b_X12_of_75 hG ⟨by rw [u, e5], b, hV1.kp k2, Sc.kp k2⟩))) ?_ ?_ ?_ ?_ ?_)⟩))
      all_goals (intro h; omega)
    case cost =>
      refine b_X11_of_114 hG (sp_costs (d := d + 39) hG hF hC hx.1 hx.2 (fun v hv => b_X11_of_125 hG ⟨_, b, rfl, hG, ⟨rfl, rfl⟩, sw I _ rfl hx (b_X12_of_10 hG ?_ ?_ ?_ ?_ (fun _ => b_X12_of_76 hG (sp_costs (d := d + 38) hG hF hC hx.1 hx.2 (fun v' hv' => b_X12_of_81 hG ⟨by rw [hv, hv'], b, hV, rfl, rfl⟩)).2) ?_ ?_ ?_ ?_)⟩)).1
      all_goals (intro h; omega)
    case wait =>
      have fin : ∀ w, w = (if I 28 x = -1 then I 57 3 else I 28 x) - I 27 x → Md (d + 40) 198 [some (vR 56), some (vI x), some (vI y)] w G I J := by
        intro w hw
        refine sw I _ rfl hx (b_X12_of_10 hG ?_ ?_ ?_ ?_ ?_ ?_ (fun _ => b_X12_of_121 hG (rdc hG x0 g (by decide) (by decide) (b_X12_of_128 hG (fun q2 => b_X12_of_141 hG (rdc hG x0 g (by decide) (by decide) (b_X12_of_148 hG (rdc hG x0 g (by decide) (by decide) (b_X12_of_154 hG (by rw [e7, e5]; unfold ok32; omega) ⟨?_, b, hV, rfl, rfl⟩))))) (fun q2 => b_X12_of_132 hG (rdc hG x0 g (by decide) (by decide) (b_X12_of_154 hG (by rw [e5]; unfold ok32; omega) ⟨?_, b, hV, rfl, rfl⟩)))))) ?_ ?_)
        all_goals try (intro h; omega)
        · rw [e7] at q2
          rw [hw, if_neg q2, e7, e5]
        · rw [e7] at q2
          rw [hw, if_pos q2, e5]
      refine b_X11_of_145 hG (b_X0_waited_0 hG x0 g (fun q2 => b_X0_waited_18 hG x0 g (by unfold ok32; omega) (b_X11_of_163 hG ⟨_, b, rfl, hG, ⟨rfl, rfl⟩, fin _ ?_⟩)) (fun q2 => b_X0_waited_9 hG x0 g (by unfold ok32; omega) (b_X11_of_163 hG ⟨_, b, rfl, hG, ⟨rfl, rfl⟩, fin _ ?_⟩)))
      · rw [if_pos (by omega), f3.1]
      · rw [if_neg (by omega)]
    case loud =>
      refine b_X11_of_164 hG (sp_loud (d := d + 36) hG hF hC hx.1 hx.2 (b_X11_of_182 hG ⟨_, b, rfl, hG, ⟨rfl, rfl⟩, sw I _ rfl hx (b_X12_of_10 hG ?_ ?_ ?_ ?_ ?_ ?_ ?_ (fun _ => b_X12_of_156 hG (sp_loudM (d := d + 36) hG hF hC hx.1 hx.2 (b_X12_of_161 hG ⟨rfl, b, hV, rfl, rfl⟩))) ?_)⟩))
      all_goals (intro h; omega)
    case hold =>
      have sM : ∀ w, At (d + 40) 198 82 [some (vR 56), some (vI x), some (vI y)] [] G I J (fun v G2 I2 J2 => v = some (vI w) ∧ ∃ b, LV b G2 I2 J2 ∧ Sc I I2) → Md (d + 40) 198 [some (vR 56), some (vI x), some (vI y)] w G I J := by
        intro w k
        refine sw I _ rfl hx (b_X12_of_10 hG ?_ ?_ ?_ ?_ ?_ (fun _ => k) ?_ ?_ ?_)
        all_goals (intro h; omega)
      refine b_X11_of_126 hG (b_X0_holds_0 hG x0 g (fun q4 => b_X0_holds_20 hG x0 g (sp_isUnder hG (by omega) ?_)) (fun q4 => b_X0_holds_10 hG (sp_inCall (d := d + 36) hG hF hC hx.1 hx.2 ?_)))
      · rcases unF_01 (a := I 21 x) (o := 2) with h | h
        · rw [h]
          refine b_X0_holds_30 hG (fun _ => b_X0_holds_37 hG (b_X11_of_144 hG ⟨_, b, rfl, hG, ⟨rfl, rfl⟩, sM _ (b_X12_of_82 hG (rdc hG x0 g (by decide) (by decide) (b_X12_of_88 hG (fun _ => b_X12_of_107 hG (sp_byBoard (d := d + 38) hG hF hC hx.1 hx.2 ?_)) (fun h => absurd (e1.symm.trans h) q4))))⟩)) (fun q => absurd rfl q)
          rw [h]
          exact b_X12_of_112 hG (fun _ => b_X12_of_119 hG ⟨rfl, b, hV, rfl, rfl⟩) (fun q => absurd rfl q)
        · rw [h]
          refine b_X0_holds_30 hG (fun q => absurd q (by decide)) (fun _ => b_X0_holds_33 hG (b_X11_of_144 hG ⟨_, b, rfl, hG, ⟨rfl, rfl⟩, sM _ (b_X12_of_82 hG (rdc hG x0 g (by decide) (by decide) (b_X12_of_88 hG (fun _ => b_X12_of_107 hG (sp_byBoard (d := d + 38) hG hF hC hx.1 hx.2 ?_)) (fun h => absurd (e1.symm.trans h) q4))))⟩))
          rw [h]
          exact b_X12_of_112 hG (fun q => absurd q (by decide)) (fun _ => b_X12_of_115 hG ⟨rfl, b, hV, rfl, rfl⟩)
      · obtain ⟨i0, i1, i2⟩ := inF_b hF hC hx.1 hx.2 q4
        refine b_X0_holds_16 hG (sp_J6 hG i1 i2 (b_X0_holds_19 hG (b_X11_of_144 hG ⟨_, b, rfl, hG, ⟨rfl, rfl⟩, sM _ (b_X12_of_82 hG (rdc hG x0 g (by decide) (by decide) (b_X12_of_88 hG (fun h => absurd (e1.trans q4) h) (fun _ => b_X12_of_92 hG (sp_lineOfM (d := d + 38) hG hF hC hx.1 hx.2 (b_X12_of_98 hG (sp_onLineM (d := d + 38) hG hF (b_X12_of_101 hG ?_))))))))⟩)))
        rw [← i0]
        exact sp_bitsOf hG i1 i2 (b_X12_of_104 hG ⟨rfl, b, hV, rfl, rfl⟩)
    case faint =>
      refine b_X11_of_183 hG (b_X10_isFaint_0 hG (sp_loud (d := d + 35) hG hF hC hx.1 hx.2 (b_X10_isFaint_12 hG x0 g h8 (ru (d := d + 35) (cM := -1) hV rfl (by decide) (fun q => by omega) (fun I1 hV1 k1 u => ?_)))))
      have fin : ∀ w, w = (if loudF I x < ruleF (I 57) (VM (I 57) (-1)) 6 (I 27 x / 100) then 1 else 0) → Md (d + 40) 198 [some (vR 56), some (vI x), some (vI y)] w G I1 J := by
        intro w hw
        obtain ⟨_, ⟨_, hF1, _, _, hC1, _⟩, _⟩ := id hV1
        have hl : loudF I1 x = loudF I x := by
          have hp : postF I1 x = postF I x := by
            have hfar : ∀ n, farN I1 (I 22 x) n = farN I (I 22 x) n := fun n => by
              induction n with
              | zero => rfl
              | succ n ih =>
                unfold farN
                rw [ih, k1.c (sc 3 (by decide)), k1.c (sc 4 (by decide))]
            unfold postF
            rw [k1.c (sc 21 (by decide)), k1.c (sc 22 (by decide)), k1.c (sc 23 (by decide)), k1.c (sc 2 (by decide)), k1.c (sc 4 (by decide)), hfar]
          unfold loudF earF
          rw [hp, k1.c (sc 30 (by decide)), k1.c (sc 23 (by decide)), k1.c (sc 5 (by decide))]
        refine sw I1 _ u hx (b_X12_of_10 hG ?_ ?_ ?_ ?_ ?_ ?_ ?_ ?_ (fun _ => b_X12_of_162 hG (sp_loudM (d := d + 36) hG hF1 hC1 hx.1 (by rw [u]; exact hx.2) (b_X12_of_167 hG (rdc hG x0 g (by decide) (by decide) (b_X12_of_177 hG (by rw [u, e5]; exact h8) (sa (d := d + 15) hV1 u (Or.inl rfl) (fun I2 hV2 k2 u2 => b_X12_of_183 hG (fun q2 => b_X12_of_190 hG ⟨?_, b, hV2, Sc.kp k2⟩) (fun q2 => b_X12_of_186 hG ⟨?_, b, hV2, Sc.kp k2⟩)))))))))
        all_goals try (intro h; omega)
        · rw [u, e5, hl] at q2
          rw [hw, if_neg (by omega)]
        · rw [u, e5, hl] at q2
          rw [hw, if_pos q2]
      refine b_X10_isFaint_31 hG (fun q2 => b_X10_isFaint_38 hG (b_X11_of_191 hG (fun _ => b_X11_of_198 hG ⟨_, b, rfl, hG, Sc.kp k1, fin _ ?_⟩) (fun q => absurd rfl q))) (fun q2 => b_X10_isFaint_34 hG (b_X11_of_191 hG (fun q => absurd q (by decide)) (fun _ => b_X11_of_194 hG ⟨_, b, rfl, hG, Sc.kp k1, fin _ ?_⟩)))
      · rw [if_neg (by omega)]
      · rw [if_pos q2]
    all_goals (intro h; omega)
end SM
