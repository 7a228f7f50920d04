/-! the state's cells place by place: what lies beyond an array's end doesn't matter -/
def PT (A A' B B' : aI) : Prop := (A' 1 0 = A 1 0 ∧ A' 2 0 = A 2 0 ∧ A' 9 0 = A 9 0 ∧ A' 10 0 = A 10 0 ∧ A' 20 0 = A 20 0 ∧ A' 31 1 = A 31 1 ∧ A' 31 2 = A 31 2 ∧ A' 31 5 = A 31 5 ∧ A' 35 0 = A 35 0 ∧ A' 40 0 = A 40 0 ∧ A' 40 1 = A 40 1 ∧ B' 31 0 = B 31 0) ∧
  (∀ k, 0 ≤ k → k < 12 → A' 3 k = A 3 k ∧ A' 4 k = A 4 k ∧ A' 5 k = A 5 k ∧ A' 6 k = A 6 k ∧ A' 7 k = A 7 k ∧ A' 8 k = A 8 k) ∧
  (∀ k, 0 ≤ k → k < 1320 → A' 11 k = A 11 k) ∧ (∀ k, 0 ≤ k → k < 120 → A' 12 k = A 12 k) ∧
  (∀ k, 0 ≤ k → k < 88 → A' 13 k = A 13 k ∧ A' 16 k = A 16 k ∧ A' 17 k = A 17 k ∧ A' 18 k = A 18 k) ∧ (∀ k, 0 ≤ k → k < 11 → A' 14 k = A 14 k ∧ A' 15 k = A 15 k) ∧
  (∀ k, 0 ≤ k → k < 60 → A' 21 k = A 21 k ∧ A' 22 k = A 22 k ∧ A' 23 k = A 23 k ∧ A' 24 k = A 24 k ∧ B' 25 k = B 25 k ∧ A' 26 k = A 26 k ∧ A' 27 k = A 27 k ∧ A' 28 k = A 28 k ∧ A' 29 k = A 29 k ∧ A' 30 k = A 30 k) ∧
  (∀ k, 0 ≤ k → k < 60 → A' 36 k = A 36 k ∧ A' 37 k = A 37 k ∧ A' 38 k = A 38 k ∧ A' 39 k = A 39 k) ∧ (∀ k, 0 ≤ k → k < 20 → B' 32 k = B 32 k) ∧
  (∀ k, 0 ≤ k → k < 10 → A' 33 k = A 33 k ∧ A' 41 k = A 41 k ∧ A' 42 k = A 42 k ∧ A' 43 k = A 43 k ∧ A' 44 k = A 44 k)
theorem lineBit_p {A A' : aI} {e : Int} (h2 : A' 2 0 = A 2 0) (hb : A 2 0 ≤ 12) (h : ∀ k, 0 ≤ k → k < 12 → A' 3 k = A 3 k) : lineBit A' e = lineBit A e := by
  unfold lineBit
  rw [h2]
  by_cases he : 0 ≤ e ∧ e < A 2 0
  · rw [if_pos he, if_pos he, h e he.1 (by omega)]
  · rw [if_neg he, if_neg he]
theorem wayF_p {A A' : aI} {f t : Int} (h2 : A' 2 0 = A 2 0) (hb : A 2 0 ≤ 12) (h : ∀ k, 0 ≤ k → k < 12 → A' 3 k = A 3 k) (h' : ∀ k, 0 ≤ k → k < 12 → A' 4 k = A 4 k) : wayF A' f t = wayF A f t := by
  unfold wayF
  rw [h2]
  by_cases hf : 0 ≤ f ∧ f < A 2 0
  · rw [if_neg (show ¬ ¬ (0 ≤ f ∧ f < A 2 0) from fun q => q hf), if_neg (show ¬ ¬ (0 ≤ f ∧ f < A 2 0) from fun q => q hf), h f hf.1 (by omega), h' f hf.1 (by omega)]
    by_cases ht : 0 ≤ t ∧ t < A 2 0
    · rw [if_neg (show ¬ ¬ (0 ≤ t ∧ t < A 2 0) from fun q => q ht), if_neg (show ¬ ¬ (0 ≤ t ∧ t < A 2 0) from fun q => q ht), h t ht.1 (by omega), h' t ht.1 (by omega)]
    · rw [if_pos (show ¬ (0 ≤ t ∧ t < A 2 0) from ht), if_pos (show ¬ (0 ≤ t ∧ t < A 2 0) from ht)]
  · rw [if_pos (show ¬ (0 ≤ f ∧ f < A 2 0) from hf), if_pos (show ¬ (0 ≤ f ∧ f < A 2 0) from hf)]
theorem RW.pt {A A' B B' : aI} {S : Int → Int} (h : RW A B S) (p : PT A A' B B') : RW A' B' S := by
  obtain ⟨hN, hF, hR, hT, hC, hW, hL, hM⟩ := h
  obtain ⟨⟨p1, p2, p9, p10, p20, p311, p312, p315, p35, p400, p401, pB⟩, q12, q11, q120, q88, q14, q60, q60', q20, q10⟩ := p
  have f0 := hF.1
  have l3 : ∀ k, 0 ≤ k → k < 12 → A' 3 k = A 3 k := fun k k0 k1 => (q12 k k0 k1).1
  have l4 : ∀ k, 0 ≤ k → k < 12 → A' 4 k = A 4 k := fun k k0 k1 => (q12 k k0 k1).2.1
  have lb : ∀ e, lineBit A' e = lineBit A e := fun e => lineBit_p p2 (by omega) l3
  have wf : ∀ f t, wayF A' f t = wayF A f t := fun f t => wayF_p p2 (by omega) l3 l4
  refine ⟨?_, ?_, ?_, ?_, ?_, ?_, ?_, ?_⟩
  · unfold RelN
    rw [p1]
    exact hN
  · obtain ⟨a, c, e, g⟩ := hF
    unfold RelF
    rw [p2]
    refine ⟨a, fun k k0 k1 => ?_, fun k k0 k1 => ?_, fun k k0 k1 => ?_⟩
    · obtain ⟨e3, e4, e5, e6, e7, e8⟩ := q12 k k0 (by omega)
      rw [e3, e4, e5, e6, e7]
      exact c k k0 k1
    · rw [(q12 k (by omega) k1).2.2.2.1]
      exact e k k0 k1
    · rw [(q12 k k0 k1).2.2.2.2.2]
      exact g k k0 k1
  · obtain ⟨a, c⟩ := hR
    unfold RelR
    rw [p9]
    refine ⟨a, fun r r0 r1 => ?_⟩
    obtain ⟨e1, e2, e3, e4, cl, g1, g2, g3⟩ := c r r0 r1
    rw [(q14 r r0 (by omega)).1]
    have hl := (pRule_ok (V := fun _ => 0) (bs := bsOf S ((92 + (122 * r)) + 2)) (n := S ((92 + (122 * r)) + 1)) 8 0 (by rw [g1])).2
    rw [g1] at hl
    have hl' : cl.length ≤ 8 := hl
    refine ⟨e1, e2, e3, e4, cl, g1, by rw [(q14 r r0 (by omega)).2]; exact g2, fun c e he => ?_⟩
    have hc : c < cl.length := (List.getElem?_eq_some_iff.1 he).1
    obtain ⟨z13, z16, z17, z18⟩ := q88 (8 * r + c) (by omega) (by omega)
    obtain ⟨y1, y2, y3, y4, y5, y6⟩ := g3 c e he
    rw [z13, z16, z17, z18]
    refine ⟨y1, y2, y3, y4, y5, fun j x hj => ?_⟩
    have hj' : j < e.2.2.length := (List.getElem?_eq_some_iff.1 hj).1
    rw [q11 _ (by omega) (by omega)]
    exact y6 j x hj
  · obtain ⟨a, c⟩ := hT
    unfold RelT
    rw [p10]
    refine ⟨a, fun k k0 k1 => ?_⟩
    rw [q120 k k0 (by omega)]
    exact c k k0 k1
  · obtain ⟨a, c, g⟩ := hC
    unfold RelC
    rw [p20]
    refine ⟨a, fun k k0 k1 => ?_, fun k k0 k1 => ?_⟩
    · obtain ⟨y1, y2, y3, y4, y5, y6, y7, y8, y9, y10⟩ := q60 k k0 (by omega)
      obtain ⟨c1, c2, o1, o2, o3, o4, o5, o6, o7, o8, o9, o10, o11, o12⟩ := c k k0 k1
      unfold CallOk
      rw [y1, y2, y3, y4, y5, y6, y7, y8, y9, y10, lb, lb, wf]
      refine ⟨c1, c2, o1, o2, o3, fun h => ?_, fun h => ?_, o6, o7, o8, o9, o10, o11, o12⟩
      · have := o3 (by omega)
        rw [l3 _ o2.1 (by omega), l3 _ this.1 (by omega)]
        exact o4 h
      · have := o3 (by omega)
        rw [l3 _ o2.1 (by omega), l3 _ this.1 (by omega)]
        exact o5 h
    · rw [(q60 k (by omega) k1).2.2.2.2.2.2.2.2.2]
      exact g k k0 k1
  · obtain ⟨a, c, e, g, z, y⟩ := hW
    unfold RelW
    rw [p311, p312, p315, pB]
    refine ⟨a, c, e, fun k k0 k1 => ?_, z, fun k k0 k1 => ?_⟩
    · rw [q20 k k0 (by omega), wf]
      exact g k k0 k1
    · rw [(q10 k k0 (by omega)).1]
      exact y k k0 k1
  · obtain ⟨a, c⟩ := hL
    unfold RelL
    rw [p35]
    refine ⟨a, fun k k0 k1 => ?_⟩
    obtain ⟨y1, y2, y3, y4⟩ := q60' k k0 (by omega)
    have g := c k k0 k1
    rw [y1, y2, y3, y4, (q12 (A 36 k) (by omega) (by omega)).2.2.2.2.1]
    exact g
  · obtain ⟨a, c, e⟩ := hM
    unfold RelM
    rw [p400, p401]
    refine ⟨a, fun k k0 k1 => ?_, e⟩
    obtain ⟨_, y1, y2, y3, y4⟩ := q10 k k0 (by omega)
    rw [y1, y2, y3, y4]
    exact c k k0 k1
theorem RW.sf {A B : aI} {S S' : Int → Int} (h : RW A B S) (q : ∀ i, 0 ≤ i → i < 2456 → S' i = S i) : RW A B S' := by
  obtain ⟨h1, h2, h3, h4, h5, h6, h7, h8⟩ := h
  have g3 : S' 3 = S 3 := q 3 (by decide) (by decide)
  exact ⟨h1.fr rfl g3, h2.fr rfl rfl rfl rfl rfl rfl rfl (fun i hi => q i (by omega) (by omega)) (by omega), h3.fr rfl rfl rfl rfl rfl rfl rfl rfl (fun i hi => q i (by omega) (by omega)), h4.fr rfl rfl (fun i hi => q i (by omega) (by omega)), h5.fr rfl rfl rfl rfl rfl rfl rfl rfl rfl rfl rfl rfl rfl rfl (fun i hi => q i (by omega) (by omega)) (by omega), h6.fr rfl rfl rfl rfl rfl rfl rfl rfl rfl (fun i hi => q i (by omega) (by omega)), h7.fr rfl rfl rfl rfl rfl rfl (fun i hi => q i (by omega) (by omega)) (by omega), h8.fr rfl rfl rfl rfl rfl rfl (fun i hi => q i (by omega) (by omega))⟩
theorem mcpy_at {I : aI} {a c : Nat} {n k : Int} (h0 : 0 ≤ k) (h1 : k < n) : mcpy I a 0 c 0 n c k = I a k := by
  unfold mcpy
  rw [if_pos ⟨rfl, h0, by omega⟩, show (0 : Int) + (k - 0) = k by omega]
theorem mcpy_o {I : aI} {a c e : Nat} {n : Int} (h : e ≠ c) : mcpy I a 0 c 0 n e = I e := by
  funext j
  unfold mcpy
  rw [if_neg (fun q => h q.1)]
