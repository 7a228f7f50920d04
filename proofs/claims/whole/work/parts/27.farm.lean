/-! the call farm -/
def sset (S : Int → Int) (k v : Int) : Int → Int := fun j => if j = k then v else S j
theorem mset_s {I : aI} {a : Nat} {k v : Int} : mset I a k v a = sset (I a) k v := by
  funext j
  simp [mset, sset]
theorem sset_n {S : Int → Int} {k j v : Int} (h : j ≠ k) : sset S k v j = S j := by simp [sset, h]
theorem sset_at {S : Int → Int} {k v : Int} : sset S k v k = v := by simp [sset]
theorem lineBit_add {A A' : aI} {S : Int → Int} {e : Int} (h0 : A 2 0 = S 0) (h1 : A' 2 0 = S 0 + 1) (h3 : ∀ k, 0 ≤ k → k < S 0 → A' 3 k = A 3 k) (he : e = 12 ∨ e < S 0) (hb : S 0 < 12) : lineBit A' e = lineBit A e := by
  unfold lineBit
  rw [h0, h1]
  by_cases hh : 0 ≤ e ∧ e < S 0
  · rw [if_pos ⟨hh.1, by omega⟩, if_pos hh, h3 e hh.1 hh.2]
  · rw [if_neg (by omega), if_neg hh]
theorem wayF_add {A A' : aI} {S : Int → Int} {e t : Int} (h0 : A 2 0 = S 0) (h1 : A' 2 0 = S 0 + 1) (h3 : ∀ k, 0 ≤ k → k < S 0 → A' 3 k = A 3 k) (h4 : ∀ k, 0 ≤ k → k < S 0 → A' 4 k = A 4 k) (he : 0 ≤ e ∧ e < S 0) (ht : t = 12 ∨ (0 ≤ t ∧ t < S 0)) (hb : S 0 < 12) : wayF A' e t = wayF A e t := by
  unfold wayF
  rw [h0, h1, if_neg (show ¬ ¬ (0 ≤ e ∧ e < S 0 + 1) by omega), if_neg (show ¬ ¬ (0 ≤ e ∧ e < S 0) by omega), h3 e he.1 he.2, h4 e he.1 he.2]
  by_cases hh : 0 ≤ t ∧ t < S 0
  · rw [if_neg (show ¬ ¬ (0 ≤ t ∧ t < S 0 + 1) by omega), if_neg (show ¬ ¬ (0 ≤ t ∧ t < S 0) by omega), h3 t hh.1 hh.2, h4 t hh.1 hh.2]
  · rw [if_pos (show ¬ (0 ≤ t ∧ t < S 0 + 1) by omega), if_pos hh]
theorem RW.add {A A' B : aI} {S S' : Int → Int} {x y z : Int} (h : RW A B S) (hx : 0 ≤ x ∧ x ≤ 3) (hy : 0 ≤ y ∧ y ≤ 9) (hz : 0 ≤ z ∧ z ≤ 9) (hn : S 0 < 12)
    (hc : ∀ a : Nat, a < 45 → (a ≠ 2 ∧ a ≠ 3 ∧ a ≠ 4 ∧ a ≠ 5 ∧ a ≠ 7) → A' a = A a) (h2 : A' 2 0 = S 0 + 1)
    (h3 : A' 3 = sset (A 3) (S 0) x) (h4 : A' 4 = sset (A 4) (S 0) y) (h5 : A' 5 = sset (A 5) (S 0) z) (h7 : A' 7 = sset (A 7) (S 0) (S 3 / 100))
    (t0 : S' 0 = S 0 + 1) (hs : ∀ i, i ≠ 0 → (i < 32 + 5 * S 0 ∨ 32 + 5 * S 0 + 5 ≤ i) → S' i = S i)
    (e0 : S' ((32 + (5 * S 0)) + 0) = x) (e1 : S' ((32 + (5 * S 0)) + 1) = y) (e2 : S' ((32 + (5 * S 0)) + 2) = z) (e3 : S' ((32 + (5 * S 0)) + 3) = 0) (e4 : S' ((32 + (5 * S 0)) + 4) = S 3 / 100) : RW A' B S' := by
  obtain ⟨gN, gF, gR, gT, gC, gW, gL, gM⟩ := h
  have k3 : ∀ k, 0 ≤ k → k < S 0 → A' 3 k = A 3 k := fun k _ h => by rw [h3, sset_n (by omega)]
  have k4 : ∀ k, 0 ≤ k → k < S 0 → A' 4 k = A 4 k := fun k _ h => by rw [h4, sset_n (by omega)]
  have k5 : ∀ k, 0 ≤ k → k < S 0 → A' 5 k = A 5 k := fun k _ h => by rw [h5, sset_n (by omega)]
  have k7 : ∀ k, 0 ≤ k → k < S 0 → A' 7 k = A 7 k := fun k _ h => by rw [h7, sset_n (by omega)]
  have c0 := gF.1.1
  have t3 : S' 3 = S 3 := hs 3 (by omega) (by omega)
  have n1 := gN.2.1
  refine ⟨gN.fr (by rw [hc 1 (by decide) (by decide)]) t3, ?_, gR.fr (by rw [hc 9 (by decide) (by decide)]) (hc 11 (by decide) (by decide)) (hc 13 (by decide) (by decide)) (hc 14 (by decide) (by decide)) (hc 15 (by decide) (by decide)) (hc 16 (by decide) (by decide)) (hc 17 (by decide) (by decide)) (hc 18 (by decide) (by decide)) (fun i hi => hs i (by omega) (by omega)), gT.fr (by rw [hc 10 (by decide) (by decide)]) (hc 12 (by decide) (by decide)) (fun i hi => hs i (by omega) (by omega)), ?_, ?_, ?_, gM.fr (by rw [hc 40 (by decide) (by decide)]) (by rw [hc 40 (by decide) (by decide)]) (hc 41 (by decide) (by decide)) (hc 42 (by decide) (by decide)) (hc 43 (by decide) (by decide)) (hc 44 (by decide) (by decide)) (fun i hi => hs i (by omega) (by omega))⟩
  · obtain ⟨⟨a1, a2, a3⟩, q, c, e⟩ := gF
    unfold RelF
    rw [t0, t3, hc 6 (by decide) (by decide), hc 8 (by decide) (by decide)]
    refine ⟨⟨by omega, by omega, h2⟩, fun k k0 k1 => ?_, fun k k0 k1 => c k (by omega) k1, fun a a0 a1 => ?_⟩
    · by_cases hk : k = S 0
      · subst hk
        rw [e0, e1, e2, e3, e4, h3, h4, h5, h7, sset_at, sset_at, sset_at, sset_at, c (S 0) (by omega) hn]
        refine ⟨⟨rfl, rfl, rfl, rfl, rfl⟩, ?_⟩
        omega
      · rw [k3 k k0 (by omega), k4 k k0 (by omega), k5 k k0 (by omega), k7 k k0 (by omega), hs _ (by omega) (by omega), hs _ (by omega) (by omega), hs _ (by omega) (by omega), hs _ (by omega) (by omega), hs _ (by omega) (by omega)]
        exact q k k0 (by omega)
    · obtain ⟨p1, p2, p3⟩ := e a a0 a1
      refine ⟨p1, p2, fun c c0 c1 => ?_⟩
      rw [hs _ (by omega) (by omega), hs _ (by omega) (by omega)]
      exact p3 c c0 c1
  · obtain ⟨⟨a1, a2, a3⟩, q, c⟩ := gC
    unfold RelC CallOk
    rw [hs 2 (by omega) (by omega), t0, t3, hc 20 (by decide) (by decide), hc 21 (by decide) (by decide), hc 22 (by decide) (by decide), hc 23 (by decide) (by decide), hc 24 (by decide) (by decide), hc 26 (by decide) (by decide), hc 27 (by decide) (by decide), hc 28 (by decide) (by decide), hc 29 (by decide) (by decide), hc 30 (by decide) (by decide)]
    refine ⟨⟨a1, a2, a3⟩, fun k k0 k1 => ?_, c⟩
    rw [hs _ (by omega) (by omega), hs _ (by omega) (by omega), hs _ (by omega) (by omega), hs _ (by omega) (by omega), hs _ (by omega) (by omega), hs _ (by omega) (by omega), hs _ (by omega) (by omega), hs _ (by omega) (by omega)]
    obtain ⟨p1, p2, p3⟩ := q k k0 k1
    obtain ⟨r1, r2, r3, r4, r5, r6, r7, r8, r9, r10, r11, r12⟩ := p3
    have hto : A 23 k = 12 ∨ (0 ≤ A 23 k ∧ A 23 k < S 0) := by
      by_cases h2 : A 21 k ≤ 2
      · exact Or.inr ⟨(r3 h2).1, (r3 h2).2.1⟩
      · exact Or.inl (r6 (by omega))
    refine ⟨p1, ?_, r1, ⟨r2.1, by omega⟩, fun h => ⟨(r3 h).1, by have := (r3 h).2.1; omega, (r3 h).2.2⟩, fun h => ?_, fun h => ?_, r6, r7, r8, r9, r10, r11, r12⟩
    · rw [lineBit_add gF.1.2.2 h2 k3 (Or.inr r2.2) hn, lineBit_add gF.1.2.2 h2 k3 (by omega) hn, wayF_add gF.1.2.2 h2 k3 k4 r2 hto hn]
      exact p2
    · have := r3 (by omega)
      rw [k3 _ r2.1 r2.2, k3 _ this.1 this.2.1]
      exact r4 h
    · have := r3 (by omega)
      rw [k3 _ r2.1 r2.2, k3 _ this.1 this.2.1]
      exact r5 h
  · obtain ⟨⟨a1, a2, a3⟩, ⟨b1, b2, b3⟩, ⟨c1, c2, c3⟩, e, f, g⟩ := gW
    unfold RelW
    rw [hs 4 (by omega) (by omega), hs 5 (by omega) (by omega), t0, hc 31 (by decide) (by decide), hc 33 (by decide) (by decide)]
    refine ⟨⟨a1, a2, a3⟩, ⟨b1, b2, b3⟩, ⟨c1, c2, fun l w l0 l1 w0 w1 => ?_⟩, fun k k0 k1 => ?_, f, fun k k0 k1 => ?_⟩
    · rw [hs _ (by omega) (by omega)]
      exact c3 l w l0 l1 w0 w1
    · rw [hs (1832 + (3 * k)) (by omega) (by omega), hs ((1832 + (3 * k)) + 1) (by omega) (by omega), hs ((1832 + (3 * k)) + 2) (by omega) (by omega)]
      obtain ⟨p1, p2, p3, p4⟩ := e k k0 k1
      rw [wayF_add gF.1.2.2 h2 k3 k4 p2 p3 hn]
      exact ⟨p1, ⟨p2.1, by omega⟩, by omega, p4⟩
    · rw [hs _ (by omega) (by omega)]
      exact g k k0 k1
  · obtain ⟨⟨a1, a2, a3⟩, q⟩ := gL
    unfold RelL
    rw [hs 6 (by omega) (by omega), t0, t3, hc 35 (by decide) (by decide), hc 36 (by decide) (by decide), hc 37 (by decide) (by decide), hc 38 (by decide) (by decide), hc 39 (by decide) (by decide)]
    refine ⟨⟨a1, a2, a3⟩, fun k k0 k1 => ?_⟩
    rw [hs _ (by omega) (by omega), hs _ (by omega) (by omega), hs _ (by omega) (by omega), hs _ (by omega) (by omega)]
    obtain ⟨p1, p2, p3, p4, p5, p6⟩ := q k k0 k1
    rw [k7 _ p2.1 p2.2]
    exact ⟨p1, ⟨p2.1, by omega⟩, p3, p4, p5, p6⟩
