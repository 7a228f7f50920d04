/-! how the class's cells stand to the model's row of numbers (S), module by module -/
theorem mset_o {I : aI} {a b : Nat} {k v : Int} (h : b ≠ a) : mset I a k v b = I b := by
  funext j
  simp [mset, h]
theorem mset_a {I : aI} {a : Nat} {k j v : Int} : mset I a k v a j = if j = k then v else I a j := by simp [mset]
theorem mset_at {I : aI} {a : Nat} {k v : Int} : mset I a k v a k = v := by simp [mset]
theorem mset_n {I : aI} {a : Nat} {k j v : Int} (h : j ≠ k) : mset I a k v a j = I a j := by simp [mset, h]
def lineBit (A : aI) (e : Int) : Int := if 0 ≤ e ∧ e < A 2 0 then bShl 1 (A 3 e) else 0
def wiresF (w n f : Int) : Int := lShl ((lShl 1 (f + 1)) - (lShl 1 (n + 1))) (w * 10)
def wayF (A : aI) (f t : Int) : Int := if ¬ (0 ≤ f ∧ f < A 2 0) then 0 else if ¬ (0 ≤ t ∧ t < A 2 0) then wiresF (A 3 f) (-1) (A 4 f) else if A 3 f = A 3 t then wiresF (A 3 f) (min (A 4 f) (A 4 t)) (max (A 4 f) (A 4 t)) else lOr (wiresF (A 3 f) (-1) (A 4 f)) (wiresF (A 3 t) (-1) (A 4 t))
def RelN (A : aI) (S : Int → Int) : Prop := A 1 0 = S 3 ∧ 0 ≤ S 3 ∧ S 3 ≤ 40099
def RelF (A : aI) (S : Int → Int) : Prop := (0 ≤ S 0 ∧ S 0 ≤ 12 ∧ A 2 0 = S 0) ∧
  (∀ k, 0 ≤ k → k < S 0 → (A 3 k = S ((32 + (5 * k)) + 0) ∧ A 4 k = S ((32 + (5 * k)) + 1) ∧ A 5 k = S ((32 + (5 * k)) + 2) ∧ A 6 k = S ((32 + (5 * k)) + 3) ∧ A 7 k = S ((32 + (5 * k)) + 4)) ∧ (0 ≤ A 3 k ∧ A 3 k ≤ 3 ∧ 0 ≤ A 4 k ∧ A 4 k ≤ 9 ∧ 0 ≤ A 5 k ∧ A 5 k ≤ 9 ∧ 0 ≤ A 6 k ∧ A 6 k < 80 ∧ 0 ≤ A 7 k ∧ 100 * A 7 k ≤ S 3)) ∧
  (∀ k, S 0 ≤ k → k < 12 → A 6 k = 0) ∧
  (∀ a, 0 ≤ a → a < 12 → 0 ≤ A 8 a ∧ A 8 a < 4096 ∧ ∀ c, 0 ≤ c → c < 12 → (S ((2142 + (12 * a)) + c) = 0 ∨ S ((2142 + (12 * a)) + c) = 1) ∧ bAnd (bShr (A 8 a) c) 1 = S ((2142 + (12 * a)) + c) ∧ S ((2142 + (12 * a)) + c) = S ((2142 + (12 * c)) + a))
def CallOk (A : aI) (S : Int → Int) (k : Int) : Prop := (1 ≤ A 21 k ∧ A 21 k ≤ 4) ∧ (0 ≤ A 22 k ∧ A 22 k < S 0) ∧ (A 21 k ≤ 2 → 0 ≤ A 23 k ∧ A 23 k < S 0 ∧ A 22 k ≠ A 23 k) ∧ (A 21 k = 1 → A 3 (A 22 k) = A 3 (A 23 k)) ∧ (A 21 k = 2 → A 3 (A 22 k) ≠ A 3 (A 23 k)) ∧ (3 ≤ A 21 k → A 23 k = 12) ∧ (1 ≤ A 26 k ∧ A 26 k ≤ 20) ∧ (0 ≤ A 27 k ∧ A 27 k ≤ S 3) ∧ (0 ≤ A 29 k ∧ A 29 k ≤ 3) ∧ (A 28 k = -1 ∨ (A 27 k ≤ A 28 k ∧ A 28 k ≤ S 3)) ∧ ((A 29 k = 1 ∨ A 29 k = 2) → 0 ≤ A 28 k) ∧ (0 ≤ A 30 k ∧ A 30 k < 4096)
def RelC (A B : aI) (S : Int → Int) : Prop := (0 ≤ S 2 ∧ S 2 ≤ 60 ∧ A 20 0 = S 2) ∧
  (∀ k, 0 ≤ k → k < S 2 → (A 21 k = S ((1312 + (8 * k)) + 0) ∧ A 22 k = S ((1312 + (8 * k)) + 1) ∧ A 23 k = S ((1312 + (8 * k)) + 2) ∧ A 26 k = S ((1312 + (8 * k)) + 3) ∧ A 27 k = S ((1312 + (8 * k)) + 4) ∧ A 29 k = S ((1312 + (8 * k)) + 5) ∧ A 28 k = S ((1312 + (8 * k)) + 6) ∧ A 30 k = S ((1312 + (8 * k)) + 7)) ∧ (A 24 k = bOr (lineBit A (A 22 k)) (lineBit A (A 23 k)) ∧ B 25 k = wayF A (A 22 k) (A 23 k)) ∧ CallOk A S k) ∧
  (∀ k, S 2 ≤ k → k < 60 → A 30 k = 0)
def RelW (A B : aI) (S : Int → Int) : Prop := (0 ≤ S 4 ∧ S 4 ≤ 20 ∧ A 31 1 = S 4) ∧ (0 ≤ S 5 ∧ S 5 ≤ 10 ∧ A 31 2 = S 5) ∧
  (0 ≤ B 31 0 ∧ B 31 0 < 1099511627776 ∧ ∀ l w, 0 ≤ l → l ≤ 3 → 0 ≤ w → w ≤ 9 → (S ((1792 + (10 * l)) + w) = 0 ∨ S ((1792 + (10 * l)) + w) = 1) ∧ lAnd (lShr (B 31 0) ((l * 10) + w)) 1 = S ((1792 + (10 * l)) + w)) ∧
  (∀ k, 0 ≤ k → k < S 4 → B 32 k = wayF A (S (1832 + (3 * k))) (S ((1832 + (3 * k)) + 1)) ∧ (0 ≤ S (1832 + (3 * k)) ∧ S (1832 + (3 * k)) < S 0) ∧ (S ((1832 + (3 * k)) + 1) = 12 ∨ (0 ≤ S ((1832 + (3 * k)) + 1) ∧ S ((1832 + (3 * k)) + 1) < S 0)) ∧ (S ((1832 + (3 * k)) + 2) = 0 ∨ S ((1832 + (3 * k)) + 2) = 1) ∧ bAnd (bShr (A 31 5) k) 1 = S ((1832 + (3 * k)) + 2)) ∧
  (0 ≤ A 31 5 ∧ A 31 5 < 1048576 ∧ ∀ k, S 4 ≤ k → k < 20 → bAnd (bShr (A 31 5) k) 1 = 0) ∧
  (∀ k, 0 ≤ k → k < S 5 → A 33 k = S (1892 + k) ∧ 0 ≤ A 33 k ∧ A 33 k < 40)
def RelL (A : aI) (S : Int → Int) : Prop := (0 ≤ S 6 ∧ S 6 ≤ 60 ∧ A 35 0 = S 6) ∧
  (∀ k, 0 ≤ k → k < S 6 → (A 36 k = S (1902 + (4 * k)) ∧ A 37 k = S ((1902 + (4 * k)) + 1) ∧ A 38 k = S ((1902 + (4 * k)) + 2) ∧ A 39 k = S ((1902 + (4 * k)) + 3)) ∧ (0 ≤ A 36 k ∧ A 36 k < S 0) ∧ (A 37 k = 0 ∨ A 37 k = 1) ∧ (1 ≤ A 38 k ∧ A 38 k ≤ 999) ∧ A 7 (A 36 k) ≤ A 39 k ∧ 100 * A 39 k ≤ S 3)
def RelM (A : aI) (S : Int → Int) : Prop := (0 ≤ S 7 ∧ S 7 ≤ 10 ∧ A 40 0 = S 7) ∧
  (∀ k, 0 ≤ k → k < S 7 → (A 41 k = S (2286 + (5 * k)) ∧ A 42 k = S ((2286 + (5 * k)) + 1) ∧ A 43 k = S ((2286 + (5 * k)) + 2) ∧ A 44 k = S ((2286 + (5 * k)) + 3)) ∧ (0 ≤ A 41 k ∧ A 41 k ≤ 12) ∧ (0 ≤ A 42 k ∧ A 42 k ≤ 12) ∧ (-1 ≤ A 43 k ∧ A 43 k < k) ∧ (0 ≤ A 44 k ∧ A 44 k ≤ 12) ∧ (S ((2286 + (5 * k)) + 4) = 0 ∨ S ((2286 + (5 * k)) + 4) = 1) ∧ bAnd (bShr (A 40 1) k) 1 = S ((2286 + (5 * k)) + 4)) ∧
  (0 ≤ A 40 1 ∧ A 40 1 < 1024 ∧ ∀ k, S 7 ≤ k → k < 10 → bAnd (bShr (A 40 1) k) 1 = 0)
def RelT (A : aI) (S : Int → Int) : Prop := (0 ≤ S 8 ∧ S 8 ≤ 120 ∧ A 10 0 = S 8) ∧ (∀ k, 0 ≤ k → k < S 8 → bAnd (A 12 k) 255 = S (2336 + k) ∧ 0 ≤ S (2336 + k) ∧ S (2336 + k) ≤ 255)
theorem RelN.fr {A A' : aI} {S S' : Int → Int} (h : RelN A S) (h1 : A' 1 0 = A 1 0) (h2 : S' 3 = S 3) : RelN A' S' := by
  unfold RelN at *
  rw [h1, h2]
  exact h
theorem RelF.fr {A A' : aI} {S S' : Int → Int} (h : RelF A S) (h1 : A' 2 0 = A 2 0) (h3 : A' 3 = A 3) (h4 : A' 4 = A 4) (h5 : A' 5 = A 5) (h6 : A' 6 = A 6) (h7 : A' 7 = A 7) (h8 : A' 8 = A 8) (hS : ∀ i, i = 0 ∨ (32 ≤ i ∧ i < 92) ∨ (2142 ≤ i ∧ i < 2286) → S' i = S i) (hn : S 3 ≤ S' 3) : RelF A' S' := by
  obtain ⟨⟨a1, a2, a3⟩, b, c, e⟩ := h
  unfold RelF
  rw [hS 0 (by omega), h1, h3, h4, h5, h6, h7, h8]
  refine ⟨⟨a1, a2, a3⟩, fun k k0 k1 => ?_, c, fun a a0 a1 => ?_⟩
  · rw [hS _ (by omega), hS _ (by omega), hS _ (by omega), hS _ (by omega), hS _ (by omega)]
    have := b k k0 k1
    refine ⟨this.1, ?_⟩
    have := this.2
    omega
  · obtain ⟨e1, e2, e3⟩ := e a a0 a1
    refine ⟨e1, e2, fun c c0 c1 => ?_⟩
    rw [hS _ (by omega), hS _ (by omega)]
    exact e3 c c0 c1
theorem lineBit_fr {A A' : aI} {e : Int} (h1 : A' 2 0 = A 2 0) (h3 : A' 3 = A 3) : lineBit A' e = lineBit A e := by
  unfold lineBit
  rw [h1, h3]
theorem wayF_fr {A A' : aI} {f t : Int} (h1 : A' 2 0 = A 2 0) (h3 : A' 3 = A 3) (h4 : A' 4 = A 4) : wayF A' f t = wayF A f t := by
  unfold wayF
  rw [h1, h3, h4]
theorem RelC.fr {A A' B B' : aI} {S S' : Int → Int} (h : RelC A B S) (h1 : A' 2 0 = A 2 0) (h3 : A' 3 = A 3) (h4 : A' 4 = A 4) (hc : A' 20 0 = A 20 0) (c1 : A' 21 = A 21) (c2 : A' 22 = A 22) (c3 : A' 23 = A 23) (c4 : A' 24 = A 24) (c5 : B' 25 = B 25) (c6 : A' 26 = A 26) (c7 : A' 27 = A 27) (c8 : A' 28 = A 28) (c9 : A' 29 = A 29) (c10 : A' 30 = A 30) (hS : ∀ i, i = 2 ∨ i = 0 ∨ (1312 ≤ i ∧ i < 1792) → S' i = S i) (hn : S 3 ≤ S' 3) : RelC A' B' S' := by
  obtain ⟨⟨a1, a2, a3⟩, b, c⟩ := h
  unfold RelC CallOk
  rw [hS 2 (by omega), hS 0 (by omega), hc, c1, c2, c3, c4, c5, c6, c7, c8, c9, c10, h3]
  refine ⟨⟨a1, a2, a3⟩, fun k k0 k1 => ?_, c⟩
  rw [hS _ (by omega), hS _ (by omega), hS _ (by omega), hS _ (by omega), hS _ (by omega), hS _ (by omega), hS _ (by omega), hS _ (by omega), lineBit_fr h1 h3, lineBit_fr h1 h3, wayF_fr h1 h3 h4]
  have := b k k0 k1
  refine ⟨this.1, this.2.1, ?_⟩
  obtain ⟨e1, e2, e3, e4, e5, e6, e7, e8, e9, e10, e11, e12⟩ := this.2.2
  exact ⟨e1, e2, e3, e4, e5, e6, e7, ⟨e8.1, by omega⟩, e9, by omega, e11, e12⟩
theorem RelW.fr {A A' B B' : aI} {S S' : Int → Int} (h : RelW A B S) (h1 : A' 2 0 = A 2 0) (h3 : A' 3 = A 3) (h4 : A' 4 = A 4) (w1 : A' 31 1 = A 31 1) (w2 : A' 31 2 = A 31 2) (w5 : A' 31 5 = A 31 5) (w0 : B' 31 0 = B 31 0) (wB : B' 32 = B 32) (w33 : A' 33 = A 33) (hS : ∀ i, i = 4 ∨ i = 5 ∨ i = 0 ∨ (1792 ≤ i ∧ i < 1902) → S' i = S i) : RelW A' B' S' := by
  obtain ⟨⟨a1, a2, a3⟩, ⟨b1, b2, b3⟩, ⟨c1, c2, c3⟩, e, f, g⟩ := h
  unfold RelW
  rw [hS 4 (by omega), hS 5 (by omega), hS 0 (by omega), w1, w2, w5, w0, wB, w33]
  refine ⟨⟨a1, a2, a3⟩, ⟨b1, b2, b3⟩, ⟨c1, c2, fun l w l0 l1 w0 w1 => ?_⟩, fun k k0 k1 => ?_, f, fun k k0 k1 => ?_⟩
  · rw [hS _ (by omega)]
    exact c3 l w l0 l1 w0 w1
  · rw [hS (1832 + (3 * k)) (by omega), hS ((1832 + (3 * k)) + 1) (by omega), hS ((1832 + (3 * k)) + 2) (by omega), wayF_fr h1 h3 h4]
    exact e k k0 k1
  · rw [hS _ (by omega)]
    exact g k k0 k1
theorem RelL.fr {A A' : aI} {S S' : Int → Int} (h : RelL A S) (h0 : A' 35 0 = A 35 0) (h6 : A' 36 = A 36) (h7 : A' 37 = A 37) (h8 : A' 38 = A 38) (h9 : A' 39 = A 39) (hc : A' 7 = A 7) (hS : ∀ i, i = 6 ∨ i = 0 ∨ (1902 ≤ i ∧ i < 2142) → S' i = S i) (hn : S 3 ≤ S' 3) : RelL A' S' := by
  obtain ⟨⟨a1, a2, a3⟩, b⟩ := h
  unfold RelL
  rw [hS 6 (by omega), hS 0 (by omega), h0, h6, h7, h8, h9, hc]
  refine ⟨⟨a1, a2, a3⟩, fun k k0 k1 => ?_⟩
  rw [hS _ (by omega), hS _ (by omega), hS _ (by omega), hS _ (by omega)]
  obtain ⟨e1, e2, e3, e4, e5, e6⟩ := b k k0 k1
  exact ⟨e1, e2, e3, e4, e5, by omega⟩
theorem RelM.fr {A A' : aI} {S S' : Int → Int} (h : RelM A S) (h0 : A' 40 0 = A 40 0) (h1 : A' 40 1 = A 40 1) (h6 : A' 41 = A 41) (h7 : A' 42 = A 42) (h8 : A' 43 = A 43) (h9 : A' 44 = A 44) (hS : ∀ i, i = 7 ∨ (2286 ≤ i ∧ i < 2336) → S' i = S i) : RelM A' S' := by
  obtain ⟨⟨a1, a2, a3⟩, b, c⟩ := h
  unfold RelM
  rw [hS 7 (by omega), h0, h1, h6, h7, h8, h9]
  refine ⟨⟨a1, a2, a3⟩, fun k k0 k1 => ?_, c⟩
  rw [hS _ (by omega), hS _ (by omega), hS _ (by omega), hS _ (by omega), hS _ (by omega)]
  exact b k k0 k1
theorem RelT.fr {A A' : aI} {S S' : Int → Int} (h : RelT A S) (h0 : A' 10 0 = A 10 0) (h1 : A' 12 = A 12) (hS : ∀ i, i = 8 ∨ (2336 ≤ i ∧ i < 2456) → S' i = S i) : RelT A' S' := by
  obtain ⟨⟨a1, a2, a3⟩, b⟩ := h
  unfold RelT
  rw [hS 8 (by omega), h0, h1]
  refine ⟨⟨a1, a2, a3⟩, fun k k0 k1 => ?_⟩
  rw [hS _ (by omega)]
  exact b k k0 k1
