/-! where a rule is read to -/
section PP
variable {bs : Int → Int} {n : Int}
theorem pEx_r {c : Int} {r : Bool × Int} (hc : c ≠ -1) (h : 0 ≤ r.2 ∧ r.2 ≤ n) : 0 ≤ (pEx bs n c r).2 ∧ (pEx bs n c r).2 ≤ n := by
  unfold pEx
  split
  · exact h
  · split
    · rename_i q
      have := byt_b (bs := bs) (n := n) (p := r.2) (by omega)
      dsimp only
      omega
    · exact h
theorem pExs_r : ∀ (l : List Int) (r : Bool × Int), (∀ c ∈ l, c ≠ -1) → (0 ≤ r.2 ∧ r.2 ≤ n) → 0 ≤ (pExs bs n l r).2 ∧ (pExs bs n l r).2 ≤ n
  | [], r, _, h => h
  | c :: cs, r, hl, h => pExs_r cs _ (fun x hx => hl x (List.mem_cons_of_mem _ hx)) (pEx_r (hl c List.mem_cons_self) h)
theorem pWord_r {p : Int} (h : 0 ≤ p ∧ p ≤ n) : 0 ≤ (pWord bs n p).2.2 ∧ (pWord bs n p).2.2 ≤ n := by
  unfold pWord
  (repeat' split) <;> exact pExs_r _ (false, p) (by decide) h
theorem pNum_r {p : Int} (h : 0 ≤ p ∧ p ≤ n) : 0 ≤ (pNum bs n p).2.1 ∧ (pNum bs n p).2.1 ≤ n := by
  have h1 : 48 ≤ byt bs n p → p < n := fun q => (byt_b (bs := bs) (n := n) (p := p) (by omega)).2
  have h2 : 48 ≤ byt bs n (p + 1) → p + 1 < n := fun q => (byt_b (bs := bs) (n := n) (p := p + 1) (by omega)).2
  have h3 : 48 ≤ byt bs n (p + 1 + 1) → p + 1 + 1 < n := fun q => (byt_b (bs := bs) (n := n) (p := p + 1 + 1) (by omega)).2
  unfold pNum
  (repeat' split) <;> (dsimp only; omega)
theorem pFact_r {p : Int} (h : 0 ≤ p ∧ p ≤ n) : 0 ≤ (pFact bs n p).2.1 ∧ (pFact bs n p).2.1 ≤ n := by
  unfold pFact
  split
  · exact h
  · rename_i q
    have h1 := (byt_b (bs := bs) (n := n) (p := p) (fun q2 => by rw [q2] at q; exact q (by decide))).2
    split
    · dsimp only
      omega
    · rename_i q2
      have h2 := (byt_b (bs := bs) (n := n) (p := p + 1) (fun q3 => by
        rw [q3] at q2
        apply q2
        unfold pMark
        (repeat' split) <;> omega)).2
      exact pNum_r (p := p + 1 + 1) ⟨by omega, by omega⟩
theorem pLoop_r {one : Int → Bool × Int × List Int} {c tok : Int} (hc : c ≠ -1) (ho : ∀ p, (0 ≤ p ∧ p ≤ n) → 0 ≤ (one p).2.1 ∧ (one p).2.1 ≤ n) : ∀ (f : Nat) (r : Bool × Int × List Int), (0 ≤ r.2.1 ∧ r.2.1 ≤ n) → 0 ≤ (pLoop bs n one c tok f r).2.1 ∧ (pLoop bs n one c tok f r).2.1 ≤ n
  | 0, r, h => h
  | f + 1, r, h => by
    unfold pLoop
    split
    · rename_i q
      have := byt_b (bs := bs) (n := n) (p := r.2.1) (by omega)
      exact pLoop_r hc ho f _ (ho _ ⟨by omega, by omega⟩)
    · exact h
theorem pAll_r {one : Int → Bool × Int × List Int} (ho : ∀ p, (0 ≤ p ∧ p ≤ n) → 0 ≤ (one p).2.1 ∧ (one p).2.1 ≤ n) : ∀ p, (0 ≤ p ∧ p ≤ n) → 0 ≤ (pAll bs n one p).2.1 ∧ (pAll bs n one p).2.1 ≤ n := fun p h => pLoop_r (by decide) ho 121 _ (ho p h)
theorem pAny_r {one : Int → Bool × Int × List Int} (ho : ∀ p, (0 ≤ p ∧ p ≤ n) → 0 ≤ (one p).2.1 ∧ (one p).2.1 ≤ n) : ∀ p, (0 ≤ p ∧ p ≤ n) → 0 ≤ (pAny bs n one p).2.1 ∧ (pAny bs n one p).2.1 ≤ n := fun p h => pLoop_r (by decide) (pAll_r ho) 121 _ (pAll_r ho p h)
theorem pOne_r : ∀ (k : Nat) (p : Int), (0 ≤ p ∧ p ≤ n) → 0 ≤ (pOne bs n k p).2.1 ∧ (pOne bs n k p).2.1 ≤ n
  | 0, p, h => by
    unfold pOne
    split
    · exact h
    · exact pFact_r h
  | k + 1, p, h => by
    unfold pOne
    split
    · rename_i q
      have := byt_b (bs := bs) (n := n) (p := p) (by omega)
      exact pOne_r k (p + 1) ⟨by omega, by omega⟩
    · split
      · rename_i q
        have := byt_b (bs := bs) (n := n) (p := p) (by omega)
        exact pEx_r (by decide) (pAny_r (pOne_r k) (p + 1) ⟨by omega, by omega⟩)
      · exact pFact_r h
theorem pClause_r {p : Int} (h : 0 ≤ p ∧ p ≤ n) : 0 ≤ (pClause bs n p).2.1 ∧ (pClause bs n p).2.1 ≤ n := by
  have h1 := pEx_r (bs := bs) (n := n) (c := 32) (r := (pWord bs n p).2) (by decide) (pWord_r h)
  unfold pClause
  generalize (pWord bs n p).1 = w at *
  generalize pEx bs n 32 (pWord bs n p).2 = r at *
  unfold pClW
  split
  · exact h1
  · have h2 : 0 ≤ (if w = 5 then (false, r.2, (0 : Int)) else pNum bs n r.2).2.1 ∧ (if w = 5 then (false, r.2, (0 : Int)) else pNum bs n r.2).2.1 ≤ n := by
      split
      · exact h1
      · exact pNum_r h1
    generalize (if w = 5 then (false, r.2, (0 : Int)) else pNum bs n r.2) = r2 at *
    unfold pClN
    split
    · exact h2
    · have h3 : 0 ≤ (if w = 0 then pEx bs n 32 (false, r2.2.1) else (false, r2.2.1)).2 ∧ (if w = 0 then pEx bs n 32 (false, r2.2.1) else (false, r2.2.1)).2 ≤ n := by
        split
        · exact pEx_r (by decide) h2
        · exact h2
      generalize (if w = 0 then pEx bs n 32 (false, r2.2.1) else (false, r2.2.1)) = r3 at *
      unfold pClE
      split
      · exact h3
      · split
        · exact pAny_r (pOne_r 5) _ h3
        · exact h3
theorem pRule_r : ∀ (f : Nat) (p : Int), (0 ≤ p ∧ p ≤ n) → 0 ≤ (pRule bs n f p).2.1 ∧ (pRule bs n f p).2.1 ≤ n
  | 0, p, h => h
  | f + 1, p, h => by
    have h1 := pClause_r (bs := bs) h
    unfold pRule
    split
    · exact h1
    · split
      · exact h1
      · split
        · exact h1
        · rename_i q
          exact pRule_r f _ ⟨by omega, by omega⟩
end PP
