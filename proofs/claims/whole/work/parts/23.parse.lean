/-! what a tape says: its clauses, a clause as its word, its number and its steps -/
def byt (bs : Int → Int) (n p : Int) : Int := if 0 ≤ p ∧ p < n then bs p else -1
def pEx (bs : Int → Int) (n c : Int) (r : Bool × Int) : Bool × Int := if r.1 = true then r else if byt bs n r.2 = c then (false, r.2 + 1) else (true, r.2)
def pExs (bs : Int → Int) (n : Int) : List Int → Bool × Int → Bool × Int
  | [], r => r
  | c :: cs, r => pExs bs n cs (pEx bs n c r)
def pWord (bs : Int → Int) (n p : Int) : Int × Bool × Int :=
  if byt bs n p = 102 then (0, pExs bs n [102, 105, 114, 115, 116] (false, p))
  else if byt bs n p = 100 then (1, pExs bs n [100, 117, 101, 115] (false, p))
  else if byt bs n p = 119 then (2, pExs bs n [119, 111, 114, 107] (false, p))
  else if byt bs n p = 108 then (3, pExs bs n [108, 111, 110, 103] (false, p))
  else if byt bs n p = 99 then (4, pExs bs n [99, 111, 114, 100, 115] (false, p))
  else if byt bs n p = 116 then (5, pExs bs n [116, 101, 108, 108] (false, p))
  else (6, pExs bs n [110, 101, 97, 114] (false, p))
def pNum (bs : Int → Int) (n p : Int) : Bool × Int × Int :=
  if 48 ≤ byt bs n p ∧ byt bs n p ≤ 57 then
    (if byt bs n p = 48 then (false, p + 1, 0)
    else if 48 ≤ byt bs n (p + 1) ∧ byt bs n (p + 1) ≤ 57 then
      (if 48 ≤ byt bs n (p + 1 + 1) ∧ byt bs n (p + 1 + 1) ≤ 57 then (false, p + 1 + 1 + 1, 10 * (10 * (byt bs n p - 48) + byt bs n (p + 1) - 48) + byt bs n (p + 1 + 1) - 48)
      else (false, p + 1 + 1, 10 * (byt bs n p - 48) + byt bs n (p + 1) - 48))
    else (false, p + 1, byt bs n p - 48))
  else (true, p, 0)
def pLet (b : Int) : Int := if b = 107 then 0 else if b = 108 then 1 else if b = 102 then 2 else if b = 103 then 3 else if b = 104 then 4 else -1
/-- which fact is asked, out of a letter and the sign behind it; below 0: none -/
def pMark (b m : Int) : Int := if b = 104 then (if m = 60 then 4 else if m = 62 then 5 else -1) else if m = 61 then pLet b else -1
def pFact (bs : Int → Int) (n p : Int) : Bool × Int × List Int :=
  if pLet (byt bs n p) < 0 then (true, p, []) else
  if pMark (byt bs n p) (byt bs n (p + 1)) < 0 then (true, p + 1, []) else
  ((pNum bs n (p + 1 + 1)).1, (pNum bs n (p + 1 + 1)).2.1, [1000 * pMark (byt bs n p) (byt bs n (p + 1)) + (pNum bs n (p + 1 + 1)).2.2])
def pLoop (bs : Int → Int) (n : Int) (one : Int → Bool × Int × List Int) (c tok : Int) : Nat → Bool × Int × List Int → Bool × Int × List Int
  | 0, r => r
  | f + 1, r => if r.1 = false ∧ byt bs n r.2.1 = c then pLoop bs n one c tok f ((one (r.2.1 + 1)).1, (one (r.2.1 + 1)).2.1, r.2.2 ++ (one (r.2.1 + 1)).2.2 ++ [tok]) else r
def pAll (bs : Int → Int) (n : Int) (one : Int → Bool × Int × List Int) (p : Int) : Bool × Int × List Int := pLoop bs n one 38 (-2) 121 (one p)
def pAny (bs : Int → Int) (n : Int) (one : Int → Bool × Int × List Int) (p : Int) : Bool × Int × List Int := pLoop bs n (pAll bs n one) 124 (-3) 121 (pAll bs n one p)
def pOne (bs : Int → Int) (n : Int) : Nat → Int → Bool × Int × List Int
  | 0, p => if byt bs n p = 33 ∨ byt bs n p = 40 then (true, p, []) else pFact bs n p
  | k + 1, p => if byt bs n p = 33 then ((pOne bs n k (p + 1)).1, (pOne bs n k (p + 1)).2.1, (pOne bs n k (p + 1)).2.2 ++ [-1])
    else if byt bs n p = 40 then ((pEx bs n 41 ((pAny bs n (pOne bs n k) (p + 1)).1, (pAny bs n (pOne bs n k) (p + 1)).2.1)).1, (pEx bs n 41 ((pAny bs n (pOne bs n k) (p + 1)).1, (pAny bs n (pOne bs n k) (p + 1)).2.1)).2, (pAny bs n (pOne bs n k) (p + 1)).2.2)
    else pFact bs n p
def pClE (bs : Int → Int) (n w a : Int) (r : Bool × Int) : Bool × Int × Int × Int × List Int :=
  if r.1 = true then (true, r.2, w, a, []) else
  if w = 0 ∨ w = 5 then ((pAny bs n (pOne bs n 5) r.2).1, (pAny bs n (pOne bs n 5) r.2).2.1, w, a, (pAny bs n (pOne bs n 5) r.2).2.2) else (false, r.2, w, a, [])
def pClN (bs : Int → Int) (n w : Int) (r : Bool × Int × Int) : Bool × Int × Int × Int × List Int :=
  if r.1 = true then (true, r.2.1, w, 0, []) else pClE bs n w r.2.2 (if w = 0 then pEx bs n 32 (false, r.2.1) else (false, r.2.1))
def pClW (bs : Int → Int) (n w : Int) (r : Bool × Int) : Bool × Int × Int × Int × List Int :=
  if r.1 = true then (true, r.2, w, 0, []) else pClN bs n w (if w = 5 then (false, r.2, 0) else pNum bs n r.2)
def pClause (bs : Int → Int) (n p : Int) : Bool × Int × Int × Int × List Int := pClW bs n (pWord bs n p).1 (pEx bs n 32 (pWord bs n p).2)
def pRule (bs : Int → Int) (n : Int) : Nat → Int → Bool × Int × List (Int × Int × List Int)
  | 0, p => (true, p, [])
  | f + 1, p => if (pClause bs n p).1 = true then (true, (pClause bs n p).2.1, []) else
    if n ≤ (pClause bs n p).2.1 then (false, (pClause bs n p).2.1, [(pClause bs n p).2.2]) else
    if f = 0 ∨ byt bs n (pClause bs n p).2.1 ≠ 59 then (true, (pClause bs n p).2.1, []) else
    ((pRule bs n f ((pClause bs n p).2.1 + 1)).1, (pRule bs n f ((pClause bs n p).2.1 + 1)).2.1, (pClause bs n p).2.2 :: (pRule bs n f ((pClause bs n p).2.1 + 1)).2.2)
def bsOf (S : Int → Int) (base : Int) : Int → Int := fun j => if 0 ≤ j ∧ j < 120 then S (base + j) else 0
def RuleOk (A : aI) (r : Int) (bs : Int → Int) (n : Int) : Prop := ∃ cl : List (Int × Int × List Int), pRule bs n 8 0 = (false, n, cl) ∧ A 15 r = cl.length ∧ ∀ c : Nat, ∀ e : Int × Int × List Int, cl[c]? = some e →
  A 16 ((8 * r) + c) = e.1 ∧ A 13 ((8 * r) + c) = e.2.1 ∧ 120 * r ≤ A 17 ((8 * r) + c) ∧ A 18 ((8 * r) + c) = A 17 ((8 * r) + c) + (e.2.2.length : Int) ∧ A 18 ((8 * r) + c) ≤ 120 * r + 120 ∧ ∀ j : Nat, ∀ x : Int, e.2.2[j]? = some x → A 11 (A 17 ((8 * r) + c) + j) = x
def RelR (A : aI) (S : Int → Int) : Prop := (0 ≤ S 1 ∧ S 1 ≤ 10 ∧ A 9 0 = S 1) ∧
  (∀ r, 0 ≤ r → r < S 1 → A 14 r = S (92 + (122 * r)) ∧ (0 ≤ S (92 + (122 * r)) ∧ S (92 + (122 * r)) ≤ 400) ∧ (0 ≤ S ((92 + (122 * r)) + 1) ∧ S ((92 + (122 * r)) + 1) ≤ 120) ∧ (∀ j, 0 ≤ j → j < S ((92 + (122 * r)) + 1) → 0 ≤ S (((92 + (122 * r)) + 2) + j) ∧ S (((92 + (122 * r)) + 2) + j) ≤ 255) ∧ RuleOk A r (bsOf S ((92 + (122 * r)) + 2)) (S ((92 + (122 * r)) + 1)))
theorem bsOf_fr {S S' : Int → Int} {base : Int} (h : ∀ i, base ≤ i → i < base + 120 → S' i = S i) : bsOf S' base = bsOf S base := by
  funext j
  unfold bsOf
  split
  · exact h _ (by omega) (by omega)
  · rfl
theorem RelR.fr {A A' : aI} {S S' : Int → Int} (h : RelR A S) (h0 : A' 9 0 = A 9 0) (h1 : A' 11 = A 11) (h3 : A' 13 = A 13) (h4 : A' 14 = A 14) (h5 : A' 15 = A 15) (h6 : A' 16 = A 16) (h7 : A' 17 = A 17) (h8 : A' 18 = A 18) (hS : ∀ i, i = 1 ∨ (92 ≤ i ∧ i < 1312) → S' i = S i) : RelR A' S' := by
  obtain ⟨⟨a1, a2, a3⟩, b⟩ := h
  unfold RelR RuleOk
  rw [hS 1 (by omega), h0, h1, h3, h4, h5, h6, h7, h8]
  refine ⟨⟨a1, a2, a3⟩, fun r r0 r1 => ?_⟩
  obtain ⟨e1, e2, e3, e4, e5⟩ := b r r0 r1
  rw [hS (92 + (122 * r)) (by omega), hS ((92 + (122 * r)) + 1) (by omega), bsOf_fr (S := S) (fun i i0 i1 => hS i (by omega))]
  refine ⟨e1, e2, e3, fun j j0 j1 => ?_, e5⟩
  rw [hS _ (by omega)]
  exact e4 j j0 j1
