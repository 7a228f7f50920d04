/-! best codes: the table is what the program counts -/
theorem alN_ok : ∀ a ∈ codN 3, ∀ c ∈ codN 3, mistF (a : Int) (c : Int) = ((alN a c : Nat) : Int) ∧ alikeF (a : Int) (c : Int) = ((alN a c : Nat) : Int) := by decide +kernel
theorem cod_sub : ∀ n : Nat, 1 ≤ n → n ≤ 3 → ∀ c ∈ codN n, c ∈ codN 3 := fun n h0 h1 => by
  have : n = 1 ∨ n = 2 ∨ n = 3 := by omega
  rcases this with rfl | rfl | rfl <;> decide +kernel
