/-! best codes: rows packed into numbers -/
def pk : List Nat → Nat
  | [] => 0
  | c :: l => 64 * pk l + c
def sL (c : Nat) : List Nat → Nat
  | [] => 0
  | a :: l => alN a c + sL c l
theorem sumA_pk {c : Nat} : ∀ l : List Nat, (∀ a ∈ l, a < 64) → sumA c l.length (pk l) = sL c l
  | [], _ => rfl
  | a :: l, h => by
    have ha := h a (List.mem_cons_self)
    have ih := sumA_pk (c := c) l (fun x hx => h x (List.mem_cons_of_mem _ hx))
    show alN ((64 * pk l + a) % 64) c + sumA c l.length ((64 * pk l + a) / 64) = alN a c + sL c l
    rw [show (64 * pk l + a) % 64 = a by omega, show (64 * pk l + a) / 64 = pk l by omega, ih]
theorem hasN_pk {c : Nat} : ∀ l : List Nat, (∀ a ∈ l, a < 64) → (hasN c l.length (pk l) = true ↔ c ∈ l)
  | [], _ => by
    show (false = true) ↔ _
    simp
  | a :: l, h => by
    have ha := h a (List.mem_cons_self)
    have ih := hasN_pk (c := c) l (fun x hx => h x (List.mem_cons_of_mem _ hx))
    show (Nat.beq ((64 * pk l + a) % 64) c || hasN c l.length ((64 * pk l + a) / 64)) = true ↔ _
    rw [show (64 * pk l + a) % 64 = a by omega, show (64 * pk l + a) / 64 = pk l by omega, Bool.or_eq_true, ih, List.mem_cons, Nat.beq_eq]
    constructor
    · rintro (q | q)
      · exact Or.inl q.symm
      · exact Or.inr q
    · rintro (q | q)
      · exact Or.inl q.symm
      · exact Or.inr q
theorem sL_app {c : Nat} : ∀ l m : List Nat, sL c (l ++ m) = sL c l + sL c m
  | [], m => by
    show sL c m = 0 + sL c m
    omega
  | a :: l, m => by
    have := sL_app (c := c) l m
    show alN a c + sL c (l ++ m) = alN a c + sL c l + sL c m
    omega
theorem sL_rev {c : Nat} : ∀ l : List Nat, sL c l.reverse = sL c l
  | [] => rfl
  | a :: l => by
    rw [List.reverse_cons, sL_app, sL_rev l]
    show sL c l + (alN a c + 0) = alN a c + sL c l
    omega
theorem alN_b {a c : Nat} : alN a c < 16 := Nat.mod_lt _ (by decide)
theorem sL_b {c : Nat} : ∀ l : List Nat, sL c l ≤ 16 * l.length
  | [] => Nat.le_refl _
  | a :: l => by
    have := sL_b (c := c) l
    have := alN_b (a := a) (c := c)
    show alN a c + sL c l ≤ 16 * (l.length + 1)
    omega
/-- the row of codes in the cells, l with the last one first -/
def RowN (a : Nat) (l : List Nat) (I : aI) : Prop := ∀ i : Nat, ∀ x : Nat, l.reverse[i]? = some x → I a (i : Int) = (x : Int)
