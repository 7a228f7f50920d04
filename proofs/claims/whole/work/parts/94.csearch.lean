/-! best codes: the class's search in the cells -/
def codF (n x : Nat) : List Nat := (codN n).filter (fun c => decide (x ≤ c))
def bstN (n : Nat) : Nat := 16 * n + 2 ^ n - 1
def cvl (x : Nat) : Bool := decide (bAnd (x : Int) 15 < bShl 1 (bShr (x : Int) 4))
theorem cf_t1 : ∀ n : Nat, n < 4 → ∀ x : Nat, x < 57 → (1 ≤ n ∧ 16 ≤ x ∧ x ≤ bstN n ∧ cvl x = true) → codF n x = x :: codF n (x + 1) := by decide +kernel
theorem cf_in3 {n x : Nat} {l : List Nat} (h0 : n < 4) (h1 : 1 ≤ n) (h : codF n x = x :: l) : x ∈ codN 3 := by
  have m : x ∈ codF n x := by
    rw [h]
    exact List.mem_cons_self
  exact cod_sub n h1 (by omega) x (List.mem_filter.1 m).1
theorem cf_t2 : ∀ n : Nat, n < 4 → ∀ x : Nat, x < 57 → (1 ≤ n ∧ 16 ≤ x ∧ x ≤ bstN n ∧ cvl x = false) → codF n x = codF n (x + 1) := by decide +kernel
theorem cf_t3 : ∀ n : Nat, n < 4 → ∀ x : Nat, x < 57 → (1 ≤ n ∧ bstN n < x) → codF n x = [] := by decide +kernel
theorem cf_tab : ∀ n : Nat, n < 4 → 1 ≤ n → ∀ x : Nat, x < 57 → 16 ≤ x → (x ≤ bstN n → bAnd (x : Int) 15 < bShl 1 (bShr (x : Int) 4) → codF n x = x :: codF n (x + 1) ∧ x ∈ codN 3) ∧ (x ≤ bstN n → ¬ bAnd (x : Int) 15 < bShl 1 (bShr (x : Int) 4) → codF n x = codF n (x + 1)) ∧ (¬ x ≤ bstN n → codF n x = []) := fun n h0 h1 x h2 h3 =>
  ⟨fun a c => ⟨cf_t1 n h0 x h2 ⟨h1, h3, a, decide_eq_true c⟩, cf_in3 h0 h1 (cf_t1 n h0 x h2 ⟨h1, h3, a, decide_eq_true c⟩)⟩, fun a c => cf_t2 n h0 x h2 ⟨h1, h3, a, decide_eq_false c⟩, fun a => cf_t3 n h0 x h2 ⟨h1, Nat.lt_of_not_le a⟩⟩
theorem cf_16 : ∀ n : Nat, n < 4 → 1 ≤ n → codF n 16 = codN n := by decide +kernel
theorem bst_b {n : Nat} (h : 1 ≤ n ∧ n ≤ 3) : 17 ≤ bstN n ∧ bstN n ≤ 55 := by
  have : n = 1 ∨ n = 2 ∨ n = 3 := by omega
  rcases this with rfl | rfl | rfl <;> decide
theorem forc_e {α : Type} {n : Nat} {f : Nat → α} : forc n f = f n := by
  cases n <;> rfl
theorem bif_le {a c x y : Nat} (h : a ≤ c) : (bif Nat.ble a c then x else y) = x := by
  rw [Nat.ble_eq_true_of_le h]
  rfl
theorem bif_gt {a c x y : Nat} (h : c < a) : (bif Nat.ble a c then x else y) = y := by
  rw [show Nat.ble a c = false from Bool.eq_false_iff.2 (fun e => absurd (Nat.le_of_ble_eq_true e) (by omega))]
  rfl
theorem itS_n {g : Nat → List Nat → Nat → Nat} {s : Nat} : itS g [] s = s := rfl
theorem itS_c {g : Nat → List Nat → Nat → Nat} {c s : Nat} {cs : List Nat} : itS g (c :: cs) s = itS g cs (g c cs s) := forc_e
theorem hN_z {cs : List Nat} {k r w q s : Nat} : hN 0 cs k r w q s = (bif Nat.ble (s % 1048576) (1024 * w + q) then s else 1048576 * r + (1024 * w + q)) := rfl
theorem hN_s {f : Nat} {cs : List Nat} {k r w q s : Nat} : hN (f + 1) cs k r w q s = (bif Nat.ble (s % 1048576) (1024 * w + q) then s else itS (fun c rest s => hN f rest (k + 1) (64 * r + c) (w + sumA c k r) (q + c / 16) s) cs s) := by
  show (bif Nat.ble (s % 1048576) (1024 * w + q) then s else itS (fun c rest s => forc (64 * r + c) (fun r' => forc (w + sumA c k r) (fun w' => forc (q + c / 16) (fun q' => hN f rest (k + 1) r' w' q' s)))) cs s) = _
  simp only [forc_e]
theorem rown_add {a : Nat} {l : List Nat} {c : Nat} {I : aI} (hr : RowN a l I) : RowN a (c :: l) (mset I a (l.length : Int) (c : Int)) := by
  intro i y hy
  rw [List.reverse_cons] at hy
  by_cases h : i < l.length
  · rw [List.getElem?_append_left (by rw [List.length_reverse]; exact h)] at hy
    rw [mset_n (by omega)]
    exact hr i y hy
  · rw [List.getElem?_append_right (by rw [List.length_reverse]; omega), List.length_reverse] at hy
    have h0 : i - l.length = 0 := by
      by_cases h0 : i - l.length = 0
      · exact h0
      · rw [List.getElem?_eq_none (by show 1 ≤ _; omega)] at hy
        cases hy
    rw [h0] at hy
    have e : c = y := Option.some.inj hy
    rw [show (i : Int) = (l.length : Int) by omega, mset_at, e]
theorem rown_sub {a : Nat} {l : List Nat} {c : Nat} {I : aI} (hr : RowN a (c :: l) I) : RowN a l I := by
  intro i y hy
  refine hr i y ?_
  rw [List.reverse_cons, List.getElem?_append_left (List.getElem?_eq_some_iff.1 hy).1]
  exact hy
theorem cod64 {l : List Nat} (h : ∀ a ∈ l, a ∈ codN 3) : ∀ a ∈ l, a < 64 := fun a ha => by
  have := cod_b a (h a ha)
  omega
/-- the class's cells stand at this state of the search -/
def BC (I0 : aI) (m s : Nat) (I : aI) : Prop := (∀ a, a ≠ 48 → a ≠ 49 → a ≠ 50 → I a = I0 a) ∧ (∀ j, j ≠ 0 → j ≠ 2 → I 48 j = I0 48 j) ∧ ((I 48 0 = 1000000 ∧ I 48 2 = 1000000 ∧ s = 1025000) ∨ ∃ (l : List Nat) (w q : Nat), s = 1048576 * pk l + (1024 * w + q) ∧ w < 1000 ∧ q < 1000 ∧ l.length = m ∧ (∀ a ∈ l, a ∈ codN 3) ∧ I 48 0 = (w : Int) ∧ I 48 2 = (q : Int) ∧ RowN 49 l I)
theorem bc_le {I0 I : aI} {m s w q : Nat} (h : BC I0 m s I) (hw : w ≤ 500) (hq : q ≤ 500) : (I 48 0 < (w : Int) ∨ ((w : Int) = I 48 0 ∧ I 48 2 ≤ (q : Int))) ↔ s % 1048576 ≤ 1024 * w + q := by
  obtain ⟨_, _, ⟨e1, e2, e3⟩ | ⟨l, w0, q0, e1, b1, b2, _, _, e2, e3, _⟩⟩ := h
  · rw [e1, e2, e3]
    omega
  · rw [e2, e3, e1]
    omega
section SM
variable {d : Nat} {b : Bool} {G : aG} {I J : aI} {Q : Option aV → aG → aI → aI → Prop} {I0 : aI} {n m : Nat}
theorem cc_line {k w q : Nat} {x2 : Int} {l : List Nat} {g : Nat → List Nat → Nat → Nat} (hG : GW b G) (hn : 1 ≤ n ∧ n ≤ 3) (h4 : I0 48 4 = (bstN n : Int)) (put : ∀ (c s : Nat) (I : aI) (Q : Option aV → aG → aI → aI → Prop), c ∈ codN 3 → BC I0 m s I → RowN 50 l I → (∀ I', BC I0 m (g c (codF n (c + 1)) s) I' → RowN 50 l I' → Q none G I' J) → At d 25 0 [some (vR 48), some (vI (k : Int)), some (vI (c : Int)), some (vI (w : Int)), some (vI (q : Int)), none, none] [] G I J Q) : ∀ (j x s : Nat) (I : aI), 16 ≤ x → x + j = 56 → BC I0 m s I → RowN 50 l I → (∀ I', BC I0 m (itS g (codF n x) s) I' → RowN 50 l I' → Q none G I' J) → At (d + 1) 24 68 [some (vR 48), some (vI (k : Int)), some (vI x2), some (vI (w : Int)), some (vI (q : Int)), some (vI (x : Int))] [] G I J Q
  | 0, x, s, I, h0, h1, hs, hr, K => by
    have e4 : I 48 4 = (bstN n : Int) := (hs.2.1 4 (by decide) (by decide)).trans h4
    have bb := bst_b hn
    have t := cf_tab n (by omega) hn.1 x (by omega) h0
    rw [t.2.2 (by omega)] at K
    exact b_X1_choose_68 hG (fun _ => b_X1_choose_107 hG (K I hs hr)) (fun q => absurd q (by omega))
  | j + 1, x, s, I, h0, h1, hs, hr, K => by
    have e4 : I 48 4 = (bstN n : Int) := (hs.2.1 4 (by decide) (by decide)).trans h4
    have bb := bst_b hn
    have t := cf_tab n (by omega) hn.1 x (by omega) h0
    refine b_X1_choose_68 hG (fun g1 => b_X1_choose_107 hG (K I ?_ hr)) (fun g1 => b_X1_choose_77 hG (fun g2 => b_X1_choose_101 hG (by unfold ok32; omega) (cc_line hG hn h4 put j (x + 1) s I (by omega) (by omega) hs hr ?_)) (fun g2 => b_X1_choose_91 hG ?_))
    · rw [t.2.2 (by omega)]
      exact hs
    · rw [t.2.1 (by omega) (by omega)] at K
      exact K
    · have t1 := t.1 (by omega) g2
      rw [t1.1, itS_c] at K
      exact put x s I _ t1.2 hs hr (fun I1 hs1 hr1 => b_X1_choose_101 hG (by unfold ok32; omega) (cc_line hG hn h4 put j (x + 1) _ I1 (by omega) (by omega) hs1 hr1 K))
theorem cc_choose (hG : GW b G) (hn : 1 ≤ n ∧ n ≤ 3) (hm : m ≤ 5) (h3 : I0 48 3 = (m : Int)) (h4 : I0 48 4 = (bstN n : Int)) : ∀ (f d x s w q : Nat) (l : List Nat) (I : aI) (Q : Option aV → aG → aI → aI → Prop), l.length + f = m → 16 ≤ x → x ≤ 56 → w ≤ 100 * l.length → q ≤ 3 * l.length → (∀ a ∈ l, a ∈ codN 3) → BC I0 m s I → RowN 50 l I → (∀ I', BC I0 m (hN f (codF n x) l.length (pk l) w q s) I' → RowN 50 l I' → Q none G I' J) → At (d + 1 + 2 * f) 24 0 [some (vR 48), some (vI (l.length : Int)), some (vI (x : Int)), some (vI (w : Int)), some (vI (q : Int)), none] [] G I J Q
  | 0, d, x, s, w, q, l, I, Q, hf, x0, x1, w0, q0, hl, hs, hr, K => by
    have e3 : I 48 3 = (m : Int) := (hs.2.1 3 (by decide) (by decide)).trans h3
    have le := bc_le hs (w := w) (q := q) (by omega) (by omega)
    rw [hN_z] at K
    have out : (I 48 0 < (w : Int) ∨ ((w : Int) = I 48 0 ∧ I 48 2 ≤ (q : Int))) → Q none G I J := fun h => by
      rw [bif_le (le.1 h)] at K
      exact K I hs hr
    have go : ¬ (I 48 0 < (w : Int) ∨ ((w : Int) = I 48 0 ∧ I 48 2 ≤ (q : Int))) → At (d + 1 + 2 * 0) 24 26 [some (vR 48), some (vI (l.length : Int)), some (vI (x : Int)), some (vI (w : Int)), some (vI (q : Int)), none] [] G I J Q := fun h => by
      rw [bif_gt (by have := fun z => h (le.2 z); omega)] at K
      refine b_X1_choose_26 hG (fun _ => b_X1_choose_39 hG (K _ ?_ ?_)) (fun g => absurd g (by omega))
      · refine ⟨fun a h1 h2 h3 => ?_, fun j j0 j1 => ?_, Or.inr ⟨l, w, q, rfl, by omega, by omega, by omega, hl, ?_, ?_, fun i y hy => ?_⟩⟩
        · funext j
          unfold mcpy
          rw [if_neg (fun q => h2 q.1), mset_o h1, mset_o h1, hs.1 a h1 h2 h3]
        · unfold mcpy
          rw [if_neg (fun q => absurd q.1 (by decide)), mset_n j1, mset_n j0, hs.2.1 j j0 j1]
        · unfold mcpy
          rw [if_neg (fun q => absurd q.1 (by decide)), mset_n (by decide), mset_at]
        · unfold mcpy
          rw [if_neg (fun q => absurd q.1 (by decide)), mset_at]
        · have hi := (List.getElem?_eq_some_iff.1 hy).1
          rw [List.length_reverse] at hi
          unfold mcpy
          rw [if_pos ⟨rfl, by omega, by omega⟩, mset_o (by decide), mset_o (by decide), show (0 : Int) + ((i : Int) - 0) = i by omega]
          exact hr i y hy
      · intro i y hy
        unfold mcpy
        rw [if_neg (fun q => absurd q.1 (by decide)), mset_o (by decide), mset_o (by decide)]
        exact hr i y hy
    exact b_X1_choose_0 hG (fun g => b_X1_choose_25 hG (out (Or.inl g))) (fun g => b_X1_choose_8 hG (fun g1 => go (by omega)) (fun g1 => b_X1_choose_16 hG (fun g2 => go (by omega)) (fun g2 => b_X1_choose_25 hG (out (Or.inr ⟨g1, g2⟩)))))
  | f + 1, d, x, s, w, q, l, I, Q, hf, x0, x1, w0, q0, hl, hs, hr, K => by
    have e3 : I 48 3 = (m : Int) := (hs.2.1 3 (by decide) (by decide)).trans h3
    have le := bc_le hs (w := w) (q := q) (by omega) (by omega)
    rw [show d + 1 + 2 * (f + 1) = (d + 1 + 2 * f + 1) + 1 by omega]
    rw [hN_s] at K
    have out : (I 48 0 < (w : Int) ∨ ((w : Int) = I 48 0 ∧ I 48 2 ≤ (q : Int))) → Q none G I J := fun h => by
      rw [bif_le (le.1 h)] at K
      exact K I hs hr
    have go : ¬ (I 48 0 < (w : Int) ∨ ((w : Int) = I 48 0 ∧ I 48 2 ≤ (q : Int))) → At ((d + 1 + 2 * f + 1) + 1) 24 26 [some (vR 48), some (vI (l.length : Int)), some (vI (x : Int)), some (vI (w : Int)), some (vI (q : Int)), none] [] G I J Q := fun h => by
      rw [bif_gt (by have := fun z => h (le.2 z); omega)] at K
      refine b_X1_choose_26 hG (fun g => absurd g (by omega)) (fun _ => b_X1_choose_34 hG (fun _ => b_X1_choose_65 hG ?_) (fun g => absurd g (by omega)))
      refine cc_line hG hn h4 ?_ (56 - x) x s I x0 (by omega) hs hr K
      intro c s I Q hc hs hr K
      have bc := cod_b c hc
      rw [sumA_pk l (cod64 hl)] at K
      have bs := sL_b (c := c) l
      refine b_X1_put_0 hG (fun g => absurd g (by omega)) (fun _ => b_X1_put_4 hG (fun _ => b_X1_put_10 hG ?_) (fun g => absurd g (by omega)))
      rw [show d + 1 + 2 * f + 1 = (d + 2 * f) + 2 by omega]
      refine lp_csum hG hr (by omega) (by omega) hl hc ?_ l.length 0 _ (by omega) (by show (w : Int) = w + ((0 : Nat) : Int); omega)
      have e5 : (q : Int) + bShr (c : Int) 4 = ((q + c / 16 : Nat) : Int) := by
        rw [shr4 (by omega)]
        omega
      refine b_X1_put_44 hG (by omega) (by omega) (by unfold ok32; omega) (by unfold ok32; omega) (by rw [e5]; unfold ok32; omega) ?_
      rw [e5, show (l.length : Int) + 1 = ((c :: l).length : Int) from rfl, show (c : Int) + 1 = ((c + 1 : Nat) : Int) from rfl, show (w : Int) + ((sL c l : Nat) : Int) = ((w + sL c l : Nat) : Int) from rfl, show d + 2 * f + 1 = d + 1 + 2 * f by omega]
      refine cc_choose hG hn hm h3 h4 f d (c + 1) s (w + sL c l) (q + c / 16) (c :: l) _ _ (by rw [List.length_cons]; omega) (by omega) (by omega) (by rw [List.length_cons]; omega) (by rw [List.length_cons]; omega) ?_ ?_ (rown_add hr) (fun I' hs' hr' => b_X1_put_69 hG (K I' hs' (rown_sub hr')))
      · intro a ha
        rcases List.mem_cons.1 ha with h | h
        · rw [h]
          exact hc
        · exact hl a h
      · refine ⟨fun a h1 h2 h3 => by rw [mset_o h3, hs.1 a h1 h2 h3], fun j j0 j1 => by rw [mset_o (by decide), hs.2.1 j j0 j1], ?_⟩
        rw [mset_o (by decide)]
        rcases hs.2.2 with h | ⟨l', w', q', h1, h2, h3, h4, h5, h6, h7, h8⟩
        · exact Or.inl h
        · exact Or.inr ⟨l', w', q', h1, h2, h3, h4, h5, h6, h7, fun i y hy => by rw [mset_o (by decide)]; exact h8 i y hy⟩
    exact b_X1_choose_0 hG (fun g => b_X1_choose_25 hG (out (Or.inl g))) (fun g => b_X1_choose_8 hG (fun g1 => go (by omega)) (fun g1 => b_X1_choose_16 hG (fun g2 => go (by omega)) (fun g2 => b_X1_choose_25 hG (out (Or.inr ⟨g1, g2⟩)))))
end SM
