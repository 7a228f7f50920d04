/-! best codes: what both searches come to -/
theorem pk_inj : ∀ l l' : List Nat, l.length = l'.length → (∀ a ∈ l, a < 64) → (∀ a ∈ l', a < 64) → pk l = pk l' → l = l'
  | [], [], _, _, _, _ => rfl
  | [], _ :: _, h, _, _, _ => by cases h
  | _ :: _, [], h, _, _, _ => by cases h
  | a :: l, c :: l', h, h1, h2, e => by
    have ha := h1 a List.mem_cons_self
    have hc := h2 c List.mem_cons_self
    have e' : 64 * pk l + a = 64 * pk l' + c := e
    have ih := pk_inj l l' (Nat.succ.inj h) (fun x hx => h1 x (List.mem_cons_of_mem _ hx)) (fun x hx => h2 x (List.mem_cons_of_mem _ hx)) (by omega)
    rw [ih, show a = c by omega]
/-- what is found: the row (the last code first), mistakes, signs -/
def fnd : Nat → Nat → List Nat × Nat × Nat
  | 1, 1 => ([16], 0, 1)
  | 1, 2 => ([17, 16], 2, 2)
  | 2, 1 => ([16], 0, 1)
  | 2, 2 => ([35, 16], 0, 3)
  | 2, 3 => ([35, 32, 16], 3, 5)
  | 2, 4 => ([35, 32, 17, 16], 7, 6)
  | 2, 5 => ([35, 33, 32, 17, 16], 15, 8)
  | 3, 1 => ([16], 0, 1)
  | 3, 2 => ([35, 16], 0, 3)
  | 3, 3 => ([48, 35, 16], 0, 6)
  | 3, 4 => ([50, 49, 35, 16], 1, 9)
  | 3, 5 => ([52, 50, 49, 35, 16], 3, 12)
  | _, _ => ([], 0, 0)
theorem fnd_1 : ∀ n : Nat, n < 4 → ∀ m : Nat, m < 6 → (1 ≤ n ∧ m + 2 ≤ 2 ^ (n + 1)) → (fnd n m).1.length = m ∧ (fnd n m).2.1 < 1000 ∧ (fnd n m).2.2 < 1000 := by decide +kernel
theorem fnd_2 : ∀ n : Nat, n < 4 → ∀ m : Nat, m < 6 → ∀ a ∈ (fnd n m).1, a < 64 := by decide +kernel
theorem fnd_3 (n : Nat) (h0 : n < 4) (m : Nat) (h2 : m < 6) (h : 1 ≤ n ∧ m + 2 ≤ 2 ^ (n + 1)) : bestL.lookup ((m : Int), (n : Int)) = some (((fnd n m).2.1 : Int), (fnd n m).1.reverse.map (fun x : Nat => (x : Int))) := by
  have a : n = 1 ∨ n = 2 ∨ n = 3 := by omega
  have c : m = 0 ∨ m = 1 ∨ m = 2 ∨ m = 3 ∨ m = 4 ∨ m = 5 := by omega
  rcases a with rfl | rfl | rfl <;> rcases c with rfl | rfl | rfl | rfl | rfl | rfl <;> first | rfl | exact absurd h (by decide)
theorem fnd_ok (n : Nat) (h0 : n < 4) (h1 : 1 ≤ n) (m : Nat) (h2 : m < 6) (h3 : m + 2 ≤ 2 ^ (n + 1)) : (fnd n m).1.length = m ∧ (∀ a ∈ (fnd n m).1, a < 64) ∧ (fnd n m).2.1 < 1000 ∧ (fnd n m).2.2 < 1000 ∧ bestL.lookup ((m : Int), (n : Int)) = some (((fnd n m).2.1 : Int), (fnd n m).1.reverse.map (fun x : Nat => (x : Int))) :=
  ⟨(fnd_1 n h0 m h2 ⟨h1, h3⟩).1, fnd_2 n h0 m h2, (fnd_1 n h0 m h2 ⟨h1, h3⟩).2.1, (fnd_1 n h0 m h2 ⟨h1, h3⟩).2.2, fnd_3 n h0 m h2 ⟨h1, h3⟩⟩
def fnS (n m : Nat) : Nat := 1048576 * pk (fnd n m).1 + (1024 * (fnd n m).2.1 + (fnd n m).2.2)
theorem hN_f {n m : Nat} (hn : 1 ≤ n ∧ n ≤ 3) (hm : m ≤ 5) (h : m + 2 ≤ 2 ^ (n + 1)) : hN m (codN n) 0 0 0 0 1025000 = fnS n m := by
  have a : n = 1 ∨ n = 2 ∨ n = 3 := by omega
  have c : m = 0 ∨ m = 1 ∨ m = 2 ∨ m = 3 ∨ m = 4 ∨ m = 5 := by omega
  rcases a with rfl | rfl | rfl
  · rcases c with rfl | rfl | rfl | rfl | rfl | rfl
    · exact hN_01
    · exact hN_11
    · exact hN_21
    · exact absurd h (by decide)
    · exact absurd h (by decide)
    · exact absurd h (by decide)
  · rcases c with rfl | rfl | rfl | rfl | rfl | rfl
    · exact hN_02
    · exact hN_12
    · exact hN_22
    · exact hN_32
    · exact hN_42
    · exact hN_52
  · rcases c with rfl | rfl | rfl | rfl | rfl | rfl
    · exact hN_03
    · exact hN_13
    · exact hN_23
    · exact hN_33
    · exact hN_43
    · exact hN_53
theorem gN_f {n m : Nat} (hn : 1 ≤ n ∧ n ≤ 3) (hm : m ≤ 5) (h : m + 2 ≤ 2 ^ (n + 1)) : gN (codN n) m 0 0 0 0 1025000 = fnS n m := by
  have a : n = 1 ∨ n = 2 ∨ n = 3 := by omega
  have c : m = 0 ∨ m = 1 ∨ m = 2 ∨ m = 3 ∨ m = 4 ∨ m = 5 := by omega
  rcases a with rfl | rfl | rfl
  · rcases c with rfl | rfl | rfl | rfl | rfl | rfl
    · exact gN_01
    · exact gN_11
    · exact gN_21
    · exact absurd h (by decide)
    · exact absurd h (by decide)
    · exact absurd h (by decide)
  · rcases c with rfl | rfl | rfl | rfl | rfl | rfl
    · exact gN_02
    · exact gN_12
    · exact gN_22
    · exact gN_32
    · exact gN_42
    · exact gN_52
  · rcases c with rfl | rfl | rfl | rfl | rfl | rfl
    · exact gN_03
    · exact gN_13
    · exact gN_23
    · exact gN_33
    · exact gN_43
    · exact gN_53
theorem fn_row {n m : Nat} (hn : 1 ≤ n ∧ n ≤ 3) (hm : m ≤ 5) (h : m + 2 ≤ 2 ^ (n + 1)) {l : List Nat} {w q : Nat} (e : fnS n m = 1048576 * pk l + (1024 * w + q)) (hw : w < 1000) (hq : q < 1000) (hl : l.length = m) (hc : ∀ a ∈ l, a ∈ codN 3) : l = (fnd n m).1 ∧ w = (fnd n m).2.1 := by
  obtain ⟨f1, f2, f3, f4, _⟩ := fnd_ok n (by omega) hn.1 m (by omega) h
  unfold fnS at e
  exact ⟨pk_inj _ _ (by omega) (cod64 hc) f2 (by omega), by omega⟩
theorem fn_no {n m : Nat} (hn : 1 ≤ n ∧ n ≤ 3) (hm : m ≤ 5) (h : m + 2 ≤ 2 ^ (n + 1)) : fnS n m ≠ 1025000 := by
  obtain ⟨f1, f2, f3, f4, _⟩ := fnd_ok n (by omega) hn.1 m (by omega) h
  unfold fnS
  omega
theorem lkp_mem {α : Type} {k : Int × Int} {v : α} : ∀ L : List ((Int × Int) × α), L.lookup k = some v → ∃ p ∈ L, p.1 = k
  | [], h => by cases h
  | (a, w) :: L, h => by
    rw [List.lookup_cons] at h
    by_cases e : k = a
    · exact ⟨_, List.mem_cons_self, e.symm⟩
    · rw [show (k == a) = false from beq_eq_false_iff_ne.2 e] at h
      obtain ⟨p, hp, e2⟩ := lkp_mem L h
      exact ⟨p, List.mem_cons_of_mem _ hp, e2⟩
theorem lk_n {f n : Int} {v : Int × List Int} (h : bestL.lookup (f, n) = some v) : n = 1 ∨ n = 2 ∨ n = 3 := by
  obtain ⟨p, hp, e⟩ := lkp_mem bestL h
  have : ∀ p ∈ bestL, p.1.2 = 1 ∨ p.1.2 = 2 ∨ p.1.2 = 3 := by decide
  have := this p hp
  rw [e] at this
  exact this
theorem up_e {n : Nat} (hn : 1 ≤ n ∧ n ≤ 3) : ((16 * (n : Int)) + (bShl 1 (n : Int))) - 1 = (bstN n : Int) ∧ bestU (n : Int) = (bstN n : Int) ∧ (bShl 1 ((n : Int) + 1)) - 2 = ((2 ^ (n + 1) - 2 : Nat) : Int) ∧ (bShl 2 (n : Int)) - 2 = ((2 ^ (n + 1) - 2 : Nat) : Int) ∧ 2 ≤ 2 ^ (n + 1) ∧ 2 ^ (n + 1) ≤ 16 ∧ 2 ≤ bShl 1 (n : Int) ∧ bShl 1 (n : Int) ≤ 8 := by
  have a : n = 1 ∨ n = 2 ∨ n = 3 := by omega
  rcases a with rfl | rfl | rfl <;> decide
section SM
variable {d : Nat} {b : Bool} {G : aG} {I J : aI} {Q : Option aV → aG → aI → aI → Prop} {I0 : aI} {n m : Nat}
theorem sp_csearch (hG : GW b G) (hn : 1 ≤ n ∧ n ≤ 3) (hm : m ≤ 5) (hc : Cache I) (k0 : 2 ^ (n + 1) < m + 2 → Q (some (vI 0)) G I J) (k1 : m + 2 ≤ 2 ^ (n + 1) → ∀ I', (∀ a, a ≠ 48 → a ≠ 49 → a ≠ 50 → I' a = I a) → Cache I' → I' 48 0 = ((fnd n m).2.1 : Int) → (∀ i : Nat, ∀ x : Nat, (fnd n m).1.reverse[i]? = some x → I' 49 i = (x : Int)) → Q (some (vI 1)) G I' J) : At (d + 12) 23 0 [some (vR 48), some (vI (m : Int)), some (vI (n : Int)), none] [] G I J Q := by
  obtain ⟨u1, u2, u3, u4, u5, u6, u7, u8⟩ := up_e hn
  refine b_X1_search_0 hG (by unfold ok32; omega) (by rw [u3]; unfold ok32; omega) (fun g => ?_) (fun g => b_X1_search_11 hG (k0 (by rw [u3] at g; omega)))
  rw [u3] at g
  have hh : m + 2 ≤ 2 ^ (n + 1) := by omega
  obtain ⟨f1, f2, f3, f4, f5⟩ := fnd_ok n (by omega) hn.1 m (by omega) hh
  have fm : ∀ i : Nat, ∀ x : Int, ((fnd n m).1.reverse.map (fun x : Nat => (x : Int)))[i]? = some x → ∃ y : Nat, (fnd n m).1.reverse[i]? = some y ∧ x = (y : Int) := fun i x h => by
    rw [List.getElem?_map] at h
    cases hy : (fnd n m).1.reverse[i]? with
    | none =>
      rw [hy] at h
      cases h
    | some y =>
      rw [hy] at h
      exact ⟨y, rfl, (Option.some.inj h).symm⟩
  have anew : At (d + 12) 23 42 [some (vR 48), some (vI (m : Int)), some (vI (n : Int)), some (vI (bstN n : Int))] [] G I J Q := by
    refine b_X1_search_42 hG ?_
    have e4 : (mset (mset (mset (mset I 48 3 (m : Int)) 48 4 (bstN n : Int)) 48 0 1000000) 48 2 1000000) 48 4 = (bstN n : Int) := by
      rw [mset_n (by decide), mset_n (by decide), mset_at]
    have e3 : (mset (mset (mset (mset I 48 3 (m : Int)) 48 4 (bstN n : Int)) 48 0 1000000) 48 2 1000000) 48 3 = (m : Int) := by
      rw [mset_n (by decide), mset_n (by decide), mset_n (by decide), mset_at]
    rw [show d + 11 = (d + (10 - 2 * m)) + 1 + 2 * m by omega]
    refine cc_choose (n := n) (m := m) (I0 := mset (mset (mset (mset I 48 3 (m : Int)) 48 4 (bstN n : Int)) 48 0 1000000) 48 2 1000000) hG hn hm e3 e4 m _ 16 1025000 0 0 [] _ _ (by show 0 + m = m; omega) (by decide) (by decide) (by decide) (by decide) (fun a ha => by cases ha) ⟨fun _ _ _ _ => rfl, fun _ _ _ => rfl, Or.inl ⟨by rw [mset_n (by decide), mset_at], by rw [mset_at], rfl⟩⟩ (fun i y hy => by cases hy) (fun I' hs' hr' => ?_)
    rw [show (d + (10 - 2 * m)) + 1 + 2 * m + 1 = d + 12 by omega]
    rw [cf_16 n (by omega) hn.1] at hs'
    change BC _ m (hN m (codN n) 0 0 0 0 1025000) I' at hs'
    rw [hN_f hn hm hh] at hs'
    obtain ⟨s1, s2, s3⟩ := hs'
    rcases s3 with ⟨_, _, s3⟩ | ⟨l, w, q, s3, s4, s5, s6, s7, s8, s9, s10⟩
    · exact absurd s3 (fn_no hn hm hh)
    · obtain ⟨rfl, rfl⟩ := fn_row hn hm hh s3 s4 s5 s6 s7
      refine b_X1_search_73 hG (k1 hh I' (fun a a1 a2 a3 => ?_) (Or.inr ⟨m, n, _, _, f5, ?_, ?_, s8, fun i x hx => ?_⟩) s8 s10)
      · rw [s1 a a1 a2 a3, mset_o a1, mset_o a1, mset_o a1, mset_o a1]
      · rw [s2 3 (by decide) (by decide), e3]
      · rw [s2 4 (by decide) (by decide), e4, u2]
      · obtain ⟨y, hy, e⟩ := fm i x hx
        rw [e]
        exact s10 i y hy
  refine b_X1_search_13 hG (by unfold ok32; omega) (by unfold ok32; omega) (by unfold ok32; omega) (fun _ => ?_) (fun g1 => ?_)
  · rw [u1]
    exact anew
  · rw [u1]
    refine b_X1_search_32 hG (fun _ => anew) (fun g2 => b_X1_search_40 hG ?_)
    have bb := bst_b hn
    rcases id hc with h | ⟨f, n', v, l, h1, h2, h3, h4, h5⟩
    · omega
    · have en : n' = (n : Int) := by
        have := lk_n h1
        have bu : (bstN n : Int) = bestU n' := by omega
        rw [← u2] at bu
        have a : (n : Int) = 1 ∨ (n : Int) = 2 ∨ (n : Int) = 3 := by omega
        rcases this with rfl | rfl | rfl <;> rcases a with a | a | a <;> rw [a] at bu ⊢ <;> first | rfl | exact absurd bu (by decide)
      have ef : f = (m : Int) := by omega
      rw [en, ef, f5] at h1
      have e := Option.some.inj h1
      have e1 : ((fnd n m).2.1 : Int) = v := congrArg Prod.fst e
      have e2 : (fnd n m).1.reverse.map (fun x : Nat => (x : Int)) = l := congrArg Prod.snd e
      refine k1 hh I (fun _ _ _ _ => rfl) hc (h4.trans e1.symm) (fun i x hx => h5 i (x : Int) ?_)
      rw [← e2]
      rw [List.getElem?_map, hx]
      rfl
end SM
